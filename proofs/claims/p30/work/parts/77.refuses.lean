/-! refuses: each of the calls is refused, and nothing is changed -/
theorem win0 {x a b : Nat} (hx : x < 2 ^ 31) (hb : b < 2 ^ 31) (hab : a ≤ b) (h : x < a ∨ b < x) : mX9_isWithin (nI x) (nI a) (nI b) = some 0 := by
  rcases withn (nI x) hb hab with ⟨v, h1, h2, h3, _⟩ | ⟨_, e⟩
  · have := (nI_eq hx (by omega)).mp h3
    omega
  · exact e
theorem win1 {x a b : Nat} (hb : b < 2 ^ 31) (h1 : a ≤ x) (h2 : x ≤ b) : mX9_isWithin (nI x) (nI a) (nI b) = some 1 := by
  rcases withn (nI x) hb (Nat.le_trans h1 h2) with ⟨v, _, _, _, e⟩ | ⟨e, _⟩
  · exact e
  · exact absurd rfl (e x h1 h2)
theorem winN {x : Int32} {a b : Nat} (hb : b < 2 ^ 31) (hab : a ≤ b) (h : x < 0) : mX9_isWithin x (nI a) (nI b) = some 0 := by
  rcases withn x hb hab with ⟨v, h1, h2, h3, _⟩ | ⟨_, e⟩
  · subst h3; exact absurd h (nI_pos (by omega))
  · exact e
theorem neg1 {v : Nat} (hv : v < 100000) : (-1 : Int32) - nI v < 0 := by
  refine Int32.lt_iff_toInt_lt.mpr ?_
  rw [Int32.toInt_sub, nI_toInt (by omega), show (-1 : Int32).toInt = -1 from rfl, show (0 : Int32).toInt = 0 from rfl, Int.bmod_eq_of_le_mul_two (by omega) (by omega)]
  omega
theorem win32 {v : Nat} (hv : v < 100000) : mX9_isWithin ((32 : Int32) - nI v) 33 126 = some 0 := by
  rcases Nat.lt_or_ge 32 v with q | q
  · refine winN (a := 33) (b := 126) (by omega) (by omega) ?_
    refine Int32.lt_iff_toInt_lt.mpr ?_
    rw [Int32.toInt_sub, nI_toInt (by omega), show (32 : Int32).toInt = 32 from rfl, show (0 : Int32).toInt = 0 from rfl, Int.bmod_eq_of_le_mul_two (by omega) (by omega)]
    omega
  · rw [show (32 : Int32) - nI v = nI (32 - v) from nI_sub (a := 32) (b := v) q]
    exact win0 (a := 33) (b := 126) (by omega) (by omega) (by omega) (Or.inl (by omega))
theorem add_is (a v : Nat) (x : Int32) (h : x = nI a) : x + nI v = nI (a + v) := by rw [h, nI_add]
theorem has_neg {n : Nat} {x : Int32} (h : x < 0) : mX6_has (nI n) x = some 0 := by
  unfold mX6_has
  exact ip h rfl
theorem has_big {n v : Nat} (h8 : n ≤ 8) (hv : v < 100000) : mX6_has (nI n) (nI n + nI v) = some 0 := by
  rw [nI_add, X6_has_ok h8 (by omega), if_neg (by omega)]
theorem unl_same (z x : Int32) : mX9_areUnlikeTokens z x x = some 0 := by
  unfold mX9_areUnlikeTokens
  exact ip rfl rfl
theorem unl_1 {z x : Int32} (y : Int32) (h : mX6_has z x = some 0) : mX9_areUnlikeTokens z x y = some 0 := by
  unfold mX9_areUnlikeTokens
  exact ite_z (fun _ => rfl) (fun _ => bd_z h (ip rfl rfl))
theorem unl_2 {z x y : Int32} (h1 : mX6_has z x = some 1) (h : mX6_has z y = some 0) : mX9_areUnlikeTokens z x y = some 0 := by
  unfold mX9_areUnlikeTokens
  exact ite_z (fun _ => rfl) (fun _ => bd_z h1 (iq qn10 (bd_z h (ip rfl rfl))))
theorem unl_01 {n : Nat} (h2 : 2 ≤ n) (h8 : n ≤ 8) : mX9_areUnlikeTokens (nI n) 0 1 = some 1 := by
  unfold mX9_areUnlikeTokens
  have e0 : mX6_has (nI n) (nI 0) = some 1 := by rw [X6_has_ok h8 (by omega), if_pos (by omega)]
  have e1 : mX6_has (nI n) (nI 1) = some 1 := by rw [X6_has_ok h8 (by omega), if_pos (by omega)]
  exact iq (show ¬ (0 : Int32) = 1 by decide) (bd_z (show mX6_has (nI n) 0 = some 1 from e0) (iq qn10 (bd_z (show mX6_has (nI n) 1 = some 1 from e1) (iq qn10 rfl))))
theorem no_begin1 (f : Nat → Int32) (z : Int32) (k0 : Nat → Int32) (z0 : Int32) (k1 : Nat → Int32) (z1 : Int32) (k2 : Nat → Int32) (z2 : Int32) (k3 : Nat → Int32) (z3 : Int32) (st : Int32) (x y : Int32) (h : mX9_isWithin x 2 8 = some 0) : mX9_begin f z k0 z0 k1 z1 k2 z2 k3 z3 st x y = some (-1, f, z, k0, z0, k1, z1, k2, z2, k3, z3, st) := by
  unfold mX9_begin
  exact bd_z h (ip rfl rfl)
theorem no_begin2 (f : Nat → Int32) (z : Int32) (k0 : Nat → Int32) (z0 : Int32) (k1 : Nat → Int32) (z1 : Int32) (k2 : Nat → Int32) (z2 : Int32) (k3 : Nat → Int32) (z3 : Int32) (st : Int32) (x y : Int32) (h0 : mX9_isWithin x 2 8 = some 1) (h : mX9_isWithin y 1 7 = some 0) : mX9_begin f z k0 z0 k1 z1 k2 z2 k3 z3 st x y = some (-1, f, z, k0, z0, k1, z1, k2, z2, k3, z3, st) := by
  unfold mX9_begin
  exact bd_z h0 (iq qn10 (bd_z h (ip rfl rfl)))
theorem no_begin3 (f : Nat → Int32) (z : Int32) (k0 : Nat → Int32) (z0 : Int32) (k1 : Nat → Int32) (z1 : Int32) (k2 : Nat → Int32) (z2 : Int32) (k3 : Nat → Int32) (z3 : Int32) (st : Int32) (x y : Int32) (h0 : mX9_isWithin x 2 8 = some 1) (h1 : mX9_isWithin y 1 7 = some 1) (h : mX9_haveCommonDivisor x y = some 1) : mX9_begin f z k0 z0 k1 z1 k2 z2 k3 z3 st x y = some (-1, f, z, k0, z0, k1, z1, k2, z2, k3, z3, st) := by
  unfold mX9_begin
  exact bd_z h0 (iq qn10 (bd_z h1 (iq qn10 (bd_z h (iq qn10 rfl)))))
theorem no_rows (f : Nat → Int32) (z : Int32) (t : Nat → Int32) (zt : Int32) (k0 : Nat → Int32) (z0 : Int32) (k1 : Nat → Int32) (z1 : Int32) (k2 : Nat → Int32) (z2 : Int32) (k3 : Nat → Int32) (z3 : Int32) (st : Int32) (x y : Int32) (h : mX9_areUnlikeTokens z x y = some 0) : mX9_rows f z t zt k0 z0 k1 z1 k2 z2 k3 z3 st x y = some (-1, f, z, t, zt, k0, z0, k1, z1, k2, z2, k3, z3, st) := by
  unfold mX9_rows
  exact bd_z h (ip rfl rfl)
theorem no_columns (f : Nat → Int32) (z : Int32) (t : Nat → Int32) (zt : Int32) (k0 : Nat → Int32) (z0 : Int32) (k1 : Nat → Int32) (z1 : Int32) (k2 : Nat → Int32) (z2 : Int32) (k3 : Nat → Int32) (z3 : Int32) (st : Int32) (x y : Int32) (h : mX9_areUnlikeTokens z x y = some 0) : mX9_columns f z t zt k0 z0 k1 z1 k2 z2 k3 z3 st x y = some (-1, f, z, t, zt, k0, z0, k1, z1, k2, z2, k3, z3, st) := by
  unfold mX9_columns
  exact bd_z h (ip rfl rfl)
theorem no_names (f : Nat → Int32) (z : Int32) (t : Nat → Int32) (zt : Int32) (k0 : Nat → Int32) (z0 : Int32) (k1 : Nat → Int32) (z1 : Int32) (k2 : Nat → Int32) (z2 : Int32) (k3 : Nat → Int32) (z3 : Int32) (st : Int32) (x y : Int32) (h : mX9_areUnlikeTokens z x y = some 0) : mX9_names f z t zt k0 z0 k1 z1 k2 z2 k3 z3 st x y = some (-1, f, z, t, zt, k0, z0, k1, z1, k2, z2, k3, z3, st) := by
  unfold mX9_names
  exact bd_z h (ip rfl rfl)
theorem no_swap1 (f : Nat → Int32) (z : Int32) (k0 : Nat → Int32) (z0 : Int32) (k1 : Nat → Int32) (z1 : Int32) (k2 : Nat → Int32) (z2 : Int32) (k3 : Nat → Int32) (z3 : Int32) (st : Int32) (x y v u : Int32) (h : mX9_areUnlikeTokens z x y = some 0) : mX9_swap f z k0 z0 k1 z1 k2 z2 k3 z3 st x y v u = some (-1, f, k0, z0, k1, z1, k2, z2, k3, z3, st) := by
  unfold mX9_swap
  exact bd_z h (ip rfl rfl)
theorem no_swap2 (f : Nat → Int32) (z : Int32) (k0 : Nat → Int32) (z0 : Int32) (k1 : Nat → Int32) (z1 : Int32) (k2 : Nat → Int32) (z2 : Int32) (k3 : Nat → Int32) (z3 : Int32) (st : Int32) (x y v u : Int32) (h0 : mX9_areUnlikeTokens z x y = some 1) (h : mX9_areUnlikeTokens z v u = some 0) : mX9_swap f z k0 z0 k1 z1 k2 z2 k3 z3 st x y v u = some (-1, f, k0, z0, k1, z1, k2, z2, k3, z3, st) := by
  unfold mX9_swap
  exact bd_z h0 (iq qn10 (bd_z h (ip rfl rfl)))
theorem no_if2 (f : Nat → Int32) (z : Int32) (t : Nat → Int32) (zt : Int32) (x y v u o : Int32) (h0 : mX9_areUnlikeTokens z x y = some 1) (h : mX9_areUnlikeTokens z v u = some 0) : mX9_ifSwapped f z t zt x y v u o = some (-1, t, zt) := by
  unfold mX9_ifSwapped
  exact bd_z h0 (iq qn10 (bd_z h (ip rfl rfl)))
theorem no_if3 (f : Nat → Int32) (z : Int32) (t : Nat → Int32) (zt : Int32) (x y v u o : Int32) (h0 : mX9_areUnlikeTokens z x y = some 1) (h1 : mX9_areUnlikeTokens z v u = some 1) (h : mX9_isWithin o 0 2 = some 0) : mX9_ifSwapped f z t zt x y v u o = some (-1, t, zt) := by
  unfold mX9_ifSwapped
  exact bd_z h0 (iq qn10 (bd_z h1 (iq qn10 (bd_z h (ip rfl rfl)))))
theorem no_best (f : Nat → Int32) (z : Int32) (q : Nat → Int32) (zq l1 l2 l3 l4 l5 x : Int32) (h : mX9_isWithin x 0 4 = some 0) : mX9_best f z q zq l1 l2 l3 l4 l5 x = some (-1, q, zq, l1, l2, l3, l4, l5) := by
  unfold mX9_best
  exact bd_z h (ip rfl rfl)
theorem no_append (pd : Nat → Int32) (pl x : Int32) (h : mX9_isWithin x 33 126 = some 0) : mX9_append pd pl x = some (-1, pd, pl) := by
  unfold mX9_append
  exact bd_z h (ip rfl rfl)
theorem no_fault (f : Nat → Int32) (z : Int32) (t : Nat → Int32) (zt : Int32) (pd : Nat → Int32) (pl : Int32) (s1 s2 s3 s4 s5 s6 : Nat → Int32) (d1 d2 d3 : Int32) (rx : Nat → Int32) (rl x : Int32) (h0 : ¬ x = 0) (h1 : ¬ x = 1) (h2 : ¬ x = 2) : mX9_fault f z t zt pd pl s1 s2 s3 s4 s5 s6 d1 d2 d3 rx rl x = some (-1, t, zt, s1, s2, s3, s4, s5, s6, d1, d2, d3, rx, rl) := by
  unfold mX9_fault
  exact iq h0 (iq h1 (iq h2 rfl))
theorem no_step1 (f : Nat → Int32) (z : Int32) (pd : Nat → Int32) (pl : Int32) (s1 s2 s3 s4 s5 s6 : Nat → Int32) (d1 d2 d3 : Int32) (x y : Int32) (h : x < 0) : mX9_step f z pd pl s1 s2 s3 s4 s5 s6 d1 d2 d3 x y = some (-1, s1, s2, s3, s4, s5, s6, d1, d2, d3) := by
  unfold mX9_step
  exact ip h rfl
theorem no_step2 (f : Nat → Int32) (z : Int32) (pd : Nat → Int32) (pl : Int32) (s1 s2 s3 s4 s5 s6 : Nat → Int32) (d1 d2 d3 : Int32) (x y : Int32) (h0 : ¬ x < 0) (h : mX9_isWithin y 0 3 = some 0) : mX9_step f z pd pl s1 s2 s3 s4 s5 s6 d1 d2 d3 x y = some (-1, s1, s2, s3, s4, s5, s6, d1, d2, d3) := by
  unfold mX9_step
  exact iq h0 (bd_z h (ip rfl rfl))
theorem no_sum1 (f : Nat → Int32) (z : Int32) (x y : Int32) (h : mX6_has z x = some 0) : mX9_sum f z x y = some (-1) := by
  unfold mX9_sum
  exact bd_z h (ip rfl rfl)
theorem no_sum2 (f : Nat → Int32) (z : Int32) (x y : Int32) (h0 : mX6_has z x = some 1) (h : mX6_has z y = some 0) : mX9_sum f z x y = some (-1) := by
  unfold mX9_sum
  exact bd_z h0 (iq qn10 (bd_z h (ip rfl rfl)))
theorem no_between1 (f : Nat → Int32) (z : Int32) (x y o : Int32) (h : mX6_has z x = some 0) : mX9_between f z x y o = some (-1) := by
  unfold mX9_between
  exact bd_z h (ip rfl rfl)
theorem no_between2 (f : Nat → Int32) (z : Int32) (x y o : Int32) (h0 : mX6_has z x = some 1) (h : mX6_has z y = some 0) : mX9_between f z x y o = some (-1) := by
  unfold mX9_between
  exact bd_z h0 (iq qn10 (bd_z h (ip rfl rfl)))
theorem no_returns1 (f : Nat → Int32) (z : Int32) (x y o : Int32) (h : mX6_has z x = some 0) : mX9_returns f z x y o = some (-1) := by
  unfold mX9_returns
  exact bd_z h (ip rfl rfl)
theorem no_returns2 (f : Nat → Int32) (z : Int32) (x y o : Int32) (h0 : mX6_has z x = some 1) (h : mX6_has z y = some 0) : mX9_returns f z x y o = some (-1) := by
  unfold mX9_returns
  exact bd_z h0 (iq qn10 (bd_z h (ip rfl rfl)))
theorem no_token (f : Nat → Int32) (z : Int32) (x y : Int32) (h : mX6_has z x = some 0) : mX9_token f z x y = some (-1) := by
  unfold mX9_token
  exact bd_z h (ip rfl rfl)
theorem no_ring (f : Nat → Int32) {n : Nat} (h8 : n ≤ 8) (x : Int32) (h : mX9_isWithin x (nI 1) (nI (2 ^ n - 1)) = some 0) : mX9_ring f (nI n) x = some (-1) := by
  unfold mX9_ring
  exact bd_z (X6_allBits_ok h8) (bd_z (show mX9_isWithin x 1 (nI (2 ^ n - 1)) = some 0 from h) (ip rfl rfl))
theorem no_ringAt (f : Nat → Int32) (z : Int32) (x : Int32) (h : ¬ 0 ≤ x) : mX9_ringAt f z x = some (-1) := by
  unfold mX9_ringAt
  exact iq h rfl
theorem no_count (f : Nat → Int32) (z : Int32) (st pl x : Int32) (h : ∀ k, k < 12 → ¬ x = nI k) : mX9_count f z st pl x = some (-1) := by
  unfold mX9_count
  exact iq (h 0 (by omega)) (iq (h 1 (by omega)) (iq (h 2 (by omega)) (iq (h 3 (by omega)) (iq (h 4 (by omega)) (iq (h 5 (by omega)) (iq (h 6 (by omega)) (iq (h 7 (by omega)) (iq (h 8 (by omega)) (iq (h 9 (by omega)) (iq (h 10 (by omega)) (iq (h 11 (by omega)) (rfl))))))))))))
theorem no_ways1 (f : Nat → Int32) (z : Int32) (pd : Nat → Int32) (pl : Int32) (rx rp : Nat → Int32) (rl : Int32) (x y : Int32) (h : mX6_has z x = some 0) : mX9_ways f z pd pl rx rp rl x y = some (-1, rx, rp, rl) := by
  unfold mX9_ways
  exact bd_z h (ip rfl rfl)
theorem no_ways2 (f : Nat → Int32) (z : Int32) (pd : Nat → Int32) (pl : Int32) (rx rp : Nat → Int32) (rl : Int32) (x y : Int32) (h0 : mX6_has z x = some 1) (h : mX9_isWithin y 0 1 = some 0) : mX9_ways f z pd pl rx rp rl x y = some (-1, rx, rp, rl) := by
  unfold mX9_ways
  exact bd_z h0 (iq qn10 (bd_z h (ip rfl rfl)))
theorem no_sums (f : Nat → Int32) (z : Int32) (pd : Nat → Int32) (pl : Int32) (rx rp : Nat → Int32) (rl : Int32) (x : Int32) (h : mX9_isWithin x 0 3 = some 0) : mX9_sums f z pd pl rx rp rl x = some (-1, rx, rp, rl) := by
  unfold mX9_sums
  exact bd_z h (ip rfl rfl)
theorem no_cut (f : Nat → Int32) (z : Int32) (pd : Nat → Int32) (pl : Int32) (rx rp : Nat → Int32) (rl : Int32) (x : Int32) (h : mX6_has z x = some 0) : mX9_cut f z pd pl rx rp rl x = some (-1, rx, rp, rl) := by
  unfold mX9_cut
  exact bd_z h (ip rfl rfl)
set_option maxHeartbeats 4000000 in
theorem refuses_ok {n v : Nat} (h2 : 2 ≤ n) (h8 : n ≤ 8) (hv : v < 100000) (f : Nat → Int32) (t : Nat → Int32) (zt : Int32) (k0 : Nat → Int32) (z0 : Int32) (k1 : Nat → Int32) (z1 : Int32) (k2 : Nat → Int32) (z2 : Int32) (k3 : Nat → Int32) (z3 : Int32) (st : Int32) (pd : Nat → Int32) (pl : Int32) (s1 : Nat → Int32) (s2 : Nat → Int32) (s3 : Nat → Int32) (s4 : Nat → Int32) (s5 : Nat → Int32) (s6 : Nat → Int32) (d1 : Int32) (d2 : Int32) (d3 : Int32) (rx : Nat → Int32) (rp : Nat → Int32) (rl : Int32) (q : Nat → Int32) (zq : Int32) (l1 : Int32) (l2 : Int32) (l3 : Int32) (l4 : Int32) (l5 : Int32) : mL_refuses f (nI n) t zt k0 z0 k1 z1 k2 z2 k3 z3 st pd pl s1 s2 s3 s4 s5 s6 d1 d2 d3 rx rp rl q zq l1 l2 l3 l4 l5 (nI v) = some (1, f, nI n, t, zt, k0, z0, k1, z1, k2, z2, k3, z3, st, pd, pl, s1, s2, s3, s4, s5, s6, d1, d2, d3, rx, rp, rl, q, zq, l1, l2, l3, l4, l5) := by
  have hp := p2_le h8
  have hp0 := p2_ge h2
  have w11 : mX9_isWithin 1 2 8 = some 0 := win0 (x := 1) (a := 2) (b := 8) (by omega) (by omega) (by omega) (by omega)
  have w9 : mX9_isWithin (9 + nI v) 2 8 = some 0 := by
    rw [show (9 : Int32) + nI v = nI (9 + v) from nI_add 9 v]
    exact win0 (a := 2) (b := 8) (by omega) (by omega) (by omega) (Or.inr (by omega))
  have w4 : mX9_isWithin 4 2 8 = some 1 := win1 (x := 4) (a := 2) (b := 8) (by omega) (by omega) (by omega)
  have w2 : mX9_isWithin 2 1 7 = some 1 := win1 (x := 2) (a := 1) (b := 7) (by omega) (by omega) (by omega)
  have w6 : mX9_isWithin 6 2 8 = some 1 := win1 (x := 6) (a := 2) (b := 8) (by omega) (by omega) (by omega)
  have w3 : mX9_isWithin 3 1 7 = some 1 := win1 (x := 3) (a := 1) (b := 7) (by omega) (by omega) (by omega)
  have w5 : mX9_isWithin 5 2 8 = some 1 := win1 (x := 5) (a := 2) (b := 8) (by omega) (by omega) (by omega)
  have w8 : mX9_isWithin (8 + nI v) 1 7 = some 0 := by
    rw [show (8 : Int32) + nI v = nI (8 + v) from nI_add 8 v]
    exact win0 (a := 1) (b := 7) (by omega) (by omega) (by omega) (Or.inr (by omega))
  have w00 : mX9_isWithin 0 1 7 = some 0 := win0 (x := 0) (a := 1) (b := 7) (by omega) (by omega) (by omega) (by omega)
  have c42 : mX9_haveCommonDivisor 4 2 = some 1 := X9_common_ok (a := 4) (b := 2) (by omega) (by omega)
  have c63 : mX9_haveCommonDivisor 6 3 = some 1 := X9_common_ok (a := 6) (b := 3) (by omega) (by omega)
  have h0 : mX6_has (nI n) 0 = some 1 := by
    have e : mX6_has (nI n) (nI 0) = some 1 := by rw [X6_has_ok h8 (by omega), if_pos (by omega)]
    exact e
  have h01 := unl_01 h2 h8
  have w3v : mX9_isWithin (3 + nI v) 0 2 = some 0 := by
    rw [show (3 : Int32) + nI v = nI (3 + v) from nI_add 3 v]
    exact win0 (a := 0) (b := 2) (by omega) (by omega) (by omega) (Or.inr (by omega))
  have w5v : mX9_isWithin (5 + nI v) 0 4 = some 0 := by
    rw [show (5 : Int32) + nI v = nI (5 + v) from nI_add 5 v]
    exact win0 (a := 0) (b := 4) (by omega) (by omega) (by omega) (Or.inr (by omega))
  have w127 : mX9_isWithin (127 + nI v) 33 126 = some 0 := by
    rw [show (127 : Int32) + nI v = nI (127 + v) from nI_add 127 v]
    exact win0 (a := 33) (b := 126) (by omega) (by omega) (by omega) (Or.inr (by omega))
  have w4v : mX9_isWithin (4 + nI v) 0 3 = some 0 := by
    rw [show (4 : Int32) + nI v = nI (4 + v) from nI_add 4 v]
    exact win0 (a := 0) (b := 3) (by omega) (by omega) (by omega) (Or.inr (by omega))
  have w2v : mX9_isWithin (2 + nI v) 0 1 = some 0 := by
    rw [show (2 : Int32) + nI v = nI (2 + v) from nI_add 2 v]
    exact win0 (a := 0) (b := 1) (by omega) (by omega) (by omega) (Or.inr (by omega))
  have wm1 : mX9_isWithin (-1) 0 4 = some 0 := winN (a := 0) (b := 4) (by omega) (by omega) (by decide)
  have n30 : ¬ (3 : Int32) + nI v = 0 := by
    rw [show (3 : Int32) + nI v = nI (3 + v) from nI_add 3 v]
    exact fun e => by have := (nI_eq (a := 3 + v) (b := 0) (by omega) (by omega)).mp e; omega
  have n31 : ¬ (3 : Int32) + nI v = 1 := by
    rw [show (3 : Int32) + nI v = nI (3 + v) from nI_add 3 v]
    exact fun e => by have := (nI_eq (a := 3 + v) (b := 1) (by omega) (by omega)).mp e; omega
  have n32 : ¬ (3 : Int32) + nI v = 2 := by
    rw [show (3 : Int32) + nI v = nI (3 + v) from nI_add 3 v]
    exact fun e => by have := (nI_eq (a := 3 + v) (b := 2) (by omega) (by omega)).mp e; omega
  have r0 : mX9_isWithin 0 (nI 1) (nI (2 ^ n - 1)) = some 0 := win0 (x := 0) (by omega) (by omega) (by omega) (by omega)
  have r1 : mX9_isWithin ((1 : Int32) <<< (nI n &&& 31)) (nI 1) (nI (2 ^ n - 1)) = some 0 := by
    rw [bt_sh' (show n < 9 by omega)]
    exact win0 (by omega) (by omega) (by omega) (by omega)
  have r2 : mX9_isWithin (-1 - nI v) (nI 1) (nI (2 ^ n - 1)) = some 0 := winN (by omega) (by omega) (neg1 hv)
  have hneg := neg1 hv
  have nle : ¬ (0 : Int32) ≤ -1 - nI v := fun e => by
    have h1 := Int32.le_iff_toInt_le.mp e
    have h3 := Int32.lt_iff_toInt_lt.mp hneg
    omega
  have c12 : ∀ k, k < 12 → ¬ (12 : Int32) + nI v = nI k := fun k hk e => by
    rw [show (12 : Int32) + nI v = nI (12 + v) from nI_add 12 v] at e
    have := (nI_eq (by omega) (by omega)).mp e
    omega
  have cm : ∀ k, k < 12 → ¬ -1 - nI v = nI k := fun k hk e => by
    rw [e] at hneg
    exact nI_pos (by omega) hneg
  have hX := has_big (n := n) h8 hv
  have hY : mX6_has (nI n) (-1 - nI v) = some 0 := has_neg hneg
  unfold mL_refuses
  refine bd_z (cnt0_is _ _ _ _) (ite_z (fun _ => ?_) (fun _ => ?_))
  · refine bd_z (no_begin1 f (nI n) k0 z0 k1 z1 k2 z2 k3 z3 st 1 1 w11) (ip rfl ?_)
    refine bd_z (no_begin1 f (nI n) k0 z0 k1 z1 k2 z2 k3 z3 st (9 + nI v) 1 w9) (ip rfl ?_)
    refine bd_z (no_begin3 f (nI n) k0 z0 k1 z1 k2 z2 k3 z3 st 4 2 w4 w2 c42) (ip rfl ?_)
    refine bd_z (no_begin3 f (nI n) k0 z0 k1 z1 k2 z2 k3 z3 st 6 3 w6 w3 c63) (ip rfl ?_)
    refine bd_z (no_begin2 f (nI n) k0 z0 k1 z1 k2 z2 k3 z3 st 5 (8 + nI v) w5 w8) (ip rfl ?_)
    refine bd_z (no_begin2 f (nI n) k0 z0 k1 z1 k2 z2 k3 z3 st 5 0 w5 w00) (ip rfl ?_)
    refine bd_z (no_rows f (nI n) t zt k0 z0 k1 z1 k2 z2 k3 z3 st 0 0 (unl_same _ _)) (ip rfl ?_)
    refine bd_z (no_rows f (nI n) t zt k0 z0 k1 z1 k2 z2 k3 z3 st (nI n + nI v) 0 (unl_1 _ hX)) (ip rfl ?_)
    refine bd_z (no_rows f (nI n) t zt k0 z0 k1 z1 k2 z2 k3 z3 st 0 (nI n + nI v) (unl_2 h0 hX)) (ip rfl ?_)
    refine bd_z (no_columns f (nI n) t zt k0 z0 k1 z1 k2 z2 k3 z3 st 1 1 (unl_same _ _)) (ip rfl ?_)
    refine bd_z (no_columns f (nI n) t zt k0 z0 k1 z1 k2 z2 k3 z3 st (nI n + nI v) 0 (unl_1 _ hX)) (ip rfl ?_)
    refine bd_z (no_names f (nI n) t zt k0 z0 k1 z1 k2 z2 k3 z3 st 1 1 (unl_same _ _)) (ip rfl ?_)
    refine bd_z (no_names f (nI n) t zt k0 z0 k1 z1 k2 z2 k3 z3 st 0 (nI n + nI v) (unl_2 h0 hX)) (ip rfl ?_)
    refine bd_z (no_swap1 f (nI n) k0 z0 k1 z1 k2 z2 k3 z3 st 0 0 0 1 (unl_same _ _)) (ip rfl ?_)
    refine bd_z (no_swap2 f (nI n) k0 z0 k1 z1 k2 z2 k3 z3 st 0 1 1 1 h01 (unl_same _ _)) (ip rfl ?_)
    refine bd_z (no_swap1 f (nI n) k0 z0 k1 z1 k2 z2 k3 z3 st (nI n + nI v) 0 0 1 (unl_1 _ hX)) (ip rfl ?_)
    refine bd_z (no_swap2 f (nI n) k0 z0 k1 z1 k2 z2 k3 z3 st 0 1 0 (nI n + nI v) h01 (unl_2 h0 hX)) (ip rfl ?_)
    refine bd_z (no_if2 f (nI n) t zt 0 1 (nI n + nI v) 0 0 h01 (unl_1 _ hX)) (ip rfl ?_)
    refine bd_z (no_if3 f (nI n) t zt 0 1 0 1 (3 + nI v) h01 h01 w3v) (ip rfl ?_)
    refine bd_z (no_best f (nI n) q zq l1 l2 l3 l4 l5 (5 + nI v) w5v) (ip rfl ?_)
    refine bd_z (no_best f (nI n) q zq l1 l2 l3 l4 l5 (-1) wm1) (ip rfl ?_)
    refine bd_z (no_append pd pl (32 - nI v) (win32 hv)) (ip rfl ?_)
    refine bd_z (no_append pd pl (127 + nI v) w127) (ip rfl ?_)
    refine bd_z (no_fault f (nI n) t zt pd pl s1 s2 s3 s4 s5 s6 d1 d2 d3 rx rl (3 + nI v) n30 n31 n32) (ip rfl ?_)
    refine bd_z (no_fault f (nI n) t zt pd pl s1 s2 s3 s4 s5 s6 d1 d2 d3 rx rl (-1) (by decide) (by decide) (by decide)) (ip rfl ?_)
    refine bd_z (no_step1 f (nI n) pd pl s1 s2 s3 s4 s5 s6 d1 d2 d3 (-1 - nI v) 0 (neg1 hv)) (ip rfl ?_)
    refine bd_z (no_step2 f (nI n) pd pl s1 s2 s3 s4 s5 s6 d1 d2 d3 0 (4 + nI v) (by decide) w4v) (ip rfl ?_)
    refine bd_z (no_sum1 f (nI n) (nI n + nI v) 0 hX) (ip rfl ?_)
    refine bd_z (no_sum2 f (nI n) 0 (nI n + nI v) h0 hX) (ip rfl ?_)
    refine bd_z (no_between1 f (nI n) (nI n + nI v) 0 1 hX) (ip rfl ?_)
    refine bd_z (no_between2 f (nI n) 0 (nI n + nI v) 0 h0 hX) (ip rfl ?_)
    refine bd_z (no_returns1 f (nI n) (nI n + nI v) 0 1 hX) (ip rfl ?_)
    refine bd_z (no_returns2 f (nI n) 0 (nI n + nI v) 0 h0 hX) (ip rfl ?_)
    refine bd_z (no_token f (nI n) (nI n + nI v) 0 hX) (ip rfl ?_)
    refine bd_z (no_ring f h8 0 r0) (ip rfl ?_)
    refine bd_z (no_ring f h8 _ r1) (ip rfl ?_)
    refine bd_z (no_ring f h8 (-1 - nI v) r2) (ip rfl ?_)
    refine bd_z (no_ringAt f (nI n) (-1 - nI v) nle) (ip rfl ?_)
    refine bd_z (no_count f (nI n) st pl (12 + nI v) c12) (ip rfl ?_)
    refine bd_z (no_count f (nI n) st pl (-1 - nI v) cm) (ip rfl ?_)
    refine bd_z (no_ways1 f (nI n) pd pl rx rp rl (nI n + nI v) 0 hX) (ip rfl ?_)
    refine bd_z (no_ways2 f (nI n) pd pl rx rp rl 0 (2 + nI v) h0 w2v) (ip rfl ?_)
    refine bd_z (no_sums f (nI n) pd pl rx rp rl (4 + nI v) w4v) (ip rfl ?_)
    refine bd_z (no_cut f (nI n) pd pl rx rp rl (nI n + nI v) hX) (ip rfl ?_)
    rfl
  · refine bd_z (no_begin1 f (nI n) k0 z0 k1 z1 k2 z2 k3 z3 st 1 1 w11) (ip rfl ?_)
    refine bd_z (no_begin1 f (nI n) k0 z0 k1 z1 k2 z2 k3 z3 st (9 + nI v) 1 w9) (ip rfl ?_)
    refine bd_z (no_begin3 f (nI n) k0 z0 k1 z1 k2 z2 k3 z3 st 4 2 w4 w2 c42) (ip rfl ?_)
    refine bd_z (no_begin3 f (nI n) k0 z0 k1 z1 k2 z2 k3 z3 st 6 3 w6 w3 c63) (ip rfl ?_)
    refine bd_z (no_begin2 f (nI n) k0 z0 k1 z1 k2 z2 k3 z3 st 5 (8 + nI v) w5 w8) (ip rfl ?_)
    refine bd_z (no_begin2 f (nI n) k0 z0 k1 z1 k2 z2 k3 z3 st 5 0 w5 w00) (ip rfl ?_)
    refine bd_z (no_rows f (nI n) t zt k0 z0 k1 z1 k2 z2 k3 z3 st 0 0 (unl_same _ _)) (ip rfl ?_)
    refine bd_z (no_rows f (nI n) t zt k0 z0 k1 z1 k2 z2 k3 z3 st (-1 - nI v) 0 (unl_1 _ hY)) (ip rfl ?_)
    refine bd_z (no_rows f (nI n) t zt k0 z0 k1 z1 k2 z2 k3 z3 st 0 (-1 - nI v) (unl_2 h0 hY)) (ip rfl ?_)
    refine bd_z (no_columns f (nI n) t zt k0 z0 k1 z1 k2 z2 k3 z3 st 1 1 (unl_same _ _)) (ip rfl ?_)
    refine bd_z (no_columns f (nI n) t zt k0 z0 k1 z1 k2 z2 k3 z3 st (-1 - nI v) 0 (unl_1 _ hY)) (ip rfl ?_)
    refine bd_z (no_names f (nI n) t zt k0 z0 k1 z1 k2 z2 k3 z3 st 1 1 (unl_same _ _)) (ip rfl ?_)
    refine bd_z (no_names f (nI n) t zt k0 z0 k1 z1 k2 z2 k3 z3 st 0 (-1 - nI v) (unl_2 h0 hY)) (ip rfl ?_)
    refine bd_z (no_swap1 f (nI n) k0 z0 k1 z1 k2 z2 k3 z3 st 0 0 0 1 (unl_same _ _)) (ip rfl ?_)
    refine bd_z (no_swap2 f (nI n) k0 z0 k1 z1 k2 z2 k3 z3 st 0 1 1 1 h01 (unl_same _ _)) (ip rfl ?_)
    refine bd_z (no_swap1 f (nI n) k0 z0 k1 z1 k2 z2 k3 z3 st (-1 - nI v) 0 0 1 (unl_1 _ hY)) (ip rfl ?_)
    refine bd_z (no_swap2 f (nI n) k0 z0 k1 z1 k2 z2 k3 z3 st 0 1 0 (-1 - nI v) h01 (unl_2 h0 hY)) (ip rfl ?_)
    refine bd_z (no_if2 f (nI n) t zt 0 1 (-1 - nI v) 0 0 h01 (unl_1 _ hY)) (ip rfl ?_)
    refine bd_z (no_if3 f (nI n) t zt 0 1 0 1 (3 + nI v) h01 h01 w3v) (ip rfl ?_)
    refine bd_z (no_best f (nI n) q zq l1 l2 l3 l4 l5 (5 + nI v) w5v) (ip rfl ?_)
    refine bd_z (no_best f (nI n) q zq l1 l2 l3 l4 l5 (-1) wm1) (ip rfl ?_)
    refine bd_z (no_append pd pl (32 - nI v) (win32 hv)) (ip rfl ?_)
    refine bd_z (no_append pd pl (127 + nI v) w127) (ip rfl ?_)
    refine bd_z (no_fault f (nI n) t zt pd pl s1 s2 s3 s4 s5 s6 d1 d2 d3 rx rl (3 + nI v) n30 n31 n32) (ip rfl ?_)
    refine bd_z (no_fault f (nI n) t zt pd pl s1 s2 s3 s4 s5 s6 d1 d2 d3 rx rl (-1) (by decide) (by decide) (by decide)) (ip rfl ?_)
    refine bd_z (no_step1 f (nI n) pd pl s1 s2 s3 s4 s5 s6 d1 d2 d3 (-1 - nI v) 0 (neg1 hv)) (ip rfl ?_)
    refine bd_z (no_step2 f (nI n) pd pl s1 s2 s3 s4 s5 s6 d1 d2 d3 0 (4 + nI v) (by decide) w4v) (ip rfl ?_)
    refine bd_z (no_sum1 f (nI n) (-1 - nI v) 0 hY) (ip rfl ?_)
    refine bd_z (no_sum2 f (nI n) 0 (-1 - nI v) h0 hY) (ip rfl ?_)
    refine bd_z (no_between1 f (nI n) (-1 - nI v) 0 1 hY) (ip rfl ?_)
    refine bd_z (no_between2 f (nI n) 0 (-1 - nI v) 0 h0 hY) (ip rfl ?_)
    refine bd_z (no_returns1 f (nI n) (-1 - nI v) 0 1 hY) (ip rfl ?_)
    refine bd_z (no_returns2 f (nI n) 0 (-1 - nI v) 0 h0 hY) (ip rfl ?_)
    refine bd_z (no_token f (nI n) (-1 - nI v) 0 hY) (ip rfl ?_)
    refine bd_z (no_ring f h8 0 r0) (ip rfl ?_)
    refine bd_z (no_ring f h8 _ r1) (ip rfl ?_)
    refine bd_z (no_ring f h8 (-1 - nI v) r2) (ip rfl ?_)
    refine bd_z (no_ringAt f (nI n) (-1 - nI v) nle) (ip rfl ?_)
    refine bd_z (no_count f (nI n) st pl (12 + nI v) c12) (ip rfl ?_)
    refine bd_z (no_count f (nI n) st pl (-1 - nI v) cm) (ip rfl ?_)
    refine bd_z (no_ways1 f (nI n) pd pl rx rp rl (-1 - nI v) 0 hY) (ip rfl ?_)
    refine bd_z (no_ways2 f (nI n) pd pl rx rp rl 0 (2 + nI v) h0 w2v) (ip rfl ?_)
    refine bd_z (no_sums f (nI n) pd pl rx rp rl (4 + nI v) w4v) (ip rfl ?_)
    refine bd_z (no_cut f (nI n) pd pl rx rp rl (-1 - nI v) hY) (ip rfl ?_)
    rfl
