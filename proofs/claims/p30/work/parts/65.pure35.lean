/-! load and fault: both -/
section Load
variable {n : Nat} {T : Nat → Nat → Nat} {f g h s : Nat → Int32} {L : Nat}
def padT (n : Nat) (h : Nat → Int32) (a b : Nat) : Nat := (h (a * (n + 1) + b) - 48).toNatClampNeg
theorem padT_ok (hn : n ≤ 8) {f : Nat → Int32} (hI : tInv n h f (tot n)) {a b : Nat} (ha : a < n) (hb : b < n) : padT n h a b < n ∧ h (a * (n + 1) + b) - 48 = nI (padT n h a b) ∧ f (8 * a + b) = nI (padT n h a b) ∧ allB (fun j => !stB n h (a * (n + 1) + b) j) (a * (n + 1) + b) = true := by
  have hp := tot_in ha hb
  have e1 : (a * (n + 1) + b) / (n + 1) = a := (dm (by omega)).1
  have e2 : (a * (n + 1) + b) % (n + 1) = b := (dm (by omega)).2
  have h1 := hI.1 _ hp
  unfold okP at h1
  rw [e2, if_neg (by omega)] at h1
  obtain ⟨⟨t, t1, t2⟩, h3⟩ := h1
  have h4 : padT n h a b = t := by unfold padT; rw [t2, nI_clamp (by omega)]
  have h5 := hI.2 _ hp (by omega)
  rw [e1, e2] at h5
  rw [h4]
  exact ⟨t1, t2, h5.trans t2, h3⟩
theorem padT_Lat (hn : n ≤ 8) (h2 : 2 ≤ n) {f : Nat → Int32} (hI : tInv n h f (tot n)) : Lat n (padT n h) ∧ tF n (padT n h) f := by
  have ne : ∀ a b a' b', a < n → b < n → a' < n → b' < n → a * (n + 1) + b < a' * (n + 1) + b' → (a = a' ∨ b = b') → padT n h a b ≠ padT n h a' b' := by
    intro a b a' b' ha hb ha' hb' hlt hor e
    obtain ⟨p1, p2, p3, p4⟩ := padT_ok hn hI ha hb
    obtain ⟨q1, q2, q3, q4⟩ := padT_ok hn hI ha' hb'
    have h1 := allB_iff.mp q4 _ hlt
    have h3 : h (a * (n + 1) + b) = h (a' * (n + 1) + b') := sub48 (by rw [p2, q2, e])
    have d1 : (a * (n + 1) + b) / (n + 1) = a := (dm (by omega)).1
    have d2 : (a * (n + 1) + b) % (n + 1) = b := (dm (by omega)).2
    have d3 : (a' * (n + 1) + b') / (n + 1) = a' := (dm (by omega)).1
    have d4 : (a' * (n + 1) + b') % (n + 1) = b' := (dm (by omega)).2
    unfold stB at h1
    rw [d1, d2, d3, d4, decide_eq_true h3, Bool.and_true] at h1
    rcases hor with w | w
    · rw [decide_eq_true w, Bool.true_or] at h1; cases h1
    · rw [decide_eq_true w, Bool.or_true] at h1; cases h1
  have up : ∀ {a a' b : Nat}, a < a' → b < n → a * (n + 1) + b < a' * (n + 1) + b := fun {a a' b} w _ => by
    have := Nat.mul_le_mul_right (n + 1) (show a + 1 ≤ a' from w)
    rw [Nat.succ_mul] at this
    omega
  refine ⟨⟨h2, hn, fun a b ha hb => (padT_ok hn hI ha hb).1, fun a b c ha hb hc e => ?_, fun b a c hb ha hc e => ?_⟩, fun a b ha hb => (padT_ok hn hI ha hb).2.2.1⟩
  · rcases Nat.lt_trichotomy b c with q | q | q
    · exact absurd e (ne a b a c ha hb ha hc (by omega) (Or.inl rfl))
    · exact q
    · exact absurd e.symm (ne a c a b ha hc ha hb (by omega) (Or.inl rfl))
  · rcases Nat.lt_trichotomy a c with q | q | q
    · exact absurd e (ne a b c b ha hb hc hb (up q hb) (Or.inr rfl))
    · exact q
    · exact absurd e.symm (ne c b a b hc hb ha hb (up q hb) (Or.inr rfl))
theorem m_loadL (hn : n ≤ 8) (h2 : 2 ≤ n) (hs : sF n T s) {U : Nat → Nat → Nat} (hU : ∀ a b, a < n → b < n → h (a * (n + 1) + b) - 48 = nI (U a b)) (k : Int32 → (Nat → Int32) → Option (Int32 × (Nat → Int32) × (Nat → Int32) × (Nat → Int32) × Int32 × Int32)) : ∃ g, sF n U g ∧ rOut n s g ∧ mX10_load_L17 h k FU 0 s = k (nI (n * n)) g := by
  have hnn := nn_le hn
  have ht8 := tot_80 hn
  obtain ⟨m, g, ⟨hg0, hg, hgo⟩, e⟩ := lpI (fun F y g => mX10_load_L17 h k F y g) (n * n) 0 (fun i g => g 0 = nI n ∧ (∀ x y, x < n → y < n → x * n + y < i → g (1 + (8 * x + y)) = nI (U x y)) ∧ rOut n s g) (by omega) (by omega) (fun F i g _ hi ⟨hI0, hI, hIo⟩ => by
    obtain ⟨hx, hy⟩ := dm_lt hi
    have hi' := dm_eq (n := n) hy rfl rfl
    have hpt := tot_in hx hy
    have hc : (n + 1) * (i / n) = i / n * (n + 1) := Nat.mul_comm _ _
    have hix : 1 + (8 * (i / n) + i % n) < 65 := by omega
    refine ⟨upd g (1 + (8 * (i / n) + i % n)) (nI (U (i / n) (i % n))), ⟨by rw [upd_ne _ _ (by omega)]; exact hI0, fun x y h3 h4 h5 => ?_, fun q h3 h4 => ?_⟩, ?_⟩
    · by_cases w : x = i / n ∧ y = i % n
      · obtain ⟨rfl, rfl⟩ := w
        rw [upd_eq]
      · rw [upd_ne _ _ (jx_ne (by omega) (by omega) w)]
        refine hI x y h3 h4 ?_
        refine Nat.lt_of_le_of_ne (by omega) (fun v => w ?_)
        rw [← v]
        exact ⟨(dm h4).1.symm, (dm h4).2.symm⟩
    · rw [upd_ne _ _ (h4 _ _ hx hy)]
      exact hIo q h3 h4
    · show mX10_load_L17 _ _ (F + 1) _ _ = _
      rw [mX10_load_L17, show g (0 : Int32).toNatClampNeg = nI n from hI0, pk_mul, if_neg (nI_ge hi (by omega)), m_atd (by omega) hn hi, bd_some, pk_rem (by omega) (by omega) (by omega), pk_div (by omega) (by omega) (by omega), nI_1, nI_1, pk_mul, nI_add, hc]
      simp only [gd_t (nzb_nI (show 0 < n by omega) (show n < 2 ^ 31 by omega)), gd_t (inb_nI (show i / n * (n + 1) + i % n < 80 by omega) (show 80 < 2 ^ 31 by omega)), gd_t (inb_nI hix (show 65 < 2 ^ 31 by omega)), nI_clamp (show i / n * (n + 1) + i % n < 2 ^ 31 by omega), nI_clamp (show 1 + (8 * (i / n) + i % n) < 2 ^ 31 by omega), hU _ _ hx hy]) s ⟨hs.1, fun x y _ _ h5 => absurd h5 (Nat.not_lt_zero _), rOut_rf n s⟩
  refine ⟨g, ⟨hg0, fun x y hx hy => hg x y hx hy (dm_in hx hy)⟩, hgo, ?_⟩
  refine Eq.trans e ?_
  show mX10_load_L17 _ _ (m + 1) _ _ = _
  rw [mX10_load_L17, show g (0 : Int32).toNatClampNeg = nI n from hg0, pk_mul, if_pos (nI_le (Nat.le_refl _) (by omega))]
theorem load_both {m : Nat} {tr o P k0 k1 k2 k3 : Nat → Int32} {z z0 z1 z2 z3 : Int32} (hS : Sm f z s) (hH : Hs m k0 z0 k1 z1 k2 z2 k3 z3 P) (hP : Pd g h L) : ∃ r f' z' tr' zt' k0' z0' k1' z1' k2' z2' k3' z3' m' L' s' o' P', mX9_load f z tr k0 z0 k1 z1 k2 z2 k3 z3 (nI m) g (nI L) = some (r, f', z', tr', zt', k0', z0', k1', z1', k2', z2', k3', z3', nI m', nI L') ∧ mX10_load s o P (nI m) h (nI L) = some (r, s', o', P', nI m', nI L') ∧ Sm f' z' s' ∧ Hs m' k0' z0' k1' z1' k2' z2' k3' z3' P' ∧ Pd g h L' := by
  have hS0 := hS
  obtain ⟨n, T, hL, rfl, ht, hs⟩ := hS
  have h8 := hL.2.1
  unfold mX9_load mX10_load
  rw [X6_size_ok, bd_some]
  rcases table_both hL hs hP tr with ⟨k, f', hk, e1, e2⟩ | ⟨f', e1, e2, hLt, hI⟩
  · refine ⟨-2, f, nI n, f', nI n, k0, z0, k1, z1, k2, z2, k3, z3, m, L, s, o, P, ?_, ?_, hS0, hH, hP⟩
    · rw [e1, bd_some, if_neg (nI_ne_m4 hk)]
    · rw [e2, bd_some, if_neg (nI_ne_m1 hk)]
  · obtain ⟨hU, hu⟩ := padT_Lat h8 hL.1 hI
    obtain ⟨_, _, _, _, _, _, _, _, m0, P0, _, c2, _⟩ := rec_both (o := o) hS0 hH
    obtain ⟨s', hs', hout, e3⟩ := m_loadL h8 hL.1 hs (fun a b ha hb => (padT_ok h8 hI ha hb).2.1) (fun (x1_3 : Int32) (f_4 : Nat → Int32) => bd (mX10_others f_4 (cpy 65 o s)) (fun z_5 => some (z_5, f_4, cpy 65 o s, P0, nI m0, 0)))
    obtain ⟨r, f2, k0', z0', k1', z1', k2', z2', k3', z3', m', P', d1, d2, d3, hS', hH'⟩ := chg_both (o := o) hL hU ht hu hs hs' hout hH
    have d4 := Option.some.inj (c2.symm.trans d2)
    have d5 : P0 = P' := congrArg (fun q => q.2.1) d4
    have d6 : nI m0 = nI m' := congrArg (fun q => q.2.2) d4
    refine ⟨r, f2, nI n, f', nI n, k0', z0', k1', z1', k2', z2', k3', z3', m', 0, s', cpy 65 o s, P', ?_, ?_, hS', hH', by omega, fun i hi => absurd hi (Nat.not_lt_zero _)⟩
    · rw [e1, bd_some, if_pos rfl]
      unfold mX1_wipe
      rw [bd_some, d1, bd_some]; rfl
    · rw [e2, bd_some, if_pos rfl, c2, bd_some]
      refine Eq.trans e3 ?_
      rw [d3, bd_some, d5, d6]; rfl
theorem fault_both {z zt : Int32} (hS : Sm f z s) (hP : Pd g h L) (tr sf wp le ri to pc row S sm pl : Nat → Int32) (d0 s0 w0 len m0 v x : Int32) : ∃ r tr' zt' sf' wp' le' ri' to' pc' d' st' w' row' len' S' y' v' sm' pl', mX9_fault f z tr zt g (nI L) sf wp le ri to pc d0 s0 w0 row len x = some (r, tr', zt', sf', wp', le', ri', to', pc', d', st', w', row', len') ∧ mX10_fault s h (nI L) S m0 v sm pl x = some (r, S', y', v', sm', pl') := by
  obtain ⟨n, T, hL, rfl, ht, hs⟩ := hS
  unfold mX9_fault mX10_fault
  rw [in_is]
  rcases withn x (a := 0) (b := 2) (by omega) (by omega) with ⟨u, _, hu, rfl, e0⟩ | ⟨hne, e0⟩
  · have a1 : ¬ nI 1 = 0 := by decide
    have a2 : ¬ nI 2 = 0 := by decide
    have b2 : ¬ nI 2 = 1 := by decide
    rw [show mX9_isWithin (nI u) 0 2 = some 1 from e0, bd_some, if_neg (show ¬ (1 : Int32) = 0 by decide)]
    rcases (show u = 0 ∨ u = 1 ∨ u = 2 by omega) with rfl | rfl | rfl
    · rw [if_pos (show nI 0 = 0 from rfl), if_pos (show nI 0 = 0 from rfl), X6_size_ok, bd_some]
      rcases table_both hL hs hP tr with ⟨k, f', hk, e1, e2⟩ | ⟨f', e1, e2, hLt, hI⟩
      · rw [e1, e2, bd_some, bd_some, if_neg (nI_ne_m1 hk)]
        exact ⟨_, _, _, _, _, _, _, _, _, _, _, _, _, _, _, _, _, _, _, rfl, rfl⟩
      · rw [e1, e2, bd_some, bd_some, if_pos rfl]
        exact ⟨_, _, _, _, _, _, _, _, _, _, _, _, _, _, _, _, _, _, _, rfl, rfl⟩
    · rw [if_neg a1, if_neg a1, if_pos (show nI 1 = 1 from rfl), if_pos (show nI 1 = 1 from rfl)]
      rcases sum_both hL ht hs hP sf wp le ri to pc S sm pl v with ⟨sf, wp, le, ri, to, pc, st, S, sm, pl, d, w, a, e1, e2, _, e4, _⟩ | ⟨k, sf, wp, le, ri, to, pc, y1, S, sm, pl, d, w, y2, v, hk, e1, e2⟩
      · rw [e1, e2, bd_some, bd_some, if_pos rfl]
        exact ⟨_, _, _, _, _, _, _, _, _, _, _, _, _, _, _, _, _, _, _, rfl, rfl⟩
      · rw [e1, e2, bd_some, bd_some, if_neg (nI_ne_m1 hk)]
        exact ⟨_, _, _, _, _, _, _, _, _, _, _, _, _, _, _, _, _, _, _, rfl, rfl⟩
    · rw [if_neg a2, if_neg a2, if_neg b2, if_neg b2, if_pos (show nI 2 = 2 from rfl)]
      rcases row_both hL hs hP row with ⟨hr, row', e3, e4, e5⟩ | ⟨k, row', len', hk, e3, e5⟩
      · rw [e3, e5, bd_some, bd_some, if_pos rfl]
        exact ⟨_, _, _, _, _, _, _, _, _, _, _, _, _, _, _, _, _, _, _, rfl, rfl⟩
      · rw [e3, e5, bd_some, bd_some, if_neg (nI_ne_m1 hk)]
        exact ⟨_, _, _, _, _, _, _, _, _, _, _, _, _, _, _, _, _, _, _, rfl, rfl⟩
  · rw [show mX9_isWithin x 0 2 = some 0 from e0, bd_some, if_pos rfl, if_neg (show ¬ x = 0 from hne 0 (by omega) (by omega)), if_neg (show ¬ x = 1 from hne 1 (by omega) (by omega)), if_neg (show ¬ x = 2 from hne 2 (by omega) (by omega))]
    exact ⟨_, _, _, _, _, _, _, _, _, _, _, _, _, _, _, _, _, _, _, rfl, rfl⟩
end Load
