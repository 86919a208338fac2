/-! little squares: how many, and the best -/
theorem lpC1 {R : Type} (G : Nat → Int32 → Int32 → Option R) (n i0 acc : Nat) (g : Nat → Nat) (hi : i0 ≤ n) (hn : n < 5000) (hz : ∀ i, i < i0 → g i = 0) (step : ∀ F i a, i0 ≤ i → i < n → G (F + 1) (nI i) (nI a) = G F (nI (i + 1)) (nI (a + g i))) : ∃ m, G FU (nI i0) (nI acc) = G (m + 1) (nI n) (nI (acc + sm g n)) := by
  obtain ⟨m, h⟩ := lpU G n i0 (fun i => nI (acc + sm g i)) hi hn (fun F i h1 hi => by
    rw [step F i _ h1 hi, sm_s, Nat.add_assoc])
  have h0 : ∀ k, k ≤ i0 → sm g k = 0 := by
    intro k
    induction k with
    | zero => intro _; rfl
    | succ k ih => intro hk; rw [sm_s, ih (by omega), hz k (by omega)]
  rw [h0 i0 (Nat.le_refl _)] at h
  exact ⟨m, h⟩
def sqB (T : Nat → Nat → Nat) (a b c d : Nat) : Bool := decide (T a c = T b d) && decide (T a d = T b c)
theorem sqB_iff {T : Nat → Nat → Nat} {a b c d : Nat} : sqB T a b c d = true ↔ isSq T a b c d := by
  unfold sqB isSq
  rw [Bool.and_eq_true, decide_eq_true_iff, decide_eq_true_iff]
def sqR (T : Nat → Nat → Nat) (n a b : Nat) : Nat := sm (fun c => sm (fun d => if c < d then (if sqB T a b c d = true then 1 else 0) else 0) n) n
def sqN (T : Nat → Nat → Nat) (n : Nat) : Nat := sm (fun a => sm (fun b => if a < b then sqR T n a b else 0) n) n
section Squares
variable {n : Nat} {T : Nat → Nat → Nat} {f s : Nat → Int32}
theorem X4_inRows_ok (hL : Lat n T) (ht : tF n T f) {a b : Nat} (ha : a < n) (hb : b < n) : mX4_howManyInRows f (nI n) (nI a) (nI b) = some (nI (sqR T n a b)) := by
  have h8 := hL.2.1
  unfold mX4_howManyInRows
  rw [X6_size_ok, bd_some]
  obtain ⟨m, e⟩ := lpC (fun F x q => mX4_howManyInRows_L11 f (nI a) (nI b) (nI n) (fun (x5_2 : Int32) (x4_3 : Int32) => some (x4_3)) F x q) n 0 (fun c => sm (fun d => if c < d then (if sqB T a b c d = true then 1 else 0) else 0) n) (by omega) (fun F i acc hi => by
    show mX4_howManyInRows_L11 _ _ _ _ _ (F + 1) _ _ = _
    rw [mX4_howManyInRows_L11, if_neg (nI_ge hi (by omega)), nI_1]
    obtain ⟨m, e⟩ := lpC1 (fun F2 x q => mX4_howManyInRows_L23 f (nI a) (nI b) (nI n) (nI i) (fun (x6_7 : Int32) (x4_8 : Int32) => mX4_howManyInRows_L11 f (nI a) (nI b) (nI n) (fun (x5_2 : Int32) (x4_3 : Int32) => some (x4_3)) F (nI (i + 1)) x4_8) F2 x q) n (i + 1) acc (fun d => if i < d then (if sqB T a b i d = true then 1 else 0) else 0) (by omega) (by omega) (fun d hd => if_neg (by omega)) (fun F2 d q h1 hd => by
      show mX4_howManyInRows_L23 _ _ _ _ _ _ (F2 + 1) _ _ = _
      rw [mX4_howManyInRows_L23, if_neg (nI_ge hd (by omega)), show mX6_isLittleSquare f (nI a) (nI b) (nI i) (nI d) = some (bI (sqB T a b i d)) from X6_isLittleSquare_ok hL ht ha hb hi hd, bd_some, nI_1, if_pos (show i < d by omega)]
      cases hq : sqB T a b i d with
      | false => rw [if_pos (show bI false = 0 from rfl), if_neg (by decide)]; rfl
      | true => rw [if_neg (show ¬ bI true = 0 by decide), if_pos rfl, nI_1])
    refine Eq.trans e ?_
    show mX4_howManyInRows_L23 _ _ _ _ _ _ (m + 1) _ _ = _
    rw [mX4_howManyInRows_L23, if_pos (nI_le (Nat.le_refl _) (by omega))])
  refine Eq.trans e ?_
  show mX4_howManyInRows_L11 _ _ _ _ _ (m + 1) _ _ = _
  rw [mX4_howManyInRows_L11, if_pos (nI_le (Nat.le_refl _) (by omega)), Nat.zero_add]; rfl
theorem X4_howMany_ok (hL : Lat n T) (ht : tF n T f) : mX4_howMany f (nI n) = some (nI (sqN T n)) := by
  have h8 := hL.2.1
  unfold mX4_howMany
  rw [X6_size_ok, bd_some]
  obtain ⟨m, e⟩ := lpC (fun F x q => mX4_howMany_L10 f (nI n) (nI n) (fun (x4_2 : Int32) (x3_3 : Int32) => some (x3_3)) F x q) n 0 (fun a => sm (fun b => if a < b then sqR T n a b else 0) n) (by omega) (fun F i acc hi => by
    show mX4_howMany_L10 _ _ _ _ (F + 1) _ _ = _
    rw [mX4_howMany_L10, if_neg (nI_ge hi (by omega)), nI_1]
    obtain ⟨m, e⟩ := lpC1 (fun F2 x q => mX4_howMany_L22 f (nI n) (nI n) (nI i) (fun (x5_7 : Int32) (x3_8 : Int32) => mX4_howMany_L10 f (nI n) (nI n) (fun (x4_2 : Int32) (x3_3 : Int32) => some (x3_3)) F (nI (i + 1)) x3_8) F2 x q) n (i + 1) acc (fun b => if i < b then sqR T n i b else 0) (by omega) (by omega) (fun d hd => if_neg (by omega)) (fun F2 d q h1 hd => by
      show mX4_howMany_L22 _ _ _ _ _ (F2 + 1) _ _ = _
      rw [mX4_howMany_L22, if_neg (nI_ge hd (by omega)), X4_inRows_ok hL ht hi hd, bd_some, nI_1, if_pos (show i < d by omega), nI_add])
    refine Eq.trans e ?_
    show mX4_howMany_L22 _ _ _ _ _ (m + 1) _ _ = _
    rw [mX4_howMany_L22, if_pos (nI_le (Nat.le_refl _) (by omega))])
  refine Eq.trans e ?_
  show mX4_howMany_L10 _ _ _ _ (m + 1) _ _ = _
  rw [mX4_howMany_L10, if_pos (nI_le (Nat.le_refl _) (by omega)), Nat.zero_add]; rfl
theorem m_squares (hL : Lat n T) (hs : sF n T s) : mX10_squares s = some (nI (sqN T n)) := by
  have h8 := hL.2.1
  unfold mX10_squares
  obtain ⟨m, e⟩ := lpC (fun F x q => mX10_squares_L4 s (fun (x2_1 : Int32) (x1_2 : Int32) => some (x1_2)) F x q) n 0 (fun a => sm (fun b => if a < b then sqR T n a b else 0) n) (by omega) (fun F i acc hi => by
    show mX10_squares_L4 _ _ (F + 1) _ _ = _
    rw [mX10_squares_L4, m_s0 hs, if_neg (nI_ge hi (by omega)), nI_1]
    obtain ⟨m, e⟩ := lpC1 (fun F2 x q => mX10_squares_L18 s (nI i) (fun (x3_6 : Int32) (x1_7 : Int32) => mX10_squares_L4 s (fun (x2_1 : Int32) (x1_2 : Int32) => some (x1_2)) F (nI (i + 1)) x1_7) F2 x q) n (i + 1) acc (fun b => if i < b then sqR T n i b else 0) (by omega) (by omega) (fun d hd => if_neg (by omega)) (fun F2 b q h1 hb => by
      show mX10_squares_L18 _ _ _ (F2 + 1) _ _ = _
      rw [mX10_squares_L18, m_s0 hs, if_neg (nI_ge hb (by omega)), nI_1, if_pos (show i < b by omega)]
      obtain ⟨m, e⟩ := lpC (fun F3 x q => mX10_squares_L31 s (nI i) (nI b) (fun (x4_11 : Int32) (x1_12 : Int32) => mX10_squares_L18 s (nI i) (fun (x3_6 : Int32) (x1_7 : Int32) => mX10_squares_L4 s (fun (x2_1 : Int32) (x1_2 : Int32) => some (x1_2)) F (nI (i + 1)) x1_7) F2 (nI (b + 1)) x1_12) F3 x q) 64 q (fun k => if k / 8 < k % 8 ∧ k % 8 < n then (if sqB T i b (k / 8) (k % 8) = true then 1 else 0) else 0) (by omega) (fun F3 k q hk => by
        show mX10_squares_L31 _ _ _ _ (F3 + 1) _ _ = _
        rw [mX10_squares_L31, if_neg (show ¬ (64 : Int32) ≤ nI k from nI_ge (b := 64) hk (by omega)), l_8, m_s0 hs, pk_rem (by omega) (by omega) (by omega), pk_div (by omega) (by omega) (by omega), nI_1, show nI q + (0 : Int32) = nI (q + 0) from nI_add q 0]
        by_cases c1 : k / 8 < k % 8
        · rw [if_neg (nI_ge c1 (by omega))]
          by_cases c2 : k % 8 < n
          · rw [if_neg (nI_ge c2 (by omega)), if_pos ⟨c1, c2⟩, show mX10_isSquare s (nI i) (nI b) (nI (k / 8)) (nI (k % 8)) = some (bI (sqB T i b (k / 8) (k % 8))) from m_isSquare hL hs hi hb (by omega) c2, bd_some]
            cases hq : sqB T i b (k / 8) (k % 8) with
            | false => rw [if_pos (show bI false = 0 from rfl), if_neg (by decide)]
            | true => rw [if_neg (show ¬ bI true = 0 by decide), if_pos rfl, nI_1]
          · rw [if_pos (nI_le (by omega) (by omega)), if_neg (fun w => c2 w.2)]
        · rw [if_pos (nI_le (by omega) (by omega)), if_neg (fun w => c1 w.1)])
      refine Eq.trans e ?_
      show mX10_squares_L31 _ _ _ _ (m + 1) _ _ = _
      rw [mX10_squares_L31, if_pos (show (64 : Int32) ≤ nI 64 from nI_le (a := 64) (Nat.le_refl _) (by omega))]
      have hsum : sm (fun k => if k / 8 < k % 8 ∧ k % 8 < n then (if sqB T i b (k / 8) (k % 8) = true then 1 else 0) else 0) (8 * 8) = sqR T n i b := by
        have zr : ∀ (g : Nat → Nat) (m : Nat), (∀ i, i < m → g i = 0) → sm g m = 0 := by
          intro g m
          induction m with
          | zero => intro _; rfl
          | succ m ih => intro h; rw [sm_s, ih (fun i hi => h i (by omega)), h m (by omega)]
        rw [sm_flat]
        have hrow : ∀ c, c < 8 → sm (fun d => if (8 * c + d) / 8 < (8 * c + d) % 8 ∧ (8 * c + d) % 8 < n then (if sqB T i b ((8 * c + d) / 8) ((8 * c + d) % 8) = true then 1 else 0) else 0) 8 = sm (fun d => if c < d then (if sqB T i b c d = true then 1 else 0) else 0) n := by
          intro c hc
          rw [sm_trunc' h8 (fun d h1 h2 => if_neg (by omega))]
          refine sm_congr (fun d hd => ?_)
          rw [show (8 * c + d) / 8 = c by omega, show (8 * c + d) % 8 = d by omega]
          by_cases w : c < d
          · rw [if_pos ⟨w, hd⟩, if_pos w]
          · rw [if_neg (fun v => w v.1), if_neg w]
        rw [sm_congr hrow, sm_trunc' h8 (fun c h1 h2 => zr _ _ (fun d hd => if_neg (by omega)))]; rfl
      rw [← hsum])
    refine Eq.trans e ?_
    show mX10_squares_L18 _ _ _ (m + 1) _ _ = _
    rw [mX10_squares_L18, m_s0 hs, if_pos (nI_le (Nat.le_refl _) (by omega))])
  refine Eq.trans e ?_
  show mX10_squares_L4 _ _ (m + 1) _ _ = _
  rw [mX10_squares_L4, m_s0 hs, if_pos (nI_le (Nat.le_refl _) (by omega)), Nat.zero_add]; rfl
end Squares
