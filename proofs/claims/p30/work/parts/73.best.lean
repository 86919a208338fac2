/-! the best little square, told plainly; crooked as a double between 0 and 1 -/
theorem bst_none {n : Nat} {T : Nat → Nat → Nat} : ∀ {k : Nat}, bst n T k = none → ∀ i, i < k → cnd n T i = false
  | 0, _, i, hi => absurd hi (Nat.not_lt_zero _)
  | k + 1, h, i, hi => by
    rw [bst_s] at h
    by_cases q : cnd n T k = true
    · rw [if_pos q] at h
      cases e : bst n T k with
      | none => rw [e] at h; cases h
      | some j =>
        rw [e] at h
        unfold bstep at h
        by_cases w : vl n T j < vl n T k
        · simp only [if_pos w] at h; cases h
        · simp only [if_neg w] at h; cases h
    · rw [if_neg q] at h
      rcases Nat.lt_or_ge i k with w | w
      · exact bst_none h i w
      · have : i = k := by omega
        subst this
        cases e : cnd n T i with
        | false => rfl
        | true => exact absurd e q
theorem bst_cnd {n : Nat} {T : Nat → Nat → Nat} : ∀ {k j : Nat}, bst n T k = some j → cnd n T j = true
  | 0, j, h => by cases h
  | k + 1, j, h => by
    rw [bst_s] at h
    by_cases q : cnd n T k = true
    · rw [if_pos q] at h
      cases e : bst n T k with
      | none => rw [e] at h; cases h; exact q
      | some i =>
        rw [e] at h
        unfold bstep at h
        by_cases w : vl n T i < vl n T k
        · simp only [if_pos w] at h; cases h; exact q
        · simp only [if_neg w] at h; cases h; exact bst_cnd e
    · rw [if_neg q] at h
      exact bst_cnd h
theorem cnd_iff {n : Nat} {T : Nat → Nat → Nat} {k : Nat} : cnd n T k = true ↔ qa n k < qb n k ∧ qc n k < qd n k ∧ sqB T (qa n k) (qb n k) (qc n k) (qd n k) = true := by
  unfold cnd
  rw [Bool.and_eq_true, Bool.and_eq_true, decide_eq_true_iff, decide_eq_true_iff]
theorem sm_0 {f : Nat → Nat} : ∀ {n : Nat}, sm f n = 0 ↔ ∀ i, i < n → f i = 0
  | 0 => ⟨fun _ i h => absurd h (Nat.not_lt_zero _), fun _ => rfl⟩
  | n + 1 => by
    rw [sm_s]
    constructor
    · intro h i hi
      rcases Nat.lt_or_ge i n with q | q
      · exact sm_0.mp (by omega) i q
      · have : i = n := by omega
        subst this; omega
    · intro h
      have h1 := h n (by omega)
      have h2 := (sm_0 (n := n)).mpr (fun i hi => h i (by omega))
      omega
section Best3
variable {n : Nat} {T : Nat → Nat → Nat} {f : Nat → Int32}
/-- there is a best one where there are any -/
theorem sqN_bst (h2 : 2 ≤ n) : sqN T n = 0 ↔ bst n T (n * n * n * n) = none := by
  constructor
  · intro h
    cases e : bst n T (n * n * n * n) with
    | none => rfl
    | some j =>
      exfalso
      obtain ⟨c1, c2, c3⟩ := cnd_iff.mp (bst_cnd e)
      obtain ⟨l1, l2, l3, l4⟩ := q_lt (bst_in e)
      have h1 := sm_0.mp h _ l1
      have h2 := sm_0.mp h1 _ l2
      rw [if_pos c1] at h2
      have h3 := sm_0.mp h2 _ l3
      have h4 := sm_0.mp h3 _ l4
      rw [if_pos c2, if_pos c3] at h4
      cases h4
  · intro h
    have hb := bst_none h
    refine sm_0.mpr (fun a ha => sm_0.mpr (fun b hb' => ?_))
    by_cases q : a < b
    · rw [if_pos q]
      refine sm_0.mpr (fun c hc => sm_0.mpr (fun d hd => ?_))
      by_cases w : c < d
      · rw [if_pos w, if_neg]
        intro hq
        obtain ⟨e1, e2, e3, e4⟩ := ps_q (a := a) hb' hc hd
        have hlt : ps n a b c d < n * n * n * n := by
          have g1 : a * n + b < n * n := dm_in ha hb'
          have g2 : (a * n + b) * n + c < n * n * n := by
            have : (a * n + b) * n + n ≤ n * n * n := by rw [← Nat.succ_mul]; exact Nat.mul_le_mul g1 (Nat.le_refl _)
            omega
          have : ((a * n + b) * n + c) * n + n ≤ n * n * n * n := by rw [← Nat.succ_mul]; exact Nat.mul_le_mul g2 (Nat.le_refl _)
          unfold ps; omega
        have := hb _ hlt
        have hc : cnd n T (ps n a b c d) = true := cnd_iff.mpr (by rw [e1, e2, e3, e4]; exact ⟨q, w, hq⟩)
        rw [this] at hc; cases hc
      · rw [if_neg w]
    · rw [if_neg q]
def bv (n : Nat) (T : Nat → Nat → Nat) (j : Nat) : Nat → Nat
  | 0 => qa n j
  | 1 => qb n j
  | 2 => qc n j
  | 3 => qd n j
  | _ => vl n T j
theorem nI_ne4 {j : Nat} (hj : j < 2 ^ 31) : ¬ nI j = -4 := fun e => by
  have h1 := congrArg Int32.toInt e
  rw [nI_toInt hj] at h1
  have h2 : (-4 : Int32).toInt = -4 := rfl
  omega
theorem best_no (hL : Lat n T) (ht : tF n T f) (h : bst n T (n * n * n * n) = none) (g : Nat → Int32) (zg l1 l2 l3 l4 l5 : Int32) {v : Nat} (hv : v ≤ 4) : ∃ y, mX9_best f (nI n) g zg l1 l2 l3 l4 l5 (nI v) = some (-4, y) := by
  unfold mX9_best
  rcases withn (nI v) (a := 0) (b := 4) (by omega) (by omega) with ⟨_, _, _, _, e1⟩ | ⟨e1, _⟩
  · obtain ⟨y, g', hy, e2⟩ := X4_findBest_ok hL ht g l1 l2 l3 l4
    rw [h] at hy
    have hy5 : y.2.2.2.2 = -4 := hy
    exact ⟨_, bd_z (show mX9_isWithin (nI v) 0 4 = some 1 from e1) (iq qn10 (bd_z e2 (ip (show (if y.2.2.2.2 = -4 then (0 : Int32) else 1) = 0 by rw [if_pos hy5]) rfl)))⟩
  · exact absurd rfl (e1 v (by omega) hv)
theorem best_yes (hL : Lat n T) (ht : tF n T f) {j : Nat} (h : bst n T (n * n * n * n) = some j) (g : Nat → Int32) (zg l1 l2 l3 l4 l5 : Int32) {v : Nat} (hv : v ≤ 4) : ∃ y, mX9_best f (nI n) g zg l1 l2 l3 l4 l5 (nI v) = some (nI (bv n T j v), y) := by
  have h8 := hL.2.1
  unfold mX9_best
  rcases withn (nI v) (a := 0) (b := 4) (by omega) (by omega) with ⟨_, _, _, _, e1⟩ | ⟨e1, _⟩
  · obtain ⟨y, g', hy, e2⟩ := X4_findBest_ok hL ht g l1 l2 l3 l4
    rw [h] at hy
    obtain ⟨y1, y2, y3, y4, y5⟩ := hy
    have v1 : vl n T j ≤ 512 := assP_le _ h8
    have hne : ¬ y.2.2.2.2 = -4 := by rw [y5]; exact nI_ne4 (by omega)
    have e3 : mX4_tellBest y.1 y.2.1 y.2.2.1 y.2.2.2.1 y.2.2.2.2 (nI v) = some (nI (bv n T j v)) := by
      unfold mX4_tellBest
      rcases (show v = 0 ∨ v = 1 ∨ v = 2 ∨ v = 3 ∨ v = 4 by omega) with rfl | rfl | rfl | rfl | rfl
      · rw [if_pos (show nI 0 = 0 from rfl), y1]; rfl
      · rw [if_neg (show ¬ nI 1 = 0 by decide), if_pos (show nI 1 = 1 from rfl), y2]; rfl
      · rw [if_neg (show ¬ nI 2 = 0 by decide), if_neg (show ¬ nI 2 = 1 by decide), if_pos (show nI 2 = 2 from rfl), y3]; rfl
      · rw [if_neg (show ¬ nI 3 = 0 by decide), if_neg (show ¬ nI 3 = 1 by decide), if_neg (show ¬ nI 3 = 2 by decide), if_pos (show nI 3 = 3 from rfl), y4]; rfl
      · rw [if_neg (show ¬ nI 4 = 0 by decide), if_neg (show ¬ nI 4 = 1 by decide), if_neg (show ¬ nI 4 = 2 by decide), if_neg (show ¬ nI 4 = 3 by decide), y5]; rfl
    exact ⟨_, bd_z (show mX9_isWithin (nI v) 0 4 = some 1 from e1) (iq qn10 (bd_z e2 (iq (show ¬ (if y.2.2.2.2 = -4 then (0 : Int32) else 1) = 0 by rw [if_neg hne]; decide) (bd_z (show mX4_tellBest y.1 y.2.1 y.2.2.1 y.2.2.2.1 y.2.2.2.2 (nI v) = some (nI (bv n T j v)) from e3) rfl))))⟩
  · exact absurd rfl (e1 v (by omega) hv)
def crk (n k : Nat) : UInt64 := FP.ddiv (FP.i2d (nI k)) (FP.i2d (nI (n * n * n)))
theorem crk_all : allB (fun n => decide (n < 2) || allB (fun k => decide (¬ Op.cmpValue (FP.dcmp (crk n k) FP.dconst0) CmpOp.l < 0) && (decide (¬ (0 : Int32) < Op.cmpValue (FP.dcmp (crk n k) FP.dconst1) CmpOp.g) && (decide (Op.cmpValue (FP.dcmp (crk n k) FP.dconst0) CmpOp.l = 0) == decide (k = 0)))) (n * n * n + 1)) 9 = true := by decide +kernel
theorem crk_ok (h2 : 2 ≤ n) (h8 : n ≤ 8) {k : Nat} (hk : k ≤ n * n * n) : ¬ Op.cmpValue (FP.dcmp (crk n k) FP.dconst0) CmpOp.l < 0 ∧ ¬ (0 : Int32) < Op.cmpValue (FP.dcmp (crk n k) FP.dconst1) CmpOp.g ∧ (Op.cmpValue (FP.dcmp (crk n k) FP.dconst0) CmpOp.l = 0 ↔ k = 0) := by
  have hd := allB_iff.mp crk_all n (by omega)
  rw [decide_eq_false (show ¬ n < 2 by omega), Bool.false_or] at hd
  have hn := allB_iff.mp hd k (by omega)
  rw [Bool.and_eq_true, Bool.and_eq_true, decide_eq_true_iff, decide_eq_true_iff, beq_iff_eq, decide_eq_decide] at hn
  exact hn
theorem a_crooked (hL : Lat n T) (ht : tF n T f) : mX9_crooked f (nI n) = some (crk n (n * n * n - assP T n)) := by
  have h8 := hL.2.1
  have h2 := hL.1
  have h3 := n3_le h8
  have ha := assP_n3 T n
  have hp : 0 < n * n * n := Nat.mul_pos (Nat.mul_pos (by omega) (by omega)) (by omega)
  have hd := allB_iff.mp dd_all n (by omega)
  rw [decide_eq_false (show ¬ n < 2 by omega), Bool.false_or] at hd
  have hn := allB_iff.mp hd (n * n * n - assP T n) (by omega)
  unfold mX9_crooked crk
  rw [X6_size_ok, bd_some, pk_mul, pk_mul, if_pos (show (0 : Int32) < nI (n * n * n) from nI_lt (a := 0) hp (by omega)), X8_associatingTriples_ok hL ht, bd_some, nI_sub ha, gd_t hn]
theorem n4_sq (hL : Lat n T) : sqN T n < 2 ^ 31 := by
  have h8 := hL.2.1
  have h1 : sqN T n ≤ n * (n * (n * (n * 1))) := sm_bound (fun a ha => sm_bound (fun b hb => by
    split
    · exact sm_bound (fun c hc => sm_bound (fun d hd => by split <;> (try split) <;> omega))
    · exact Nat.zero_le _))
  have h2 : n * (n * (n * (n * 1))) ≤ 8 * (8 * (8 * (8 * 1))) := Nat.mul_le_mul h8 (Nat.mul_le_mul h8 (Nat.mul_le_mul h8 (Nat.mul_le_mul h8 (Nat.le_refl _))))
  omega
theorem hangs_J715 (hL : Lat n T) (ht : tF n T f) (hs pl : Int32) (g : Nat → Int32) (zg l1 l2 l3 l4 l5 : Int32) : ∃ y, mL_hangs_J715 f (nI n) hs pl g zg l1 l2 l3 l4 l5 (nI n) (nI (assP T n)) = some (1, y) := by
  have h8 := hL.2.1
  have h3 := n3_le h8
  have ha := assP_n3 T n
  have hc := a_crooked hL ht
  obtain ⟨c1, c2, c3⟩ := crk_ok (n := n) hL.1 h8 (k := n * n * n - assP T n) (by omega)
  have e3 : nI n * nI n * nI n = nI (n * n * n) := by rw [pk_mul, pk_mul]
  have h9 := a_cnt9 hL ht hs pl
  have hsq := n4_sq hL
  unfold mL_hangs_J715
  have v4 : (4 : Nat) ≤ 4 := Nat.le_refl _
  by_cases hk : assP T n = n * n * n
  · have k1 : Op.cmpValue (FP.dcmp (crk n (n * n * n - assP T n)) FP.dconst0) CmpOp.l = 0 := c3.mpr (by omega)
    have k2 : nI (assP T n) = nI n * nI n * nI n := by rw [e3, hk]
    by_cases hq : sqN T n = 0
    · obtain ⟨y, hb⟩ := best_no hL ht ((sqN_bst hL.1).mp hq) g zg l1 l2 l3 l4 l5 v4
      exact ⟨_, bd_z hc (iq c1 (bd_z hc (iq c2 (bd_z hc (ip k1 (ip k2 (bd_z h9 (ip (by rw [hq]; decide) (bd_z (show mX9_best f (nI n) g zg l1 l2 l3 l4 l5 4 = _ from hb) (ip (show (-4 : Int32) < 0 by decide) rfl))))))))))⟩
    · cases hj : bst n T (n * n * n * n) with
      | none => exact absurd ((sqN_bst hL.1).mpr hj) hq
      | some j =>
        obtain ⟨y, hb⟩ := best_yes hL ht hj g zg l1 l2 l3 l4 l5 v4
        have v1 : vl n T j ≤ 512 := assP_le _ h8
        exact ⟨_, bd_z hc (iq c1 (bd_z hc (iq c2 (bd_z hc (ip k1 (ip k2 (bd_z h9 (iq (nI_ge (a := 0) (by omega) hsq) (bd_z (show mX9_best f (nI n) g zg l1 l2 l3 l4 l5 4 = _ from hb) (iq (show ¬ nI (vl n T j) < 0 from nI_pos (by omega)) rfl))))))))))⟩
  · have k1 : ¬ Op.cmpValue (FP.dcmp (crk n (n * n * n - assP T n)) FP.dconst0) CmpOp.l = 0 := fun w => hk (by have := c3.mp w; omega)
    have k2 : ¬ nI (assP T n) = nI n * nI n * nI n := by rw [e3]; exact fun w => hk ((nI_eq (by omega) (by omega)).mp w)
    by_cases hq : sqN T n = 0
    · obtain ⟨y, hb⟩ := best_no hL ht ((sqN_bst hL.1).mp hq) g zg l1 l2 l3 l4 l5 v4
      exact ⟨_, bd_z hc (iq c1 (bd_z hc (iq c2 (bd_z hc (iq k1 (iq k2 (bd_z h9 (ip (by rw [hq]; decide) (bd_z (show mX9_best f (nI n) g zg l1 l2 l3 l4 l5 4 = _ from hb) (ip (show (-4 : Int32) < 0 by decide) rfl))))))))))⟩
    · cases hj : bst n T (n * n * n * n) with
      | none => exact absurd ((sqN_bst hL.1).mpr hj) hq
      | some j =>
        obtain ⟨y, hb⟩ := best_yes hL ht hj g zg l1 l2 l3 l4 l5 v4
        have v1 : vl n T j ≤ 512 := assP_le _ h8
        exact ⟨_, bd_z hc (iq c1 (bd_z hc (iq c2 (bd_z hc (iq k1 (iq k2 (bd_z h9 (iq (nI_ge (a := 0) (by omega) hsq) (bd_z (show mX9_best f (nI n) g zg l1 l2 l3 l4 l5 4 = _ from hb) (iq (show ¬ nI (vl n T j) < 0 from nI_pos (by omega)) rfl))))))))))⟩
end Best3
