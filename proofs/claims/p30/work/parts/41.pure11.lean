/-! the best little square -/
def qa (n k : Nat) : Nat := k / (n * n * n)
def qb (n k : Nat) : Nat := k / (n * n) % n
def qc (n k : Nat) : Nat := k / n % n
def qd (n k : Nat) : Nat := k % n
def ps (n a b c d : Nat) : Nat := ((a * n + b) * n + c) * n + d
theorem ps_q {n a b c d : Nat} (hb : b < n) (hc : c < n) (hd : d < n) : qa n (ps n a b c d) = a ∧ qb n (ps n a b c d) = b ∧ qc n (ps n a b c d) = c ∧ qd n (ps n a b c d) = d := by
  have h1 : ps n a b c d / n = (a * n + b) * n + c := (dm hd).1
  have h2 : ps n a b c d / (n * n) = a * n + b := by rw [← Nat.div_div_eq_div_mul, h1]; exact (dm hc).1
  have h3 : ps n a b c d / (n * n * n) = a := by rw [← Nat.div_div_eq_div_mul, h2]; exact (dm hb).1
  exact ⟨h3, by unfold qb; rw [h2]; exact (dm hb).2, by unfold qc; rw [h1]; exact (dm hc).2, (dm hd).2⟩
theorem ps_c (n a b c : Nat) : ps n a b c n = ps n a b (c + 1) 0 := by
  show ((a * n + b) * n + c) * n + n = (((a * n + b) * n + c) + 1) * n + 0
  rw [Nat.succ_mul]; rfl
theorem ps_b (n a b : Nat) : ps n a b n 0 = ps n a (b + 1) 0 0 := by
  show ((a * n + b) * n + n) * n + 0 = (((a * n + b) + 1) * n + 0) * n + 0
  rw [Nat.succ_mul]; rfl
theorem ps_a (n a : Nat) : ps n a n 0 0 = ps n (a + 1) 0 0 0 := by
  show ((a * n + n) * n + 0) * n + 0 = (((a + 1) * n + 0) * n + 0) * n + 0
  rw [Nat.succ_mul]; rfl
def cnd (n : Nat) (T : Nat → Nat → Nat) (k : Nat) : Bool := decide (qa n k < qb n k) && (decide (qc n k < qd n k) && sqB T (qa n k) (qb n k) (qc n k) (qd n k))
def vl (n : Nat) (T : Nat → Nat → Nat) (k : Nat) : Nat := assP (sqX T (qa n k) (qb n k) (qc n k) (qd n k)) n
def bstep (n : Nat) (T : Nat → Nat → Nat) (k : Nat) : Option Nat → Option Nat
  | none => some k
  | some j => if vl n T j < vl n T k then some k else some j
def bst (n : Nat) (T : Nat → Nat → Nat) : Nat → Option Nat
  | 0 => none
  | k + 1 => if cnd n T k = true then bstep n T k (bst n T k) else bst n T k
theorem bst_s (n : Nat) (T : Nat → Nat → Nat) (k : Nat) : bst n T (k + 1) = if cnd n T k = true then bstep n T k (bst n T k) else bst n T k := rfl
theorem bst_skip {n : Nat} {T : Nat → Nat → Nat} : ∀ d k, (∀ i, k ≤ i → i < k + d → cnd n T i = false) → bst n T (k + d) = bst n T k
  | 0, _, _ => rfl
  | d + 1, k, h => by
    rw [show k + (d + 1) = (k + d) + 1 by omega, bst_s, if_neg (by rw [h (k + d) (by omega) (by omega)]; decide)]
    exact bst_skip d k (fun i h1 h2 => h i h1 (by omega))
theorem bst_in {n : Nat} {T : Nat → Nat → Nat} : ∀ {k j : Nat}, bst n T k = some j → j < k
  | 0, j, h => by cases h
  | k + 1, j, h => by
    rw [bst_s] at h
    by_cases q : cnd n T k = true
    · rw [if_pos q] at h
      cases e : bst n T k with
      | none => rw [e] at h; cases h; omega
      | some i =>
        rw [e] at h
        have := bst_in e
        unfold bstep at h
        by_cases w : vl n T i < vl n T k
        · simp only [if_pos w] at h; cases h; omega
        · simp only [if_neg w] at h; cases h; omega
    · rw [if_neg q] at h
      have := bst_in h; omega
def bR (n : Nat) (T : Nat → Nat → Nat) (o : Option Nat) (y : Int32 × Int32 × Int32 × Int32 × Int32) : Prop := match o with
  | none => y.2.2.2.2 = -4
  | some j => y.1 = nI (qa n j) ∧ y.2.1 = nI (qb n j) ∧ y.2.2.1 = nI (qc n j) ∧ y.2.2.2.1 = nI (qd n j) ∧ y.2.2.2.2 = nI (vl n T j)
theorem assP_le (T : Nat → Nat → Nat) {n : Nat} (hn : n ≤ 8) : assP T n ≤ 512 := by
  have h1 : assP T n ≤ n * (n * (n * 1)) := sm_bound (fun a ha => sm_bound (fun b hb => sm_bound (fun c hc => by
    by_cases q : T (T a b) c = T a (T b c)
    · rw [if_pos q]; exact Nat.le_refl _
    · rw [if_neg q]; exact Nat.zero_le _)))
  have h2 : n * (n * (n * 1)) ≤ 8 * (8 * (8 * 1)) := Nat.mul_le_mul hn (Nat.mul_le_mul hn (Nat.mul_le_mul hn (Nat.le_refl _)))
  omega
section Best
variable {n : Nat} {T : Nat → Nat → Nat} {f s : Nat → Int32}
theorem X4_tryOut_ok (hL : Lat n T) (ht : tF n T f) {a b c d : Nat} (ha : a < n) (hb : b < n) (hc : c < n) (hd : d < n) (hab : a < b) (hcd : c < d) (hq : isSq T a b c d) {y : Int32 × Int32 × Int32 × Int32 × Int32} {o : Option Nat} (hr : bR n T o y) (hj : ∀ j, o = some j → j < 4096) : ∃ y', bR n T (bstep n T (ps n a b c d) o) y' ∧ mX4_tryOut f (nI n) y.1 y.2.1 y.2.2.1 y.2.2.2.1 y.2.2.2.2 (nI a) (nI b) (nI c) (nI d) = some (f, y'.1, y'.2.1, y'.2.2.1, y'.2.2.2.1, y'.2.2.2.2) := by
  have h8 := hL.2.1
  obtain ⟨p1, p2, p3, p4⟩ := ps_q (a := a) hb hc hd
  obtain ⟨g, h1, h2, h3⟩ := X6_swapSquare_ok hL.2.1 ht ha hb hc hd (by omega)
  have hU := Lat_sq hL ha hb hc hd (by omega) hq
  have hv : vl n T (ps n a b c d) = assP (sqX T a b c d) n := by unfold vl; rw [p1, p2, p3, p4]
  have hnew : bR n T (some (ps n a b c d)) (nI a, nI b, nI c, nI d, nI (vl n T (ps n a b c d))) := by
    exact ⟨congrArg nI p1.symm, congrArg nI p2.symm, congrArg nI p3.symm, congrArg nI p4.symm, rfl⟩
  have hb1 : vl n T (ps n a b c d) ≤ 512 := assP_le _ h8
  unfold mX4_tryOut
  rw [h1, bd_some, X8_associatingTriples_ok hU h2, bd_some, h3, bd_some, ← hv]
  cases o with
  | none =>
    refine ⟨_, hnew, ?_⟩
    rw [show y.2.2.2.2 = -4 from hr, if_neg]
    intro w
    have h4 := Int32.le_iff_toInt_le.mp w
    rw [nI_toInt (by omega)] at h4
    have h5 : (-4 : Int32).toInt = -4 := rfl
    omega
  | some j =>
    have hb2 : vl n T j ≤ 512 := assP_le _ h8
    have hr5 : y.2.2.2.2 = nI (vl n T j) := hr.2.2.2.2
    unfold bstep
    by_cases w : vl n T j < vl n T (ps n a b c d)
    · refine ⟨_, by simp only [if_pos w]; exact hnew, ?_⟩
      rw [hr5, if_neg (nI_ge w (by omega))]
    · refine ⟨y, by simp only [if_neg w]; exact hr, ?_⟩
      rw [hr5, if_pos (nI_le (by omega) (by omega))]
theorem ps_lt {n a b c d : Nat} (hn : n ≤ 8) (ha : a < n) (hb : b < n) (hc : c < n) (hd : d < n) : ps n a b c d < n * n * n * n := by
  have h1 := dm_in ha hb
  have h2 : (a * n + b) * n + c < n * n * n := by
    have := Nat.mul_le_mul_right n (show a * n + b + 1 ≤ n * n from h1)
    rw [Nat.succ_mul] at this
    omega
  have := Nat.mul_le_mul_right n (show (a * n + b) * n + c + 1 ≤ n * n * n from h2)
  rw [Nat.succ_mul] at this
  show ((a * n + b) * n + c) * n + d < n * n * n * n
  omega
theorem n4_le {n : Nat} (hn : n ≤ 8) : n * n * n * n ≤ 4096 := Nat.mul_le_mul (Nat.mul_le_mul (Nat.mul_le_mul hn hn) hn) hn
theorem n3_le {n : Nat} (hn : n ≤ 8) : n * n * n ≤ 512 := Nat.mul_le_mul (Nat.mul_le_mul hn hn) hn
theorem X4_L23_ok (hL : Lat n T) (ht : tF n T f) {a b c : Nat} (ha : a < n) (hb : b < n) (hc : c < n) (hab : a < b) (k : Int32 → Int32 → Int32 → Int32 → Int32 → Int32 → (Nat → Int32) → Option ((Nat → Int32) × Int32 × Int32 × Int32 × Int32 × Int32)) {y : Int32 × Int32 × Int32 × Int32 × Int32} (hr : bR n T (bst n T (ps n a b c 0)) y) : ∃ y', bR n T (bst n T (ps n a b (c + 1) 0)) y' ∧ mX4_findBestInRows_L23 (nI n) (nI a) (nI b) (nI n) (nI c) k FU (nI (c + 1)) y.1 y.2.1 y.2.2.1 y.2.2.2.1 y.2.2.2.2 f = k (nI n) y'.1 y'.2.1 y'.2.2.1 y'.2.2.2.1 y'.2.2.2.2 f := by
  have h8 := hL.2.1
  have hstart : bst n T (ps n a b c (c + 1)) = bst n T (ps n a b c 0) := by
    refine bst_skip (c + 1) (ps n a b c 0) (fun i h1 h2 => ?_)
    obtain ⟨d, rfl⟩ : ∃ d, i = ps n a b c 0 + d := ⟨i - ps n a b c 0, by omega⟩
    obtain ⟨p1, p2, p3, p4⟩ := ps_q (a := a) (d := d) hb hc (by omega)
    unfold cnd
    rw [show ps n a b c 0 + d = ps n a b c d from rfl, p3, p4, decide_eq_false (show ¬ c < d by omega), Bool.false_and, Bool.and_false]
  obtain ⟨m, y', hy, e⟩ := lpI (fun F x (y : Int32 × Int32 × Int32 × Int32 × Int32) => mX4_findBestInRows_L23 (nI n) (nI a) (nI b) (nI n) (nI c) k F x y.1 y.2.1 y.2.2.1 y.2.2.2.1 y.2.2.2.2 f) n (c + 1) (fun d y => bR n T (bst n T (ps n a b c d)) y) (by omega) (by omega) (fun F d y h1 hd hy => by
    obtain ⟨p1, p2, p3, p4⟩ := ps_q (a := a) hb hc hd
    have hc' : cnd n T (ps n a b c d) = sqB T a b c d := by
      unfold cnd
      rw [p1, p2, p3, p4, decide_eq_true hab, decide_eq_true (show c < d by omega), Bool.true_and, Bool.true_and]
    have hs1 : bst n T (ps n a b c (d + 1)) = if sqB T a b c d = true then bstep n T (ps n a b c d) (bst n T (ps n a b c d)) else bst n T (ps n a b c d) := by
      rw [← hc']; exact bst_s n T _
    have e1 : mX6_isLittleSquare f (nI a) (nI b) (nI c) (nI d) = some (bI (sqB T a b c d)) := X6_isLittleSquare_ok hL ht ha hb hc hd
    cases hq : sqB T a b c d with
    | false =>
      rw [hq] at hs1 e1
      refine ⟨y, by rw [hs1, if_neg (by decide)]; exact hy, ?_⟩
      show mX4_findBestInRows_L23 _ _ _ _ _ _ (F + 1) _ _ _ _ _ _ _ = _
      rw [mX4_findBestInRows_L23, if_neg (nI_ge hd (by omega)), e1, bd_some, if_pos (show bI false = 0 from rfl), nI_1]
    | true =>
      rw [hq] at hs1 e1
      obtain ⟨y', hy', e2⟩ := X4_tryOut_ok hL ht ha hb hc hd hab (by omega) (sqB_iff.mp hq) hy (fun j hj => by
        have := bst_in hj
        have h4 := ps_lt h8 ha hb hc hd
        have h5 := n4_le h8
        omega)
      refine ⟨y', by rw [hs1, if_pos rfl]; exact hy', ?_⟩
      show mX4_findBestInRows_L23 _ _ _ _ _ _ (F + 1) _ _ _ _ _ _ _ = _
      rw [mX4_findBestInRows_L23, if_neg (nI_ge hd (by omega)), e1, bd_some, if_neg (show ¬ bI true = 0 by decide), e2, bd_some, nI_1]) y (by rw [hstart]; exact hr)
  refine ⟨y', by rw [← ps_c]; exact hy, ?_⟩
  refine Eq.trans e ?_
  show mX4_findBestInRows_L23 _ _ _ _ _ _ (m + 1) _ _ _ _ _ _ _ = _
  rw [mX4_findBestInRows_L23, if_pos (nI_le (Nat.le_refl _) (by omega))]
theorem X4_bestIn_ok (hL : Lat n T) (ht : tF n T f) {a b : Nat} (ha : a < n) (hb : b < n) (hab : a < b) {y : Int32 × Int32 × Int32 × Int32 × Int32} (hr : bR n T (bst n T (ps n a b 0 0)) y) : ∃ y', bR n T (bst n T (ps n a (b + 1) 0 0)) y' ∧ mX4_findBestInRows f (nI n) y.1 y.2.1 y.2.2.1 y.2.2.2.1 y.2.2.2.2 (nI a) (nI b) = some (f, y'.1, y'.2.1, y'.2.2.1, y'.2.2.2.1, y'.2.2.2.2) := by
  have h8 := hL.2.1
  unfold mX4_findBestInRows
  rw [X6_size_ok, bd_some]
  obtain ⟨m, y', hy, e⟩ := lpI (fun F x (y : Int32 × Int32 × Int32 × Int32 × Int32) => mX4_findBestInRows_L11 (nI n) (nI a) (nI b) (nI n) (fun (x4_2 : Int32) (y_3 : Int32) (y_4 : Int32) (y_5 : Int32) (y_6 : Int32) (y_7 : Int32) (f_8 : Nat → Int32) => some (f_8, y_3, y_4, y_5, y_6, y_7)) F x y.1 y.2.1 y.2.2.1 y.2.2.2.1 y.2.2.2.2 f) n 0 (fun c y => bR n T (bst n T (ps n a b c 0)) y) (by omega) (by omega) (fun F c y _ hc hy => by
    obtain ⟨y', hy', e'⟩ := X4_L23_ok hL ht ha hb hc hab (fun (x5_17 : Int32) (y_18 : Int32) (y_19 : Int32) (y_20 : Int32) (y_21 : Int32) (y_22 : Int32) (f_23 : Nat → Int32) => mX4_findBestInRows_L11 (nI n) (nI a) (nI b) (nI n) (fun (x4_2 : Int32) (y_3 : Int32) (y_4 : Int32) (y_5 : Int32) (y_6 : Int32) (y_7 : Int32) (f_8 : Nat → Int32) => some (f_8, y_3, y_4, y_5, y_6, y_7)) F (nI (c + 1)) y_18 y_19 y_20 y_21 y_22 f_23) hy
    refine ⟨y', hy', ?_⟩
    show mX4_findBestInRows_L11 _ _ _ _ _ (F + 1) _ _ _ _ _ _ _ = _
    rw [mX4_findBestInRows_L11, if_neg (nI_ge hc (by omega)), nI_1]
    exact e') y hr
  refine ⟨y', by rw [← ps_b]; exact hy, ?_⟩
  refine Eq.trans e ?_
  show mX4_findBestInRows_L11 _ _ _ _ _ (m + 1) _ _ _ _ _ _ _ = _
  rw [mX4_findBestInRows_L11, if_pos (nI_le (Nat.le_refl _) (by omega))]
theorem ps_skip {a : Nat} (ha : a < n) : bst n T (ps n a (a + 1) 0 0) = bst n T (ps n a 0 0 0) := by
  have e : ps n a (a + 1) 0 0 = ps n a 0 0 0 + (a + 1) * n * n := by
    show ((a * n + (a + 1)) * n + 0) * n + 0 = ((a * n + 0) * n + 0) * n + 0 + (a + 1) * n * n
    simp only [Nat.add_zero, Nat.add_mul]
  rw [e]
  refine bst_skip _ _ (fun i h1 h2 => ?_)
  rw [← e] at h2
  have hn : 0 < n := by omega
  have hnn : 0 < n * n := Nat.mul_pos hn hn
  have e1 : ps n a 0 0 0 = (a * n) * (n * n) := by
    show ((a * n + 0) * n + 0) * n + 0 = _
    simp only [Nat.add_zero, Nat.mul_assoc]
  have e2 : ps n a (a + 1) 0 0 = (a * n + (a + 1)) * (n * n) := by
    show ((a * n + (a + 1)) * n + 0) * n + 0 = _
    simp only [Nat.add_zero, Nat.mul_assoc]
  have h3 : a * n ≤ i / (n * n) := (Nat.le_div_iff_mul_le hnn).mpr (by rw [← e1]; exact h1)
  have h4 : i / (n * n) < a * n + (a + 1) := (Nat.div_lt_iff_lt_mul hnn).mpr (by rw [← e2]; exact h2)
  obtain ⟨t, ht⟩ : ∃ t, i / (n * n) = a * n + t := ⟨i / (n * n) - a * n, by omega⟩
  have e3 : qa n i = a := by
    unfold qa
    rw [← Nat.div_div_eq_div_mul, ht]
    exact (dm (by omega)).1
  have e4 : qb n i = t := by
    unfold qb
    rw [ht]
    exact (dm (by omega)).2
  unfold cnd
  rw [e3, e4, decide_eq_false (show ¬ a < t by omega), Bool.false_and]
theorem X4_findBest_ok (hL : Lat n T) (ht : tF n T f) (g : Nat → Int32) (l1 l2 l3 l4 : Int32) : ∃ y g', bR n T (bst n T (n * n * n * n)) y ∧ mX4_findBest g l1 l2 l3 l4 f (nI n) = some (if y.2.2.2.2 = -4 then 0 else 1, g', nI n, y.1, y.2.1, y.2.2.1, y.2.2.2.1, y.2.2.2.2) := by
  have h8 := hL.2.1
  unfold mX4_findBest
  rw [X6_size_ok, bd_some, X6_copyFrom_ok, bd_some]
  have ht2 : tF n T (cpy 64 g f) := tF_cpy h8 ht
  generalize cpy 64 g f = g' at ht2
  obtain ⟨m, y', hy, e⟩ := lpI (fun F x (y : Int32 × Int32 × Int32 × Int32 × Int32) => mX4_findBest_L21 (nI n) (g', nI n) (fun (x3_3 : Int32) (y_4 : Int32) (y_5 : Int32) (y_6 : Int32) (y_7 : Int32) (y_8 : Int32) (f_9 : Nat → Int32) => if y_8 = (-4) then (some (0, f_9, nI n, y_4, y_5, y_6, y_7, y_8)) else (some (1, f_9, nI n, y_4, y_5, y_6, y_7, y_8))) F x y.1 y.2.1 y.2.2.1 y.2.2.2.1 y.2.2.2.2 g') n 0 (fun a y => bR n T (bst n T (ps n a 0 0 0)) y) (by omega) (by omega) (fun F a y _ ha hy => by
    obtain ⟨m, y', hy', e'⟩ := lpI (fun F2 x (y : Int32 × Int32 × Int32 × Int32 × Int32) => mX4_findBest_L31 (nI n) (g', nI n) (nI a) (fun (x4_18 : Int32) (y_19 : Int32) (y_20 : Int32) (y_21 : Int32) (y_22 : Int32) (y_23 : Int32) (f_24 : Nat → Int32) => mX4_findBest_L21 (nI n) (g', nI n) (fun (x3_3 : Int32) (y_4 : Int32) (y_5 : Int32) (y_6 : Int32) (y_7 : Int32) (y_8 : Int32) (f_9 : Nat → Int32) => if y_8 = (-4) then (some (0, f_9, nI n, y_4, y_5, y_6, y_7, y_8)) else (some (1, f_9, nI n, y_4, y_5, y_6, y_7, y_8))) F (nI (a + 1)) y_19 y_20 y_21 y_22 y_23 f_24) F2 x y.1 y.2.1 y.2.2.1 y.2.2.2.1 y.2.2.2.2 g') n (a + 1) (fun b y => bR n T (bst n T (ps n a b 0 0)) y) (by omega) (by omega) (fun F2 b y h1 hb hy => by
      obtain ⟨y', hy', e'⟩ := X4_bestIn_ok hL ht2 ha hb (show a < b by omega) hy
      refine ⟨y', hy', ?_⟩
      show mX4_findBest_L31 _ _ _ _ (F2 + 1) _ _ _ _ _ _ _ = _
      rw [mX4_findBest_L31, if_neg (nI_ge hb (by omega)), e', bd_some, nI_1]) y (by rw [ps_skip ha]; exact hy)
    refine ⟨y', by rw [← ps_a]; exact hy', ?_⟩
    show mX4_findBest_L21 _ _ _ (F + 1) _ _ _ _ _ _ _ = _
    rw [mX4_findBest_L21, if_neg (nI_ge ha (by omega)), nI_1]
    refine Eq.trans e' ?_
    show mX4_findBest_L31 _ _ _ _ (m + 1) _ _ _ _ _ _ _ = _
    rw [mX4_findBest_L31, if_pos (nI_le (Nat.le_refl _) (by omega))]) (l1, l2, l3, l4, -4) (by
      show bR n T (bst n T (((0 * n + 0) * n + 0) * n + 0)) _
      simp only [Nat.zero_mul, Nat.add_zero]; exact rfl)
  refine ⟨y', g', ?_, ?_⟩
  · have : ps n n 0 0 0 = n * n * n * n := rfl
    rw [← this]; exact hy
  · refine Eq.trans e ?_
    show mX4_findBest_L21 _ _ _ (m + 1) _ _ _ _ _ _ _ = _
    rw [mX4_findBest_L21, if_pos (nI_le (Nat.le_refl _) (by omega))]
    by_cases q : y'.2.2.2.2 = -4
    · rw [if_pos q, if_pos q]
    · rw [if_neg q, if_neg q]
end Best
