/-! the class sums the parts of the row -/
def ixC (fr len t : Nat) : Nat := (fr * 8 + len) * 8 + t
theorem ixC_inj : Inj ixC := fun a l z a' l' z' h1 h2 h3 h4 h5 h6 e => by
  unfold ixC at e
  omega
theorem ixC_lt {fr len t : Nat} (h2 : fr + len ≤ 7) (h3 : t < 8) (h1 : fr < 7) : ixC fr len t < 448 := by unfold ixC; omega
section ClassParts
variable {n : Nat} {T : Nat → Nat → Nat} {f : Nat → Int32} {R : Nat → Nat} {L : Nat}
theorem X3_place (fr len t : Nat) : mX3_partPlace (nI fr) (nI len) (nI t) = some (nI (ixC fr len t)) := by
  unfold mX3_partPlace
  rw [l_8, pk_mul, nI_add, pk_mul, nI_add]; rfl
theorem X3_ways_ok {g : Nat → Int32} {v : Nat → Nat → Nat → Nat} (hn : n ≤ 8) (hL : L ≤ 7) (h : Cel ixC L n g v) {fr len t : Nat} (h1 : 1 ≤ len) (h2 : fr + len ≤ L) (h3 : t < n) : mX3_partWays g (nI fr) (nI len) (nI t) = some (nI (v fr len t)) := by
  have := ixC_lt (fr := fr) (len := len) (t := t) (by omega) (by omega) (by omega)
  unfold mX3_partWays
  rw [X3_place, bd_some, X9_get_ok this (by omega), bd_some, h fr len t h1 h2 h3]
theorem X3_add_ok {g : Nat → Int32} {v : Nat → Nat → Nat → Nat} (hn : n ≤ 8) (hL : L ≤ 7) {a l z w : Nat} {b : Nat → Nat} (h : Cel ixC L n g (gv v a l b)) (h1 : 1 ≤ l) (h2 : a + l ≤ L) (h3 : z < n) : ∃ g', mX3_addWays g (nI a) (nI l) (nI z) (nI w) = some g' ∧ Cel ixC L n g' (gv v a l (fun t => b t + if z = t then w else 0)) := by
  have := ixC_lt (fr := a) (len := l) (t := z) (by omega) (by omega) (by omega)
  refine ⟨_, ?_, Cel_step ixC_inj hL hn h1 h2 h3 h⟩
  unfold mX3_addWays
  rw [X3_place, bd_some, X3_ways_ok hn hL h h1 h2 h3, bd_some, gv_in, nI_add, X9_put_ok this (by omega), bd_some]
theorem X3_L33_ok (hLa : Lat n T) (ht : tF n T f) (hL : L ≤ 7) {g : Nat → Int32} {v : Nat → Nat → Nat → Nat} {a l k x A : Nat} {b : Nat → Nat} (h : Cel ixC L n g (gv v a l b)) (h1 : 1 ≤ k) (h2 : k < l) (h3 : a + l ≤ L) (hx : x < n) (K : Int32 → (Nat → Int32) → Option (Nat → Int32)) : ∃ g', Cel ixC L n g' (gv v a l (fun t => b t + sm (fun y => if T x y = t then A * v (a + k) (l - k) y else 0) n)) ∧ mX3_sumCut_L33 f (nI n) (nI a) (nI k) (nI l) (nI A) (nI x) K FU 0 g = K (nI n) g' := by
  have h8 := hLa.2.1
  obtain ⟨m, g', hg, e⟩ := lpI (fun F y g => mX3_sumCut_L33 f (nI n) (nI a) (nI k) (nI l) (nI A) (nI x) K F y g) n 0 (fun j g => Cel ixC L n g (gv v a l (fun t => b t + sm (fun y => if T x y = t then A * v (a + k) (l - k) y else 0) j))) (by omega) (by omega) (fun F j g _ hj hI => by
    have hT := hLa.2.2.1 x j hx hj
    obtain ⟨g', e1, e2⟩ := X3_add_ok (w := A * v (a + k) (l - k) j) h8 hL hI (by omega) h3 hT
    refine ⟨g', ?_, ?_⟩
    · refine Cel_eq e2 (fun fr len t _ _ _ => ?_)
      by_cases q : fr = a ∧ len = l
      · obtain ⟨rfl, rfl⟩ := q
        rw [gv_in, gv_in, sm_s, Nat.add_assoc]
      · rw [gv_out _ _ _ q, gv_out _ _ _ q]
    · show mX3_sumCut_L33 _ _ _ _ _ _ _ _ (F + 1) _ _ = _
      rw [mX3_sumCut_L33, X6_size_ok, bd_some, if_neg (nI_ge hj (by omega)), nI_add, nI_sub (by omega), X3_ways_ok h8 hL hI (by omega) (by omega) hj, bd_some, gv_out _ _ _ (by omega), X6_at_ok h8 ht hx hj, bd_some, pk_mul, e1, bd_some, nI_1]) g h
  refine ⟨g', hg, ?_⟩
  refine Eq.trans e ?_
  show mX3_sumCut_L33 _ _ _ _ _ _ _ _ (m + 1) _ _ = _
  rw [mX3_sumCut_L33, X6_size_ok, bd_some, if_pos (nI_le (Nat.le_refl _) (by omega))]
theorem X3_sumCut_ok (hLa : Lat n T) (ht : tF n T f) (hL : L ≤ 7) {g : Nat → Int32} {v : Nat → Nat → Nat → Nat} {a l k : Nat} {b : Nat → Nat} (h : Cel ixC L n g (gv v a l b)) (h1 : 1 ≤ k) (h2 : k < l) (h3 : a + l ≤ L) : ∃ g', mX3_sumCut g f (nI n) (nI a) (nI k) (nI l) = some g' ∧ Cel ixC L n g' (gv v a l (fun t => b t + cut n T v a l k t)) := by
  have h8 := hLa.2.1
  unfold mX3_sumCut
  obtain ⟨m, g', hg, e⟩ := lpI (fun F y g => mX3_sumCut_L3 f (nI n) (nI a) (nI k) (nI l) (fun (x5_1 : Int32) (f_2 : Nat → Int32) => some (f_2)) F y g) n 0 (fun i g => Cel ixC L n g (gv v a l (fun t => b t + sm (fun x => sm (fun y => if T x y = t then v a k x * v (a + k) (l - k) y else 0) n) i))) (by omega) (by omega) (fun F i g _ hi hI => by
    have q1 : mX3_sumCut_L3 f (nI n) (nI a) (nI k) (nI l) (fun (x5_1 : Int32) (f_2 : Nat → Int32) => some (f_2)) (F + 1) (nI i) g = if nI (v a k i) = 0 then mX3_sumCut_L3 f (nI n) (nI a) (nI k) (nI l) (fun (x5_1 : Int32) (f_2 : Nat → Int32) => some (f_2)) F (nI (i + 1)) g else mX3_sumCut_L33 f (nI n) (nI a) (nI k) (nI l) (nI (v a k i)) (nI i) (fun (x7_8 : Int32) (f_9 : Nat → Int32) => mX3_sumCut_L3 f (nI n) (nI a) (nI k) (nI l) (fun (x5_1 : Int32) (f_2 : Nat → Int32) => some (f_2)) F (nI (i + 1)) f_9) FU 0 g := by
      rw [mX3_sumCut_L3, X6_size_ok, bd_some, if_neg (nI_ge hi (by omega)), X3_ways_ok h8 hL hI h1 (by omega) hi, bd_some, gv_out _ _ _ (by omega), nI_1]
    by_cases c : nI (v a k i) = 0
    · refine ⟨g, Cel_eq hI (fun fr len t _ _ _ => ?_), ?_⟩
      · by_cases q : fr = a ∧ len = l
        · obtain ⟨rfl, rfl⟩ := q
          rw [gv_in, gv_in, sm_s, ← Nat.add_assoc]
          refine (nI_sm0 (fun y _ => ?_)).symm
          by_cases w : T i y = t
          · rw [if_pos w, ← pk_mul, c, Int32.zero_mul]
          · rw [if_neg w]; rfl
        · rw [gv_out _ _ _ q, gv_out _ _ _ q]
      · exact q1.trans (if_pos c)
    · obtain ⟨g', e1, e2⟩ := X3_L33_ok (A := v a k i) hLa ht hL hI h1 h2 h3 hi (fun (x7_8 : Int32) (f_9 : Nat → Int32) => mX3_sumCut_L3 f (nI n) (nI a) (nI k) (nI l) (fun (x5_1 : Int32) (f_2 : Nat → Int32) => some (f_2)) F (nI (i + 1)) f_9)
      refine ⟨g', Cel_eq e1 (fun fr len t _ _ _ => ?_), (q1.trans (if_neg c)).trans e2⟩
      by_cases q : fr = a ∧ len = l
      · obtain ⟨rfl, rfl⟩ := q
        rw [gv_in, gv_in, sm_s, Nat.add_assoc]
      · rw [gv_out _ _ _ q, gv_out _ _ _ q]) g h
  refine ⟨g', ?_, hg⟩
  refine Eq.trans e ?_
  show mX3_sumCut_L3 _ _ _ _ _ _ (m + 1) _ _ = _
  rw [mX3_sumCut_L3, X6_size_ok, bd_some, if_pos (nI_le (Nat.le_refl _) (by omega))]
theorem X3_L82_ok (hLa : Lat n T) (ht : tF n T f) (hL : L ≤ 7) {g : Nat → Int32} {a l : Nat} (h : Cel ixC L n g (vG R n T l a)) (h1 : 2 ≤ l) (h3 : a + l ≤ L) (K : Int32 → (Nat → Int32) → Option (Nat → Int32)) : ∃ g', Cel ixC L n g' (vG R n T l (a + 1)) ∧ mX3_sumParts_L82 f (nI n) (nI l) (nI a) K FU 1 g = K (nI l) g' := by
  have h8 := hLa.2.1
  obtain ⟨m, g', hg, e⟩ := lpI (fun F y g => mX3_sumParts_L82 f (nI n) (nI l) (nI a) K F y g) l 1 (fun k g => Cel ixC L n g (gv (vG R n T l a) a l (fun t => sm (fun k => cut n T (vG R n T l a) a l (k + 1) t) (k - 1)))) (by omega) (by omega) (fun F k g hk0 hk hI => by
    obtain ⟨g', e1, e2⟩ := X3_sumCut_ok hLa ht hL hI hk0 hk h3
    refine ⟨g', Cel_eq e2 (fun fr len t _ _ _ => ?_), ?_⟩
    · by_cases q : fr = a ∧ len = l
      · obtain ⟨rfl, rfl⟩ := q
        obtain ⟨c, rfl⟩ : ∃ c, k = c + 1 := ⟨k - 1, by omega⟩
        rw [gv_in, gv_in, show c + 1 + 1 - 1 = c + 1 by omega, show c + 1 - 1 = c by omega, sm_s]
      · rw [gv_out _ _ _ q, gv_out _ _ _ q]
    · show mX3_sumParts_L82 _ _ _ _ _ (F + 1) _ _ = _
      rw [mX3_sumParts_L82, if_neg (nI_ge hk (by omega)), e1, bd_some, nI_1]) g (Cel_eq h (fun fr len t _ _ _ => by rw [← vG_0 (R := R) (T := T)]; rfl))
  refine ⟨g', Cel_eq hg (fun fr len t _ _ _ => ?_), ?_⟩
  · rw [← vG_gv]
    by_cases q : fr = a ∧ len = l
    · obtain ⟨rfl, rfl⟩ := q
      rw [gv_in, gv_in, vG_cut h1 (by omega)]
    · rw [gv_out _ _ _ q, gv_out _ _ _ q]
  · refine Eq.trans e ?_
    show mX3_sumParts_L82 _ _ _ _ _ (m + 1) _ _ = _
    rw [mX3_sumParts_L82, if_pos (nI_le (Nat.le_refl _) (by omega))]
theorem X3_sumParts_ok (hLa : Lat n T) (ht : tF n T f) (h1 : 1 ≤ L) (hL : L ≤ 7) {row : Nat → Int32} (hR : ∀ i, i < L → R i < n ∧ row i = nI (R i)) (g : Nat → Int32) : ∃ g', mX3_sumParts row g (nI L) f (nI n) = some g' ∧ Cel ixC L n g' (Wy R n T) := by
  have h8 := hLa.2.1
  unfold mX3_sumParts
  generalize hK2 : (fun (x2_3 : Int32) (f_4 : Nat → Int32) => mX3_sumParts_L59 (nI L) f (nI n) (fun (x2_5 : Int32) (f_6 : Nat → Int32) => some (f_6)) FU 2 f_4) = K2
  obtain ⟨m, g1, hg1, e1⟩ := lpI (fun F y g => mX3_sumParts_L2 (fun (x2_1 : Int32) (f_2 : Nat → Int32) => mX3_sumParts_L28 row (nI L) K2 FU 0 f_2) F y g) 448 0 (fun i g => ∀ j, j < i → g j = 0) (by omega) (by omega) (fun F i g _ hi hI => by
    refine ⟨upd g i 0, fun j hj => ?_, ?_⟩
    · by_cases q : j = i
      · subst q; exact upd_eq _ _ _
      · rw [upd_ne _ _ q]; exact hI j (by omega)
    · show mX3_sumParts_L2 _ (F + 1) _ _ = _
      rw [mX3_sumParts_L2, if_neg (show ¬ (448 : Int32) ≤ nI i from nI_ge (b := 448) hi (by omega)), X9_put_ok hi (by omega), bd_some, nI_1]) g (fun j hj => absurd hj (Nat.not_lt_zero _))
  have c0 : Cel ixC L n g1 (vG R n T 1 0) := fun fr len t h1 h2 h3 => by
    rw [hg1 _ (ixC_lt (by omega) (by omega) (by omega))]; unfold vG
    rw [if_neg (by omega)]; rfl
  obtain ⟨m2, g2, hg2, e2⟩ := lpI (fun F y g => mX3_sumParts_L28 row (nI L) K2 F y g) L 0 (fun i g => Cel ixC L n g (vG R n T 1 i)) (by omega) (by omega) (fun F i g _ hi hI => by
    obtain ⟨hr1, hr2⟩ := hR i hi
    have hI' : Cel ixC L n g (gv (vG R n T 1 i) i 1 (fun _ => 0)) := Cel_eq hI (fun fr len t _ _ _ => by rw [vG_0])
    obtain ⟨g', a1, a2⟩ := X3_add_ok (w := 1) h8 hL hI' (by omega) (by omega) hr1
    refine ⟨g', Cel_eq a2 (fun fr len t _ _ _ => ?_), ?_⟩
    · rw [← vG_gv]
      by_cases q : fr = i ∧ len = 1
      · obtain ⟨rfl, rfl⟩ := q
        rw [gv_in, gv_in, Wy_1, Nat.zero_add]
      · rw [gv_out _ _ _ q, gv_out _ _ _ q]
    · show mX3_sumParts_L28 _ _ _ (F + 1) _ _ = _
      rw [mX3_sumParts_L28, if_neg (nI_ge hi (by omega)), X9_get_ok (by omega) (by omega), bd_some, hr2, show mX3_addWays g (nI i) 1 (nI (R i)) 1 = some g' from a1, bd_some, nI_1]) g1 c0
  have e2' : mX3_sumParts_L28 row (nI L) K2 FU 0 g1 = K2 (nI L) g2 := by
    refine Eq.trans e2 ?_
    show mX3_sumParts_L28 _ _ _ (m2 + 1) _ _ = _
    rw [mX3_sumParts_L28, if_pos (nI_le (Nat.le_refl _) (by omega))]
  obtain ⟨m3, g3, hg3, e3⟩ := lpI (fun F y g => mX3_sumParts_L59 (nI L) f (nI n) (fun (x2_5 : Int32) (f_6 : Nat → Int32) => some (f_6)) F y g) (L + 1) (if L + 1 < 2 then L + 1 else 2) (fun l g => Cel ixC L n g (vG R n T l 0)) (by
      by_cases q : L + 1 < 2
      · rw [if_pos q]; exact Nat.le_refl _
      · rw [if_neg q]; omega) (by omega) (fun F l g hl0 hl hI => by
    have hl2 : 2 ≤ l := by
      by_cases q : L + 1 < 2
      · omega
      · rw [if_neg q] at hl0; exact hl0
    obtain ⟨m, g', hg, e⟩ := lpI (fun F2 y g => mX3_sumParts_L69 (nI L) f (nI n) (nI l) (fun (x3_10 : Int32) (f_11 : Nat → Int32) => mX3_sumParts_L59 (nI L) f (nI n) (fun (x2_5 : Int32) (f_6 : Nat → Int32) => some (f_6)) F (nI (l + 1)) f_11) F2 y g) (L - l + 1) 0 (fun i g => Cel ixC L n g (vG R n T l i)) (by omega) (by omega) (fun F2 i g _ hi hJ => by
      obtain ⟨g', a1, a2⟩ := X3_L82_ok hLa ht hL hJ hl2 (by omega) (fun (x4_15 : Int32) (f_16 : Nat → Int32) => mX3_sumParts_L69 (nI L) f (nI n) (nI l) (fun (x3_10 : Int32) (f_11 : Nat → Int32) => mX3_sumParts_L59 (nI L) f (nI n) (fun (x2_5 : Int32) (f_6 : Nat → Int32) => some (f_6)) F (nI (l + 1)) f_11) F2 (nI (i + 1)) f_16)
      refine ⟨g', a1, ?_⟩
      show mX3_sumParts_L69 _ _ _ _ _ (F2 + 1) _ _ = _
      rw [mX3_sumParts_L69, nI_add, if_neg (nI_nlt (by omega) (by omega)), nI_1]
      exact a2) g hI
    refine ⟨g', Cel_eq hg (fun fr len t _ _ _ => ?_), ?_⟩
    · unfold vG
      by_cases q : len < l ∨ (len = l ∧ fr < L - l + 1)
      · rw [if_pos q, if_pos (by omega)]
      · rw [if_neg q, if_neg (by omega)]
    · show mX3_sumParts_L59 _ _ _ _ (F + 1) _ _ = _
      rw [mX3_sumParts_L59, if_neg (nI_nlt (by omega) (by omega)), nI_1]
      refine Eq.trans e ?_
      show mX3_sumParts_L69 _ _ _ _ _ (m + 1) _ _ = _
      rw [mX3_sumParts_L69, nI_add, if_pos (nI_lt (by omega) (by omega))]) g2 (Cel_eq hg2 (fun fr len t _ _ _ => by
        rw [if_neg (by omega)]
        unfold vG
        by_cases q : len < 1 ∨ (len = 1 ∧ fr < L)
        · rw [if_pos q, if_pos (by omega)]
        · rw [if_neg q, if_neg (by omega)]))
  rw [if_neg (by omega)] at e3
  refine ⟨g3, ?_, Cel_eq hg3 (fun fr len t _ _ _ => by unfold vG; rw [if_pos (by omega)])⟩
  refine Eq.trans e1 ?_
  show mX3_sumParts_L2 _ (m + 1) _ _ = _
  rw [mX3_sumParts_L2, if_pos (show (448 : Int32) ≤ nI 448 from nI_le (a := 448) (Nat.le_refl _) (by omega)), e2', ← hK2]
  refine Eq.trans e3 ?_
  show mX3_sumParts_L59 _ _ _ _ (m3 + 1) _ _ = _
  rw [mX3_sumParts_L59, if_pos (nI_lt (by omega) (by omega))]
end ClassParts
