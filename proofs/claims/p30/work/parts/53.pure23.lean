/-! sums of the row: from the left, from the right, the possible ones, the likeliest -/
def rowR (n : Nat) (h : Nat → Int32) (L : Nat) (R : Nat → Nat) : Prop := ∀ i, i < L → R i < n ∧ h i - 48 = nI (R i)
theorem isRow_R {n : Nat} {h : Nat → Int32} {L : Nat} (hn : n ≤ 8) (hr : isRow n h L) : ∃ R, rowR n h L R := by
  refine ⟨fun i => (h i - 48).toNatClampNeg, fun i hi => ?_⟩
  obtain ⟨t, t1, t2⟩ := hr.2.2 i hi
  show (h i - 48).toNatClampNeg < n ∧ h i - 48 = nI (h i - 48).toNatClampNeg
  rw [t2, nI_clamp (by omega)]; exact ⟨t1, rfl⟩
def fL (R : Nat → Nat) (T : Nat → Nat → Nat) : Nat → Nat
  | 0 => R 0
  | i + 1 => T (fL R T i) (R (i + 1))
def fR (R : Nat → Nat) (T : Nat → Nat → Nat) (L : Nat) : Nat → Nat
  | 0 => R (L - 1)
  | i + 1 => T (R (L - 1 - (i + 1))) (fR R T L i)
section RowSums
variable {n : Nat} {T : Nat → Nat → Nat} {f s h row : Nat → Int32} {R : Nat → Nat} {L : Nat}
theorem fL_lt (hLa : Lat n T) (hR : rowR n h L R) : ∀ i, i < L → fL R T i < n
  | 0, hi => (hR 0 hi).1
  | i + 1, hi => hLa.2.2.1 _ _ (fL_lt hLa hR i (by omega)) (hR (i + 1) hi).1
theorem fR_lt (hLa : Lat n T) (hR : rowR n h L R) (h1 : 1 ≤ L) : ∀ i, i < L → fR R T L i < n
  | 0, hi => (hR (L - 1) (by omega)).1
  | i + 1, hi => hLa.2.2.1 _ _ (hR (L - 1 - (i + 1)) (by omega)).1 (fR_lt hLa hR h1 i (by omega))
theorem left_both (hLa : Lat n T) (ht : tF n T f) (hs : sF n T s) (h1 : 1 ≤ L) (hL : L ≤ 7) (hR : rowR n h L R) (hrow : rowIs row h L) : mX3_sumFromLeft row (nI L) f = some (nI (fL R T (L - 1))) ∧ mX10_sumOneWay s h (nI L) 1 = some (nI (fL R T (L - 1))) := by
  have h8 := hLa.2.1
  constructor
  · unfold mX3_sumFromLeft
    rw [show mX9_get 7 row 0 = some (row 0) from X9_get_ok (i := 0) (by omega) (by omega), bd_some, hrow 0 (by omega), (hR 0 (by omega)).2]
    obtain ⟨m, e⟩ := lpU (fun F x q => mX3_sumFromLeft_L11 row (nI L) f (fun (x3_2 : Int32) (x2_3 : Int32) => some (x2_3)) F x q) L 1 (fun i => nI (fL R T (i - 1))) h1 (by omega) (fun F i hi0 hi => by
      obtain ⟨r1, r2⟩ := hR i hi
      have := fL_lt hLa hR (i - 1) (by omega)
      show mX3_sumFromLeft_L11 _ _ _ _ (F + 1) _ _ = _
      rw [mX3_sumFromLeft_L11, if_neg (nI_ge hi (by omega)), X9_get_ok (by omega) (by omega), bd_some, hrow i hi, r2, X6_at_ok h8 ht this r1, bd_some, nI_1]
      obtain ⟨j, rfl⟩ : ∃ j, i = j + 1 := ⟨i - 1, by omega⟩
      rfl)
    refine Eq.trans e ?_
    show mX3_sumFromLeft_L11 _ _ _ _ (m + 1) _ _ = _
    rw [mX3_sumFromLeft_L11, if_pos (nI_le (Nat.le_refl _) (by omega))]
  · unfold mX10_sumOneWay
    rw [if_neg (show ¬ (1 : Int32) = 0 by decide), show h (0 : Int32).toNatClampNeg - 48 = nI (R 0) from (hR 0 (by omega)).2]
    obtain ⟨m, e⟩ := lpU (fun F x q => mX10_sumOneWay_L33 s h (nI L) 1 (fun (x3_9 : Int32) (x2_10 : Int32) => some (x2_10)) F x q) L 1 (fun i => nI (fL R T (i - 1))) h1 (by omega) (fun F i hi0 hi => by
      obtain ⟨r1, r2⟩ := hR i hi
      have := fL_lt hLa hR (i - 1) (by omega)
      show mX10_sumOneWay_L33 _ _ _ _ _ (F + 1) _ _ = _
      rw [mX10_sumOneWay_L33, if_neg (nI_ge hi (by omega)), if_neg (show ¬ (1 : Int32) = 0 by decide), gd_t (inb_nI (by omega) (by omega)), nI_clamp (by omega), r2, m_plain hLa hs this r1, bd_some, nI_1]
      obtain ⟨j, rfl⟩ : ∃ j, i = j + 1 := ⟨i - 1, by omega⟩
      rfl)
    refine Eq.trans e ?_
    show mX10_sumOneWay_L33 _ _ _ _ _ (m + 1) _ _ = _
    rw [mX10_sumOneWay_L33, if_pos (nI_le (Nat.le_refl _) (by omega))]
theorem right_both (hLa : Lat n T) (ht : tF n T f) (hs : sF n T s) (h1 : 1 ≤ L) (hL : L ≤ 7) (hR : rowR n h L R) (hrow : rowIs row h L) : mX3_sumFromRight row (nI L) f = some (nI (fR R T L (L - 1))) ∧ mX10_sumOneWay s h (nI L) 0 = some (nI (fR R T L (L - 1))) := by
  have h8 := hLa.2.1
  have e1 : nI L - 1 = nI (L - 1) := nI_sub (b := 1) h1
  constructor
  · unfold mX3_sumFromRight
    have e2 : nI L - 2 = nI (L - 1) - 1 := by
      rw [← e1]
      rcases (show L = 1 ∨ L = 2 ∨ L = 3 ∨ L = 4 ∨ L = 5 ∨ L = 6 ∨ L = 7 by omega) with rfl | rfl | rfl | rfl | rfl | rfl | rfl <;> rfl
    rw [e1, X9_get_ok (by omega) (by omega), bd_some, hrow (L - 1) (by omega), (hR (L - 1) (by omega)).2, e2]
    obtain ⟨m, q, hq, e⟩ := lpD (fun F x (q : Int32) => mX3_sumFromRight_L21 row f (fun (x3_2 : Int32) (x2_3 : Int32) => some (x2_3)) F (x - 1) q) (L - 1) (fun i q => q = nI (fR R T L (L - 1 - i))) (by omega) (fun F i q hi hq => by
      obtain ⟨r1, r2⟩ := hR i (by omega)
      have := fR_lt hLa hR h1 (L - 1 - (i + 1)) (by omega)
      refine ⟨nI (fR R T L (L - 1 - i)), rfl, ?_⟩
      show mX3_sumFromRight_L21 _ _ _ (F + 1) (nI (i + 1) - 1) _ = mX3_sumFromRight_L21 _ _ _ F (nI i - 1) _
      rw [nI_pred, mX3_sumFromRight_L21, if_neg (nI_pos (by omega)), X9_get_ok (by omega) (by omega), bd_some, hrow i (by omega), r2, hq, X6_at_ok h8 ht r1 this, bd_some, ← Int32.sub_eq_add_neg]
      have e3 : fR R T L (L - 1 - i) = T (R i) (fR R T L (L - 1 - (i + 1))) := by
        obtain ⟨j, hj⟩ : ∃ j, L - 1 - i = j + 1 := ⟨L - 1 - (i + 1), by omega⟩
        rw [hj, show L - 1 - (i + 1) = j by omega]
        show T (R (L - 1 - (j + 1))) _ = _
        rw [show L - 1 - (j + 1) = i by omega]
      rw [e3]) (nI (R (L - 1))) (by rw [Nat.sub_self]; rfl)
    refine Eq.trans e ?_
    show mX3_sumFromRight_L21 _ _ _ (m + 1) (nI 0 - 1) _ = _
    rw [mX3_sumFromRight_L21, if_pos (show nI 0 - 1 < (0 : Int32) by decide), hq]; rfl
  · unfold mX10_sumOneWay
    rw [if_pos rfl, e1, gd_t (inb_nI (by omega) (by omega)), nI_clamp (by omega), (hR (L - 1) (by omega)).2]
    obtain ⟨m, e⟩ := lpU (fun F x q => mX10_sumOneWay_L33 s h (nI L) 0 (fun (x3_9 : Int32) (x2_10 : Int32) => some (x2_10)) F x q) L 1 (fun i => nI (fR R T L (i - 1))) h1 (by omega) (fun F i hi0 hi => by
      obtain ⟨r1, r2⟩ := hR (L - 1 - i) (by omega)
      have := fR_lt hLa hR h1 (i - 1) (by omega)
      show mX10_sumOneWay_L33 _ _ _ _ _ (F + 1) _ _ = _
      rw [mX10_sumOneWay_L33, if_neg (nI_ge hi (by omega)), if_pos rfl, e1, nI_sub (by omega), gd_t (inb_nI (by omega) (by omega)), nI_clamp (by omega), r2, m_plain hLa hs r1 this, bd_some, nI_1]
      obtain ⟨j, rfl⟩ : ∃ j, i = j + 1 := ⟨i - 1, by omega⟩
      rfl)
    refine Eq.trans e ?_
    show mX10_sumOneWay_L33 _ _ _ _ _ (m + 1) _ _ = _
    rw [mX10_sumOneWay_L33, if_pos (nI_le (Nat.le_refl _) (by omega))]
/-- the tokens that the whole row can come to, and the likeliest -/
def pS (w : Nat → Nat) : Nat → Nat
  | 0 => 0
  | i + 1 => if nI (w i) ≤ 0 then pS w i else pS w i ||| 2 ^ i
def bS (w : Nat → Nat) : Nat → Nat
  | 0 => 0
  | i + 1 => if nI (w i) ≤ nI (w (bS w i)) then bS w i else i
theorem pS_lt (w : Nat → Nat) : ∀ i, pS w i < 2 ^ i
  | 0 => by show 0 < 1; omega
  | i + 1 => by
    have h1 := pS_lt w i
    have h2 : pS w i < 2 ^ (i + 1) := Nat.lt_of_lt_of_le h1 (Nat.pow_le_pow_right (by omega) (by omega))
    show (if nI (w i) ≤ 0 then pS w i else pS w i ||| 2 ^ i) < 2 ^ (i + 1)
    by_cases q : nI (w i) ≤ 0
    · rw [if_pos q]; exact h2
    · rw [if_neg q]; exact Nat.or_lt_two_pow h2 (Nat.pow_lt_pow_right (by omega) (by omega))
theorem bS_lt (w : Nat → Nat) (hn : 0 < n) : ∀ i, i ≤ n → bS w i < n
  | 0, _ => hn
  | i + 1, hi => by
    show (if nI (w i) ≤ nI (w (bS w i)) then bS w i else i) < n
    by_cases q : nI (w i) ≤ nI (w (bS w i))
    · rw [if_pos q]; exact bS_lt w hn i (by omega)
    · rw [if_neg q]; omega
theorem pS_256 (w : Nat → Nat) {i : Nat} (hi : i ≤ 8) : pS w i < 256 := Nat.lt_of_lt_of_le (pS_lt w i) (p2_le hi)
theorem possible_ok (hLa : Lat n T) (ht : tF n T f) (h1 : 1 ≤ L) (hL : L ≤ 7) (hR : rowR n h L R) (hrow : rowIs row h L) (g : Nat → Int32) : ∃ g', mX3_possibleSums row g (nI L) f (nI n) = some (nI (pS (Wy R n T 0 L) n), g') := by
  have h8 := hLa.2.1
  obtain ⟨g', e0, hg⟩ := X3_sumParts_ok hLa ht h1 hL (fun i hi => ⟨(hR i hi).1, (hrow i hi).trans (hR i hi).2⟩) g
  refine ⟨g', ?_⟩
  unfold mX3_possibleSums
  rw [e0, bd_some]
  obtain ⟨m, e⟩ := lpU (fun F x q => mX3_possibleSums_L9 (nI L) (nI n) g' (fun (x3_2 : Int32) (x2_3 : Int32) => some (x2_3, g')) F x q) n 0 (fun i => nI (pS (Wy R n T 0 L) i)) (by omega) (by omega) (fun F i _ hi => by
    have := pS_256 (Wy R n T 0 L) (show i ≤ 8 by omega)
    show mX3_possibleSums_L9 _ _ _ _ (F + 1) _ _ = _
    rw [mX3_possibleSums_L9, X6_size_ok, bd_some, if_neg (nI_ge hi (by omega)), show mX3_partWays g' 0 (nI L) (nI i) = some (nI (Wy R n T 0 L i)) from X3_ways_ok (fr := 0) h8 hL hg h1 (by omega) hi, bd_some, nI_1, bt_or' this (by omega)]
    show _ = mX3_possibleSums_L9 _ _ _ _ _ _ (nI (if nI (Wy R n T 0 L i) ≤ 0 then pS (Wy R n T 0 L) i else pS (Wy R n T 0 L) i ||| 2 ^ i))
    by_cases q : nI (Wy R n T 0 L i) ≤ 0
    · rw [if_pos q, if_pos q]
    · rw [if_neg q, if_neg q])
  refine Eq.trans e ?_
  show mX3_possibleSums_L9 _ _ _ _ (m + 1) _ _ = _
  rw [mX3_possibleSums_L9, X6_size_ok, bd_some, if_pos (nI_le (Nat.le_refl _) (by omega))]
theorem i_le_rf (x : Int32) : x ≤ x := Int32.le_iff_toInt_le.mpr (Int.le_refl _)
theorem likeliest_ok (hLa : Lat n T) (ht : tF n T f) (h1 : 1 ≤ L) (hL : L ≤ 7) (hR : rowR n h L R) (hrow : rowIs row h L) (g : Nat → Int32) : ∃ g', mX3_likeliestSum row g (nI L) f (nI n) = some (nI (bS (Wy R n T 0 L) n), g') := by
  have h8 := hLa.2.1
  have h2 := hLa.1
  obtain ⟨g', e0, hg⟩ := X3_sumParts_ok hLa ht h1 hL (fun i hi => ⟨(hR i hi).1, (hrow i hi).trans (hR i hi).2⟩) g
  refine ⟨g', ?_⟩
  unfold mX3_likeliestSum
  rw [e0, bd_some]
  obtain ⟨m, e⟩ := lpU (fun F x q => mX3_likeliestSum_L9 (nI L) (nI n) g' (fun (x3_2 : Int32) (x2_3 : Int32) => some (x2_3, g')) F x q) n 1 (fun i => nI (bS (Wy R n T 0 L) i)) (by omega) (by omega) (fun F i _ hi => by
    have hb := bS_lt (n := n) (Wy R n T 0 L) (by omega) i (by omega)
    show mX3_likeliestSum_L9 _ _ _ _ (F + 1) _ _ = _
    rw [mX3_likeliestSum_L9, X6_size_ok, bd_some, if_neg (nI_ge hi (by omega)), show mX3_partWays g' 0 (nI L) (nI i) = some (nI (Wy R n T 0 L i)) from X3_ways_ok (fr := 0) h8 hL hg h1 (by omega) hi, bd_some, show mX3_partWays g' 0 (nI L) (nI (bS (Wy R n T 0 L) i)) = some (nI (Wy R n T 0 L (bS (Wy R n T 0 L) i))) from X3_ways_ok (fr := 0) h8 hL hg h1 (by omega) hb, bd_some, nI_1]
    show _ = mX3_likeliestSum_L9 _ _ _ _ _ _ (nI (if nI (Wy R n T 0 L i) ≤ nI (Wy R n T 0 L (bS (Wy R n T 0 L) i)) then bS (Wy R n T 0 L) i else i))
    by_cases q : nI (Wy R n T 0 L i) ≤ nI (Wy R n T 0 L (bS (Wy R n T 0 L) i))
    · rw [if_pos q, if_pos q]
    · rw [if_neg q, if_neg q])
  have eb : bS (Wy R n T 0 L) 1 = 0 := if_pos (i_le_rf _)
  simp only [eb] at e
  refine Eq.trans e ?_
  show mX3_likeliestSum_L9 _ _ _ _ (m + 1) _ _ = _
  rw [mX3_likeliestSum_L9, X6_size_ok, bd_some, if_pos (nI_le (Nat.le_refl _) (by omega))]
theorem m_waysTo {g : Nat → Int32} (hn : n ≤ 8) (h1 : 1 ≤ L) (hL : L ≤ 7) (hg : Cel ixR L n g (Wy R n T)) {t : Nat} (htk : t < n) : mX10_waysTo (nI L) g (nI t) = some (nI (Wy R n T 0 L t)) := by
  have i1 := ixR_lt (fr := 0) (len := L) (t := t) h1 (by omega) (by omega)
  unfold mX10_waysTo
  rw [show nI L - 1 = nI (L - 1) from nI_sub (b := 1) h1, show mX10_part 0 (nI (L - 1)) (nI t) = some (nI (ixR 0 L t)) from m_part' (fr := 0) (by omega), bd_some, gd_t (inb_nI i1 (by omega)), nI_clamp (by omega), hg 0 L t h1 (by omega) htk]
theorem m_sumsL (hLa : Lat n T) (hs : sF n T s) (h1 : 1 ≤ L) (hL : L ≤ 7) {g : Nat → Int32} (hg : Cel ixR L n g (Wy R n T)) (K : Int32 → Int32 → Int32 → Option (Int32 × (Nat → Int32))) : mX10_sums_L33 s (nI L) g K FU 0 0 0 = K (nI n) (nI (pS (Wy R n T 0 L) n)) (nI (bS (Wy R n T 0 L) n)) := by
  have h8 := hLa.2.1
  have h2 := hLa.1
  obtain ⟨m, e⟩ := lpU (fun F x (q : Int32 × Int32) => mX10_sums_L33 s (nI L) g K F x q.1 q.2) n 0 (fun i => (nI (pS (Wy R n T 0 L) i), nI (bS (Wy R n T 0 L) i))) (by omega) (by omega) (fun F i _ hi => by
    have := pS_256 (Wy R n T 0 L) (show i ≤ 8 by omega)
    have hb := bS_lt (n := n) (Wy R n T 0 L) (by omega) i (by omega)
    show mX10_sums_L33 _ _ _ _ (F + 1) _ _ _ = mX10_sums_L33 _ _ _ _ _ _ (nI (if nI (Wy R n T 0 L i) ≤ 0 then pS (Wy R n T 0 L) i else pS (Wy R n T 0 L) i ||| 2 ^ i)) (nI (if nI (Wy R n T 0 L i) ≤ nI (Wy R n T 0 L (bS (Wy R n T 0 L) i)) then bS (Wy R n T 0 L) i else i))
    rw [mX10_sums_L33, m_s0 hs, if_neg (nI_ge hi (by omega)), m_waysTo h8 h1 hL hg hi, bd_some, bd_some, bd_some, m_waysTo h8 h1 hL hg hb, bd_some, bd_some, nI_1, bt_or' this (by omega), Int32.or_zero]
    by_cases q : nI (Wy R n T 0 L i) ≤ 0
    · rw [if_pos q, if_pos q]
      by_cases w : nI (Wy R n T 0 L i) ≤ nI (Wy R n T 0 L (bS (Wy R n T 0 L) i))
      · rw [if_pos w, if_pos w]
      · rw [if_neg w, if_neg w]
    · rw [if_neg q, if_neg q]
      by_cases w : nI (Wy R n T 0 L i) ≤ nI (Wy R n T 0 L (bS (Wy R n T 0 L) i))
      · rw [if_pos w, if_pos w]
      · rw [if_neg w, if_neg w])
  refine Eq.trans e ?_
  show mX10_sums_L33 _ _ _ _ (m + 1) _ _ _ = _
  rw [mX10_sums_L33, m_s0 hs, if_pos (nI_le (Nat.le_refl _) (by omega))]
end RowSums
