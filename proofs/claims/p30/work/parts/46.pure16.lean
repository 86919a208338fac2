/-! the pad, and a row of tokens in it -/
def Pd (g h : Nat → Int32) (L : Nat) : Prop := L ≤ 80 ∧ ∀ i, i < L → ∃ c, 33 ≤ c ∧ c ≤ 126 ∧ g i = nI c ∧ h i = nI c
theorem ch_all : allB (fun v => nch (nI v) && (decide ((((nI v).toUInt32 % 65536).toInt32) = nI v) && decide (vp_nar .char (((nI v).toUInt32 % 65536).toInt32) = nI v))) 127 = true := by decide +kernel
theorem ch_1 {v : Nat} (hv : v ≤ 126) : nch (nI v) = true := by
  have h := allB_iff.mp ch_all v (by omega)
  rw [Bool.and_eq_true] at h
  exact h.1
theorem ch_2 {v : Nat} (hv : v ≤ 126) : vp_nar .char (((nI v).toUInt32 % 65536).toInt32) = nI v := by
  have h := allB_iff.mp ch_all v (by omega)
  rw [Bool.and_eq_true, Bool.and_eq_true] at h
  exact of_decide_eq_true h.2.2
section Pad
variable {g h : Nat → Int32} {L : Nat}
theorem append_both (hP : Pd g h L) (x : Int32) : ∃ r g' h' L', mX9_append g (nI L) x = some (r, g', nI L') ∧ mX10_append h (nI L) x = some (r, h', nI L') ∧ Pd g' h' L' := by
  obtain ⟨hL, hc⟩ := hP
  unfold mX9_append mX10_append
  rw [in_is]
  rcases withn x (a := 33) (b := 126) (by omega) (by omega) with ⟨v, h1, h2, rfl, e1⟩ | ⟨_, e1⟩
  · rw [show mX9_isWithin (nI v) 33 126 = some 1 from e1, bd_some, bd_some, if_neg (by decide), if_neg (by decide)]
    unfold mX1_add
    rw [if_neg (nI_pos (by omega)), ch_2 h2]
    by_cases q : L < 80
    · refine ⟨nI (L + 1), upd g L (nI v), upd h L (nI v), L + 1, ?_, ?_, by omega, fun i hi => ?_⟩
      · rw [if_pos (show nI L < (80 : Int32) from nI_lt (b := 80) q (by omega)), gd_t (inb_nI q (by omega)), bd_some, if_neg (show ¬ (1 : Int32) = 0 by decide), nI_clamp (by omega), nI_1]; rfl
      · rw [if_neg (fun w => by have := (nI_eq (a := L) (b := 80) (by omega) (by omega)).mp w; omega), gd_t (inb_nI q (by omega)), nI_clamp (by omega), nI_1]
      · by_cases e : i = L
        · subst e; exact ⟨v, h1, h2, upd_eq _ _ _, upd_eq _ _ _⟩
        · obtain ⟨c, c1, c2, c3, c4⟩ := hc i (by omega)
          exact ⟨c, c1, c2, (upd_ne _ _ e).trans c3, (upd_ne _ _ e).trans c4⟩
    · have : L = 80 := by omega
      subst this
      refine ⟨-3, g, h, 80, ?_, ?_, by omega, hc⟩
      · rw [if_neg (show ¬ nI 80 < (80 : Int32) by decide), bd_some, if_pos rfl]
      · rw [if_pos (show nI 80 = (80 : Int32) from rfl)]
  · rw [show mX9_isWithin x 33 126 = some 0 from e1, bd_some, bd_some, if_pos rfl, if_pos rfl]
    exact ⟨-1, g, h, L, rfl, rfl, hL, hc⟩
theorem X1_signAt_in (hP : Pd g h L) {i : Nat} (hi : i < L) : mX1_signAt g (nI L) (nI i) = some (h i) := by
  obtain ⟨hL, hc⟩ := hP
  obtain ⟨c, c1, c2, c3, c4⟩ := hc i hi
  unfold mX1_signAt
  rw [if_neg (nI_pos (by omega)), if_neg (nI_ge hi (by omega)), if_neg (show ¬ (80 : Int32) ≤ nI i from nI_ge (b := 80) (by omega) (by omega)), gd_t (inb_nI (by omega) (by omega)), nI_clamp (by omega), c3, gd_t (ch_1 c2), c4]
theorem X1_signAt_out {i : Nat} (hL : L ≤ 80) (hi : L ≤ i) (hi2 : i < 2 ^ 31) : mX1_signAt g (nI L) (nI i) = some 0 := by
  unfold mX1_signAt
  rw [if_neg (nI_pos hi2), if_pos (nI_le hi hi2)]
theorem X1_digitAt_in (hP : Pd g h L) {i : Nat} (hi : i < L) : mX1_digitAt g (nI L) (nI i) = some (h i - 48) := by
  unfold mX1_digitAt
  rw [X1_signAt_in hP hi, bd_some]
theorem X1_digitAt_out {i : Nat} (hL : L ≤ 80) (hi : L ≤ i) (hi2 : i < 2 ^ 31) : mX1_digitAt g (nI L) (nI i) = some (-48) := by
  unfold mX1_digitAt
  rw [X1_signAt_out hL hi hi2, bd_some]; rfl
theorem has_no {n : Nat} : mX6_has (nI n) (-48) = some 0 := by
  unfold mX6_has
  rw [if_pos (by decide)]
variable {n : Nat} {T : Nat → Nat → Nat} {f s : Nat → Int32}
theorem m_tokAt (h8 : L ≤ 80) {i : Nat} (hi : i < L) {b : Int32} (hb : b = 0 ∨ b = 1) (e : mX10_isToken s (h i - 48) = some b) : mX10_isTokenAt s h (nI i) = some b := by
  unfold mX10_isTokenAt
  rw [gd_t (inb_nI (by omega) (by omega)), nI_clamp (by omega), e, bd_some, show nbz b = true from decide_eq_true hb]; rfl
/-- what stands in the pad is a row -/
def isRow (n : Nat) (h : Nat → Int32) (L : Nat) : Prop := 1 ≤ L ∧ L ≤ 7 ∧ ∀ i, i < L → ∃ t, t < n ∧ h i - 48 = nI t
def rowIs (row h : Nat → Int32) (L : Nat) : Prop := ∀ i, i < L → row i = h i - 48
theorem row_both (hL : Lat n T) (hs : sF n T s) (hP : Pd g h L) (row : Nat → Int32) : (isRow n h L ∧ ∃ row', mX3_readFrom row g (nI L) (nI n) = some (-4, row', nI L) ∧ rowIs row' h L ∧ mX10_rowFault s h (nI L) = some (-1)) ∨ (∃ k row' len', k < 81 ∧ mX3_readFrom row g (nI L) (nI n) = some (nI k, row', len') ∧ mX10_rowFault s h (nI L) = some (nI k)) := by
  have h80 := hP.1
  unfold mX3_readFrom mX10_rowFault
  let p : Nat → Prop := fun i => i < 7 ∧ ∃ t, t < n ∧ h i - 48 = nI t
  have kA : ∀ F i r k, i < L → mX3_readFrom_L7 g (nI L) (nI n) k (F + 1) (nI i) (nI i) r = if 7 ≤ i then some (nI i, r, nI i) else bd (mX6_has (nI n) (h i - 48)) (fun z => if z = 0 then some (nI i, r, nI i) else mX3_readFrom_L7 g (nI L) (nI n) k F (nI (i + 1)) (nI (i + 1)) (upd r i (h i - 48))) := by
    intro F i r k hi
    rw [mX3_readFrom_L7]
    unfold mX1_length
    rw [bd_some, if_neg (nI_ge hi (by omega)), X1_digitAt_in hP hi, bd_some, nI_1]
    by_cases q : 7 ≤ i
    · rw [if_pos (show (7 : Int32) ≤ nI i from nI_le (a := 7) q (by omega)), if_pos q]
    · rw [if_neg (show ¬ (7 : Int32) ≤ nI i from nI_ge (b := 7) (by omega) (by omega)), if_neg q, X9_put_ok (by omega) (by omega), bd_some]
  have kB : ∀ F i k, i < L → mX10_rowFault_L2 s h (nI L) k (F + 1) (nI i) = if i = 7 then some (nI i) else bd (mX10_isTokenAt s h (nI i)) (fun z => if z = 0 then some (nI i) else mX10_rowFault_L2 s h (nI L) k F (nI (i + 1))) := by
    intro F i k hi
    rw [mX10_rowFault_L2, if_neg (nI_ge hi (by omega)), nI_1]
    by_cases q : i = 7
    · rw [if_pos (by rw [q]; rfl), if_pos q]
    · rw [if_neg (show ¬ nI i = (7 : Int32) from fun w => q ((nI_eq (a := i) (b := 7) (by omega) (by omega)).mp w)), if_neg q]
  have key : ∀ d i F F' r, i + d = L → d < F → d < F' → i ≤ 7 → (∀ j, j < i → p j) → rowIs r h i → (isRow n h L ∧ ∃ row', mX3_readFrom_L7 g (nI L) (nI n) (fun (x3_1 : Int32) (y_2 : Int32) (f_3 : Nat → Int32) => if y_2 = 0 then (some (0, f_3, y_2)) else (some ((-4), f_3, y_2))) F (nI i) (nI i) r = some (-4, row', nI L) ∧ rowIs row' h L ∧ mX10_rowFault_L2 s h (nI L) (fun (x1_1 : Int32) => if nI L = 0 then (some (0)) else (some ((-1)))) F' (nI i) = some (-1)) ∨ (∃ k row' len', k < 81 ∧ mX3_readFrom_L7 g (nI L) (nI n) (fun (x3_1 : Int32) (y_2 : Int32) (f_3 : Nat → Int32) => if y_2 = 0 then (some (0, f_3, y_2)) else (some ((-4), f_3, y_2))) F (nI i) (nI i) r = some (nI k, row', len') ∧ mX10_rowFault_L2 s h (nI L) (fun (x1_1 : Int32) => if nI L = 0 then (some (0)) else (some ((-1)))) F' (nI i) = some (nI k)) := by
    intro d
    induction d with
    | zero =>
      intro i F F' r h1 h2 h3 h4 h5 h6
      have : i = L := by omega
      subst this
      obtain ⟨F, rfl⟩ : ∃ F1, F = F1 + 1 := ⟨F - 1, by omega⟩
      obtain ⟨F', rfl⟩ : ∃ F1, F' = F1 + 1 := ⟨F' - 1, by omega⟩
      rw [mX3_readFrom_L7, mX10_rowFault_L2]
      unfold mX1_length
      rw [bd_some, if_pos (nI_le (Nat.le_refl _) (by omega)), if_pos (nI_le (Nat.le_refl _) (by omega))]
      rcases Nat.eq_zero_or_pos i with q | q
      · subst q
        exact Or.inr ⟨0, r, nI 0, by omega, by rw [if_pos (show nI 0 = 0 from rfl)]; rfl, by rw [if_pos (show nI 0 = 0 from rfl)]; rfl⟩
      · have hz : ¬ nI i = 0 := nI_ne0 q (by omega)
        exact Or.inl ⟨⟨q, h4, fun j hj => (h5 j hj).2⟩, r, by rw [if_neg hz], h6, by rw [if_neg hz]⟩
    | succ d ih =>
      intro i F F' r h1 h2 h3 h4 h5 h6
      have hi : i < L := by omega
      obtain ⟨F, rfl⟩ : ∃ F1, F = F1 + 1 := ⟨F - 1, by omega⟩
      obtain ⟨F', rfl⟩ : ∃ F1, F' = F1 + 1 := ⟨F' - 1, by omega⟩
      rw [kA F i r _ hi, kB F' i _ hi]
      by_cases q : i = 7
      · exact Or.inr ⟨i, r, nI i, by omega, by rw [if_pos (by omega)], by rw [if_pos q]⟩
      · rw [if_neg (show ¬ 7 ≤ i by omega), if_neg q]
        rcases tok hL.1 hL.2.1 hs.1 (h i - 48) with ⟨t, t1, t2, e1, e2⟩ | ⟨_, e1, e2⟩
        · rw [e1, m_tokAt h80 hi (Or.inr rfl) e2, bd_some, bd_some, if_neg (by decide), if_neg (by decide)]
          refine ih (i + 1) F F' _ (by omega) (by omega) (by omega) (by omega) (fun j hj => ?_) (fun j hj => ?_)
          · by_cases e : j = i
            · subst e; exact ⟨by omega, t, t1, t2⟩
            · exact h5 j (by omega)
          · by_cases e : j = i
            · subst e; exact upd_eq _ _ _
            · rw [upd_ne _ _ e]; exact h6 j (by omega)
        · rw [e1, m_tokAt h80 hi (Or.inl rfl) e2, bd_some, bd_some, if_pos rfl, if_pos rfl]
          exact Or.inr ⟨i, r, nI i, by omega, rfl, rfl⟩
  have hF := FU_ge
  exact key L 0 FU FU row (by omega) (by omega) (by omega) (by omega) (fun j hj => absurd hj (Nat.not_lt_zero _)) (fun j hj => absurd hj (Nat.not_lt_zero _))
end Pad
