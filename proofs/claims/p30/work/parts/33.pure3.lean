theorem fb_holes : ∀ (m n : Nat) (f : Nat → Nat), (∀ i, i < n → f i < m) → (∀ i j, i < j → j < n → f i ≠ f j) → n ≤ m := by
  intro m
  induction m with
  | zero =>
    intro n f h1 _
    rcases Nat.eq_zero_or_pos n with h | h
    · omega
    · exact absurd (h1 0 h) (Nat.not_lt_zero _)
  | succ m ih =>
    intro n f h1 h2
    by_cases hx : ∃ i, i < n ∧ f i = m
    · obtain ⟨a, ha, hfa⟩ := hx
      have hg := ih (n - 1) (fun i => if i < a then f i else f (i + 1)) (by
        intro i hi
        by_cases q : i < a
        · simp only [if_pos q]
          have b1 := h1 i (by omega)
          have b2 := h2 i a q ha
          omega
        · simp only [if_neg q]
          have b1 := h1 (i + 1) (by omega)
          have b2 := h2 a (i + 1) (by omega) (by omega)
          omega) (by
        intro i j hij hj
        by_cases q : i < a
        · by_cases r : j < a
          · simp only [if_pos q, if_pos r]
            exact h2 i j hij (by omega)
          · simp only [if_pos q, if_neg r]
            exact h2 i (j + 1) (by omega) (by omega)
        · have r : ¬ j < a := by omega
          simp only [if_neg q, if_neg r]
          exact h2 (i + 1) (j + 1) (by omega) (by omega))
      omega
    · have hg := ih n f (fun i hi => by
        have b1 := h1 i hi
        have b2 : f i ≠ m := fun e => hx ⟨i, hi, e⟩
        omega) h2
      omega
/-- two of them in one place -/
theorem fb_twice {m n : Nat} {f : Nat → Nat} (h : ∀ i, i < n → f i < m) (hm : m < n) : ∃ i j, i < j ∧ j < n ∧ f i = f j := by
  refine Classical.byContradiction fun hx => ?_
  have := fb_holes m n f h (fun i j hij hj e => hx ⟨i, j, hij, hj, e⟩)
  omega
/-- as many as places, none twice: each place is taken -/
theorem fb_onto {n : Nat} {f : Nat → Nat} (h : ∀ i, i < n → f i < n) (h2 : ∀ i j, i < j → j < n → f i ≠ f j) {y : Nat} (hy : y < n) : ∃ i, i < n ∧ f i = y := by
  refine Classical.byContradiction fun hx => ?_
  have hne : ∀ i, i < n → f i ≠ y := fun i hi e => hx ⟨i, hi, e⟩
  have := fb_holes (n - 1) n (fun i => if f i < y then f i else f i - 1) (by
    intro i hi
    have b1 := h i hi
    have b2 := hne i hi
    by_cases q : f i < y
    · simp only [if_pos q]; omega
    · simp only [if_neg q]; omega) (by
    intro i j hij hj
    have b1 := hne i (by omega)
    have b2 := hne j hj
    have b3 := h2 i j hij hj
    by_cases q : f i < y
    · by_cases r : f j < y
      · simp only [if_pos q, if_pos r]; exact b3
      · simp only [if_pos q, if_neg r]; omega
    · by_cases r : f j < y
      · simp only [if_neg q, if_pos r]; omega
      · simp only [if_neg q, if_neg r]; omega)
  omega
/-! ===== how many places have a property ===== -/
/-! turns: what comes when a token is added again and again -/
def itr (T : Nat → Nat → Nat) (lf : Bool) (a s : Nat) : Nat → Nat
  | 0 => s
  | k + 1 => sd T lf a (itr T lf a s k)
theorem itr_s (T : Nat → Nat → Nat) (lf : Bool) (a s k : Nat) : itr T lf a s (k + 1) = sd T lf a (itr T lf a s k) := rfl
section Turns
variable {n : Nat} {T : Nat → Nat → Nat} {f s : Nat → Int32}
theorem itr_lt (hL : Lat n T) (lf : Bool) {a x : Nat} (ha : a < n) (hx : x < n) : ∀ k, itr T lf a x k < n
  | 0 => hx
  | k + 1 => sd_lt hL lf ha (itr_lt hL lf ha hx k)
theorem itr_cancel (hL : Lat n T) (lf : Bool) {a x : Nat} (ha : a < n) (hx : x < n) : ∀ i d, itr T lf a x i = itr T lf a x (i + d) → x = itr T lf a x d
  | 0, d, h => by rw [Nat.zero_add] at h; exact h
  | i + 1, d, h => by
    rw [show i + 1 + d = (i + d) + 1 by omega, itr_s, itr_s] at h
    exact itr_cancel hL lf ha hx i d (sd_inj hL lf ha (itr_lt hL lf ha hx _) (itr_lt hL lf ha hx _) h)
def isRet (T : Nat → Nat → Nat) (lf : Bool) (a x r : Nat) : Prop := 1 ≤ r ∧ itr T lf a x r = x ∧ ∀ j, 1 ≤ j → j < r → itr T lf a x j ≠ x
theorem ret_ex (hL : Lat n T) (lf : Bool) {a x : Nat} (ha : a < n) (hx : x < n) : ∃ r, isRet T lf a x r ∧ r ≤ n := by
  obtain ⟨i, j, h1, h2, h3⟩ := fb_twice (m := n) (n := n + 1) (f := itr T lf a x) (fun i _ => itr_lt hL lf ha hx i) (by omega)
  have h4 : itr T lf a x (j - i) = x := (itr_cancel hL lf ha hx i (j - i) (by rw [show i + (j - i) = j by omega]; exact h3)).symm
  obtain ⟨r, ⟨hr1, hr2, hr3⟩, hr⟩ := pk_least (fun k => 1 ≤ k ∧ itr T lf a x k = x ∧ k ≤ n) ⟨j - i, by omega, h4, by omega⟩
  exact ⟨r, ⟨hr1, hr2, fun k h5 h6 h7 => hr k h6 ⟨h5, h7, by omega⟩⟩, hr3⟩
theorem ret_one {lf : Bool} {a x r q : Nat} (h1 : isRet T lf a x r) (h2 : isRet T lf a x q) : r = q := by
  rcases Nat.lt_trichotomy r q with h | h | h
  · exact absurd h1.2.1 (h2.2.2 r h1.1 h)
  · exact h
  · exact absurd h2.2.1 (h1.2.2 q h2.1 h)
theorem X7_added_ok (hL : Lat n T) (ht : tF n T f) (lf : Bool) {a x : Nat} (ha : a < n) (hx : x < n) : mX7_added f (nI x) (nI a) (bI lf) = some (nI (sd T lf a x)) := by
  have h8 := hL.2.1
  unfold mX7_added
  cases lf
  · rw [if_pos (show bI false = 0 from rfl), X6_at_ok h8 ht hx ha, bd_some]; rfl
  · rw [if_neg (show ¬ bI true = 0 by decide), X6_at_ok h8 ht ha hx, bd_some]; rfl
theorem X7_timesToReturn_ok (hL : Lat n T) (ht : tF n T f) (lf : Bool) {a x r : Nat} (ha : a < n) (hx : x < n) (hr : isRet T lf a x r) (hrn : r ≤ n) : mX7_timesToReturn f (nI x) (nI a) (bI lf) = some (nI r) := by
  have h8 := hL.2.1
  unfold mX7_timesToReturn
  have key : ∀ F i, 1 ≤ i → i < 9 → mX7_timesToReturn_L6 f (nI x) (nI a) (bI lf) (fun (x5_1 : Int32) (x4_2 : Int32) => some ((-4))) (F + 1) (nI i) (nI (itr T lf a x (i - 1))) = if itr T lf a x i = x then some (nI i) else mX7_timesToReturn_L6 f (nI x) (nI a) (bI lf) (fun (x5_1 : Int32) (x4_2 : Int32) => some ((-4))) F (nI (i + 1)) (nI (itr T lf a x (i + 1 - 1))) := by
    intro F i h1 hi
    have h3 := itr_lt hL lf ha hx i
    have e : sd T lf a (itr T lf a x (i - 1)) = itr T lf a x i := by
      rw [← itr_s, show i - 1 + 1 = i by omega]
    rw [mX7_timesToReturn_L6, if_neg (show ¬ (8 : Int32) < nI i from nI_nlt (a := 8) (by omega) (by omega)), X7_added_ok hL ht lf ha (itr_lt hL lf ha hx _), bd_some, nI_1, e, show i + 1 - 1 = i by omega]
    by_cases c : itr T lf a x i = x
    · rw [if_pos (by rw [c]), if_pos c]
    · rw [if_neg (fun q => c ((nI_eq (by omega) (by omega)).mp q)), if_neg c]
  rcases lpFS (fun F y b => mX7_timesToReturn_L6 f (nI x) (nI a) (bI lf) (fun (x5_1 : Int32) (x4_2 : Int32) => some ((-4))) F y b) 9 1 (fun i => nI (itr T lf a x (i - 1))) (fun i => decide (itr T lf a x i = x)) (fun i => some (nI i)) (by omega) (by omega) (fun F i h1 hi hp => by
      show mX7_timesToReturn_L6 _ _ _ _ _ (F + 1) _ _ = _
      rw [key F i h1 hi, if_neg (of_decide_eq_false hp)]) (fun F i h1 hi hp => by
      show mX7_timesToReturn_L6 _ _ _ _ _ (F + 1) _ _ = _
      rw [key F i h1 hi, if_pos (of_decide_eq_true hp)]) with ⟨i, h1, hi, hp, hb, e⟩ | ⟨h0, -⟩
  · have hi2 : isRet T lf a x i := ⟨h1, of_decide_eq_true hp, fun j h3 h4 => of_decide_eq_false (hb j h3 h4)⟩
    rw [ret_one hr hi2]
    exact e
  · exact absurd hr.2.1 (of_decide_eq_false (h0 r hr.1 (by omega)))
theorem m_roundOf (hL : Lat n T) (hs : sF n T s) (lf : Bool) {a x r : Nat} (ha : a < n) (hx : x < n) (hr : isRet T lf a x r) (hrn : r ≤ n) : mX10_roundOf s (nI x) (nI a) (bI lf) = some (nI r) := by
  have h8 := hL.2.1
  unfold mX10_roundOf
  have key : ∀ F i, i < 8 → mX10_roundOf_L6 s (nI x) (nI a) (bI lf) (fun (x5_1 : Int32) (x4_2 : Int32) => some (x5_1)) (F + 1) (nI i) (nI (itr T lf a x i)) = if itr T lf a x (i + 1) = x ∨ i = 7 then some (nI (i + 1)) else mX10_roundOf_L6 s (nI x) (nI a) (bI lf) (fun (x5_1 : Int32) (x4_2 : Int32) => some (x5_1)) F (nI (i + 1)) (nI (itr T lf a x (i + 1))) := by
    intro F i hi
    have h3 := itr_lt hL lf ha hx (i + 1)
    have h4 := itr_lt hL lf ha hx i
    have hz : ∀ (z : Nat), z = itr T lf a x (i + 1) → (if nI z = nI x then some (nI (i + 1)) else if nI (i + 1) < 8 then mX10_roundOf_L6 s (nI x) (nI a) (bI lf) (fun (x5_1 : Int32) (x4_2 : Int32) => some (x5_1)) F (nI (i + 1)) (nI z) else some (nI (i + 1))) = if itr T lf a x (i + 1) = x ∨ i = 7 then some (nI (i + 1)) else mX10_roundOf_L6 s (nI x) (nI a) (bI lf) (fun (x5_1 : Int32) (x4_2 : Int32) => some (x5_1)) F (nI (i + 1)) (nI (itr T lf a x (i + 1))) := by
      intro z ez
      subst ez
      by_cases c : itr T lf a x (i + 1) = x
      · rw [if_pos (by rw [c]), if_pos (Or.inl c)]
      · rw [if_neg (fun q => c ((nI_eq (by omega) (by omega)).mp q))]
        by_cases q : i = 7
        · rw [if_neg (show ¬ nI (i + 1) < (8 : Int32) from nI_nlt (b := 8) (by omega) (by omega)), if_pos (Or.inr q)]
        · rw [if_pos (show nI (i + 1) < (8 : Int32) from nI_lt (b := 8) (by omega) (by omega)), if_neg (fun w => w.elim c q)]
    rw [mX10_roundOf_L6]
    cases lf
    · rw [if_pos (show bI false = 0 from rfl), m_plain hL hs h4 ha, bd_some, nI_1]
      exact hz _ rfl
    · rw [if_neg (show ¬ bI true = 0 by decide), m_plain hL hs ha h4, bd_some, nI_1]
      exact hz _ rfl
  rcases lpFS (fun F y b => mX10_roundOf_L6 s (nI x) (nI a) (bI lf) (fun (x5_1 : Int32) (x4_2 : Int32) => some (x5_1)) F y b) 8 0 (fun i => nI (itr T lf a x i)) (fun i => decide (itr T lf a x (i + 1) = x ∨ i = 7)) (fun i => some (nI (i + 1))) (by omega) (by omega) (fun F i h1 hi hp => by
      show mX10_roundOf_L6 _ _ _ _ _ (F + 1) _ _ = _
      rw [key F i hi, if_neg (of_decide_eq_false hp)]) (fun F i h1 hi hp => by
      show mX10_roundOf_L6 _ _ _ _ _ (F + 1) _ _ = _
      rw [key F i hi, if_pos (of_decide_eq_true hp)]) with ⟨i, h1, hi, hp, hb, e⟩ | ⟨h0, -⟩
  · have hno : ∀ j, j < i → itr T lf a x (j + 1) ≠ x := fun j hj q => of_decide_eq_false (hb j (by omega) hj) (Or.inl q)
    have hre : r = i + 1 := by
      rcases of_decide_eq_true hp with q | q
      · exact ret_one hr ⟨by omega, q, fun j h3 h4 => by have := hno (j - 1) (by omega); rwa [show j - 1 + 1 = j by omega] at this⟩
      · subst q
        rcases Nat.lt_or_ge r 8 with w | w
        · exact absurd hr.2.1 (by have := hno (r - 1) (by have := hr.1; omega); rwa [show r - 1 + 1 = r by have := hr.1; omega] at this)
        · omega
    rw [hre]
    exact e
  · exact absurd (h0 7 (by omega) (by omega)) (by simp)
/-- what is to be added: there is one -/
theorem between_both (hL : Lat n T) (ht : tF n T f) (hs : sF n T s) (lf : Bool) {a b : Nat} (ha : a < n) (hb : b < n) : ∃ x, x < n ∧ mX7_addedBetween f (nI n) (nI a) (nI b) (bI lf) = some (nI x) ∧ mX10_between_L24 s (nI a) (nI b) (bI lf) (fun (x5_3 : Int32) (x4_4 : Int32) => some (x4_4)) FU 0 0 = some (nI x) := by
  have h8 := hL.2.1
  have hlt : ∀ x, x < n → sd T lf x a < n := fun x hx => sd_lt hL lf hx ha
  have hin : ∀ i j, i < j → j < n → sd T lf i a ≠ sd T lf j a := by
    intro i j hij hj e
    cases lf
    · have := hL.2.2.2.1 a i j ha (by omega) hj e; omega
    · have := hL.2.2.2.2 a i j ha (by omega) hj e; omega
  obtain ⟨x, hx, hxe⟩ := fb_onto hlt hin hb
  have hun : ∀ y, y < n → sd T lf y a = b → y = x := fun y hy e => by
    rcases Nat.lt_trichotomy y x with q | q | q
    · exact absurd (e.trans hxe.symm) (hin y x q hx)
    · exact q
    · exact absurd (hxe.trans e.symm) (hin x y q hy)
  refine ⟨x, hx, ?_, ?_⟩
  · unfold mX7_addedBetween
    have key : ∀ F i, i < n → mX7_addedBetween_L3 f (nI n) (nI a) (nI b) (bI lf) (fun (x4_1 : Int32) => some ((-4))) (F + 1) (nI i) = if sd T lf i a = b then some (nI i) else mX7_addedBetween_L3 f (nI n) (nI a) (nI b) (bI lf) (fun (x4_1 : Int32) => some ((-4))) F (nI (i + 1)) := by
      intro F i hi
      have h3 := hlt i hi
      rw [mX7_addedBetween_L3, X6_size_ok, bd_some, if_neg (nI_ge hi (by omega)), X7_added_ok hL ht lf hi ha, bd_some, nI_1]
      by_cases c : sd T lf i a = b
      · rw [if_pos (by rw [c]), if_pos c]
      · rw [if_neg (fun q => c ((nI_eq (by omega) (by omega)).mp q)), if_neg c]
    rcases lpF (fun F y => mX7_addedBetween_L3 f (nI n) (nI a) (nI b) (bI lf) (fun (x4_1 : Int32) => some ((-4))) F y) n 0 (fun i => decide (sd T lf i a = b)) (fun i => some (nI i)) (by omega) (by omega) (fun F i _ hi hp => by
        show mX7_addedBetween_L3 _ _ _ _ _ _ (F + 1) _ = _
        rw [key F i hi, if_neg (of_decide_eq_false hp)]) (fun F i _ hi hp => by
        show mX7_addedBetween_L3 _ _ _ _ _ _ (F + 1) _ = _
        rw [key F i hi, if_pos (of_decide_eq_true hp)]) with ⟨i, _, hi, hp, _, e⟩ | ⟨h0, -⟩
    · rw [← hun i hi (of_decide_eq_true hp)]; exact e
    · exact absurd hxe (of_decide_eq_false (h0 x (by omega) hx))
  · obtain ⟨m, e⟩ := lpU (fun F y c => mX10_between_L24 s (nI a) (nI b) (bI lf) (fun (x5_3 : Int32) (x4_4 : Int32) => some (x4_4)) F y c) n 0 (fun i => if x < i then nI x else 0) (by omega) (by omega) (fun F i _ hi => by
      have h3 := hlt i hi
      have hz : ∀ (c : Int32), mX10_between_L24 s (nI a) (nI b) (bI lf) (fun (x5_3 : Int32) (x4_4 : Int32) => some (x4_4)) (F + 1) (nI i) c = mX10_between_L24 s (nI a) (nI b) (bI lf) (fun (x5_3 : Int32) (x4_4 : Int32) => some (x4_4)) F (nI (i + 1)) (if sd T lf i a = b then nI i else c) := by
        intro c
        rw [mX10_between_L24, m_s0 hs, if_neg (nI_ge hi (by omega))]
        cases lf
        · have h4 : T a i < n := h3
          rw [if_pos (show bI false = 0 from rfl), m_plain hL hs ha hi, bd_some, nI_1]
          by_cases q : T a i = b
          · rw [if_pos (by rw [q]), if_pos (show sd T false i a = b from q)]
          · rw [if_neg (fun w => q ((nI_eq (by omega) (by omega)).mp w)), if_neg (show ¬ sd T false i a = b from q)]
        · have h4 : T i a < n := h3
          rw [if_neg (show ¬ bI true = 0 by decide), m_plain hL hs hi ha, bd_some, nI_1]
          by_cases q : T i a = b
          · rw [if_pos (by rw [q]), if_pos (show sd T true i a = b from q)]
          · rw [if_neg (fun w => q ((nI_eq (by omega) (by omega)).mp w)), if_neg (show ¬ sd T true i a = b from q)]
      show mX10_between_L24 _ _ _ _ _ (F + 1) _ _ = _
      rw [hz]
      by_cases c : sd T lf i a = b
      · have := hun i hi c
        subst this
        rw [if_pos c, if_pos (Nat.lt_succ_self _)]
      · have hne : i ≠ x := fun q => c (by rw [q]; exact hxe)
        rw [if_neg c]
        by_cases q : x < i
        · rw [if_pos q, if_pos (by omega)]
        · rw [if_neg q, if_neg (by omega)])
    refine Eq.trans e ?_
    show mX10_between_L24 _ _ _ _ _ (m + 1) _ _ = _
    rw [mX10_between_L24, m_s0 hs, if_pos (nI_le (Nat.le_refl _) (by omega)), if_pos hx]
end Turns
