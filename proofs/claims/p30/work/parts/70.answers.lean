/-! the class's answers over a table that is right, told plainly -/
theorem qn10 : ¬ (1 : Int32) = 0 := by decide
section Answers
variable {n : Nat} {T : Nat → Nat → Nat} {f : Nat → Int32}
theorem has_in (hL : Lat n T) {a : Nat} (ha : a < n) : mX6_has (nI n) (nI a) = some 1 := by
  have h8 := hL.2.1
  rw [X6_has_ok h8 (by omega), if_pos ha]
theorem a_sum (hL : Lat n T) (ht : tF n T f) {a b : Nat} (ha : a < n) (hb : b < n) : mX9_sum f (nI n) (nI a) (nI b) = some (nI (T a b)) := by
  unfold mX9_sum
  rw [has_in hL ha, bd_some, if_neg qn10, has_in hL hb, bd_some, if_neg qn10, X6_at_ok hL.2.1 ht ha hb, bd_some]
theorem X7_addedBetween_ok (hL : Lat n T) (ht : tF n T f) (lf : Bool) {a b x : Nat} (ha : a < n) (hx : x < n) (hxe : sd T lf x a = b) : mX7_addedBetween f (nI n) (nI a) (nI b) (bI lf) = some (nI x) := by
  have h8 := hL.2.1
  have hlt : ∀ x, x < n → sd T lf x a < n := fun x hx => sd_lt hL lf hx ha
  have hb : b < n := hxe ▸ hlt x hx
  have hin : ∀ i j, i < j → j < n → sd T lf i a ≠ sd T lf j a := by
    intro i j hij hj e
    cases lf
    · have := hL.2.2.2.1 a i j ha (by omega) hj e; omega
    · have := hL.2.2.2.2 a i j ha (by omega) hj e; omega
  have hun : ∀ y, y < n → sd T lf y a = b → y = x := fun y hy e => by
    rcases Nat.lt_trichotomy y x with q | q | q
    · exact absurd (e.trans hxe.symm) (hin y x q hx)
    · exact q
    · exact absurd (hxe.trans e.symm) (hin x y q hy)
  unfold mX7_addedBetween
  have key : ∀ F i, i < n → mX7_addedBetween_L3 f (nI n) (nI a) (nI b) (bI lf) (fun (x4_1 : Int32) => some ((-4))) (F + 1) (nI i) = if sd T lf i a = b then some (nI i) else mX7_addedBetween_L3 f (nI n) (nI a) (nI b) (bI lf) (fun (x4_1 : Int32) => some ((-4))) F (nI (i + 1)) := by
    intro F i hi
    have h3 := hlt i hi
    rw [mX7_addedBetween_L3, X6_size_ok, bd_some, if_neg (nI_ge hi (by omega)), X7_added_ok hL ht lf hi ha, bd_some, nI_1]
    by_cases c : sd T lf i a = b
    · rw [if_pos (by rw [c]), if_pos c]
    · rw [if_neg (fun q => c ((nI_eq (by omega) (by omega)).mp q)), if_neg c]
  rcases lpF (fun F y => mX7_addedBetween_L3 f (nI n) (nI a) (nI b) (bI lf) (fun (x4_1 : Int32) => some ((-4))) F y) n 0 (fun i => decide (sd T lf i a = b)) (fun i => some (nI i)) (by omega) (by omega) (fun F i _ hi hp => by
      show mX7_addedBetween_L3 _ _ _ _ _ _ (F + 1) _ = _
      rw [key F i hi, if_neg (of_decide_eq_false hp)]) (fun F i _ hi hp => by
      show mX7_addedBetween_L3 _ _ _ _ _ _ (F + 1) _ = _
      rw [key F i hi, if_pos (of_decide_eq_true hp)]) with ⟨i, _, hi, hp, _, e⟩ | ⟨h0, -⟩
  · rw [← hun i hi (of_decide_eq_true hp)]; exact e
  · exact absurd hxe (of_decide_eq_false (h0 x (by omega) hx))
theorem a_between (hL : Lat n T) (ht : tF n T f) (lf : Bool) {a b x : Nat} (ha : a < n) (hx : x < n) (hxe : sd T lf x a = b) : mX9_between f (nI n) (nI a) (nI b) (bI lf) = some (nI x) := by
  have hb : b < n := hxe ▸ sd_lt hL lf hx ha
  unfold mX9_between
  rw [has_in hL ha, bd_some, if_neg qn10, has_in hL hb, bd_some, if_neg qn10, X7_addedBetween_ok hL ht lf ha hx hxe, bd_some]
theorem a_returns (hL : Lat n T) (ht : tF n T f) (lf : Bool) {a x r : Nat} (ha : a < n) (hx : x < n) (hr : isRet T lf a x r) (hrn : r ≤ n) : mX9_returns f (nI n) (nI x) (nI a) (bI lf) = some (nI r) := by
  unfold mX9_returns
  rw [has_in hL hx, bd_some, if_neg qn10, has_in hL ha, bd_some, if_neg qn10, X7_timesToReturn_ok hL ht lf ha hx hr hrn, bd_some]
/-- how often all turn -/
theorem X7_again_ok (hL : Lat n T) (ht : tF n T f) {a : Nat} (ha : a < n) {ρ : Nat → Nat} (hρ : rtn T a ρ n) : ∃ N, 1 ≤ N ∧ N ≤ 840 ∧ (∀ x, x < n → N % ρ x = 0) ∧ (∀ M, 1 ≤ M → M < N → ∃ x, x < n ∧ M % ρ x ≠ 0) ∧ mX7_timesToReturnAll f (nI n) (nI a) = some (nI N) := by
  have h8 := hL.2.1
  obtain ⟨N, h1, h2, h3, h4⟩ := again_ex hL hρ
  refine ⟨N, h1, h2, fun x hx => of_decide_eq_true (allB_iff.mp h3 x hx), fun M m1 m2 => ?_, ?_⟩
  · obtain ⟨x, hx, e⟩ := allB_not.mp (h4 M m1 m2)
    exact ⟨x, hx, of_decide_eq_false e⟩
  unfold mX7_timesToReturnAll
  have key : ∀ F i, 1 ≤ i → i < 841 → mX7_timesToReturnAll_L2 f (nI n) (nI a) (fun (x2_1 : Int32) => some ((-4))) (F + 1) (nI i) = if allB (fun x => decide (i % ρ x = 0)) n = true then some (nI i) else mX7_timesToReturnAll_L2 f (nI n) (nI a) (fun (x2_1 : Int32) => some ((-4))) F (nI (i + 1)) := by
    intro F i hi1 hi
    rw [mX7_timesToReturnAll_L2, if_neg (show ¬ (840 : Int32) < nI i from nI_nlt (a := 840) (by omega) (by omega)), X7_allReturnBehind_ok hL ht ha (by omega) hρ, bd_some, nI_1]
    cases hb : allB (fun x => decide (i % ρ x = 0)) n with
    | false => rw [if_pos (show bI false = 0 from rfl)]; rfl
    | true => rw [if_neg (show ¬ bI true = 0 by decide)]; rfl
  rcases lpF (fun F x => mX7_timesToReturnAll_L2 f (nI n) (nI a) (fun (x2_1 : Int32) => some ((-4))) F x) 841 1 (fun i => allB (fun x => decide (i % ρ x = 0)) n) (fun i => some (nI i)) (by omega) (by omega) (fun F i h5 hi hp => by
      show mX7_timesToReturnAll_L2 _ _ _ _ (F + 1) _ = _
      rw [key F i h5 hi, if_neg (by rw [hp]; decide)]) (fun F i h5 hi hp => by
      show mX7_timesToReturnAll_L2 _ _ _ _ (F + 1) _ = _
      rw [key F i h5 hi, if_pos hp]) with ⟨i, h5, hi, hp, hb, e⟩ | ⟨h0, -⟩
  · have : i = N := by
      rcases Nat.lt_trichotomy i N with q | q | q
      · rw [h4 i h5 q] at hp; cases hp
      · exact q
      · rw [hb N h1 q] at h3; cases h3
    rw [← this]; exact e
  · rw [h0 N h1 (by omega)] at h3; cases h3
/-- the token that changes nothing, or none -/
theorem X8_neutralToken_ok (hL : Lat n T) (ht : tF n T f) (lf : Bool) : (∃ e, e < n ∧ neu T n e lf = true ∧ mX8_neutralToken f (nI n) (bI lf) = some (nI e)) ∨ mX8_neutralToken f (nI n) (bI lf) = some (-4) := by
  have h8 := hL.2.1
  have hk : ∀ F i, i < n → mX8_neutralToken_L2 f (nI n) (bI lf) (fun (x2_1 : Int32) => some ((-4))) (F + 1) (nI i) = if neu T n i lf = true then some (nI i) else mX8_neutralToken_L2 f (nI n) (bI lf) (fun (x2_1 : Int32) => some ((-4))) F (nI (i + 1)) := by
    intro F i hi
    rw [mX8_neutralToken_L2, X6_size_ok, bd_some, if_neg (nI_ge hi (by omega)), X8_isNeutral_ok hL ht hi lf, bd_some, nI_1]
    cases hb : neu T n i lf with
    | false => rw [if_pos (show bI false = 0 from rfl)]; rfl
    | true => rw [if_neg (show ¬ bI true = 0 by decide)]; rfl
  rcases lpF (fun F x => mX8_neutralToken_L2 f (nI n) (bI lf) (fun (x2_1 : Int32) => some ((-4))) F x) n 0 (fun i => neu T n i lf) (fun i => some (nI i)) (by omega) (by omega) (fun F i _ hi hp => by
      show mX8_neutralToken_L2 _ _ _ _ (F + 1) _ = _
      rw [hk F i hi, if_neg (by rw [hp]; decide)]) (fun F i _ hi hp => by
      show mX8_neutralToken_L2 _ _ _ _ (F + 1) _ = _
      rw [hk F i hi, if_pos hp]) with ⟨t, _, hi, hp, _, e⟩ | ⟨h0, m, e⟩
  · exact Or.inl ⟨t, hi, hp, e⟩
  · refine Or.inr (Eq.trans e ?_)
    show mX8_neutralToken_L2 _ _ _ _ (m + 1) _ = _
    rw [mX8_neutralToken_L2, X6_size_ok, bd_some, if_pos (nI_le (Nat.le_refl _) (by omega))]
theorem a_tok0 (hL : Lat n T) (ht : tF n T f) {t : Nat} (h : t < n) : mX9_token f (nI n) (nI t) 0 = some (nI (comW T n t)) := by
  have h8 := hL.2.1
  unfold mX9_token
  rw [has_in hL h, bd_some, if_neg qn10, if_pos rfl, X8_commutingWith_ok hL ht h, bd_some]
theorem a_tok1 (hL : Lat n T) (ht : tF n T f) {t : Nat} (h : t < n) : mX9_token f (nI n) (nI t) 1 = some (nI (assW T n t)) := by
  have h8 := hL.2.1
  unfold mX9_token
  rw [has_in hL h, bd_some, if_neg qn10, if_neg (show ¬ (1 : Int32) = 0 by decide), if_pos rfl, X8_pairsBehind_ok hL ht h, bd_some]
theorem a_tok2 (hL : Lat n T) (ht : tF n T f) {t : Nat} (h : t < n) (e : neu T n t true = true) : mX9_token f (nI n) (nI t) 2 = some 1 := by
  unfold mX9_token
  rw [has_in hL h, bd_some, if_neg qn10, if_neg (show ¬ (2 : Int32) = 0 by decide), if_neg (show ¬ (2 : Int32) = 1 by decide), if_pos rfl, show mX8_isNeutral f (nI n) (nI t) 1 = _ from X8_isNeutral_ok hL ht h true, bd_some, e, if_neg (show ¬ bI true = 0 by decide)]
theorem a_tok3 (hL : Lat n T) (ht : tF n T f) {t : Nat} (h : t < n) (e : neu T n t false = true) : mX9_token f (nI n) (nI t) 3 = some 1 := by
  unfold mX9_token
  rw [has_in hL h, bd_some, if_neg qn10, if_neg (show ¬ (3 : Int32) = 0 by decide), if_neg (show ¬ (3 : Int32) = 1 by decide), if_neg (show ¬ (3 : Int32) = 2 by decide), if_pos rfl, show mX8_isNeutral f (nI n) (nI t) 0 = _ from X8_isNeutral_ok hL ht h false, bd_some, e, if_neg (show ¬ bI true = 0 by decide)]
theorem a_tok5 (hL : Lat n T) (ht : tF n T f) {t : Nat} (h : t < n) : ∃ r, isCl n T (2 ^ t) r ∧ mX9_token f (nI n) (nI t) 5 = some (nI r) ∧ mX2_grownFrom f (nI n) (nI (2 ^ t)) = some (nI r) := by
  have h8 := hL.2.1
  obtain ⟨r, r1, r2⟩ := X2_grownFrom_ok hL ht (v := 2 ^ t) (Nat.two_pow_pos t) (Nat.pow_lt_pow_right (by omega) h)
  refine ⟨r, r1, ?_, r2⟩
  unfold mX9_token
  rw [has_in hL h, bd_some, if_neg qn10, if_neg (show ¬ (5 : Int32) = 0 by decide), if_neg (show ¬ (5 : Int32) = 1 by decide), if_neg (show ¬ (5 : Int32) = 2 by decide), if_neg (show ¬ (5 : Int32) = 3 by decide), if_neg (show ¬ (5 : Int32) = 4 by decide), if_pos rfl, bt_sh' (show t < 9 by omega), r2, bd_some]
theorem a_tok6 (hL : Lat n T) (ht : tF n T f) {t : Nat} (h : t < n) : mX9_token f (nI n) (nI t) 6 = some (nI (T t t)) := by
  have h8 := hL.2.1
  unfold mX9_token
  rw [has_in hL h, bd_some, if_neg qn10, if_neg (show ¬ (6 : Int32) = 0 by decide), if_neg (show ¬ (6 : Int32) = 1 by decide), if_neg (show ¬ (6 : Int32) = 2 by decide), if_neg (show ¬ (6 : Int32) = 3 by decide), if_neg (show ¬ (6 : Int32) = 4 by decide), if_neg (show ¬ (6 : Int32) = 5 by decide), if_pos rfl, X6_at_ok h8 ht h h, bd_some]
theorem a_tok7 (hL : Lat n T) (ht : tF n T f) {t : Nat} (h : t < n) : mX9_token f (nI n) (nI t) 7 = some (nI (rnds T n t)) := by
  have h8 := hL.2.1
  unfold mX9_token
  rw [has_in hL h, bd_some, if_neg qn10, if_neg (show ¬ (7 : Int32) = 0 by decide), if_neg (show ¬ (7 : Int32) = 1 by decide), if_neg (show ¬ (7 : Int32) = 2 by decide), if_neg (show ¬ (7 : Int32) = 3 by decide), if_neg (show ¬ (7 : Int32) = 4 by decide), if_neg (show ¬ (7 : Int32) = 5 by decide), if_neg (show ¬ (7 : Int32) = 6 by decide), if_pos rfl, X7_rounds_ok hL ht h, bd_some]
theorem a_tok8 (hL : Lat n T) (ht : tF n T f) {t N : Nat} (h : t < n) (e : mX7_timesToReturnAll f (nI n) (nI t) = some (nI N)) : mX9_token f (nI n) (nI t) 8 = some (nI N) := by
  unfold mX9_token
  rw [has_in hL h, bd_some, if_neg qn10, if_neg (show ¬ (8 : Int32) = 0 by decide), if_neg (show ¬ (8 : Int32) = 1 by decide), if_neg (show ¬ (8 : Int32) = 2 by decide), if_neg (show ¬ (8 : Int32) = 3 by decide), if_neg (show ¬ (8 : Int32) = 4 by decide), if_neg (show ¬ (8 : Int32) = 5 by decide), if_neg (show ¬ (8 : Int32) = 6 by decide), if_neg (show ¬ (8 : Int32) = 7 by decide), if_pos rfl, e, bd_some]
theorem a_tok9 (hL : Lat n T) {t : Nat} (h : t < n) : mX9_token f (nI n) (nI t) 9 = some (-1) := by
  unfold mX9_token
  rw [has_in hL h, bd_some, if_neg qn10, if_neg (show ¬ (9 : Int32) = 0 by decide), if_neg (show ¬ (9 : Int32) = 1 by decide), if_neg (show ¬ (9 : Int32) = 2 by decide), if_neg (show ¬ (9 : Int32) = 3 by decide), if_neg (show ¬ (9 : Int32) = 4 by decide), if_neg (show ¬ (9 : Int32) = 5 by decide), if_neg (show ¬ (9 : Int32) = 6 by decide), if_neg (show ¬ (9 : Int32) = 7 by decide), if_neg (show ¬ (9 : Int32) = 8 by decide)]
theorem a_tokm (hL : Lat n T) {t : Nat} (h : t < n) : mX9_token f (nI n) (nI t) (-1) = some (-1) := by
  unfold mX9_token
  rw [has_in hL h, bd_some, if_neg qn10, if_neg (show ¬ (-1 : Int32) = 0 by decide), if_neg (show ¬ (-1 : Int32) = 1 by decide), if_neg (show ¬ (-1 : Int32) = 2 by decide), if_neg (show ¬ (-1 : Int32) = 3 by decide), if_neg (show ¬ (-1 : Int32) = 4 by decide), if_neg (show ¬ (-1 : Int32) = 5 by decide), if_neg (show ¬ (-1 : Int32) = 6 by decide), if_neg (show ¬ (-1 : Int32) = 7 by decide), if_neg (show ¬ (-1 : Int32) = 8 by decide)]
theorem a_cnt0 (hL : Lat n T) (ht : tF n T f) (st len : Int32) : mX9_count f (nI n) st len 0 = some (nI n) := by
  unfold mX9_count
  rw [if_pos rfl, X6_size_ok, bd_some]
theorem a_cnt1 (hL : Lat n T) (ht : tF n T f) (st len : Int32) : mX9_count f (nI n) st len 1 = some (nI (comP T n)) := by
  unfold mX9_count
  rw [if_neg (show ¬ (1 : Int32) = 0 by decide), if_pos rfl, X8_commutingPairs_ok hL ht, bd_some]
theorem a_cnt2 (hL : Lat n T) (ht : tF n T f) (st len : Int32) : mX9_count f (nI n) st len 2 = some (nI (assP T n)) := by
  unfold mX9_count
  rw [if_neg (show ¬ (2 : Int32) = 0 by decide), if_neg (show ¬ (2 : Int32) = 1 by decide), if_pos rfl, X8_associatingTriples_ok hL ht, bd_some]
theorem a_cnt5 (hL : Lat n T) (ht : tF n T f) (st len : Int32) : mX9_count f (nI n) st len 5 = some (nI (slfS T n)) := by
  unfold mX9_count
  rw [if_neg (show ¬ (5 : Int32) = 0 by decide), if_neg (show ¬ (5 : Int32) = 1 by decide), if_neg (show ¬ (5 : Int32) = 2 by decide), if_neg (show ¬ (5 : Int32) = 3 by decide), if_neg (show ¬ (5 : Int32) = 4 by decide), if_pos rfl, X8_selfSums_ok hL ht, bd_some]
theorem a_cnt9 (hL : Lat n T) (ht : tF n T f) (st len : Int32) : mX9_count f (nI n) st len 9 = some (nI (sqN T n)) := by
  unfold mX9_count
  rw [if_neg (show ¬ (9 : Int32) = 0 by decide), if_neg (show ¬ (9 : Int32) = 1 by decide), if_neg (show ¬ (9 : Int32) = 2 by decide), if_neg (show ¬ (9 : Int32) = 3 by decide), if_neg (show ¬ (9 : Int32) = 4 by decide), if_neg (show ¬ (9 : Int32) = 5 by decide), if_neg (show ¬ (9 : Int32) = 6 by decide), if_neg (show ¬ (9 : Int32) = 7 by decide), if_neg (show ¬ (9 : Int32) = 8 by decide), if_pos rfl, X4_howMany_ok hL ht, bd_some]
theorem a_cnt3 {r : Int32} (st len : Int32) (e : mX8_neutralToken f (nI n) (bI true) = some r) : mX9_count f (nI n) st len 3 = some r := by
  unfold mX9_count
  rw [if_neg (show ¬ (3 : Int32) = 0 by decide), if_neg (show ¬ (3 : Int32) = 1 by decide), if_neg (show ¬ (3 : Int32) = 2 by decide), if_pos rfl, show mX8_neutralToken f (nI n) 1 = some r from e, bd_some]
theorem a_cnt4 {r : Int32} (st len : Int32) (e : mX8_neutralToken f (nI n) (bI false) = some r) : mX9_count f (nI n) st len 4 = some r := by
  unfold mX9_count
  rw [if_neg (show ¬ (4 : Int32) = 0 by decide), if_neg (show ¬ (4 : Int32) = 1 by decide), if_neg (show ¬ (4 : Int32) = 2 by decide), if_neg (show ¬ (4 : Int32) = 3 by decide), if_pos rfl, show mX8_neutralToken f (nI n) 0 = some r from e, bd_some]
theorem a_cnt6 {r : Int32} (st len : Int32) (e : mX2_howMany f (nI n) = some r) : mX9_count f (nI n) st len 6 = some r := by
  unfold mX9_count
  rw [if_neg (show ¬ (6 : Int32) = 0 by decide), if_neg (show ¬ (6 : Int32) = 1 by decide), if_neg (show ¬ (6 : Int32) = 2 by decide), if_neg (show ¬ (6 : Int32) = 3 by decide), if_neg (show ¬ (6 : Int32) = 4 by decide), if_neg (show ¬ (6 : Int32) = 5 by decide), if_pos rfl, e, bd_some]
theorem a_cnt8 {r : Int32} (st len : Int32) (e : mX2_leastSeeds f (nI n) = some r) : mX9_count f (nI n) st len 8 = some r := by
  unfold mX9_count
  rw [if_neg (show ¬ (8 : Int32) = 0 by decide), if_neg (show ¬ (8 : Int32) = 1 by decide), if_neg (show ¬ (8 : Int32) = 2 by decide), if_neg (show ¬ (8 : Int32) = 3 by decide), if_neg (show ¬ (8 : Int32) = 4 by decide), if_neg (show ¬ (8 : Int32) = 5 by decide), if_neg (show ¬ (8 : Int32) = 6 by decide), if_neg (show ¬ (8 : Int32) = 7 by decide), if_pos rfl, e, bd_some]
theorem a_cnt11 (st len : Int32) : mX9_count f (nI n) st len 11 = some st := by
  unfold mX9_count
  rw [if_neg (show ¬ (11 : Int32) = 0 by decide), if_neg (show ¬ (11 : Int32) = 1 by decide), if_neg (show ¬ (11 : Int32) = 2 by decide), if_neg (show ¬ (11 : Int32) = 3 by decide), if_neg (show ¬ (11 : Int32) = 4 by decide), if_neg (show ¬ (11 : Int32) = 5 by decide), if_neg (show ¬ (11 : Int32) = 6 by decide), if_neg (show ¬ (11 : Int32) = 7 by decide), if_neg (show ¬ (11 : Int32) = 8 by decide), if_neg (show ¬ (11 : Int32) = 9 by decide), if_neg (show ¬ (11 : Int32) = 10 by decide), if_pos rfl]; rfl
theorem a_ring (hL : Lat n T) (ht : tF n T f) {v : Nat} (h1 : 1 ≤ v) (hv : v < 2 ^ n) : ∃ r, isCl n T v r ∧ mX9_ring f (nI n) (nI v) = some (nI r) := by
  have h8 := hL.2.1
  have hp := p2_le h8
  obtain ⟨r, r1, r2⟩ := X2_grownFrom_ok hL ht h1 hv
  refine ⟨r, r1, ?_⟩
  unfold mX9_ring
  rw [X6_allBits_ok h8, bd_some]
  rcases withn (nI v) (a := 1) (b := 2 ^ n - 1) (by omega) (by omega) with ⟨_, _, _, _, e0⟩ | ⟨e0, _⟩
  · rw [show mX9_isWithin (nI v) 1 (nI (2 ^ n - 1)) = some 1 from e0, bd_some, if_neg qn10, r2, bd_some]
  · exact absurd rfl (e0 v h1 (by omega))
end Answers
