/-! turns of all tokens: rounds, and the least number of times behind which all come again -/
section Turns2
variable {n : Nat} {T : Nat → Nat → Nat} {f s : Nat → Int32}
def rtn (T : Nat → Nat → Nat) (a : Nat) (ρ : Nat → Nat) (n : Nat) : Prop := ∀ x, x < n → isRet T true a x (ρ x) ∧ ρ x ≤ n
theorem rtn_ex (hL : Lat n T) {a : Nat} (ha : a < n) : ∃ ρ, rtn T a ρ n := by
  refine ⟨fun x => if h : x < n then Classical.choose (ret_ex hL true ha h) else 1, fun x hx => ?_⟩
  simp only [dif_pos hx]
  exact Classical.choose_spec (ret_ex hL true ha hx)
theorem rem_nI {a d : Nat} (ha : a < 2 ^ 31) (h0 : 0 < d) (hd : d < 2 ^ 31) : (nI a - nI a / nI d * nI d = 0) ↔ a % d = 0 := by
  rw [pk_rem ha h0 hd, show (0 : Int32) = nI 0 from rfl]
  exact nI_eq (by have := Nat.mod_lt a h0; omega) (by omega)
theorem X7_allReturnBehind_ok (hL : Lat n T) (ht : tF n T f) {a N : Nat} (ha : a < n) (hN : N < 2 ^ 31) {ρ : Nat → Nat} (hρ : rtn T a ρ n) : mX7_allReturnBehind f (nI n) (nI a) (nI N) = some (bI (allB (fun x => decide (N % ρ x = 0)) n)) := by
  have h8 := hL.2.1
  unfold mX7_allReturnBehind
  have key : ∀ F i, i < n → mX7_allReturnBehind_L2 f (nI n) (nI a) (nI N) (fun (x3_1 : Int32) => some (1)) (F + 1) (nI i) = if N % ρ i = 0 then mX7_allReturnBehind_L2 f (nI n) (nI a) (nI N) (fun (x3_1 : Int32) => some (1)) F (nI (i + 1)) else some 0 := by
    intro F i hi
    obtain ⟨h1, h2⟩ := hρ i hi
    have h3 := h1.1
    rw [mX7_allReturnBehind_L2, X6_size_ok, bd_some, if_neg (nI_ge hi (by omega)), show (1 : Int32) = bI true from rfl, X7_timesToReturn_ok hL ht true ha hi h1 h2, bd_some, if_neg (nI_nle (by omega) (by omega)), gd_t (nzb_nI (by omega) (by omega)), show bI true = 1 from rfl, nI_1]
    by_cases c : N % ρ i = 0
    · rw [if_pos ((rem_nI hN (by omega) (by omega)).mpr c), if_pos c]
    · rw [if_neg (fun q => c ((rem_nI hN (by omega) (by omega)).mp q)), if_neg c]
  rcases lpF (fun F x => mX7_allReturnBehind_L2 f (nI n) (nI a) (nI N) (fun (x3_1 : Int32) => some (1)) F x) n 0 (fun i => !decide (N % ρ i = 0)) (fun _ => some 0) (by omega) (by omega) (fun F i _ hi hp => by
      show mX7_allReturnBehind_L2 _ _ _ _ _ (F + 1) _ = _
      rw [key F i hi, if_pos (by simpa using hp)]) (fun F i _ hi hp => by
      show mX7_allReturnBehind_L2 _ _ _ _ _ (F + 1) _ = _
      rw [key F i hi, if_neg (by simpa using hp)]) with ⟨i, _, hi, hp, _, e⟩ | ⟨h0, m, e⟩
  · refine Eq.trans e ?_
    rw [show allB (fun x => decide (N % ρ x = 0)) n = false from allB_not.mpr ⟨i, hi, by simpa using hp⟩]; rfl
  · refine Eq.trans e ?_
    show mX7_allReturnBehind_L2 _ _ _ _ _ (m + 1) _ = _
    rw [mX7_allReturnBehind_L2, X6_size_ok, bd_some, if_pos (nI_le (Nat.le_refl _) (by omega)), show allB (fun x => decide (N % ρ x = 0)) n = true from allB_iff.mpr fun i hi => by simpa using h0 i (by omega) hi]; rfl
/-- the times: there are some within 840 -/
theorem again_ex (hL : Lat n T) {a : Nat} {ρ : Nat → Nat} (hρ : rtn T a ρ n) : ∃ N, 1 ≤ N ∧ N ≤ 840 ∧ allB (fun x => decide (N % ρ x = 0)) n = true ∧ ∀ M, 1 ≤ M → M < N → allB (fun x => decide (M % ρ x = 0)) n = false := by
  have h8 := hL.2.1
  have h840 : allB (fun x => decide (840 % ρ x = 0)) n = true := allB_iff.mpr fun x hx => by
    obtain ⟨h1, h2⟩ := hρ x hx
    have h3 := h1.1
    refine decide_eq_true ?_
    have : ρ x = 1 ∨ ρ x = 2 ∨ ρ x = 3 ∨ ρ x = 4 ∨ ρ x = 5 ∨ ρ x = 6 ∨ ρ x = 7 ∨ ρ x = 8 := by omega
    rcases this with e | e | e | e | e | e | e | e <;> rw [e]
  obtain ⟨N, ⟨h1, h2, h3⟩, hN⟩ := pk_least (fun k => 1 ≤ k ∧ k ≤ 840 ∧ allB (fun x => decide (k % ρ x = 0)) n = true) ⟨840, by omega, by omega, h840⟩
  refine ⟨N, h1, h2, h3, fun M h4 h5 => ?_⟩
  cases h : allB (fun x => decide (M % ρ x = 0)) n with
  | false => rfl
  | true => exact absurd ⟨h4, by omega, h⟩ (hN M h5)
theorem again_both (hL : Lat n T) (ht : tF n T f) (hs : sF n T s) {a : Nat} (ha : a < n) : ∃ r, mX7_timesToReturnAll f (nI n) (nI a) = some r ∧ mX10_again s (nI a) = some r := by
  have h8 := hL.2.1
  obtain ⟨ρ, hρ⟩ := rtn_ex hL ha
  obtain ⟨N, h1, h2, h3, h4⟩ := again_ex hL hρ
  refine ⟨nI N, ?_, ?_⟩
  · unfold mX7_timesToReturnAll
    have key : ∀ F i, 1 ≤ i → i < 841 → mX7_timesToReturnAll_L2 f (nI n) (nI a) (fun (x2_1 : Int32) => some ((-4))) (F + 1) (nI i) = if allB (fun x => decide (i % ρ x = 0)) n = true then some (nI i) else mX7_timesToReturnAll_L2 f (nI n) (nI a) (fun (x2_1 : Int32) => some ((-4))) F (nI (i + 1)) := by
      intro F i hi1 hi
      rw [mX7_timesToReturnAll_L2, if_neg (show ¬ (840 : Int32) < nI i from nI_nlt (a := 840) (by omega) (by omega)), X7_allReturnBehind_ok hL ht ha (by omega) hρ, bd_some, nI_1]
      cases hb : allB (fun x => decide (i % ρ x = 0)) n with
      | false => rw [if_pos (show bI false = 0 from rfl)]; rfl
      | true => rw [if_neg (show ¬ bI true = 0 by decide)]; rfl
    rcases lpF (fun F x => mX7_timesToReturnAll_L2 f (nI n) (nI a) (fun (x2_1 : Int32) => some ((-4))) F x) 841 1 (fun i => allB (fun x => decide (i % ρ x = 0)) n) (fun i => some (nI i)) (by omega) (by omega) (fun F i h5 hi hp => by
        show mX7_timesToReturnAll_L2 _ _ _ _ (F + 1) _ = _
        rw [key F i h5 hi, if_neg (by rw [hp]; decide)]) (fun F i h5 hi hp => by
        show mX7_timesToReturnAll_L2 _ _ _ _ (F + 1) _ = _
        rw [key F i h5 hi, if_pos hp]) with ⟨i, h5, hi, hp, hb, e⟩ | ⟨h0, -⟩
    · have : i = N := by
        rcases Nat.lt_trichotomy i N with q | q | q
        · rw [h4 i h5 q] at hp; cases hp
        · exact q
        · rw [hb N h1 q] at h3; cases h3
      rw [← this]; exact e
    · rw [h0 N h1 (by omega)] at h3; cases h3
  · unfold mX10_again
    have inner : ∀ (F : Nat) (N : Nat), N < 2 ^ 31 → ∀ (k : Int32 → Int32 → Option Int32), mX10_again_L20 s (nI a) (nI N) k FU 0 1 = k (nI n) (bI (allB (fun x => decide (N % ρ x = 0)) n)) := by
      intro _ N hN k
      obtain ⟨m, e⟩ := lpU (fun F x b => mX10_again_L20 s (nI a) (nI N) k F x b) n 0 (fun i => bI (allB (fun x => decide (N % ρ x = 0)) i)) (by omega) (by omega) (fun F i _ hi => by
        obtain ⟨g1, g2⟩ := hρ i hi
        have g3 := g1.1
        show mX10_again_L20 _ _ _ _ (F + 1) _ _ = _
        rw [mX10_again_L20, m_s0 hs, if_neg (nI_ge hi (by omega)), allB_s, nI_1]
        cases hb : allB (fun x => decide (N % ρ x = 0)) i with
        | false => rw [if_pos (show bI false = 0 from rfl)]; rfl
        | true =>
          rw [if_neg (show ¬ bI true = 0 by decide), show mX10_roundOf s (nI i) (nI a) 1 = some (nI (ρ i)) from m_roundOf hL hs true ha hi g1 g2, bd_some, gd_t (nzb_nI (by omega) (by omega))]
          by_cases c : N % ρ i = 0
          · rw [if_pos ((rem_nI hN (by omega) (by omega)).mpr c), show decide (N % ρ i = 0) = true from decide_eq_true c]; rfl
          · rw [if_neg (fun q => c ((rem_nI hN (by omega) (by omega)).mp q)), show decide (N % ρ i = 0) = false from decide_eq_false c]; rfl)
      refine Eq.trans e ?_
      show mX10_again_L20 _ _ _ _ (m + 1) _ _ = _
      rw [mX10_again_L20, m_s0 hs, if_pos (nI_le (Nat.le_refl _) (by omega))]
    obtain ⟨m, e⟩ := lpU (fun F x b => mX10_again_L4 s (nI a) (fun (x3_1 : Int32) (x2_2 : Int32) => some ((x2_2 - 1))) F b x) (N + 1) 1 (fun i => if i ≤ N then 0 else 1) (by omega) (by omega) (fun F i hi1 hi => by
      show mX10_again_L4 _ _ _ (F + 1) _ _ = _
      rw [mX10_again_L4, if_pos (show i ≤ N by omega), if_pos rfl, if_neg (show ¬ (840 : Int32) < nI i from nI_nlt (a := 840) (by omega) (by omega)), inner 0 i (by omega), nI_1]
      rcases Nat.lt_or_ge i N with q | q
      · rw [h4 i hi1 q, if_pos (show i + 1 ≤ N by omega)]; rfl
      · have : i = N := by omega
        subst this
        rw [h3, if_neg (show ¬ i + 1 ≤ i by omega)]; rfl)
    have e2 : mX10_again_L4 s (nI a) (fun (x3_1 : Int32) (x2_2 : Int32) => some ((x2_2 - 1))) FU 0 1 = mX10_again_L4 s (nI a) (fun (x3_1 : Int32) (x2_2 : Int32) => some ((x2_2 - 1))) (m + 1) 1 (nI (N + 1)) := by
      simp only [if_pos h1, if_neg (show ¬ N + 1 ≤ N by omega)] at e
      exact e
    rw [e2, mX10_again_L4, if_neg (by decide), nI_pred]
/-- the least of a round -/
def lor (T : Nat → Nat → Nat) (n a x : Nat) : Bool := allB (fun i => decide (x ≤ itr T true a x (i + 1))) n
theorem itr_per (lf : Bool) {a x r : Nat} (h : itr T lf a x r = x) : ∀ k, itr T lf a x (k + r) = itr T lf a x k
  | 0 => by rw [Nat.zero_add]; exact h
  | k + 1 => by rw [show k + 1 + r = (k + r) + 1 by omega, itr_s, itr_s, itr_per lf h k]
theorem itr_mod (lf : Bool) {a x r : Nat} (h : itr T lf a x r = x) (hr : 1 ≤ r) (k : Nat) : itr T lf a x k = itr T lf a x (k % r) := by
  induction k using Nat.strongRecOn with
  | _ k ih =>
    rcases Nat.lt_or_ge k r with q | q
    · rw [Nat.mod_eq_of_lt q]
    · have := itr_per lf h (k - r)
      rw [show k - r + r = k by omega] at this
      rw [this, ih (k - r) (by omega), ← Nat.mod_eq_sub_mod q]
theorem lor_8 (hL : Lat n T) {a x : Nat} (ha : a < n) (hx : x < n) : allB (fun i => decide (x ≤ itr T true a x (i + 1))) 8 = lor T n a x := by
  have h8 := hL.2.1
  obtain ⟨r, ⟨h1, h2, h3⟩, hr⟩ := ret_ex hL true ha hx
  cases hb : lor T n a x with
  | true =>
    refine allB_iff.mpr fun i _ => ?_
    refine decide_eq_true ?_
    have hm := Nat.mod_lt (i + 1) (show 0 < r by omega)
    rw [itr_mod true h2 h1]
    rcases Nat.eq_zero_or_pos ((i + 1) % r) with q | q
    · rw [q]; exact Nat.le_refl _
    · have := of_decide_eq_true (allB_iff.mp hb ((i + 1) % r - 1) (by omega))
      rwa [show (i + 1) % r - 1 + 1 = (i + 1) % r by omega] at this
  | false =>
    obtain ⟨i, hi, hp⟩ := allB_not.mp hb
    exact allB_not.mpr ⟨i, by omega, hp⟩
def rnds (T : Nat → Nat → Nat) (n a : Nat) : Nat := sm (fun x => if lor T n a x = true then 1 else 0) n
theorem X7_isLeastOfRound_ok (hL : Lat n T) (ht : tF n T f) {a x : Nat} (ha : a < n) (hx : x < n) : mX7_isLeastOfRound f (nI x) (nI a) = some (bI (lor T n a x)) := by
  have h8 := hL.2.1
  rw [← lor_8 hL ha hx]
  unfold mX7_isLeastOfRound
  have key : ∀ F i, i < 8 → mX7_isLeastOfRound_L5 f (nI x) (nI a) (fun (x4_1 : Int32) (x3_2 : Int32) => some (1)) (F + 1) (nI i) (nI (itr T true a x i)) = if x ≤ itr T true a x (i + 1) then mX7_isLeastOfRound_L5 f (nI x) (nI a) (fun (x4_1 : Int32) (x3_2 : Int32) => some (1)) F (nI (i + 1)) (nI (itr T true a x (i + 1))) else some 0 := by
    intro F i hi
    have h3 := itr_lt hL true ha hx i
    have h4 := itr_lt hL true ha hx (i + 1)
    rw [mX7_isLeastOfRound_L5, if_neg (show ¬ (8 : Int32) ≤ nI i from nI_ge (b := 8) (by omega) (by omega)), X6_at_ok h8 ht ha h3, bd_some, nI_1, show T a (itr T true a x i) = itr T true a x (i + 1) from rfl]
    by_cases c : x ≤ itr T true a x (i + 1)
    · rw [if_pos (nI_le c (by omega)), if_pos c]
    · rw [if_neg (nI_ge (by omega) (by omega)), if_neg c]
  rcases lpFS (fun F y b => mX7_isLeastOfRound_L5 f (nI x) (nI a) (fun (x4_1 : Int32) (x3_2 : Int32) => some (1)) F y b) 8 0 (fun i => nI (itr T true a x i)) (fun i => !decide (x ≤ itr T true a x (i + 1))) (fun _ => some 0) (by omega) (by omega) (fun F i _ hi hp => by
      show mX7_isLeastOfRound_L5 _ _ _ _ (F + 1) _ _ = _
      rw [key F i hi, if_pos (by simpa using hp)]) (fun F i _ hi hp => by
      show mX7_isLeastOfRound_L5 _ _ _ _ (F + 1) _ _ = _
      rw [key F i hi, if_neg (by simpa using hp)]) with ⟨i, _, hi, hp, _, e⟩ | ⟨h0, m, e⟩
  · refine Eq.trans e ?_
    rw [show allB (fun i => decide (x ≤ itr T true a x (i + 1))) 8 = false from allB_not.mpr ⟨i, hi, by simpa using hp⟩]; rfl
  · refine Eq.trans e ?_
    show mX7_isLeastOfRound_L5 _ _ _ _ (m + 1) _ _ = _
    rw [mX7_isLeastOfRound_L5, if_pos (show (8 : Int32) ≤ nI 8 from nI_le (a := 8) (Nat.le_refl _) (by omega)), show allB (fun i => decide (x ≤ itr T true a x (i + 1))) 8 = true from allB_iff.mpr fun i hi => by simpa using h0 i (by omega) hi]; rfl
theorem X7_rounds_ok (hL : Lat n T) (ht : tF n T f) {a : Nat} (ha : a < n) : mX7_rounds f (nI n) (nI a) = some (nI (rnds T n a)) := by
  have h8 := hL.2.1
  unfold mX7_rounds
  obtain ⟨m, e⟩ := lpC (fun F x b => mX7_rounds_L4 f (nI n) (nI a) (fun (x3_1 : Int32) (x2_2 : Int32) => some (x2_2)) F x b) n 0 (fun x => if lor T n a x = true then 1 else 0) (by omega) (fun F i b hi => by
    show mX7_rounds_L4 _ _ _ _ (F + 1) _ _ = _
    rw [mX7_rounds_L4, X6_size_ok, bd_some, if_neg (nI_ge hi (by omega)), X7_isLeastOfRound_ok hL ht ha hi, bd_some]
    cases hb : lor T n a i with
    | false => rw [if_pos (show bI false = 0 from rfl), nI_1]; rfl
    | true => rw [if_neg (show ¬ bI true = 0 by decide), nI_1, nI_1]; rfl)
  refine Eq.trans e ?_
  show mX7_rounds_L4 _ _ _ _ (m + 1) _ _ = _
  rw [mX7_rounds_L4, X6_size_ok, bd_some, if_pos (nI_le (Nat.le_refl _) (by omega)), Nat.zero_add]; rfl
def mn (T : Nat → Nat → Nat) (a x : Nat) : Nat → Nat
  | 0 => x
  | k + 1 => if itr T true a x (k + 1) < mn T a x k then itr T true a x (k + 1) else mn T a x k
theorem mn_s (a x k : Nat) : mn T a x (k + 1) = if itr T true a x (k + 1) < mn T a x k then itr T true a x (k + 1) else mn T a x k := rfl
theorem mn_le (a x : Nat) : ∀ k, mn T a x k ≤ x
  | 0 => Nat.le_refl _
  | k + 1 => by
    have := mn_le a x k
    rw [mn_s]
    by_cases q : itr T true a x (k + 1) < mn T a x k
    · rw [if_pos q]; omega
    · rw [if_neg q]; omega
theorem mn_lor (a x : Nat) : ∀ k, mn T a x k = x ↔ allB (fun i => decide (x ≤ itr T true a x (i + 1))) k = true
  | 0 => ⟨fun _ => rfl, fun _ => rfl⟩
  | k + 1 => by
    have h1 := mn_le (T := T) a x k
    rw [mn_s, allB_s, Bool.and_eq_true, ← mn_lor a x k]
    by_cases q : itr T true a x (k + 1) < mn T a x k
    · rw [if_pos q]
      refine ⟨fun h => ?_, fun h => ?_⟩
      · omega
      · have := of_decide_eq_true h.2; omega
    · rw [if_neg q]
      exact ⟨fun h => ⟨h, decide_eq_true (by omega)⟩, fun h => h.1⟩
theorem m_rounds (hL : Lat n T) (hs : sF n T s) {a : Nat} (ha : a < n) : mX10_rounds s (nI a) = some (nI (rnds T n a)) := by
  have h8 := hL.2.1
  unfold mX10_rounds
  obtain ⟨m, e⟩ := lpC (fun F x b => mX10_rounds_L4 s (nI a) (fun (x3_1 : Int32) (x2_2 : Int32) => some (x2_2)) F x b) n 0 (fun x => if lor T n a x = true then 1 else 0) (by omega) (fun F i b hi => by
    show mX10_rounds_L4 _ _ _ (F + 1) _ _ = _
    rw [mX10_rounds_L4, m_s0 hs, if_neg (nI_ge hi (by omega)), nI_1]
    obtain ⟨m, e⟩ := lpU (fun F2 y (q : Int32 × Int32) => mX10_rounds_L23 s (nI a) (fun (x6_6 : Int32) (x5_7 : Int32) (x4_8 : Int32) => if x4_8 = nI i then (mX10_rounds_L4 s (nI a) (fun (x3_1 : Int32) (x2_2 : Int32) => some (x2_2)) F (nI (i + 1)) (nI b + 1)) else (mX10_rounds_L4 s (nI a) (fun (x3_1 : Int32) (x2_2 : Int32) => some (x2_2)) F (nI (i + 1)) (nI b + 0))) F2 y q.1 q.2) n 0 (fun k => (nI (itr T true a i k), nI (mn T a i k))) (by omega) (by omega) (fun F2 k _ hk => by
      have h3 := itr_lt hL true ha hi k
      have h4 := itr_lt hL true ha hi (k + 1)
      have h5 := mn_le (T := T) a i k
      show mX10_rounds_L23 _ _ _ (F2 + 1) _ _ _ = _
      rw [mX10_rounds_L23, m_s0 hs, if_neg (nI_ge hk (by omega)), m_plain hL hs ha h3, bd_some, nI_1 k, show T a (itr T true a i k) = itr T true a i (k + 1) from rfl, mn_s]
      by_cases c : itr T true a i (k + 1) < mn T a i k
      · rw [if_neg (nI_ge c (by omega)), if_pos c]
      · rw [if_pos (nI_le (by omega) (by omega)), if_neg c])
    refine Eq.trans e ?_
    show mX10_rounds_L23 _ _ _ (m + 1) _ _ _ = _
    have h5 := mn_le (T := T) a i n
    rw [mX10_rounds_L23, m_s0 hs, if_pos (nI_le (Nat.le_refl _) (by omega))]
    cases hb : lor T n a i with
    | false => rw [if_neg (fun q => by
        have := (mn_lor a i n).mp ((nI_eq (by omega) (by omega)).mp q)
        rw [show allB (fun k => decide (i ≤ itr T true a i (k + 1))) n = false from hb] at this; cases this), show (0 : Int32) = nI 0 from rfl, nI_add]; rfl
    | true => rw [if_pos (by rw [(mn_lor a i n).mpr hb]), nI_1]; rfl)
  refine Eq.trans e ?_
  show mX10_rounds_L4 _ _ _ (m + 1) _ _ = _
  rw [mX10_rounds_L4, m_s0 hs, if_pos (nI_le (Nat.le_refl _) (by omega)), Nat.zero_add]; rfl
end Turns2
