/-! searches; tokens that change nothing -/
theorem lpFS {α R : Type} (G : Nat → Int32 → α → Option R) (n i0 : Nat) (st : Nat → α) (p : Nat → Bool) (r : Nat → Option R) (hi : i0 ≤ n) (hn : n < 5000) (step : ∀ F i, i0 ≤ i → i < n → p i = false → G (F + 1) (nI i) (st i) = G F (nI (i + 1)) (st (i + 1))) (stop : ∀ F i, i0 ≤ i → i < n → p i = true → G (F + 1) (nI i) (st i) = r i) : (∃ i, i0 ≤ i ∧ i < n ∧ p i = true ∧ (∀ j, i0 ≤ j → j < i → p j = false) ∧ G FU (nI i0) (st i0) = r i) ∨ ((∀ j, i0 ≤ j → j < n → p j = false) ∧ ∃ m, G FU (nI i0) (st i0) = G (m + 1) (nI n) (st n)) := by
  have key : ∀ d i F, i + d = n → i0 ≤ i → d < F → (∃ k, i ≤ k ∧ k < n ∧ p k = true ∧ (∀ j, i ≤ j → j < k → p j = false) ∧ G F (nI i) (st i) = r k) ∨ ((∀ j, i ≤ j → j < n → p j = false) ∧ ∃ m, G F (nI i) (st i) = G (m + 1) (nI n) (st n)) := by
    intro d
    induction d with
    | zero =>
      intro i F h1 h2 h3
      have : i = n := by omega
      subst this
      exact Or.inr ⟨fun j h4 h5 => by omega, F - 1, by rw [show F - 1 + 1 = F by omega]⟩
    | succ d ih =>
      intro i F h1 h2 h3
      obtain ⟨F', rfl⟩ : ∃ F', F = F' + 1 := ⟨F - 1, by omega⟩
      cases hp : p i with
      | true => exact Or.inl ⟨i, Nat.le_refl _, by omega, hp, fun j h4 h5 => by omega, stop F' i h2 (by omega) hp⟩
      | false =>
        have e := step F' i h2 (by omega) hp
        rcases ih (i + 1) F' (by omega) (by omega) (by omega) with ⟨k, k1, k2, k3, k4, k5⟩ | ⟨h4, m, h5⟩
        · refine Or.inl ⟨k, by omega, k2, k3, fun j h6 h7 => ?_, e.trans k5⟩
          rcases Nat.eq_or_lt_of_le h6 with rfl | h8
          · exact hp
          · exact k4 j (by omega) h7
        · refine Or.inr ⟨fun j h6 h7 => ?_, m, e.trans h5⟩
          rcases Nat.eq_or_lt_of_le h6 with rfl | h8
          · exact hp
          · exact h4 j (by omega) h7
  exact key (n - i0) i0 FU (by omega) (Nat.le_refl _) (by have := FU_ge; omega)
theorem lpF {R : Type} (G : Nat → Int32 → Option R) (n i0 : Nat) (p : Nat → Bool) (r : Nat → Option R) (hi : i0 ≤ n) (hn : n < 5000) (step : ∀ F i, i0 ≤ i → i < n → p i = false → G (F + 1) (nI i) = G F (nI (i + 1))) (stop : ∀ F i, i0 ≤ i → i < n → p i = true → G (F + 1) (nI i) = r i) : (∃ i, i0 ≤ i ∧ i < n ∧ p i = true ∧ (∀ j, i0 ≤ j → j < i → p j = false) ∧ G FU (nI i0) = r i) ∨ ((∀ j, i0 ≤ j → j < n → p j = false) ∧ ∃ m, G FU (nI i0) = G (m + 1) (nI n)) :=
  lpFS (fun F x (_ : Unit) => G F x) n i0 (fun _ => ()) p r hi hn step stop
/-- a bit as Java has it -/
def bI (b : Bool) : Int32 := if b then 1 else 0
theorem bI_0 {b : Bool} : bI b = 0 ↔ b = false := by cases b <;> decide
theorem nbz_bI (b : Bool) : nbz (bI b) = true := by cases b <;> decide
def allB (p : Nat → Bool) : Nat → Bool
  | 0 => true
  | n + 1 => allB p n && p n
theorem allB_s (p : Nat → Bool) (n : Nat) : allB p (n + 1) = (allB p n && p n) := rfl
theorem allB_iff {p : Nat → Bool} : ∀ {n : Nat}, allB p n = true ↔ ∀ i, i < n → p i = true
  | 0 => ⟨fun _ i h => absurd h (Nat.not_lt_zero i), fun _ => rfl⟩
  | n + 1 => by
    rw [allB_s, Bool.and_eq_true, allB_iff (n := n)]
    exact ⟨fun h i hi => by rcases Nat.lt_succ_iff_lt_or_eq.mp hi with q | rfl
                            · exact h.1 i q
                            · exact h.2, fun h => ⟨fun i hi => h i (by omega), h n (by omega)⟩⟩
theorem allB_not {p : Nat → Bool} {n : Nat} : allB p n = false ↔ ∃ i, i < n ∧ p i = false := by
  constructor
  · intro h
    refine Classical.byContradiction fun q => ?_
    have : allB p n = true := allB_iff.mpr fun i hi => by
      cases hp : p i with
      | true => rfl
      | false => exact absurd ⟨i, hi, hp⟩ q
    rw [this] at h; cases h
  · rintro ⟨i, hi, hp⟩
    cases h : allB p n with
    | false => rfl
    | true => rw [allB_iff.mp h i hi] at hp; cases hp
/-- the sum from one side -/
def sd (T : Nat → Nat → Nat) (lf : Bool) (a x : Nat) : Nat := if lf then T a x else T x a
theorem sd_lt {n : Nat} {T : Nat → Nat → Nat} (hL : Lat n T) (lf : Bool) {a x : Nat} (ha : a < n) (hx : x < n) : sd T lf a x < n := by
  cases lf
  · exact hL.2.2.1 x a hx ha
  · exact hL.2.2.1 a x ha hx
theorem sd_inj {n : Nat} {T : Nat → Nat → Nat} (hL : Lat n T) (lf : Bool) {a x y : Nat} (ha : a < n) (hx : x < n) (hy : y < n) (e : sd T lf a x = sd T lf a y) : x = y := by
  cases lf
  · exact hL.2.2.2.2 a x y ha hx hy e
  · exact hL.2.2.2.1 a x y ha hx hy e
def neu (T : Nat → Nat → Nat) (n t : Nat) (lf : Bool) : Bool := allB (fun x => decide (sd T lf t x = x)) n
theorem neu_one {n : Nat} {T : Nat → Nat → Nat} (hL : Lat n T) {lf : Bool} {t u : Nat} (ht : t < n) (hu : u < n) (h1 : neu T n t lf = true) (h2 : neu T n u lf = true) : t = u := by
  have hn := hL.1
  have e1 := of_decide_eq_true (allB_iff.mp h1 0 (by omega))
  have e2 := of_decide_eq_true (allB_iff.mp h2 0 (by omega))
  cases lf
  · exact hL.2.2.2.1 0 t u (by omega) ht hu (e1.trans e2.symm)
  · exact hL.2.2.2.2 0 t u (by omega) ht hu (e1.trans e2.symm)
section Neutral
variable {n : Nat} {T : Nat → Nat → Nat} {f s : Nat → Int32}
theorem X8_isNeutral_ok (hL : Lat n T) (ht : tF n T f) {t : Nat} (h : t < n) (lf : Bool) : mX8_isNeutral f (nI n) (nI t) (bI lf) = some (bI (neu T n t lf)) := by
  have h8 := hL.2.1
  unfold mX8_isNeutral
  have key : ∀ F i, i < n → mX8_isNeutral_L2 f (nI n) (nI t) (bI lf) (fun (x3_1 : Int32) => some (1)) (F + 1) (nI i) = if sd T lf t i = i then mX8_isNeutral_L2 f (nI n) (nI t) (bI lf) (fun (x3_1 : Int32) => some (1)) F (nI (i + 1)) else some 0 := by
    intro F i hi
    have h1 := sd_lt hL lf h hi
    rw [mX8_isNeutral_L2, X6_size_ok, bd_some, if_neg (nI_ge hi (by omega))]
    cases lf
    · rw [if_pos (show bI false = 0 from rfl), X6_at_ok h8 ht hi h, bd_some, nI_1]
      by_cases c : T i t = i
      · rw [if_pos (by rw [c]), if_pos (show sd T false t i = i from c)]
      · rw [if_neg (fun q => c ((nI_eq (by have : T i t < n := h1; omega) (by omega)).mp q)), if_neg (show ¬ sd T false t i = i from c)]
    · rw [if_neg (show ¬ bI true = 0 by decide), X6_at_ok h8 ht h hi, bd_some, nI_1]
      by_cases c : T t i = i
      · rw [if_pos (by rw [c]), if_pos (show sd T true t i = i from c)]
      · rw [if_neg (fun q => c ((nI_eq (by have : T t i < n := h1; omega) (by omega)).mp q)), if_neg (show ¬ sd T true t i = i from c)]
  rcases lpF (fun F x => mX8_isNeutral_L2 f (nI n) (nI t) (bI lf) (fun (x3_1 : Int32) => some (1)) F x) n 0 (fun i => !decide (sd T lf t i = i)) (fun _ => some 0) (by omega) (by omega) (fun F i _ hi hp => by
      show mX8_isNeutral_L2 _ _ _ _ _ (F + 1) _ = _
      rw [key F i hi, if_pos (by simpa using hp)]) (fun F i _ hi hp => by
      show mX8_isNeutral_L2 _ _ _ _ _ (F + 1) _ = _
      rw [key F i hi, if_neg (by simpa using hp)]) with ⟨i, _, hi, hp, _, e⟩ | ⟨h0, m, e⟩
  · refine Eq.trans e ?_
    rw [show neu T n t lf = false from allB_not.mpr ⟨i, hi, by simpa using hp⟩]; rfl
  · refine Eq.trans e ?_
    show mX8_isNeutral_L2 _ _ _ _ _ (m + 1) _ = _
    rw [mX8_isNeutral_L2, X6_size_ok, bd_some, if_pos (nI_le (Nat.le_refl _) (by omega)), show neu T n t lf = true from allB_iff.mpr fun i hi => by simpa using h0 i (by omega) hi]; rfl
theorem m_isIdle (hL : Lat n T) (hs : sF n T s) {t : Nat} (h : t < n) (lf : Bool) : mX10_isIdle s (nI t) (bI lf) = some (bI (neu T n t lf)) := by
  have h8 := hL.2.1
  unfold mX10_isIdle
  obtain ⟨m, e⟩ := lpU (fun F x a => mX10_isIdle_L5 s (nI t) (bI lf) (fun (x4_1 : Int32) (x3_2 : Int32) => gd (nbz x3_2) (some (x3_2))) F x a) n 0 (fun i => bI (allB (fun x => decide (sd T lf t x = x)) i)) (by omega) (by omega) (fun F i _ hi => by
    have h1 := sd_lt hL lf h hi
    show mX10_isIdle_L5 _ _ _ _ (F + 1) _ _ = _
    rw [mX10_isIdle_L5, m_s0 hs, if_neg (nI_ge hi (by omega)), allB_s, nI_1]
    cases hb : allB (fun x => decide (sd T lf t x = x)) i with
    | false => rw [if_pos (show bI false = 0 from rfl)]; rfl
    | true =>
      rw [if_neg (show ¬ bI true = 0 by decide)]
      cases lf
      · rw [if_pos (show bI false = 0 from rfl), m_plain hL hs hi h, bd_some]
        by_cases c : T i t = i
        · rw [if_pos (by rw [c]), show decide (sd T false t i = i) = true from decide_eq_true c]; rfl
        · rw [if_neg (fun q => c ((nI_eq (by have : T i t < n := h1; omega) (by omega)).mp q)), show decide (sd T false t i = i) = false from decide_eq_false c]; rfl
      · rw [if_neg (show ¬ bI true = 0 by decide), m_plain hL hs h hi, bd_some]
        by_cases c : T t i = i
        · rw [if_pos (by rw [c]), show decide (sd T true t i = i) = true from decide_eq_true c]; rfl
        · rw [if_neg (fun q => c ((nI_eq (by have : T t i < n := h1; omega) (by omega)).mp q)), show decide (sd T true t i = i) = false from decide_eq_false c]; rfl)
  refine Eq.trans e ?_
  show mX10_isIdle_L5 _ _ _ _ (m + 1) _ _ = _
  rw [mX10_isIdle_L5, m_s0 hs, if_pos (nI_le (Nat.le_refl _) (by omega)), gd_t (nbz_bI _)]; rfl
/-- the token that changes nothing, as both tell it -/
theorem neutral_both (hL : Lat n T) (ht : tF n T f) (hs : sF n T s) (lf : Bool) : ∃ r, mX8_neutralToken f (nI n) (bI lf) = some r ∧ mX10_idle s (bI lf) = some r := by
  have h8 := hL.2.1
  have hm : ∀ (F i : Nat) (a : Int32), i < n → mX10_idle_L5 s (bI lf) (fun (x3_1 : Int32) (x2_2 : Int32) => some (x2_2)) (F + 1) (nI i) a = mX10_idle_L5 s (bI lf) (fun (x3_1 : Int32) (x2_2 : Int32) => some (x2_2)) F (nI (i + 1)) (if neu T n i lf = true then nI i else a) := by
    intro F i a hi
    rw [mX10_idle_L5, m_s0 hs, if_neg (nI_ge hi (by omega)), m_isIdle hL hs hi lf, bd_some, nI_1]
    cases hb : neu T n i lf with
    | false => rw [if_pos (show bI false = 0 from rfl)]; rfl
    | true => rw [if_neg (show ¬ bI true = 0 by decide)]; rfl
  have hme : ∀ (m : Nat) (a : Int32), mX10_idle_L5 s (bI lf) (fun (x3_1 : Int32) (x2_2 : Int32) => some (x2_2)) (m + 1) (nI n) a = some a := by
    intro m a
    rw [mX10_idle_L5, m_s0 hs, if_pos (nI_le (Nat.le_refl _) (by omega))]
  have hk : ∀ F i, i < n → mX8_neutralToken_L2 f (nI n) (bI lf) (fun (x2_1 : Int32) => some ((-4))) (F + 1) (nI i) = if neu T n i lf = true then some (nI i) else mX8_neutralToken_L2 f (nI n) (bI lf) (fun (x2_1 : Int32) => some ((-4))) F (nI (i + 1)) := by
    intro F i hi
    rw [mX8_neutralToken_L2, X6_size_ok, bd_some, if_neg (nI_ge hi (by omega)), X8_isNeutral_ok hL ht hi lf, bd_some, nI_1]
    cases hb : neu T n i lf with
    | false => rw [if_pos (show bI false = 0 from rfl)]; rfl
    | true => rw [if_neg (show ¬ bI true = 0 by decide)]; rfl
  rcases lpF (fun F x => mX8_neutralToken_L2 f (nI n) (bI lf) (fun (x2_1 : Int32) => some ((-4))) F x) n 0 (fun i => neu T n i lf) (fun i => some (nI i)) (by omega) (by omega) (fun F i _ hi hp => by
      show mX8_neutralToken_L2 _ _ _ _ (F + 1) _ = _
      rw [hk F i hi, if_neg (by rw [hp]; decide)]) (fun F i _ hi hp => by
      show mX8_neutralToken_L2 _ _ _ _ (F + 1) _ = _
      rw [hk F i hi, if_pos hp]) with ⟨t, _, hi, hp, _, e⟩ | ⟨h0, m, e⟩
  · refine ⟨nI t, e, ?_⟩
    unfold mX10_idle
    obtain ⟨m2, e2⟩ := lpU (fun F x a => mX10_idle_L5 s (bI lf) (fun (x3_1 : Int32) (x2_2 : Int32) => some (x2_2)) F x a) n 0 (fun i => if t < i then nI t else -4) (by omega) (by omega) (fun F i _ hi => by
      show mX10_idle_L5 _ _ _ (F + 1) _ _ = _
      rw [hm F i _ hi]
      cases hb : neu T n i lf with
      | true =>
        have := neu_one hL (by omega) hi hp hb
        subst this
        rw [if_pos rfl, if_pos (Nat.lt_succ_self _)]
      | false =>
        have hne : i ≠ t := fun q => by rw [q, hp] at hb; cases hb
        rw [if_neg (by decide)]
        by_cases q : t < i
        · rw [if_pos q, if_pos (by omega)]
        · rw [if_neg q, if_neg (by omega)])
    refine Eq.trans e2 ?_
    show mX10_idle_L5 _ _ _ (m2 + 1) _ _ = _
    rw [hme, if_pos hi]
  · refine ⟨-4, ?_, ?_⟩
    · refine Eq.trans e ?_
      show mX8_neutralToken_L2 _ _ _ _ (m + 1) _ = _
      rw [mX8_neutralToken_L2, X6_size_ok, bd_some, if_pos (nI_le (Nat.le_refl _) (by omega))]
    · unfold mX10_idle
      obtain ⟨m2, e2⟩ := lpU (fun F x a => mX10_idle_L5 s (bI lf) (fun (x3_1 : Int32) (x2_2 : Int32) => some (x2_2)) F x a) n 0 (fun _ => (-4 : Int32)) (by omega) (by omega) (fun F i _ hi => by
        show mX10_idle_L5 _ _ _ (F + 1) _ _ = _
        rw [hm F i _ hi, if_neg (by rw [h0 i (by omega) hi]; decide)])
      refine Eq.trans e2 ?_
      show mX10_idle_L5 _ _ _ (m2 + 1) _ _ = _
      rw [hme]
end Neutral
