/-! rings in their order -/
theorem ip {α : Type} {c : Prop} [Decidable c] {A B z : α} (h : c) (k : A = z) : (if c then A else B) = z := (if_pos h).trans k
theorem iq {α : Type} {c : Prop} [Decidable c] {A B z : α} (h : ¬ c) (k : B = z) : (if c then A else B) = z := (if_neg h).trans k
theorem gd_z {α : Type} {b : Bool} {k z : Option α} (h : b = true) (hk : k = z) : gd b k = z := (gd_t h).trans hk
theorem bd_z {α β : Type} {o : Option α} {a : α} {k : α → Option β} {z : Option β} (h : o = some a) (hk : k a = z) : bd o k = z := (bd_s h).trans hk
theorem ite_z {α : Type} {c : Prop} [Decidable c] {A B z : α} (h1 : c → A = z) (h2 : ¬ c → B = z) : (if c then A else B) = z := by
  by_cases h : c
  · rw [if_pos h]; exact h1 h
  · rw [if_neg h]; exact h2 h
/-- how many rings stand below -/
def rbl (n : Nat) (T : Nat → Nat → Nat) (i : Nat) : Nat := sm (fun i => if rg n T i = true then 1 else 0) i
theorem rbl_s (n : Nat) (T : Nat → Nat → Nat) (i : Nat) : rbl n T (i + 1) = rbl n T i + (if rg n T i = true then 1 else 0) := rfl
theorem rbl_mono (n : Nat) (T : Nat → Nat → Nat) : ∀ {i j : Nat}, i ≤ j → rbl n T i ≤ rbl n T j := by
  intro i j h
  induction j with
  | zero => have : i = 0 := by omega
            subst this; exact Nat.le_refl _
  | succ j ih =>
    rcases Nat.lt_or_ge i (j + 1) with q | q
    · have := ih (by omega)
      rw [rbl_s]; omega
    · have : i = j + 1 := by omega
      subst this; exact Nat.le_refl _
theorem rbl_le (n : Nat) (T : Nat → Nat → Nat) : ∀ i, rbl n T (i + 1) ≤ i
  | 0 => by
    have : rg n T 0 = false := by unfold rg; rw [decide_eq_false (by omega), Bool.false_and]
    rw [rbl_s, this]; exact Nat.le_refl _
  | i + 1 => by
    have := rbl_le n T i
    rw [rbl_s]
    split <;> omega
theorem rbl_at {n : Nat} {T : Nat → Nat → Nat} : ∀ {N k : Nat}, k < rbl n T N → ∃ v, v < N ∧ rg n T v = true ∧ rbl n T v = k
  | 0, k, h => absurd h (Nat.not_lt_zero _)
  | N + 1, k, h => by
    rw [rbl_s] at h
    by_cases q : k < rbl n T N
    · obtain ⟨v, h1, h2, h3⟩ := rbl_at q
      exact ⟨v, by omega, h2, h3⟩
    · by_cases w : rg n T N = true
      · rw [if_pos w] at h
        exact ⟨N, by omega, w, by omega⟩
      · rw [if_neg w] at h
        omega
theorem rbl_up {n : Nat} {T : Nat → Nat → Nat} {v w : Nat} (hv : rg n T v = true) (h : v < w) : rbl n T v < rbl n T w := by
  have h1 : rbl n T (v + 1) ≤ rbl n T w := rbl_mono n T (by omega)
  rw [rbl_s, if_pos hv] at h1
  omega
theorem rg_iff {n : Nat} {T : Nat → Nat → Nat} {v : Nat} : rg n T v = true ↔ 1 ≤ v ∧ cls n T v = true := by
  unfold rg
  rw [Bool.and_eq_true, decide_eq_true_iff]
section Order
variable {n : Nat} {T : Nat → Nat → Nat} {f : Nat → Int32}
theorem rg_all (hL : Lat n T) : rg n T (2 ^ n - 1) = true := by
  have := p2_ge hL.1
  exact rg_iff.mpr ⟨by omega, cls_all hL⟩
theorem rbl_top (hL : Lat n T) : rbl n T (2 ^ n) = rbl n T (2 ^ n - 1) + 1 := by
  have := p2_ge hL.1
  have h : rbl n T (2 ^ n - 1 + 1) = rbl n T (2 ^ n - 1) + (if rg n T (2 ^ n - 1) = true then 1 else 0) := rbl_s n T _
  rw [if_pos (rg_all hL), show 2 ^ n - 1 + 1 = 2 ^ n by omega] at h
  exact h
theorem rbl_255 (hL : Lat n T) : rbl n T (2 ^ n) ≤ 255 := by
  have h0 := p2_ge hL.1
  have h1 := p2_le hL.2.1
  have h : rbl n T (2 ^ n - 1 + 1) ≤ 2 ^ n - 1 := rbl_le n T _
  rw [show 2 ^ n - 1 + 1 = 2 ^ n by omega] at h
  omega
theorem X2_howMany_ok (hL : Lat n T) (ht : tF n T f) : mX2_howMany f (nI n) = some (nI (rbl n T (2 ^ n))) := by
  have h8 := hL.2.1
  have hp := p2_le h8
  have hp0 := p2_ge hL.1
  unfold mX2_howMany
  obtain ⟨m, e⟩ := lpC1 (fun F x q => mX2_howMany_L4 f (nI n) (fun (x2_1 : Int32) (x1_2 : Int32) => some (x1_2)) F x q) (2 ^ n) 1 0 (fun i => if rg n T i = true then 1 else 0) (by omega) (by omega) (fun i hi => by
    have : i = 0 := by omega
    subst this; rfl) (fun F i a h1 hi => by
    show mX2_howMany_L4 _ _ _ (F + 1) _ _ = _
    rw [mX2_howMany_L4, X6_allBits_ok h8, bd_some, if_neg (nI_nlt (by omega) (by omega)), X2_isRing_ok hL ht hi, bd_some, nI_1]
    unfold rg
    rw [decide_eq_true h1, Bool.true_and]
    cases cls n T i with
    | false => rw [if_pos (show bI false = 0 from rfl)]; rfl
    | true => rw [if_neg (show ¬ bI true = 0 by decide), nI_1]; rfl)
  refine Eq.trans e ?_
  show mX2_howMany_L4 _ _ _ (m + 1) _ _ = _
  rw [mX2_howMany_L4, X6_allBits_ok h8, bd_some, if_pos (nI_lt (by omega) (by omega)), Nat.zero_add]; rfl
theorem a_ringAt (hL : Lat n T) (ht : tF n T f) {k : Nat} (hk : k < 2 ^ 31) : (∃ v, 1 ≤ v ∧ v < 2 ^ n ∧ rg n T v = true ∧ rbl n T v = k ∧ mX9_ringAt f (nI n) (nI k) = some (nI v)) ∨ ((∀ v, 1 ≤ v → v < 2 ^ n → ¬ (rg n T v = true ∧ rbl n T v = k)) ∧ mX9_ringAt f (nI n) (nI k) = some (-4)) := by
  have h8 := hL.2.1
  have hp := p2_le h8
  have hp0 := p2_ge hL.1
  unfold mX9_ringAt
  rw [if_pos (nI_pos' hk)]
  have hcl : ∀ i, 1 ≤ i → rg n T i = cls n T i := fun i h => by unfold rg; rw [decide_eq_true h, Bool.true_and]
  have hA : mX2_atPlace f (nI n) (nI k) = mX2_atPlace_L4 f (nI n) (nI k) (fun (x3_1 : Int32) (x2_2 : Int32) => some ((-4))) FU (nI 1) (nI (rbl n T 1)) := rfl
  have hrc : ∀ i, i < 2 ^ n → rbl n T i < 2 ^ 31 := fun i hi => by
    have h1 : rbl n T i ≤ rbl n T (2 ^ n) := rbl_mono n T (by omega)
    have h2 := rbl_255 hL
    omega
  have kA : ∀ F i, 1 ≤ i → i < 2 ^ n → mX2_atPlace_L4 f (nI n) (nI k) (fun (x3_1 : Int32) (x2_2 : Int32) => some ((-4))) (F + 1) (nI i) (nI (rbl n T i)) = if (rg n T i && decide (rbl n T i = k)) = true then some (nI i) else mX2_atPlace_L4 f (nI n) (nI k) (fun (x3_1 : Int32) (x2_2 : Int32) => some ((-4))) F (nI (i + 1)) (nI (rbl n T (i + 1))) := by
    intro F i h1 hi
    rw [mX2_atPlace_L4, X6_allBits_ok h8, bd_some, if_neg (nI_nlt (by omega) (by omega)), X2_isRing_ok hL ht hi, bd_some, nI_1, nI_1, rbl_s, hcl i h1]
    cases cls n T i with
    | false => rw [if_pos (show bI false = 0 from rfl)]; rfl
    | true =>
      rw [if_neg (show ¬ bI true = 0 by decide), Bool.true_and]
      by_cases w : rbl n T i = k
      · rw [if_pos (by rw [w]), decide_eq_true w]; rfl
      · rw [if_neg (fun q => w ((nI_eq (hrc i hi) hk).mp q)), decide_eq_false w]; rfl
  rw [hA]
  rcases lpFS (fun F x q => mX2_atPlace_L4 f (nI n) (nI k) (fun (x3_1 : Int32) (x2_2 : Int32) => some ((-4))) F x q) (2 ^ n) 1 (fun i => nI (rbl n T i)) (fun i => rg n T i && decide (rbl n T i = k)) (fun i => some (nI i)) (by omega) (by omega) (fun F i h1 hi hp => by
      show mX2_atPlace_L4 _ _ _ _ (F + 1) _ _ = _
      rw [kA F i h1 hi, if_neg (by rw [hp]; decide)]) (fun F i h1 hi hp => by
      show mX2_atPlace_L4 _ _ _ _ (F + 1) _ _ = _
      rw [kA F i h1 hi, if_pos hp]) with ⟨i, h1, hi, hp, _, e⟩ | ⟨h0, m, e⟩
  · rw [Bool.and_eq_true, decide_eq_true_iff] at hp
    exact Or.inl ⟨i, h1, hi, hp.1, hp.2, bd_z e rfl⟩
  · refine Or.inr ⟨fun v h1 h2 h3 => ?_, ?_⟩
    · have := h0 v h1 h2
      rw [h3.1, Bool.true_and] at this
      exact of_decide_eq_false this h3.2
    · refine bd_z (e.trans ?_) rfl
      show mX2_atPlace_L4 _ _ _ _ (m + 1) _ _ = _
      rw [mX2_atPlace_L4, X6_allBits_ok h8, bd_some, if_pos (nI_lt (by omega) (by omega))]
/-- the ring at a place, and none behind the last -/
theorem ringAt_in (hL : Lat n T) (ht : tF n T f) {k : Nat} (hk : k < rbl n T (2 ^ n)) : ∃ v, 1 ≤ v ∧ v < 2 ^ n ∧ rg n T v = true ∧ rbl n T v = k ∧ mX9_ringAt f (nI n) (nI k) = some (nI v) := by
  have h := rbl_255 hL
  rcases a_ringAt hL ht (k := k) (by omega) with q | ⟨q, _⟩
  · exact q
  · obtain ⟨v, h1, h2, h3⟩ := rbl_at hk
    exact absurd ⟨h2, h3⟩ (q v (rg_iff.mp h2).1 h1)
theorem ringAt_out (hL : Lat n T) (ht : tF n T f) : mX9_ringAt f (nI n) (nI (rbl n T (2 ^ n))) = some (-4) := by
  have h := rbl_255 hL
  rcases a_ringAt hL ht (k := rbl n T (2 ^ n)) (by omega) with ⟨v, _, h2, h3, h4, _⟩ | ⟨_, q⟩
  · have := rbl_up h3 h2
    omega
  · exact q
theorem ringAt_last (hL : Lat n T) (ht : tF n T f) : mX9_ringAt f (nI n) (nI (rbl n T (2 ^ n) - 1)) = some (nI (2 ^ n - 1)) := by
  have h1 := rbl_top hL
  obtain ⟨v, _, h3, h4, h5, h6⟩ := ringAt_in hL ht (k := rbl n T (2 ^ n) - 1) (by omega)
  have : v = 2 ^ n - 1 := by
    rcases Nat.lt_or_ge v (2 ^ n - 1) with q | q
    · have := rbl_up h4 q
      omega
    · omega
  rw [h6, this]
theorem a_ringOf (hL : Lat n T) (ht : tF n T f) {v : Nat} (h1 : 1 ≤ v) (hv : v < 2 ^ n) (hc : cls n T v = true) : mX9_ring f (nI n) (nI v) = some (nI v) := by
  obtain ⟨r, r1, r2⟩ := a_ring hL ht h1 hv
  have : r = v := sub_as (r1.2.2.2 v hc (sub_rf v)) r1.2.1
  rw [r2, this]
theorem hangs_L465 (hL : Lat n T) (ht : tF n T f) (k : Int32 → Int32 → Option (Int32 × (Nat → Int32) × Int32 × Int32 × Int32 × Int32 × Int32 × Int32)) : mL_hangs_L465 f (nI n) k FU 0 0 = k (nI (rbl n T (2 ^ n))) (nI (2 ^ n - 1)) := by
  have h8 := hL.2.1
  have hp := p2_le h8
  have hp0 := p2_ge hL.1
  have hR := rbl_255 hL
  have hT := rbl_top hL
  obtain ⟨m, b, hb, e⟩ := lpI (fun F x a => mL_hangs_L465 f (nI n) k F x a) (rbl n T (2 ^ n)) 0 (fun i a => (i = 0 ∧ a = 0) ∨ ∃ v, v < 2 ^ n ∧ rg n T v = true ∧ rbl n T v + 1 = i ∧ a = nI v) (by omega) (by omega) (fun F i a _ hi hI => by
    obtain ⟨v, v1, v2, v3, v4, v5⟩ := ringAt_in hL ht hi
    refine ⟨nI v, Or.inr ⟨v, v2, v3, by omega, rfl⟩, ?_⟩
    show mL_hangs_L465 _ _ _ (F + 1) _ _ = _
    rw [mL_hangs_L465]
    have hgt : ¬ nI v ≤ a := by
      rcases hI with ⟨_, rfl⟩ | ⟨w, w1, w2, w3, rfl⟩
      · exact nI_ge (a := 0) (by omega) (by omega)
      · refine nI_ge ?_ (by omega)
        rcases Nat.lt_or_ge w v with q | q
        · exact q
        · have := rbl_mono n T q
          omega
    refine iq (nI_ge (b := 255) (by omega) (by omega)) (bd_z v5 (iq (nI_ge (a := 0) (by omega) (by omega)) (bd_z v5 (iq hgt (bd_z v5 (bd_z (a_ringOf hL ht v1 v2 (rg_iff.mp v3).2) (bd_z v5 (ip rfl (bd_z v5 ?_)))))))))
    show mL_hangs_L465 _ _ _ F (nI i + 1) _ = _
    rw [nI_1]) 0 (Or.inl ⟨rfl, rfl⟩)
  have hlast : b = nI (2 ^ n - 1) := by
    rcases hb with ⟨h0, _⟩ | ⟨v, h1, h2, h3, rfl⟩
    · omega
    · have : v = 2 ^ n - 1 := by
        rcases Nat.lt_or_ge v (2 ^ n - 1) with q | q
        · have := rbl_up h2 q
          omega
        · omega
      rw [this]
  subst hlast
  refine Eq.trans e ?_
  show mL_hangs_L465 _ _ _ (m + 1) _ _ = _
  rw [mL_hangs_L465]
  refine ite_z (fun _ => rfl) (fun _ => bd_z (ringAt_out hL ht) (ip (by decide) rfl))
end Order
