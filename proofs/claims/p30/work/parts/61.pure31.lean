/-! a table in the pad: both readings -/
def okP (n : Nat) (h : Nat → Int32) (p : Nat) : Prop := if p % (n + 1) = n then h p = 47 else (∃ t, t < n ∧ h p - 48 = nI t) ∧ allB (fun j => !stB n h p j) p = true
def tInv (n : Nat) (h f : Nat → Int32) (p : Nat) : Prop := (∀ q, q < p → okP n h q) ∧ ∀ q, q < p → q % (n + 1) < n → f (8 * (q / (n + 1)) + q % (n + 1)) = h q - 48
theorem sub48 {x y : Int32} (e : x - 48 = y - 48) : x = y := by
  have h1 := Int32.sub_add_cancel x 48
  have h2 := Int32.sub_add_cancel y 48
  rw [← h1, e, h2]
section TableText3
variable {n : Nat} {f g h s : Nat → Int32} {L : Nat}
theorem taken_is {a b p : Nat} (hb : b < n) (hp : p = a * (n + 1) + b) (hI : tInv n h f p) : (allB (fun x => !decide (f (8 * a + x) = h p - 48)) b && allB (fun x => !decide (f (8 * x + b) = h p - 48)) a) = allB (fun j => !stB n h p j) p := by
  have e1 : p / (n + 1) = a := by rw [hp]; exact (dm (by omega)).1
  have e2 : p % (n + 1) = b := by rw [hp]; exact (dm (by omega)).2
  have row : ∀ x, x < b → a * (n + 1) + x < p ∧ (a * (n + 1) + x) / (n + 1) = a ∧ (a * (n + 1) + x) % (n + 1) = x := fun x hx => ⟨by omega, (dm (by omega)).1, (dm (by omega)).2⟩
  have col : ∀ x, x < a → x * (n + 1) + b < p ∧ (x * (n + 1) + b) / (n + 1) = x ∧ (x * (n + 1) + b) % (n + 1) = b := fun x hx => by
    have := Nat.mul_le_mul_right (n + 1) (show x + 1 ≤ a from hx)
    rw [Nat.succ_mul] at this
    exact ⟨by omega, (dm (by omega)).1, (dm (by omega)).2⟩
  have hiff : (allB (fun x => !decide (f (8 * a + x) = h p - 48)) b && allB (fun x => !decide (f (8 * x + b) = h p - 48)) a) = true ↔ allB (fun j => !stB n h p j) p = true := by
    rw [Bool.and_eq_true, allB_iff, allB_iff, allB_iff]
    constructor
    · rintro ⟨h1, h2⟩ j hj
      cases hs : stB n h p j with
      | false => rfl
      | true =>
        unfold stB at hs
        rw [Bool.and_eq_true, Bool.or_eq_true, decide_eq_true_iff, decide_eq_true_iff, decide_eq_true_iff, e1, e2] at hs
        obtain ⟨hs1, hs2⟩ := hs
        have hjm := Nat.div_add_mod j (n + 1)
        rcases hs1 with w | w
        · rw [w, Nat.mul_comm] at hjm
          have hx : j % (n + 1) < b := by omega
          have h3 := hI.2 j hj (by omega)
          rw [w, hs2] at h3
          have := h1 _ hx
          simp [h3] at this
        · have hx : j / (n + 1) < a := by
            refine Nat.lt_of_not_le fun v => ?_
            have := Nat.mul_le_mul_right (n + 1) v
            rw [Nat.mul_comm] at hjm
            omega
          have h3 := hI.2 j hj (by omega)
          rw [w, hs2] at h3
          have := h2 _ hx
          simp [h3] at this
    · intro hall
      constructor
      · intro x hx
        obtain ⟨r1, r2, r3⟩ := row x hx
        have h3 := hI.2 _ r1 (by omega)
        rw [r2, r3] at h3
        cases hd : decide (f (8 * a + x) = h p - 48) with
        | false => rfl
        | true =>
          have h4 := of_decide_eq_true hd
          have h5 : h (a * (n + 1) + x) = h p := sub48 (h3.symm.trans h4)
          have h6 := hall _ r1
          unfold stB at h6
          rw [r2, r3, e1, e2, decide_eq_true (rfl : a = a), Bool.true_or, Bool.true_and, decide_eq_true h5] at h6
          cases h6
      · intro x hx
        obtain ⟨r1, r2, r3⟩ := col x hx
        have h3 := hI.2 _ r1 (by omega)
        rw [r2, r3] at h3
        cases hd : decide (f (8 * x + b) = h p - 48) with
        | false => rfl
        | true =>
          have h4 := of_decide_eq_true hd
          have h5 : h (x * (n + 1) + b) = h p := sub48 (h3.symm.trans h4)
          have h6 := hall _ r1
          unfold stB at h6
          rw [r2, r3, e1, e2, decide_eq_true (rfl : b = b), Bool.or_true, Bool.true_and, decide_eq_true h5] at h6
          cases h6
  cases h1 : allB (fun j => !stB n h p j) p with
  | true => exact hiff.mpr h1
  | false =>
    cases h2 : (allB (fun x => !decide (f (8 * a + x) = h p - 48)) b && allB (fun x => !decide (f (8 * x + b) = h p - 48)) a) with
    | false => rfl
    | true => rw [hiff.mp h2] at h1; cases h1
end TableText3
