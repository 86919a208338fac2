/-! a table in the pad: what the reference asks of each place -/
def stB (n : Nat) (h : Nat → Int32) (p j : Nat) : Bool := (decide (j / (n + 1) = p / (n + 1)) || decide (j % (n + 1) = p % (n + 1))) && decide (h j = h p)
section TableText2
variable {n : Nat} {h s : Nat → Int32}
theorem m_stands (hn : n ≤ 8) (hs : s 0 = nI n) {p : Nat} (hp : p < 80) : mX10_stands s h (nI p) = some (bI (!allB (fun j => !stB n h p j) p)) := by
  unfold mX10_stands
  obtain ⟨m, e⟩ := lpU (fun F x q => mX10_stands_L14 s h (nI p) (fun (x4_1 : Int32) (x3_2 : Int32) => gd (nbz x3_2) (some (x3_2))) F x q) p 0 (fun i => bI (!allB (fun j => !stB n h p j) i)) (by omega) (by omega) (fun F i _ hi => by
    show mX10_stands_L14 _ _ _ _ (F + 1) _ _ = _
    rw [mX10_stands_L14, if_neg (nI_ge hi (by omega)), show s (0 : Int32).toNatClampNeg = nI n from hs, nI_1, nI_1, allB_s, pk_rem (a := i) (d := n + 1) (by omega) (by omega) (by omega), pk_rem (a := p) (d := n + 1) (by omega) (by omega) (by omega), pk_div (a := i) (d := n + 1) (by omega) (by omega) (by omega), pk_div (a := p) (d := n + 1) (by omega) (by omega) (by omega), nI_clamp (by omega), nI_clamp (by omega)]
    simp only [gd_t (nzb_nI (show 0 < n + 1 by omega) (show n + 1 < 2 ^ 31 by omega)), gd_t (inb_nI (show i < 80 by omega) (show 80 < 2 ^ 31 by omega)), gd_t (inb_nI hp (show 80 < 2 ^ 31 by omega))]
    have d1 := Nat.div_le_self i (n + 1)
    have d2 := Nat.div_le_self p (n + 1)
    have d3 := Nat.mod_lt i (show 0 < n + 1 by omega)
    have d4 := Nat.mod_lt p (show 0 < n + 1 by omega)
    have e1 : (nI (i / (n + 1)) = nI (p / (n + 1))) ↔ i / (n + 1) = p / (n + 1) := nI_eq (by omega) (by omega)
    have e2 : (nI (i % (n + 1)) = nI (p % (n + 1))) ↔ i % (n + 1) = p % (n + 1) := nI_eq (by omega) (by omega)
    unfold stB
    generalize allB (fun j => !((decide (j / (n + 1) = p / (n + 1)) || decide (j % (n + 1) = p % (n + 1))) && decide (h j = h p))) i = B0
    by_cases c1 : i / (n + 1) = p / (n + 1)
    · rw [if_pos (e1.mpr c1), decide_eq_true c1, Bool.true_or, Bool.true_and]
      by_cases c3 : h i = h p
      · rw [if_pos c3, decide_eq_true c3]
        cases B0 <;> rfl
      · rw [if_neg c3, decide_eq_false c3]
        cases B0 <;> rfl
    · rw [if_neg (fun w => c1 (e1.mp w)), decide_eq_false c1, Bool.false_or]
      by_cases c2 : i % (n + 1) = p % (n + 1)
      · rw [if_pos (e2.mpr c2), decide_eq_true c2, Bool.true_and]
        by_cases c3 : h i = h p
        · rw [if_pos c3, decide_eq_true c3]
          cases B0 <;> rfl
        · rw [if_neg c3, decide_eq_false c3]
          cases B0 <;> rfl
      · rw [if_neg (fun w => c2 (e2.mp w)), decide_eq_false c2, Bool.false_and]
        cases B0 <;> rfl)
  refine Eq.trans e ?_
  show mX10_stands_L14 _ _ _ _ (m + 1) _ _ = _
  rw [mX10_stands_L14, if_pos (nI_le (Nat.le_refl _) (by omega)), gd_t (nbz_bI _)]
end TableText2
