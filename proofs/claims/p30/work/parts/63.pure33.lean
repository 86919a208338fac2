/-! a table in the pad: both readings go side by side -/
def TE (n : Nat) (h : Nat → Int32) (L : Nat) (A : Option (Int32 × (Nat → Int32) × Int32)) (B : Option Int32) : Prop := (∃ k f', k < 81 ∧ A = some (nI k, f', nI n) ∧ B = some (nI k)) ∨ (∃ f', A = some (-4, f', nI n) ∧ B = some (-1) ∧ L = tot n ∧ tInv n h f' (tot n))
section TableText5
variable {n : Nat} {T : Nat → Nat → Nat} {f g h s : Nat → Int32} {L : Nat}
theorem tInv_tok {f : Nat → Int32} {a b p t : Nat} (hb : b < n) (hn : n ≤ 8) (ha : a < n) (hp : p = a * (n + 1) + b) (hI : tInv n h f p) (ht : t < n) (e : h p - 48 = nI t) (hs : allB (fun j => !stB n h p j) p = true) : tInv n h (upd f (8 * a + b) (h p - 48)) (p + 1) := by
  have e1 : p / (n + 1) = a := by rw [hp]; exact (dm (by omega)).1
  have e2 : p % (n + 1) = b := by rw [hp]; exact (dm (by omega)).2
  refine ⟨fun q hq => ?_, fun q hq hm => ?_⟩
  · by_cases w : q = p
    · subst w
      unfold okP
      rw [e2, if_neg (by omega)]
      exact ⟨⟨t, ht, e⟩, hs⟩
    · exact hI.1 q (by omega)
  · by_cases w : q = p
    · subst w
      rw [e1, e2, upd_eq]
    · have h3 := hI.2 q (by omega) hm
      rw [upd_ne _ _ (fun v => ?_), h3]
      have h4 : q / (n + 1) = a ∧ q % (n + 1) = b := by omega
      have := dm_eq (n := n + 1) (show q % (n + 1) < n + 1 by omega) h4.1 rfl
      rw [h4.2] at this
      omega
theorem tInv_sl {f : Nat → Int32} {a p : Nat} (hp : p = a * (n + 1) + n) (hI : tInv n h f p) (e : h p = 47) : tInv n h f (p + 1) := by
  have e2 : p % (n + 1) = n := by rw [hp]; exact (dm (by omega)).2
  refine ⟨fun q hq => ?_, fun q hq hm => ?_⟩
  · by_cases w : q = p
    · subst w
      unfold okP
      rw [if_pos e2]; exact e
    · exact hI.1 q (by omega)
  · by_cases w : q = p
    · subst w; omega
    · exact hI.2 q (by omega) hm
theorem table42 (hL : Lat n T) (hs : sF n T s) (hP : Pd g h L) (KA : Int32 → Int32 → (Nat → Int32) → Option (Int32 × (Nat → Int32) × Int32)) (KB : Int32 → Option Int32) (hKB : L < tot n → KB (nI L) = some (nI L)) {a : Nat} (ha : a < n) (hK : ∀ F' f', tot n + 2 ≤ F' + (a * (n + 1) + n) → a * (n + 1) + n ≤ L → tInv n h f' (a * (n + 1) + n) → TE n h L (KA (nI n) (nI (a * (n + 1) + n)) f') (mX10_tableFault_L22 s h (nI L) KB F' (nI (a * (n + 1) + n)))) : ∀ e b F F' f p, b + e = n → e < F → tot n + 2 ≤ F' + p → p = a * (n + 1) + b → p ≤ L → tInv n h f p → TE n h L (mX6_readFrom_L42 g (nI L) (nI n) (nI a) KA F (nI b) (nI p) f) (mX10_tableFault_L22 s h (nI L) KB F' (nI p)) := by
  have h8 := hL.2.1
  have h80 := hP.1
  have ht8 := tot_80 h8
  intro e
  induction e with
  | zero =>
    intro b F F' f p h1 h2 h3 h4 h5 h6
    obtain ⟨F, rfl⟩ : ∃ F1, F = F1 + 1 := ⟨F - 1, by omega⟩
    have : b = n := by omega
    subst this
    rw [mX6_readFrom_L42, if_pos (nI_le (Nat.le_refl _) (by omega)), h4]
    exact hK F' f (by omega) (by omega) (by rw [← h4]; exact h6)
  | succ e ih =>
    intro b F F' f p h1 h2 h3 h4 h5 h6
    have hb : b < n := by omega
    have hpt := tot_in ha hb
    obtain ⟨F, rfl⟩ : ∃ F1, F = F1 + 1 := ⟨F - 1, by omega⟩
    obtain ⟨F', rfl⟩ : ∃ F1, F' = F1 + 1 := ⟨F' - 1, by omega⟩
    by_cases q : p < L
    · rw [kR_tok hL hs hP KB h4 ha hb q, mX6_readFrom_L42, if_neg (nI_ge hb (by omega)), X1_digitAt_in hP q, bd_some]
      rcases tok hL.1 h8 hs.1 (h p - 48) with ⟨t, t1, t2, e1, e2⟩ | ⟨_, e1, e2⟩
      · rw [e1, m_tokAt h80 q (Or.inr rfl) e2, bd_some, bd_some, if_neg (show ¬ (1 : Int32) = 0 by decide), if_neg (show ¬ (1 : Int32) = 0 by decide), X6_isTaken_ok (by omega) (by omega), bd_some, taken_is hb h4 h6, X6_set_ok (by omega) (by omega), bd_some, nI_1, nI_1]
        cases hst : allB (fun j => !stB n h p j) p with
        | true =>
          rw [if_pos (show bI (!true) = 0 from rfl), if_pos rfl]
          exact ih (b + 1) F F' _ (p + 1) (by omega) (by omega) (by omega) (by omega) (by omega) (tInv_tok hb h8 ha h4 h6 t1 t2 hst)
        | false =>
          rw [if_neg (show ¬ bI (!false) = 0 by decide), if_neg (by decide)]
          exact Or.inl ⟨p, f, by omega, rfl, rfl⟩
      · rw [e1, m_tokAt h80 q (Or.inl rfl) e2, bd_some, bd_some, if_pos rfl, if_pos rfl]
        exact Or.inl ⟨p, f, by omega, rfl, rfl⟩
    · have : p = L := by omega
      subst this
      rw [mX6_readFrom_L42, if_neg (nI_ge hb (by omega)), X1_digitAt_out h80 (Nat.le_refl _) (by omega), bd_some, has_no, bd_some, if_pos rfl, mX10_tableFault_L22, if_pos (nI_le (Nat.le_refl _) (by omega)), hKB (by omega)]
      exact Or.inl ⟨p, f, by omega, rfl, rfl⟩
end TableText5
