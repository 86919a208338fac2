/-! a table in the pad: both readings, whole -/
section TableText6
variable {n : Nat} {T : Nat → Nat → Nat} {f g h s : Nat → Int32} {L : Nat}
def plc (n : Nat) : Nat → Nat
  | 0 => 0
  | a + 1 => a * (n + 1) + n
theorem plc_tot (hn : 1 ≤ n) : plc n n = tot n := by
  obtain ⟨m, rfl⟩ : ∃ m, n = m + 1 := ⟨n - 1, by omega⟩
  show m * (m + 1 + 1) + (m + 1) = (m + 1 + 1) * (m + 1) - 1
  rw [Nat.mul_comm (m + 1 + 1), Nat.succ_mul]; omega
theorem table_both (hL : Lat n T) (hs : sF n T s) (hP : Pd g h L) (f : Nat → Int32) : TE n h L (mX6_readFrom f g (nI L) (nI n)) (mX10_tableFault s h (nI L)) := by
  have h8 := hL.2.1
  have h2 := hL.1
  have h80 := hP.1
  have ht8 := tot_80 h8
  unfold mX6_readFrom mX10_tableFault
  rw [m_s0 hs, tot_i (by omega)]
  generalize hkA : (fun (x4_1 : Int32) (x3_2 : Int32) (f_3 : Nat → Int32) => bd (mX1_length (nI L)) (fun z_4 => if z_4 ≤ x3_2 then (some ((-4 : Int32), f_3, nI n)) else (some (x3_2, f_3, nI n)))) = KA
  generalize hkB : (fun (x3_1 : Int32) => if nI (tot n) ≤ nI L then (some (-1 : Int32)) else (some (nI L))) = KB
  have hKB : L < tot n → KB (nI L) = some (nI L) := fun q => by
    rw [← hkB]
    show (if nI (tot n) ≤ nI L then _ else _) = _
    rw [if_neg (nI_ge q (by omega))]
  have key : ∀ e a F F' f p, a + e = n → e < F → tot n + 2 ≤ F' + p → p = plc n a → p ≤ L → tInv n h f p → TE n h L (mX6_readFrom_L10 g (nI L) (nI n) KA F (nI a) (nI p) f) (mX10_tableFault_L22 s h (nI L) KB F' (nI p)) := by
    intro e
    induction e with
    | zero =>
      intro a F F' f p h3 h4 h5 h6 h7 h9
      obtain ⟨F, rfl⟩ : ∃ F1, F = F1 + 1 := ⟨F - 1, by omega⟩
      have : a = n := by omega
      subst this
      rw [plc_tot (by omega)] at h6
      subst h6
      obtain ⟨F', rfl⟩ : ∃ F1, F' = F1 + 1 := ⟨F' - 1, by omega⟩
      rw [mX6_readFrom_L10, if_pos (nI_le (Nat.le_refl _) (by omega)), mX10_tableFault_L22, m_s0 hs, tot_i (by omega), ← hkA, ← hkB]
      unfold mX1_length
      show TE a h L (bd (some (nI L)) (fun z_4 => if z_4 ≤ nI (tot a) then _ else _)) (if nI L ≤ nI (tot a) then (if nI (tot a) ≤ nI L then _ else _) else _)
      rw [bd_some]
      by_cases q : L = tot a
      · rw [if_pos (nI_le (by omega) (by omega)), if_pos (nI_le (by omega) (by omega)), if_pos (nI_le (by omega) (by omega))]
        exact Or.inr ⟨f, rfl, rfl, q, h9⟩
      · rw [if_neg (nI_ge (by omega) (by omega)), if_neg (nI_ge (by omega) (by omega)), if_pos (nI_le (Nat.le_refl _) (by omega))]
        exact Or.inl ⟨tot a, f, by omega, rfl, rfl⟩
    | succ e ih =>
      intro a F F' f p h3 h4 h5 h6 h7 h9
      obtain ⟨F, rfl⟩ : ∃ F1, F = F1 + 1 := ⟨F - 1, by omega⟩
      have ha : a < n := by omega
      have next : ∀ F' f', tot n + 2 ≤ F' + (a * (n + 1) + n) → a * (n + 1) + n ≤ L → tInv n h f' (a * (n + 1) + n) → TE n h L (mX6_readFrom_L10 g (nI L) (nI n) KA F (nI (a + 1)) (nI (a * (n + 1) + n)) f') (mX10_tableFault_L22 s h (nI L) KB F' (nI (a * (n + 1) + n))) := fun F' f' q1 q2 q3 => ih (a + 1) F F' f' _ (by omega) (by omega) q1 rfl q2 q3
      rw [mX6_readFrom_L10, if_neg (nI_ge ha (by omega)), nI_1 a]
      have hFU := FU_ge
      cases a with
      | zero =>
        rw [if_pos (show nI 0 ≤ (0 : Int32) by decide)]
        exact table42 hL hs hP (fun (x5_9 : Int32) (x3_10 : Int32) (f_11 : Nat → Int32) => mX6_readFrom_L10 g (nI L) (nI n) KA F (nI (0 + 1)) x3_10 f_11) KB hKB ha next n 0 FU F' f p (by omega) (by omega) h5 (by rw [h6]; show 0 = 0 * (n + 1) + 0; omega) h7 h9
      | succ a =>
        rw [if_neg (nI_nle (by omega) (by omega))]
        have hp : p = a * (n + 1) + n := h6
        have hsl := tot_sl (n := n) (a := a) ha
        obtain ⟨F', rfl⟩ : ∃ F1, F' = F1 + 1 := ⟨F' - 1, by omega⟩
        by_cases q : p < L
        · rw [X1_signAt_in hP q, bd_some, kR_sl hL hs hP KB hp ha q, nI_1 p]
          by_cases c : h p = 47
          · rw [if_pos c, if_pos c]
            have hp1 : p + 1 = (a + 1) * (n + 1) + 0 := by rw [hp, Nat.succ_mul]; omega
            exact table42 hL hs hP (fun (x5_22 : Int32) (x3_23 : Int32) (f_24 : Nat → Int32) => mX6_readFrom_L10 g (nI L) (nI n) KA F (nI (a + 1 + 1)) x3_23 f_24) KB hKB ha next n 0 FU F' f (p + 1) (by omega) (by omega) (by omega) hp1 (by omega) (tInv_sl hp h9 c)
          · rw [if_neg c, if_neg c]
            exact Or.inl ⟨p, f, by omega, rfl, rfl⟩
        · have : p = L := by omega
          subst this
          rw [X1_signAt_out h80 (Nat.le_refl _) (by omega), bd_some, if_neg (show ¬ (0 : Int32) = 47 by decide), mX10_tableFault_L22, if_pos (nI_le (Nat.le_refl _) (by omega)), hKB (by omega)]
          exact Or.inl ⟨p, f, by omega, rfl, rfl⟩
  have hFU := FU_ge
  exact key n 0 FU FU f 0 (by omega) (by omega) (by omega) rfl (Nat.zero_le _) ⟨fun q hq => absurd hq (Nat.not_lt_zero _), fun q hq => absurd hq (Nat.not_lt_zero _)⟩
end TableText6
