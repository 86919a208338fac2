/-! a table in the pad: the steps -/
def tot (n : Nat) : Nat := (n + 1) * n - 1
section TableText4
variable {n : Nat} {T : Nat → Nat → Nat} {f g h s : Nat → Int32} {L : Nat}
theorem tot_i (hn : 1 ≤ n) : (nI n + 1) * nI n - 1 = nI (tot n) := by
  have : 1 ≤ (n + 1) * n := Nat.mul_pos (by omega) (by omega)
  rw [nI_1, pk_mul]
  exact nI_sub (b := 1) this
theorem tot_80 (hn : n ≤ 8) : tot n ≤ 71 := by
  have : (n + 1) * n ≤ 9 * 8 := Nat.mul_le_mul (by omega) hn
  unfold tot; omega
theorem tot_in {a b : Nat} (ha : a < n) (hb : b < n) : a * (n + 1) + b < tot n := by
  have h1 := Nat.mul_le_mul_right (n + 1) (show a + 1 ≤ n from ha)
  rw [Nat.succ_mul] at h1
  have h2 : n * (n + 1) = (n + 1) * n := Nat.mul_comm _ _
  unfold tot; omega
theorem tot_sl {a : Nat} (ha : a + 1 < n) : a * (n + 1) + n < tot n := by
  have h1 := Nat.mul_le_mul_right (n + 1) (show a + 2 ≤ n from ha)
  rw [Nat.add_mul] at h1
  have h2 : n * (n + 1) = (n + 1) * n := Nat.mul_comm _ _
  unfold tot; omega
theorem kR_tok (hL : Lat n T) (hs : sF n T s) (hP : Pd g h L) (k : Int32 → Option Int32) {F a b p : Nat} (hp : p = a * (n + 1) + b) (ha : a < n) (hb : b < n) (hpL : p < L) : mX10_tableFault_L22 s h (nI L) k (F + 1) (nI p) = bd (mX10_isTokenAt s h (nI p)) (fun z => if z = 0 then some (nI p) else if allB (fun j => !stB n h p j) p = true then mX10_tableFault_L22 s h (nI L) k F (nI (p + 1)) else some (nI p)) := by
  have h8 := hL.2.1
  have h2 := hL.1
  have h80 := hP.1
  have ht := tot_in ha hb
  have ht8 := tot_80 h8
  have e2 : p % (n + 1) = b := by rw [hp]; exact (dm (by omega)).2
  rw [mX10_tableFault_L22, if_neg (nI_ge hpL (by omega)), m_s0 hs, tot_i (by omega), if_neg (nI_ge (by omega) (by omega)), nI_1, nI_1, gd_t (nzb_nI (by omega) (by omega)), pk_rem (by omega) (by omega) (by omega), e2, if_neg (fun w => by have := (nI_eq (by omega) (by omega)).mp w; omega), m_stands h8 hs.1 (by omega), bd_some]
  cases allB (fun j => !stB n h p j) p <;> rfl
theorem kR_sl (hL : Lat n T) (hs : sF n T s) (hP : Pd g h L) (k : Int32 → Option Int32) {F a p : Nat} (hp : p = a * (n + 1) + n) (ha : a + 1 < n) (hpL : p < L) : mX10_tableFault_L22 s h (nI L) k (F + 1) (nI p) = if h p = 47 then mX10_tableFault_L22 s h (nI L) k F (nI (p + 1)) else some (nI p) := by
  have h8 := hL.2.1
  have h2 := hL.1
  have h80 := hP.1
  have ht := tot_sl ha
  have ht8 := tot_80 h8
  have e2 : p % (n + 1) = n := by rw [hp]; exact (dm (by omega)).2
  rw [mX10_tableFault_L22, if_neg (nI_ge hpL (by omega)), m_s0 hs, tot_i (by omega), if_neg (nI_ge (by omega) (by omega)), nI_1, nI_1, gd_t (nzb_nI (by omega) (by omega)), pk_rem (by omega) (by omega) (by omega), e2, if_pos rfl, gd_t (inb_nI (by omega) (by omega)), nI_clamp (by omega)]
end TableText4
