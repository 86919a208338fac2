/-! crooked: the two doubles are one, and none is a NaN -/
theorem dc_all : allB (fun n => decide (n < 2) || allB (fun k => decide (Op.cmpValue (FP.dcmp (FP.ddiv (FP.i2d (nI k)) (FP.i2d (nI (n * n * n)))) (FP.ddiv (FP.i2d (nI k)) (FP.i2d (nI (n * n * n))))) CmpOp.l = 0)) (n * n * n + 1)) 9 = true := by decide +kernel
theorem crooked_same {f s : Nat → Int32} {z : Int32} (hS : Sm f z s) : ∃ r, Op.cmpValue (FP.dcmp r r) CmpOp.l = 0 ∧ mX9_crooked f z = some r ∧ mX10_crooked s = some r := by
  obtain ⟨n, T, hL, rfl, ht, hs⟩ := hS
  have h8 := hL.2.1
  have h2 := hL.1
  have h3 := n3_le h8
  have ha := assP_n3 T n
  have hp : 0 < n * n * n := Nat.mul_pos (Nat.mul_pos (by omega) (by omega)) (by omega)
  have hd := allB_iff.mp dd_all n (by omega)
  rw [decide_eq_false (show ¬ n < 2 by omega), Bool.false_or] at hd
  have hn := allB_iff.mp hd (n * n * n - assP T n) (by omega)
  have hc := allB_iff.mp dc_all n (by omega)
  rw [decide_eq_false (show ¬ n < 2 by omega), Bool.false_or] at hc
  have hc2 := of_decide_eq_true (allB_iff.mp hc (n * n * n - assP T n) (by omega))
  refine ⟨FP.ddiv (FP.i2d (nI (n * n * n - assP T n))) (FP.i2d (nI (n * n * n))), hc2, ?_, ?_⟩
  · unfold mX9_crooked
    rw [X6_size_ok, bd_some, pk_mul, pk_mul, if_pos (show (0 : Int32) < nI (n * n * n) from nI_lt (a := 0) hp (by omega)), X8_associatingTriples_ok hL ht, bd_some, nI_sub ha, gd_t hn]
  · unfold mX10_crooked
    rw [m_triples hL hs, bd_some, m_s0 hs, pk_mul, pk_mul, nI_sub ha, gd_t hn]
