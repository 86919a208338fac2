/-! the best little square: the reference, and both -/
def fO : Option Nat → Int32
  | none => -1
  | some j => nI j
def mO (n : Nat) (T : Nat → Nat → Nat) : Option Nat → Int32
  | none => 0
  | some j => nI (vl n T j)
section Best2
variable {n : Nat} {T : Nat → Nat → Nat} {f s : Nat → Int32}
theorem q_lt {k : Nat} (hk : k < n * n * n * n) : qa n k < n ∧ qb n k < n ∧ qc n k < n ∧ qd n k < n := by
  have hn : 0 < n := by
    rcases Nat.eq_zero_or_pos n with q | q
    · subst q; exact absurd hk (by simp)
    · exact q
  have h3 : 0 < n * n * n := Nat.mul_pos (Nat.mul_pos hn hn) hn
  exact ⟨(Nat.div_lt_iff_lt_mul h3).mpr (by rw [Nat.mul_comm]; exact hk), Nat.mod_lt _ hn, Nat.mod_lt _ hn, Nat.mod_lt _ hn⟩
theorem nI_ne1 {j : Nat} (hj : j < 2 ^ 31) : ¬ nI j = -1 := fun e => by
  have h1 := congrArg Int32.toInt e
  rw [nI_toInt hj] at h1
  have h2 : (-1 : Int32).toInt = -1 := rfl
  omega
theorem m_triplesThen (hL : Lat n T) (hs : sF n T s) {k : Nat} (hk : k < n * n * n * n) (hab : qa n k < qb n k) (hq : sqB T (qa n k) (qb n k) (qc n k) (qd n k) = true) : mX10_triplesThen s (nI (qa n k)) (nI (qb n k)) (nI (qc n k)) (nI (qd n k)) = some (nI (vl n T k), s) := by
  obtain ⟨ha, hb, hc, hd⟩ := q_lt hk
  obtain ⟨g, h1, h2, h3⟩ := m_swaps hL.2.1 hs ha hb hc hd (by omega)
  have hU := Lat_sq hL ha hb hc hd (by omega) (sqB_iff.mp hq)
  unfold mX10_triplesThen
  rw [h1, bd_some, m_triples hU h2, bd_some, h3, bd_some]; rfl
theorem m_bestL (hL : Lat n T) (hs : sF n T s) (k : Int32 → Int32 → Int32 → (Nat → Int32) → Option (Int32 × (Nat → Int32))) : mX10_best_L26 s k FU 0 (-1) 0 s = k (nI (n * n * n * n)) (fO (bst n T (n * n * n * n))) (mO n T (bst n T (n * n * n * n))) s := by
  have h8 := hL.2.1
  have h2 := hL.1
  have hn4 := n4_le h8
  have hn3 := n3_le h8
  have hn2 := nn_le h8
  have p2 : 0 < n * n := Nat.mul_pos (by omega) (by omega)
  have p3 : 0 < n * n * n := Nat.mul_pos p2 (by omega)
  obtain ⟨m, e⟩ := lpU (fun F x (q : Int32 × Int32) => mX10_best_L26 s k F x q.1 q.2 s) (n * n * n * n) 0 (fun i => (fO (bst n T i), mO n T (bst n T i))) (by omega) (by omega) (fun F i _ hi => by
    show mX10_best_L26 _ _ (F + 1) _ _ _ _ = _
    obtain ⟨ha, hb, hc, hd⟩ := q_lt hi
    rw [mX10_best_L26, m_s0 hs, pk_mul, pk_mul, pk_mul, if_neg (nI_ge hi (by omega)), gd_t (nzb_nI p3 (by omega)), gd_t (nzb_nI p2 (by omega)), gd_t (nzb_nI (by omega) (by omega)), gd_t (nzb_nI (by omega) (by omega)), gd_t (nzb_nI (by omega) (by omega)), gd_t (nzb_nI (by omega) (by omega)), pk_div (a := i) (d := n * n * n) (by omega) p3 (by omega), pk_div (a := i) (d := n * n) (by omega) p2 (by omega), pk_rem (a := i) (d := n) (by omega) (by omega) (by omega), pk_div (a := i) (d := n) (by omega) (by omega) (by omega), pk_rem (a := i / (n * n)) (d := n) (by have := Nat.div_le_self i (n * n); omega) (by omega) (by omega), pk_rem (a := i / n) (d := n) (by have := Nat.div_le_self i n; omega) (by omega) (by omega), nI_1, bst_s]
    show (if nI (qb n i) ≤ nI (qa n i) then _ else if nI (qd n i) ≤ nI (qc n i) then _ else bd (mX10_isSquare s (nI (qa n i)) (nI (qb n i)) (nI (qc n i)) (nI (qd n i))) (fun z_11 => if z_11 = 0 then _ else bd (mX10_triplesThen s (nI (qa n i)) (nI (qb n i)) (nI (qc n i)) (nI (qd n i))) _)) = _
    by_cases c1 : qa n i < qb n i
    · rw [if_neg (nI_ge c1 (by omega))]
      by_cases c2 : qc n i < qd n i
      · rw [if_neg (nI_ge c2 (by omega)), show mX10_isSquare s (nI (qa n i)) (nI (qb n i)) (nI (qc n i)) (nI (qd n i)) = some (bI (sqB T (qa n i) (qb n i) (qc n i) (qd n i))) from m_isSquare hL hs ha hb hc hd, bd_some]
        have hcn : cnd n T i = sqB T (qa n i) (qb n i) (qc n i) (qd n i) := by
          unfold cnd
          rw [decide_eq_true c1, decide_eq_true c2, Bool.true_and, Bool.true_and]
        cases hq : sqB T (qa n i) (qb n i) (qc n i) (qd n i) with
        | false => rw [if_pos (show bI false = 0 from rfl), hcn, hq, if_neg (by decide)]
        | true =>
          rw [if_neg (show ¬ bI true = 0 by decide), m_triplesThen hL hs hi c1 hq, bd_some, hcn, hq, if_pos rfl]
          have v1 : vl n T i ≤ 512 := assP_le _ h8
          cases ho : bst n T i with
          | none =>
            show (if (-1 : Int32) = -1 then (if nI (vl n T i) ≤ (0 : Int32) then mX10_best_L26 s k F (nI (i + 1)) (nI i) 0 s else mX10_best_L26 s k F (nI (i + 1)) (nI i) (nI (vl n T i)) s) else _) = mX10_best_L26 s k F (nI (i + 1)) (nI i) (nI (vl n T i)) s
            rw [if_pos rfl]
            by_cases w : nI (vl n T i) ≤ (0 : Int32)
            · rw [if_pos w]
              have w0 : vl n T i = 0 := by
                have := (nI_leI (a := vl n T i) (b := 0) (by omega) (by omega)).mp w
                omega
              rw [w0]; rfl
            · rw [if_neg w]
          | some j =>
            have hj := bst_in ho
            have v2 : vl n T j ≤ 512 := assP_le _ h8
            show (if nI j = (-1 : Int32) then _ else (if nI (vl n T i) ≤ nI (vl n T j) then (if nI (vl n T i) ≤ nI (vl n T j) then mX10_best_L26 s k F (nI (i + 1)) (nI j) (nI (vl n T j)) s else _) else (if nI (vl n T i) ≤ nI (vl n T j) then _ else mX10_best_L26 s k F (nI (i + 1)) (nI i) (nI (vl n T i)) s))) = _
            rw [if_neg (nI_ne1 (by omega))]
            by_cases w : vl n T j < vl n T i
            · have w1 : bstep n T i (some j) = some i := by unfold bstep; simp only [if_pos w]
              rw [if_neg (nI_ge w (by omega)), if_neg (nI_ge w (by omega)), w1]; rfl
            · have w1 : bstep n T i (some j) = some j := by unfold bstep; simp only [if_neg w]
              rw [if_pos (nI_le (by omega) (by omega)), if_pos (nI_le (by omega) (by omega)), w1]; rfl
      · rw [if_pos (nI_le (by omega) (by omega))]
        have hcn : cnd n T i = false := by
          unfold cnd
          rw [decide_eq_false c2, Bool.false_and, Bool.and_false]
        rw [hcn, if_neg (by decide)]
    · rw [if_pos (nI_le (by omega) (by omega))]
      have hcn : cnd n T i = false := by
        unfold cnd
        rw [decide_eq_false c1, Bool.false_and]
      rw [hcn, if_neg (by decide)])
  refine Eq.trans e ?_
  show mX10_best_L26 _ _ (m + 1) _ _ _ _ = _
  rw [mX10_best_L26, m_s0 hs, pk_mul, pk_mul, pk_mul, if_pos (nI_le (Nat.le_refl _) (by omega))]
theorem best_both {z zg : Int32} {g : Nat → Int32} (hS : Sm f z s) (l1 l2 l3 l4 l5 : Int32) (x : Int32) : ∃ r g' z' l1' l2' l3' l4' l5', mX9_best f z g zg l1 l2 l3 l4 l5 x = some (r, g', z', l1', l2', l3', l4', l5') ∧ mX10_best s x = some (r, s) := by
  obtain ⟨n, T, hL, rfl, ht, hs⟩ := hS
  have h8 := hL.2.1
  have h2 := hL.1
  have hn4 := n4_le h8
  have hn3 := n3_le h8
  have hn2 := nn_le h8
  have p2 : 0 < n * n := Nat.mul_pos (by omega) (by omega)
  have p3 : 0 < n * n * n := Nat.mul_pos p2 (by omega)
  unfold mX9_best mX10_best
  rw [in_is]
  rcases withn x (a := 0) (b := 4) (by omega) (by omega) with ⟨v, _, hv, rfl, e1⟩ | ⟨_, e1⟩
  · obtain ⟨y, g', hy, e2⟩ := X4_findBest_ok hL ht g l1 l2 l3 l4
    rw [show mX9_isWithin (nI v) 0 4 = some 1 from e1, bd_some, if_neg (show ¬ (1 : Int32) = 0 by decide), e2, bd_some, bd_some, if_neg (show ¬ (1 : Int32) = 0 by decide), m_bestL hL hs]
    cases ho : bst n T (n * n * n * n) with
    | none =>
      rw [ho] at hy
      have hy5 : y.2.2.2.2 = -4 := hy
      refine ⟨-4, g', nI n, y.1, y.2.1, y.2.2.1, y.2.2.2.1, y.2.2.2.2, ?_, ?_⟩
      · simp only [if_pos hy5, if_true]
      · show (if (-1 : Int32) = -1 then _ else _) = _
        rw [if_pos rfl]
    | some j =>
      rw [ho] at hy
      have hj := bst_in ho
      obtain ⟨y1, y2, y3, y4, y5⟩ := hy
      have v1 : vl n T j ≤ 512 := assP_le _ h8
      have hne : ¬ y.2.2.2.2 = -4 := fun e => by
        rw [y5] at e
        have h1 := congrArg Int32.toInt e
        rw [nI_toInt (by omega)] at h1
        have h2 : (-4 : Int32).toInt = -4 := rfl
        omega
      have a1 : ¬ nI 1 = 0 := by decide
      have a2 : ¬ nI 2 = 0 := by decide
      have a3 : ¬ nI 3 = 0 := by decide
      have a4 : ¬ nI 4 = 0 := by decide
      have b2 : ¬ nI 2 = 1 := by decide
      have b3 : ¬ nI 3 = 1 := by decide
      have b4 : ¬ nI 4 = 1 := by decide
      have c3 : ¬ nI 3 = 2 := by decide
      have c4 : ¬ nI 4 = 2 := by decide
      have d4 : ¬ nI 4 = 3 := by decide
      have e04 : ¬ nI 0 = 4 := by decide
      have e14 : ¬ nI 1 = 4 := by decide
      have e24 : ¬ nI 2 = 4 := by decide
      have e34 : ¬ nI 3 = 4 := by decide
      show ∃ r g'' z' l1' l2' l3' l4' l5', (if (if y.2.2.2.2 = -4 then (0 : Int32) else 1) = 0 then _ else bd (mX4_tellBest y.1 y.2.1 y.2.2.1 y.2.2.2.1 y.2.2.2.2 (nI v)) _) = some (r, g'', z', l1', l2', l3', l4', l5') ∧ (if nI j = (-1 : Int32) then _ else (if nI v = 4 then some (nI (vl n T j), s) else _)) = some (r, s)
      rw [if_neg hne, if_neg (show ¬ (1 : Int32) = 0 by decide), if_neg (nI_ne1 (by omega))]
      rw [m_s0 hs, pk_mul, pk_mul, gd_t (nzb_nI p3 (by omega)), gd_t (nzb_nI p2 (by omega)), gd_t (nzb_nI (by omega) (by omega)), gd_t (nzb_nI (by omega) (by omega)), gd_t (nzb_nI (by omega) (by omega)), gd_t (nzb_nI (by omega) (by omega)), show fO (some j) = nI j from rfl, pk_div (a := j) (d := n * n * n) (by omega) p3 (by omega), pk_div (a := j) (d := n * n) (by omega) p2 (by omega), pk_rem (a := j) (d := n) (by omega) (by omega) (by omega), pk_div (a := j) (d := n) (by omega) (by omega) (by omega), pk_rem (a := j / (n * n)) (d := n) (by have := Nat.div_le_self j (n * n); omega) (by omega) (by omega), pk_rem (a := j / n) (d := n) (by have := Nat.div_le_self j n; omega) (by omega) (by omega)]
      unfold mX4_tellBest
      rcases (show v = 0 ∨ v = 1 ∨ v = 2 ∨ v = 3 ∨ v = 4 by omega) with rfl | rfl | rfl | rfl | rfl
      · refine ⟨nI (qa n j), g', nI n, y.1, y.2.1, y.2.2.1, y.2.2.2.1, y.2.2.2.2, ?_, ?_⟩
        · rw [if_pos (show nI 0 = 0 from rfl), bd_some, y1]
        · rw [if_neg e04, if_pos (show nI 0 = 0 from rfl)]; rfl
      · refine ⟨nI (qb n j), g', nI n, y.1, y.2.1, y.2.2.1, y.2.2.2.1, y.2.2.2.2, ?_, ?_⟩
        · rw [if_neg a1, if_pos (show nI 1 = 1 from rfl), bd_some, y2]
        · rw [if_neg e14, if_neg a1, if_pos (show nI 1 = 1 from rfl)]; rfl
      · refine ⟨nI (qc n j), g', nI n, y.1, y.2.1, y.2.2.1, y.2.2.2.1, y.2.2.2.2, ?_, ?_⟩
        · rw [if_neg a2, if_neg b2, if_pos (show nI 2 = 2 from rfl), bd_some, y3]
        · rw [if_neg e24, if_neg a2, if_neg b2, if_pos (show nI 2 = 2 from rfl)]; rfl
      · refine ⟨nI (qd n j), g', nI n, y.1, y.2.1, y.2.2.1, y.2.2.2.1, y.2.2.2.2, ?_, ?_⟩
        · rw [if_neg a3, if_neg b3, if_neg c3, if_pos (show nI 3 = 3 from rfl), bd_some, y4]
        · rw [if_neg e34, if_neg a3, if_neg b3, if_neg c3]; rfl
      · refine ⟨nI (vl n T j), g', nI n, y.1, y.2.1, y.2.2.1, y.2.2.2.1, y.2.2.2.2, ?_, ?_⟩
        · rw [if_neg a4, if_neg b4, if_neg c4, if_neg d4, bd_some, y5]
        · rw [if_pos (show nI 4 = 4 from rfl)]
  · refine ⟨-1, g, zg, l1, l2, l3, l4, l5, ?_, ?_⟩
    · rw [show mX9_isWithin x 0 4 = some 0 from e1, bd_some, if_pos rfl]
    · rw [show mX9_isWithin x 0 4 = some 0 from e1, bd_some, if_pos rfl]
end Best2
