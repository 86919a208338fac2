/-! ways, sums, cut: both -/
section RowBoth
variable {n : Nat} {T : Nat → Nat → Nat} {f s g h : Nat → Int32} {L : Nat}
theorem ways_both {z : Int32} (hS : Sm f z s) (hP : Pd g h L) (row ps : Nat → Int32) (len : Int32) (p : Nat → Int32) (x y : Int32) : ∃ r row' ps' len' p', mX9_ways f z g (nI L) row ps len x y = some (r, row', ps', len') ∧ mX10_ways s h (nI L) p x y = some (r, p') := by
  obtain ⟨n, T, hL, rfl, ht, hs⟩ := hS
  have h8 := hL.2.1
  unfold mX9_ways mX10_ways
  rw [in_is]
  rcases tok hL.1 h8 hs.1 x with ⟨tk, htk, rfl, e1, e2⟩ | ⟨_, e1, e2⟩
  · rw [e1, e2, bd_some, bd_some, if_neg (show ¬ (1 : Int32) = 0 by decide), if_neg (show ¬ (1 : Int32) = 0 by decide)]
    rcases withn y (a := 0) (b := 1) (by omega) (by omega) with ⟨u, _, hu, rfl, e0⟩ | ⟨_, e0⟩
    · rw [show mX9_isWithin (nI u) 0 1 = some 1 from e0, bd_some, bd_some, if_neg (show ¬ (1 : Int32) = 0 by decide), if_neg (show ¬ (1 : Int32) = 0 by decide)]
      rcases row_both hL hs hP row with ⟨hr, row', e3, e4, e5⟩ | ⟨k, row', len', hk, e3, e5⟩
      · obtain ⟨R, hR⟩ := isRow_R h8 hr
        obtain ⟨p', e6, hp'⟩ := m_laysParts hL hs hr.1 hr.2.1 hR p
        rw [e3, e5, bd_some, bd_some, if_pos rfl, if_pos rfl, e6, bd_some, m_waysTo h8 hr.1 hr.2.1 hp' htk, bd_some]
        by_cases q : u = 0
        · subst q
          obtain ⟨ps', e7, hps⟩ := X3_sumParts_ok hL ht hr.1 hr.2.1 (fun i hi => ⟨(hR i hi).1, (e4 i hi).trans (hR i hi).2⟩) ps
          refine ⟨_, row', ps', nI L, p', ?_, rfl⟩
          rw [if_pos (show nI 0 = 0 from rfl)]
          unfold mX3_waysByParts
          rw [e7, bd_some, show mX3_partWays ps' 0 (nI L) (nI tk) = some (nI (Wy R n T 0 L tk)) from X3_ways_ok (fr := 0) h8 hr.2.1 hps hr.1 (by omega) htk, bd_some, bd_some]
        · refine ⟨_, row', ps, nI L, p', ?_, rfl⟩
          rw [if_neg (nI_ne0 (by omega) (by omega)), oneByOne_ok hL ht hr.1 hr.2.1 hR e4 htk, bd_some]
      · rw [e3, e5, bd_some, bd_some, if_neg (nI_ne_m4 hk), if_neg (nI_ne_m1 hk)]
        exact ⟨_, _, _, _, _, rfl, rfl⟩
    · rw [show mX9_isWithin y 0 1 = some 0 from e0, bd_some, bd_some, if_pos rfl, if_pos rfl]
      exact ⟨_, _, _, _, _, rfl, rfl⟩
  · rw [e1, e2, bd_some, bd_some, if_pos rfl, if_pos rfl]
    exact ⟨_, _, _, _, _, rfl, rfl⟩
theorem sums_both {z : Int32} (hS : Sm f z s) (hP : Pd g h L) (row ps : Nat → Int32) (len : Int32) (p : Nat → Int32) (y : Int32) : ∃ r row' ps' len' p', mX9_sums f z g (nI L) row ps len y = some (r, row', ps', len') ∧ mX10_sums s h (nI L) p y = some (r, p') := by
  obtain ⟨n, T, hL, rfl, ht, hs⟩ := hS
  have h8 := hL.2.1
  unfold mX9_sums mX10_sums
  rw [in_is]
  rcases withn y (a := 0) (b := 3) (by omega) (by omega) with ⟨u, _, hu, rfl, e0⟩ | ⟨_, e0⟩
  · rw [show mX9_isWithin (nI u) 0 3 = some 1 from e0, bd_some, bd_some, if_neg (show ¬ (1 : Int32) = 0 by decide), if_neg (show ¬ (1 : Int32) = 0 by decide)]
    rcases row_both hL hs hP row with ⟨hr, row', e3, e4, e5⟩ | ⟨k, row', len', hk, e3, e5⟩
    · obtain ⟨R, hR⟩ := isRow_R h8 hr
      obtain ⟨p', e6, hp'⟩ := m_laysParts hL hs hr.1 hr.2.1 hR p
      rw [e3, e5, bd_some, bd_some, if_pos rfl, if_pos rfl, e6, bd_some, m_sumsL hL hs hr.1 hr.2.1 hp']
      have a1 : ¬ nI 1 = 0 := by decide
      have a2 : ¬ nI 2 = 0 := by decide
      have a3 : ¬ nI 3 = 0 := by decide
      have b2 : ¬ nI 2 = 1 := by decide
      have b3 : ¬ nI 3 = 1 := by decide
      have c3 : ¬ nI 3 = 2 := by decide
      have d1 : ¬ nI 1 = 3 := by decide
      have d2 : ¬ nI 2 = 3 := by decide
      rcases (show u = 0 ∨ u = 1 ∨ u = 2 ∨ u = 3 by omega) with rfl | rfl | rfl | rfl
      · obtain ⟨ps', e7⟩ := possible_ok hL ht hr.1 hr.2.1 hR e4 ps
        rw [if_pos (show nI 0 = 0 from rfl), if_pos (show nI 0 = 0 from rfl), e7, bd_some]
        exact ⟨_, _, _, _, _, rfl, rfl⟩
      · obtain ⟨e7, e8⟩ := left_both hL ht hs hr.1 hr.2.1 hR e4
        rw [if_neg a1, if_neg a1, if_pos (show nI 1 = 1 from rfl), if_neg d1, if_pos (show nI 1 = 1 from rfl), e7, e8, bd_some, bd_some]
        exact ⟨_, _, _, _, _, rfl, rfl⟩
      · obtain ⟨e7, e8⟩ := right_both hL ht hs hr.1 hr.2.1 hR e4
        rw [if_neg a2, if_neg a2, if_neg b2, if_pos (show nI 2 = 2 from rfl), if_neg d2, if_neg b2, e7, e8, bd_some, bd_some]
        exact ⟨_, _, _, _, _, rfl, rfl⟩
      · obtain ⟨ps', e7⟩ := likeliest_ok hL ht hr.1 hr.2.1 hR e4 ps
        rw [if_neg a3, if_neg a3, if_neg b3, if_neg c3, if_pos (show nI 3 = 3 from rfl), e7, bd_some]
        exact ⟨_, _, _, _, _, rfl, rfl⟩
    · rw [e3, e5, bd_some, bd_some, if_neg (nI_ne_m4 hk), if_neg (nI_ne_m1 hk)]
      exact ⟨_, _, _, _, _, rfl, rfl⟩
  · rw [show mX9_isWithin y 0 3 = some 0 from e0, bd_some, bd_some, if_pos rfl, if_pos rfl]
    exact ⟨_, _, _, _, _, rfl, rfl⟩
theorem cut_both {z : Int32} (hS : Sm f z s) (hP : Pd g h L) (row ps : Nat → Int32) (len : Int32) (p : Nat → Int32) (x : Int32) : ∃ r row' ps' len' p', mX9_cut f z g (nI L) row ps len x = some (r, row', ps', len') ∧ mX10_cut s h (nI L) p x = some (r, p') := by
  obtain ⟨n, T, hL, rfl, ht, hs⟩ := hS
  have h8 := hL.2.1
  unfold mX9_cut mX10_cut
  rcases tok hL.1 h8 hs.1 x with ⟨tk, htk, rfl, e1, e2⟩ | ⟨_, e1, e2⟩
  · rw [e1, e2, bd_some, bd_some, if_neg (show ¬ (1 : Int32) = 0 by decide), if_neg (show ¬ (1 : Int32) = 0 by decide)]
    rcases row_both hL hs hP row with ⟨hr, row', e3, e4, e5⟩ | ⟨k, row', len', hk, e3, e5⟩
    · obtain ⟨R, hR⟩ := isRow_R h8 hr
      obtain ⟨p', e6, hp'⟩ := m_laysParts hL hs hr.1 hr.2.1 hR p
      obtain ⟨r, ps', e7, e8⟩ := firstCut_both hL ht hs hr.1 hr.2.1 hR e4 ps p' hp' htk
      rw [e3, e5, bd_some, bd_some, if_pos rfl, if_pos rfl, e6, bd_some, e8, e7, bd_some]
      exact ⟨_, _, _, _, _, rfl, rfl⟩
    · rw [e3, e5, bd_some, bd_some, if_neg (nI_ne_m4 hk), if_neg (nI_ne_m1 hk)]
      exact ⟨_, _, _, _, _, rfl, rfl⟩
  · rw [e1, e2, bd_some, bd_some, if_pos rfl, if_pos rfl]
    exact ⟨_, _, _, _, _, rfl, rfl⟩
end RowBoth
