/-! the loop of the law, its start, and law_pure -/
theorem law_lt {L j : Nat} (hL : L ≤ 3072) (hj : j ≤ 3078) : (Int32.ofNat L) - 6 < nI j ↔ L < j + 6 := by
  have hj2 : (nI j).toInt = (j : Int) := nI_toInt (by omega)
  by_cases h : L < 6
  · have h1 : ∀ L, L < 6 → ((Int32.ofNat L) - 6).toInt < 0 := by decide
    have h2 := h1 L h
    exact ⟨fun _ => by omega, fun _ => Int32.lt_iff_toInt_lt.mpr (by omega)⟩
  · have e : (Int32.ofNat L) - 6 = nI (L - 6) := nI_sub (a := L) (b := 6) (by omega)
    rw [e, nI_ltI (by omega) (by omega)]
    omega
set_option maxHeartbeats 40000000 in
set_option maxRecDepth 100000 in
theorem lw_loop {L : Nat} {xs : Nat → Int32} {k : LawK} (hL : L ≤ 3072) (hk : ∀ (x : Int32) (y_115 : Int32) (f_116 : Nat → Int32) (y_117 : Int32) (y_118 : Int32) (f_119 : Nat → Int32) (y_120 : Int32) (f_121 : Nat → Int32) (y_122 : Int32) (f_123 : Nat → Int32) (y_124 : Int32) (f_125 : Nat → Int32) (y_126 : Int32) (f_127 : Nat → Int32) (f_128 : Nat → Int32) (f_129 : Nat → Int32) (y_130 : Int32) (f_131 : Nat → Int32) (y_132 : Int32) (f_133 : Nat → Int32) (y_134 : Int32) (f_135 : Nat → Int32) (y_136 : Int32) (y_137 : Int32) (y_138 : Int32) (f_139 : Nat → Int32) (f_140 : Nat → Int32) (f_141 : Nat → Int32) (f_142 : Nat → Int32) (f_143 : Nat → Int32) (f_144 : Nat → Int32) (y_145 : Int32) (f_146 : Nat → Int32) (y_147 : Int32) (y_148 : Int32) (f_149 : Nat → Int32) (f_150 : Nat → Int32) (f_151 : Nat → Int32) (f_152 : Nat → Int32) (f_153 : Nat → Int32) (y_154 : Int32) (y_155 : Int32) (y_156 : Int32) (y_157 : Int32) (y_158 : Int32) (y_159 : Int32) (f_160 : Nat → Int32) (y_161 : Int32) (y_162 : Int32) (f_163 : Nat → Int32) (y_164 : Int32) (f_165 : Nat → Int32), k x y_115 f_116 y_117 y_118 f_119 y_120 f_121 y_122 f_123 y_124 f_125 y_126 f_127 f_128 f_129 y_130 f_131 y_132 f_133 y_134 f_135 y_136 y_137 y_138 f_139 f_140 f_141 f_142 f_143 f_144 y_145 f_146 y_147 y_148 f_149 f_150 f_151 f_152 f_153 y_154 y_155 y_156 y_157 y_158 y_159 f_160 y_161 y_162 f_163 y_164 f_165 = some 1) : ∀ (F j : Nat), j ≤ L + 6 → L + 6 < j + 6 * F → LwI L xs k F (nI j)
  | 0, j, h1, h2 => absurd h2 (by omega)
  | F + 1, j, h1, h2 => by
    intro y_115 f_116 y_117 y_118 f_119 y_120 f_121 y_122 f_123 y_124 f_125 y_126 f_127 f_128 f_129 y_130 f_131 y_132 f_133 y_134 f_135 y_136 y_137 y_138 f_139 f_140 f_141 f_142 f_143 f_144 y_145 f_146 y_147 y_148 f_149 f_150 f_151 f_152 f_153 y_154 y_155 y_156 y_157 y_158 y_159 f_160 y_161 y_162 f_163 y_164 f_165 hI
    rw [mL_law_L18]
    refine ite_z (fun _ => hk _ _ _ _ _ _ _ _ _ _ _ _ _ _ _ _ _ _ _ _ _ _ _ _ _ _ _ _ _ _ _ _ _ _ _ _ _ _ _ _ _ _ _ _ _ _ _ _ _ _ _ _) (fun hge => ?_)
    have hj : j + 6 ≤ L := Nat.not_lt.mp (fun w => hge ((law_lt hL (by omega)).mpr w))
    have IH : LwI L xs k F (nI j + 6) := (show nI j + 6 = nI (j + 6) from nI_add j 6) ▸ lw_loop hL hk F (j + 6) (by omega) (by omega)
    have g1 : inb (nI j + 1) L = true := (show nI j + 1 = nI (j + 1) from nI_add j 1) ▸ inb_nI (show j + 1 < L by omega) (by omega)
    have g2 : inb (nI j + 2) L = true := (show nI j + 2 = nI (j + 2) from nI_add j 2) ▸ inb_nI (show j + 2 < L by omega) (by omega)
    have g3 : inb (nI j + 3) L = true := (show nI j + 3 = nI (j + 3) from nI_add j 3) ▸ inb_nI (show j + 3 < L by omega) (by omega)
    have g4 : inb (nI j + 4) L = true := (show nI j + 4 = nI (j + 4) from nI_add j 4) ▸ inb_nI (show j + 4 < L by omega) (by omega)
    have g5 : inb (nI j + 5) L = true := (show nI j + 5 = nI (j + 5) from nI_add j 5) ▸ inb_nI (show j + 5 < L by omega) (by omega)
    refine gd_z (inb_nI (show j < L by omega) (by omega)) ?_
    exact ite_z (fun _ => lc_0 IH hI g1 g2 g3 g4 g5) (fun _ => ite_z (fun _ => lc_1 IH hI g1 g2 g3 g4 g5) (fun _ => ite_z (fun _ => lc_2 IH hI g1 g2 g3 g4 g5) (fun _ => ite_z (fun _ => lc_3 IH hI g1 g2 g3 g4 g5) (fun _ => ite_z (fun _ => lc_4 IH hI g1 g2 g3 g4 g5) (fun _ => ite_z (fun _ => lc_5 IH hI g1 g2 g3 g4 g5) (fun _ => ite_z (fun _ => lc_6 IH hI g1 g2 g3 g4 g5) (fun _ => ite_z (fun _ => lc_7 IH hI g1 g2 g3 g4 g5) (fun _ => ite_z (fun _ => lc_8 IH hI g1 g2 g3 g4 g5) (fun _ => ite_z (fun _ => lc_9 IH hI g1 g2 g3 g4 g5) (fun _ => ite_z (fun _ => lc_10 IH hI g1 g2 g3 g4 g5) (fun _ => ite_z (fun _ => lc_11 IH hI g1 g2 g3 g4 g5) (fun _ => ite_z (fun _ => lc_12 IH hI g1 g2 g3 g4 g5) (fun _ => ite_z (fun _ => lc_13 IH hI g1 g2 g3 g4 g5) (fun _ => ite_z (fun _ => lc_14 IH hI g1 g2 g3 g4 g5) (fun _ => ite_z (fun _ => lc_15 IH hI g1 g2 g3 g4 g5) (fun _ => ite_z (fun _ => lc_16 IH hI g1 g2 g3 g4 g5) (fun _ => ite_z (fun _ => lc_17 IH hI g1 g2 g3 g4 g5) (fun _ => ite_z (fun _ => lc_18 IH hI g1 g2 g3 g4 g5) (fun _ => ite_z (fun _ => lc_19 IH hI g1 g2 g3 g4 g5) (fun _ => ite_z (fun _ => lc_20 IH hI g1 g2 g3 g4 g5) (fun _ => ite_z (fun _ => lc_21 IH hI g1 g2 g3 g4 g5) (fun _ => ite_z (fun _ => lc_22 IH hI g1 g2 g3 g4 g5) (fun _ => ite_z (fun _ => lc_23 IH hI g1 g2 g3 g4 g5) (fun _ => ite_z (fun _ => lc_24 IH hI g1 g2 g3 g4 g5) (fun _ => ite_z (fun _ => lc_25 IH hI g1 g2 g3 g4 g5) (fun _ => ite_z (fun _ => lc_26 IH hI g1 g2 g3 g4 g5) (fun _ => IH _ _ _ _ _ _ _ _ _ _ _ _ _ _ _ _ _ _ _ _ _ _ _ _ _ _ _ _ _ _ _ _ _ _ _ _ _ _ _ _ _ _ _ _ _ _ _ _ _ _ _ hI)))))))))))))))))))))))))))
set_option maxHeartbeats 4000000 in
theorem init9 {g : Nat → Int32} {z : Int32} (e : mX6_makeNew (fun _ => 0) 0 4 1 = some (g, z)) : mX9_init = some (g, z, (fun _ => 0), 0, (fun _ => 0), 0, (fun _ => 0), 0, (fun _ => 0), 0, (fun _ => 0), 0, (fun _ => 0), 0, 0, (fun _ => 0), 0, (fun _ => 0), (fun _ => 0), (fun _ => 0), (fun _ => 0), (fun _ => 0), (fun _ => 0), 0, 0, 0, (fun _ => 0), (fun _ => 0), 0, (fun _ => 0), 0, 0, 0, 0, 0, 0, 0) := by
  unfold mX9_init mX0_init mX1_init mX5_init mX3_init mX4_init mX6_init
  simp only [bd_some, e]
theorem init10 {s : Nat → Int32} (e : mX10_lays (fun _ => 0) 4 1 = some s) : mX10_init = some (s, (fun _ => 0), (fun _ => 0), 0, (fun _ => 0), 0, (fun _ => 0), 0, (fun _ => 0), 0, 0, (fun _ => 0), (fun _ => 0), (fun _ => 0)) := by
  unfold mX10_init
  rw [e, bd_some]
set_option maxHeartbeats 4000000 in
theorem law_pure (L : Nat) (xs : Nat → Int32) (hL : L ≤ 3072) : mL_law L xs = some 1 := by
  obtain ⟨g, e1, ht⟩ := X6_makeNew_ok (n := 4) (c := 1) (f := fun _ => 0) (z := 0) (by omega) (by omega) (by omega)
  obtain ⟨s, e2, hs⟩ := m_lays (n := 4) (c := 1) (s := fun _ => 0) (by omega) (by omega) (by omega)
  have hU := newT_Lat (n := 4) (c := 1) (by omega) (by omega) (by omega) (by omega) (fun d _ h6 h7 => absurd h7.2 (by rw [Nat.mod_eq_of_lt (by omega)]; omega))
  have h := lw_loop (L := L) (xs := xs) (k := fun _ _ _ _ _ _ _ _ _ _ _ _ _ _ _ _ _ _ _ _ _ _ _ _ _ _ _ _ _ _ _ _ _ _ _ _ _ _ _ _ _ _ _ _ _ _ _ _ _ _ _ _ => some 1) hL (fun _ _ _ _ _ _ _ _ _ _ _ _ _ _ _ _ _ _ _ _ _ _ _ _ _ _ _ _ _ _ _ _ _ _ _ _ _ _ _ _ _ _ _ _ _ _ _ _ _ _ _ _ => rfl) FU 0 (by omega) (by have := FU_ge; omega)
  unfold mL_law
  refine bd_z (init9 e1) (bd_z (init10 e2) ?_)
  exact h _ _ _ _ _ _ _ _ _ _ _ _ _ _ _ _ _ _ _ _ _ _ _ _ _ _ _ _ _ _ _ _ _ _ _ _ _ _ _ _ _ _ _ _ _ _ _ _ _ _ _ ⟨⟨4, _, hU, rfl, ht, hs⟩, ⟨0, rfl, rfl, by omega, fun h => absurd h (by omega), fun h => absurd h (by omega), fun h => absurd h (by omega), fun h => absurd h (by omega)⟩, ⟨0, rfl, rfl, by omega, fun i hi => absurd hi (Nat.not_lt_zero _)⟩, rfl, Or.inl rfl⟩
