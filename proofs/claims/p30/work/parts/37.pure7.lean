/-! one table in both forms; the states before, in both forms -/
def Sm (f : Nat → Int32) (z : Int32) (s : Nat → Int32) : Prop := ∃ n T, Lat n T ∧ z = nI n ∧ tF n T f ∧ sF n T s
theorem sF_same {n : Nat} {T : Nat → Nat → Nat} {s s' : Nat → Int32} (hn : n ≤ 8) (h : ∀ j, j < 65 → s' j = s j) (hs : sF n T s) : sF n T s' :=
  ⟨(h 0 (by omega)).trans hs.1, fun a b ha hb => (h _ (by omega)).trans (hs.2 a b ha hb)⟩
theorem Sm_same {f : Nat → Int32} {z : Int32} {s s' : Nat → Int32} (h : ∀ j, j < 65 → s' j = s j) (hS : Sm f z s) : Sm f z s' := by
  obtain ⟨n, T, hL, hz, ht, hs⟩ := hS
  exact ⟨n, T, hL, hz, ht, sF_same hL.2.1 h hs⟩
theorem Sm_cpy {f g : Nat → Int32} {z : Int32} {s : Nat → Int32} (hS : Sm f z s) : Sm (cpy 64 g f) z s := by
  obtain ⟨n, T, hL, hz, ht, hs⟩ := hS
  exact ⟨n, T, hL, hz, tF_cpy hL.2.1 ht, hs⟩
def pst (P s : Nat → Int32) (m i : Nat) : Nat → Int32 := fun j => if 65 * m ≤ j ∧ j < 65 * m + i then s (j - 65 * m) else P j
theorem pst_0 (P s : Nat → Int32) (m : Nat) : pst P s m 0 = P := by
  funext j
  unfold pst
  rw [if_neg (by omega)]
theorem pst_s (P s : Nat → Int32) (m i : Nat) : upd (pst P s m i) (65 * m + i) (s i) = pst P s m (i + 1) := by
  funext j
  by_cases q : j = 65 * m + i
  · subst q
    rw [upd_eq]; unfold pst
    rw [if_pos ⟨by omega, by omega⟩, show 65 * m + i - 65 * m = i by omega]
  · rw [upd_ne _ _ q]; unfold pst
    by_cases w : 65 * m ≤ j ∧ j < 65 * m + i
    · rw [if_pos w, if_pos ⟨w.1, by omega⟩]
    · rw [if_neg w, if_neg (by omega)]
def shf (P : Nat → Int32) (i : Nat) : Nat → Int32 := fun j => if j < i then P (65 + j) else P j
theorem shf_0 (P : Nat → Int32) : shf P 0 = P := by
  funext j
  unfold shf
  rw [if_neg (by omega)]
theorem shf_s (P : Nat → Int32) (i : Nat) : upd (shf P i) i (shf P i (65 + i)) = shf P (i + 1) := by
  funext j
  by_cases q : j = i
  · subst q
    rw [upd_eq]; unfold shf
    rw [if_neg (by omega), if_pos (by omega)]
  · rw [upd_ne _ _ q]; unfold shf
    by_cases w : j < i
    · rw [if_pos w, if_pos (by omega)]
    · rw [if_neg w, if_neg (by omega)]
section Records
variable {s o P : Nat → Int32}
theorem m_rec50 {m : Nat} (hm : m < 4) (k : Int32 → (Nat → Int32) → (Nat → Int32) → Option ((Nat → Int32) × (Nat → Int32) × Int32)) : mX10_records_L50 s (nI m) k FU 0 o P = k (nI 65) (cpy 65 o s) (pst P s m 65) := by
  obtain ⟨r, e⟩ := lpU (fun F x (q : (Nat → Int32) × (Nat → Int32)) => mX10_records_L50 s (nI m) k F x q.1 q.2) 65 0 (fun i => (cpy i o s, pst P s m i)) (by omega) (by omega) (fun F i _ hi => by
    show mX10_records_L50 _ _ _ (F + 1) _ _ _ = _
    rw [mX10_records_L50, if_neg (show ¬ (65 : Int32) ≤ nI i from nI_ge (b := 65) hi (by omega)), show (65 : Int32) * nI m + nI i = nI (65 * m + i) by rw [show (65 : Int32) = nI 65 from rfl, pk_mul, nI_add], gd_t (inb_nI hi (by omega)), gd_t (inb_nI (by omega) (by omega)), gd_t (inb_nI hi (by omega)), gd_t (inb_nI hi (by omega)), nI_clamp (by omega), nI_clamp (by omega), nI_1, cpy_s, pst_s])
  simp only [cpy_0, pst_0] at e
  refine Eq.trans e ?_
  show mX10_records_L50 _ _ _ (r + 1) _ _ _ = _
  rw [mX10_records_L50, if_pos (show (65 : Int32) ≤ nI 65 from nI_le (a := 65) (Nat.le_refl _) (by omega))]
theorem m_rec50a (k : Int32 → (Nat → Int32) → (Nat → Int32) → Option ((Nat → Int32) × (Nat → Int32) × Int32)) : mX10_records_L50a s (nI 4) k FU 0 o P = k (nI 65) (cpy 65 o s) (pst P s 3 65) := by
  obtain ⟨r, e⟩ := lpU (fun F x (q : (Nat → Int32) × (Nat → Int32)) => mX10_records_L50a s (nI 4) k F x q.1 q.2) 65 0 (fun i => (cpy i o s, pst P s 3 i)) (by omega) (by omega) (fun F i _ hi => by
    show mX10_records_L50a _ _ _ (F + 1) _ _ _ = _
    rw [mX10_records_L50a, if_neg (show ¬ (65 : Int32) ≤ nI i from nI_ge (b := 65) hi (by omega)), show (65 : Int32) * (nI 4 - 1) + nI i = nI (65 * 3 + i) by rw [show (65 : Int32) * (nI 4 - 1) = nI (65 * 3) from rfl, nI_add], gd_t (inb_nI hi (by omega)), gd_t (inb_nI (by omega) (by omega)), gd_t (inb_nI hi (by omega)), gd_t (inb_nI hi (by omega)), nI_clamp (by omega), nI_clamp (by omega), nI_1, cpy_s, pst_s])
  simp only [cpy_0, pst_0] at e
  refine Eq.trans e ?_
  show mX10_records_L50a _ _ _ (r + 1) _ _ _ = _
  rw [mX10_records_L50a, if_pos (show (65 : Int32) ≤ nI 65 from nI_le (a := 65) (Nat.le_refl _) (by omega))]
theorem m_rec10 (k : Int32 → (Nat → Int32) → Option ((Nat → Int32) × (Nat → Int32) × Int32)) : mX10_records_L10 k FU 0 P = k (nI 195) (shf P 195) := by
  obtain ⟨r, e⟩ := lpU (fun F x q => mX10_records_L10 k F x q) 195 0 (fun i => shf P i) (by omega) (by omega) (fun F i _ hi => by
    show mX10_records_L10 _ (F + 1) _ _ = _
    rw [mX10_records_L10, if_neg (show ¬ (195 : Int32) ≤ nI i from nI_ge (b := 195) hi (by omega)), show (65 : Int32) + nI i = nI (65 + i) by rw [show (65 : Int32) = nI 65 from rfl, nI_add], gd_t (inb_nI (by omega) (by omega)), gd_t (inb_nI (by omega) (by omega)), nI_clamp (by omega), nI_clamp (by omega), nI_1, shf_s])
  simp only [shf_0] at e
  refine Eq.trans e ?_
  show mX10_records_L10 _ (r + 1) _ _ = _
  rw [mX10_records_L10, if_pos (show (195 : Int32) ≤ nI 195 from nI_le (a := 195) (Nat.le_refl _) (by omega))]
theorem cpy_lt {N j : Nat} {h p : Nat → Int32} (hj : j < N) : cpy N h p j = p j := if_pos hj
theorem m_records {m : Nat} (hm : m < 4) : mX10_records s o P (nI m) = some (cpy 65 o s, pst P s m 65, nI (m + 1)) := by
  unfold mX10_records
  rw [if_neg (show ¬ nI m = (4 : Int32) from fun q => by have := (nI_eq (a := m) (b := 4) (by omega) (by omega)).mp q; omega), m_rec50 hm, nI_1]
theorem m_records4 : mX10_records s o P (nI 4) = some (cpy 65 o s, pst (shf P 195) s 3 65, nI 4) := by
  unfold mX10_records
  rw [if_pos (show nI 4 = (4 : Int32) from rfl), m_rec10, m_rec50a]; rfl
end Records
/-- the states before the changes: m of them -/
def Hs (m : Nat) (k0 : Nat → Int32) (z0 : Int32) (k1 : Nat → Int32) (z1 : Int32) (k2 : Nat → Int32) (z2 : Int32) (k3 : Nat → Int32) (z3 : Int32) (P : Nat → Int32) : Prop := m ≤ 4 ∧ (1 ≤ m → Sm k0 z0 (fun j => P (65 * 0 + j))) ∧ (2 ≤ m → Sm k1 z1 (fun j => P (65 * 1 + j))) ∧ (3 ≤ m → Sm k2 z2 (fun j => P (65 * 2 + j))) ∧ (4 ≤ m → Sm k3 z3 (fun j => P (65 * 3 + j)))
theorem pst_in {P s : Nat → Int32} {m : Nat} : ∀ j, j < 65 → pst P s m 65 (65 * m + j) = s j := fun j hj => by
  unfold pst
  rw [if_pos ⟨by omega, by omega⟩, show 65 * m + j - 65 * m = j by omega]
theorem pst_out {P s : Nat → Int32} {m c : Nat} (h : c ≠ m) : ∀ j, j < 65 → pst P s m 65 (65 * c + j) = P (65 * c + j) := fun j hj => by
  unfold pst
  rw [if_neg (by omega)]
theorem shf_in {P : Nat → Int32} {c : Nat} (h : c < 3) : ∀ j, j < 65 → shf P 195 (65 * c + j) = P (65 * (c + 1) + j) := fun j hj => by
  unfold shf
  rw [if_pos (by omega), show 65 + (65 * c + j) = 65 * (c + 1) + j by omega]
theorem rec_both {m : Nat} {f s o P k0 k1 k2 k3 : Nat → Int32} {z z0 z1 z2 z3 : Int32} (hS : Sm f z s) (hH : Hs m k0 z0 k1 z1 k2 z2 k3 z3 P) : ∃ k0' z0' k1' z1' k2' z2' k3' z3' m' P', mX0_record k0 z0 k1 z1 k2 z2 k3 z3 (nI m) f z = some (k0', z0', k1', z1', k2', z2', k3', z3', nI m') ∧ mX10_records s o P (nI m) = some (cpy 65 o s, P', nI m') ∧ Hs m' k0' z0' k1' z1' k2' z2' k3' z3' P' := by
  obtain ⟨hm, h0, h1, h2, h3⟩ := hH
  have n1 : ¬ nI 1 = 0 := by decide
  have n2 : ¬ nI 2 = 0 := by decide
  have n3 : ¬ nI 3 = 0 := by decide
  have n4 : ¬ nI 4 = 0 := by decide
  have n21 : ¬ nI 2 = 1 := by decide
  have n31 : ¬ nI 3 = 1 := by decide
  have n32 : ¬ nI 3 = 2 := by decide
  have n41 : ¬ nI 4 = 1 := by decide
  have n42 : ¬ nI 4 = 2 := by decide
  have n43 : ¬ nI 4 = 3 := by decide
  rcases (show m = 0 ∨ m = 1 ∨ m = 2 ∨ m = 3 ∨ m = 4 by omega) with rfl | rfl | rfl | rfl | rfl
  · refine ⟨cpy 64 k0 f, z, k1, z1, k2, z2, k3, z3, 1, pst P s 0 65, ?_, m_records (by omega), by omega, fun _ => Sm_same pst_in (Sm_cpy hS), fun q => by omega, fun q => by omega, fun q => by omega⟩
    unfold mX0_record
    rw [if_pos (show nI 0 = 0 from rfl)]
    unfold mX0_record_0 mX0_stateAt_0
    rw [bd_some, X6_copyFrom_ok]; rfl
  · refine ⟨k0, z0, cpy 64 k1 f, z, k2, z2, k3, z3, 2, pst P s 1 65, ?_, m_records (by omega), by omega, fun _ => Sm_same (pst_out (by omega)) (h0 (by omega)), fun q => Sm_same pst_in (Sm_cpy hS), fun q => by omega, fun q => by omega⟩
    unfold mX0_record
    rw [if_neg n1, if_pos (show nI 1 = 1 from rfl)]
    unfold mX0_record_1 mX0_stateAt_1
    rw [bd_some, X6_copyFrom_ok]; rfl
  · refine ⟨k0, z0, k1, z1, cpy 64 k2 f, z, k3, z3, 3, pst P s 2 65, ?_, m_records (by omega), by omega, fun _ => Sm_same (pst_out (by omega)) (h0 (by omega)), fun _ => Sm_same (pst_out (by omega)) (h1 (by omega)), fun q => Sm_same pst_in (Sm_cpy hS), fun q => by omega⟩
    unfold mX0_record
    rw [if_neg n2, if_neg n21, if_pos (show nI 2 = 2 from rfl)]
    unfold mX0_record_2 mX0_stateAt_2
    rw [bd_some, X6_copyFrom_ok]; rfl
  · refine ⟨k0, z0, k1, z1, k2, z2, cpy 64 k3 f, z, 4, pst P s 3 65, ?_, m_records (by omega), by omega, fun _ => Sm_same (pst_out (by omega)) (h0 (by omega)), fun _ => Sm_same (pst_out (by omega)) (h1 (by omega)), fun _ => Sm_same (pst_out (by omega)) (h2 (by omega)), fun q => Sm_same pst_in (Sm_cpy hS)⟩
    unfold mX0_record
    rw [if_neg n3, if_neg n31, if_neg n32, if_pos (show nI 3 = 3 from rfl)]
    unfold mX0_record_3 mX0_stateAt_3
    rw [bd_some, X6_copyFrom_ok]; rfl
  · refine ⟨k1, z1, k2, z2, k3, z3, cpy 64 k0 f, z, 4, pst (shf P 195) s 3 65, ?_, m_records4, by omega, fun _ => Sm_same (fun j hj => (pst_out (by omega) j hj).trans (shf_in (by omega) j hj)) (h1 (by omega)), fun _ => Sm_same (fun j hj => (pst_out (by omega) j hj).trans (shf_in (by omega) j hj)) (h2 (by omega)), fun _ => Sm_same (fun j hj => (pst_out (by omega) j hj).trans (shf_in (by omega) j hj)) (h3 (by omega)), fun q => Sm_same pst_in (Sm_cpy hS)⟩
    unfold mX0_record
    rw [if_neg n4, if_neg n41, if_neg n42, if_neg n43, if_pos (show nI 4 = 4 from rfl)]
    unfold mX0_record_4 mX0_dropOldest_4 mX0_stateAt_0 mX0_stateAt_3
    simp only [bd_some, X6_copyFrom_ok]; rfl
/-- undo -/
theorem undo_both {m : Nat} {f s P k0 k1 k2 k3 : Nat → Int32} {z z0 z1 z2 z3 : Int32} (hS : Sm f z s) (hH : Hs m k0 z0 k1 z1 k2 z2 k3 z3 P) : ∃ r f' z' m' s', mX9_undo f z k0 z0 k1 z1 k2 z2 k3 z3 (nI m) = some (r, f', z', nI m') ∧ mX10_undo s P (nI m) = some (r, s', nI m') ∧ Sm f' z' s' ∧ Hs m' k0 z0 k1 z1 k2 z2 k3 z3 P := by
  obtain ⟨hm, h0, h1, h2, h3⟩ := hH
  have n1 : ¬ nI 1 = 0 := by decide
  have n2 : ¬ nI 2 = 0 := by decide
  have n3 : ¬ nI 3 = 0 := by decide
  have n4 : ¬ nI 4 = 0 := by decide
  have n21 : ¬ nI 2 = 1 := by decide
  have n31 : ¬ nI 3 = 1 := by decide
  have n32 : ¬ nI 3 = 2 := by decide
  have n41 : ¬ nI 4 = 1 := by decide
  have n42 : ¬ nI 4 = 2 := by decide
  have n43 : ¬ nI 4 = 3 := by decide
  have back : ∀ c, c < 4 → mX10_undo s P (nI (c + 1)) = some (nI c, cpy 65 s (fun j => P (65 * c + j)), nI c) := by
    intro c hc
    unfold mX10_undo
    rw [if_neg (nI_ne0 (by omega) (by omega))]
    obtain ⟨r, e⟩ := lpU (fun F x q => mX10_undo_L22 P (nI (c + 1)) (fun (x1_1 : Int32) (f_2 : Nat → Int32) => some ((nI (c + 1) - 1), f_2, (nI (c + 1) - 1))) F x q) 65 0 (fun i => cpy i s (fun j => P (65 * c + j))) (by omega) (by omega) (fun F i _ hi => by
      show mX10_undo_L22 _ _ _ (F + 1) _ _ = _
      rw [mX10_undo_L22, if_neg (show ¬ (65 : Int32) ≤ nI i from nI_ge (b := 65) hi (by omega)), nI_pred, show (65 : Int32) * nI c + nI i = nI (65 * c + i) by rw [show (65 : Int32) = nI 65 from rfl, pk_mul, nI_add], gd_t (inb_nI (by omega) (by omega)), gd_t (inb_nI hi (by omega)), nI_clamp (by omega), nI_clamp (by omega), nI_1, ← cpy_s])
    simp only [cpy_0] at e
    refine Eq.trans e ?_
    show mX10_undo_L22 _ _ _ (r + 1) _ _ = _
    rw [mX10_undo_L22, if_pos (show (65 : Int32) ≤ nI 65 from nI_le (a := 65) (Nat.le_refl _) (by omega)), nI_pred]
  rcases (show m = 0 ∨ m = 1 ∨ m = 2 ∨ m = 3 ∨ m = 4 by omega) with rfl | rfl | rfl | rfl | rfl
  · refine ⟨-2, f, z, 0, s, ?_, ?_, hS, hm, h0, h1, h2, h3⟩
    · unfold mX9_undo mX0_takeBack
      rw [if_pos (show nI 0 = 0 from rfl)]; rfl
    · unfold mX10_undo
      rw [if_pos (show nI 0 = 0 from rfl)]
  · refine ⟨nI 0, cpy 64 f k0, z0, 0, _, ?_, back 0 (by omega), Sm_same (fun j hj => cpy_lt hj) (Sm_cpy (h0 (by omega))), by omega, fun q => by omega, fun q => by omega, fun q => by omega, fun q => by omega⟩
    unfold mX9_undo mX0_takeBack
    rw [if_neg n1, if_pos (show nI 1 = 1 from rfl)]
    unfold mX0_takeBack_1 mX0_stateAt_0
    rw [bd_some, X6_copyFrom_ok]; rfl
  · refine ⟨nI 1, cpy 64 f k1, z1, 1, _, ?_, back 1 (by omega), Sm_same (fun j hj => cpy_lt hj) (Sm_cpy (h1 (by omega))), by omega, fun q => h0 (by omega), fun q => by omega, fun q => by omega, fun q => by omega⟩
    unfold mX9_undo mX0_takeBack
    rw [if_neg n2, if_neg n21, if_pos (show nI 2 = 2 from rfl)]
    unfold mX0_takeBack_2 mX0_stateAt_1
    rw [bd_some, X6_copyFrom_ok]; rfl
  · refine ⟨nI 2, cpy 64 f k2, z2, 2, _, ?_, back 2 (by omega), Sm_same (fun j hj => cpy_lt hj) (Sm_cpy (h2 (by omega))), by omega, fun q => h0 (by omega), fun q => h1 (by omega), fun q => by omega, fun q => by omega⟩
    unfold mX9_undo mX0_takeBack
    rw [if_neg n3, if_neg n31, if_neg n32, if_pos (show nI 3 = 3 from rfl)]
    unfold mX0_takeBack_3 mX0_stateAt_2
    rw [bd_some, X6_copyFrom_ok]; rfl
  · refine ⟨nI 3, cpy 64 f k3, z3, 3, _, ?_, back 3 (by omega), Sm_same (fun j hj => cpy_lt hj) (Sm_cpy (h3 (by omega))), by omega, fun q => h0 (by omega), fun q => h1 (by omega), fun q => h2 (by omega), fun q => by omega⟩
    unfold mX9_undo mX0_takeBack
    rw [if_neg n4, if_neg n41, if_neg n42, if_neg n43, if_pos (show nI 4 = 4 from rfl)]
    unfold mX0_takeBack_4 mX0_stateAt_3
    rw [bd_some, X6_copyFrom_ok]; rfl
