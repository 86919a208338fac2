noncomputable def mX4_init  : Option ((Nat → Int32) × Int32 × Int32 × Int32 × Int32 × Int32 × Int32) :=
  bd (mX6_init) (fun z_2 => some (z_2.1, z_2.2, 0, 0, 0, 0, 0))
set_option maxHeartbeats 8000000 in
set_option maxRecDepth 100000 in
theorem kX4_init (l : Launch) (D : va_G) (cI cC cT : ClassId) (h : Nat) (sz : Nat) (z : (Nat → Int32) × Int32 × Int32 × Int32 × Int32 × Int32 × Int32) (h0 : mX4_init  = some z) : Met l yX4_init wsX4_init ({ frames := 2, cells := 2, slots := 66, locals := 40 } : Room) (va_Pc [.ref h] (wP D cI cC cT [(h, .inr (3, [.null, .int 0, .int 0, .int 0, .int 0, .int 0]))] sz)) (wQ D none (va_A [(h, .inr (3, [.null, .int 0, .int 0, .int 0, .int 0, .int 0]))] sz) (fun (u : Nat × Nat) => [(h, .inr (3, [.ref u.1, .int z.2.2.1, .int z.2.2.2.1, .int z.2.2.2.2.1, .int z.2.2.2.2.2.1, .int z.2.2.2.2.2.2])), (u.1, .inr (5, [.ref u.2, .int z.2.1])), (u.2, .inl (cI, 64, .inl z.1))])) 2 66 (va_A [(h, .inr (3, [.null, .int 0, .int 0, .int 0, .int 0, .int 0]))] sz) := by
  refine Met.ofW (cc := cX4_init) (maxL := 1) (ret := none) (by decide) rfl ?_
  intro p e s m args below meth c s₁ B hml hv
  obtain ⟨rfl, hsz, hP, hE, hD0⟩ := hv
  have hx := B.exec
  have hb := B.bytes
  have hr := B.returns
  have hts := atoms_spec (ws := wsX4_init) B.pre
  have hown : s.vm.findClass RX4 = some m.cls := findClass_of_methodNamed B.named
  have hlocks := B.notSynchronized
  have hK := hE.1
  have hcf : CallFix p m c cX4_init 1 s ([.ref h] : List Value).toArray wsX4_init RX4 := ⟨hx, hb, hml, hown, hts⟩
  have hin : meth.name = "<init>" := (name_of_methodNamed B.named B.method).1
  subst hsz
  have hD := hD0.self (sz := s.heap.size)
  generalize hAe : va_A [(h, .inr (3, [.null, .int 0, .int 0, .int 0, .int 0, .int 0]))] s.heap.size = A at hD ⊢
  have hA : ∀ q : Nat, s.heap.size ≤ q → A q := fun q h => by rw [← hAe]; exact Or.inr h
  have hS : va_S A s.heap s.heap [] := va_S.rf
  have hP : va_P D vwCl [(h, .inr (3, [.null, .int 0, .int 0, .int 0, .int 0, .int 0]))] s.heap := hP
  have hi_X6 := (show ∀ w ∈ u_ws RX6 TX6 2, w ∈ wsX4_init from by decide +kernel)
  have hf_12 := hts (.fieldLink RX4 12 "CrookedSums$Squares" "swapped" "LCrookedSums$Table;") (by decide +kernel)
  have hi_X4 := (show ∀ w ∈ u_ws RX4 TX4 6, w ∈ wsX4_init from by decide +kernel)
  have hl := lv_entry ([.ref h]) (n := 1) (Nat.le_of_ble_eq_true rfl)
  rw [lg_entry_eq]
  generalize (lg_sl ([.ref h]) ++ List.replicate (1 - (lg_sl ([.ref h])).length) Slot.unset).toArray = ls at hl ⊢
  have hl : lv_has ls 1 [(0, .ref h)] := hl
  unfold mX4_init at h0
  refine lv_aload_n hx hb dX4_init_0 rfl (lv_at hl 0 rfl) ?_
  refine W.objInit hx hb hown (hts (.methodLink RX4 3 objectInit) (by decide +kernel)) (hts (.instanceMethod objectInit) (by decide +kernel)) (hts (.code objectInit ⟨#[0xb1]⟩ 1 none) (by decide +kernel)) rfl (by rw [hml]; exact hl.1) rfl dX4_init_1 (Nat.le_of_ble_eq_true rfl) (Nat.le_of_ble_eq_true rfl) ?_
  refine W.eq (g2 := F0 m 4 ls []) rfl ?_
  refine lv_aload_n hx hb dX4_init_4 rfl (lv_at hl 0 rfl) ?_
  refine va_new (ci := 5) (fs := [.null, .int 0]) (C := RX6) (T := TX6) (N := 2) hx hb hts hi_X6 tyX6 tyX6_ok hown (hts (.classLink RX4 9 RX6) (by decide +kernel)) (hts (.instantiable RX6 2) (by decide +kernel)) (hts (.initialized RX6) (by decide +kernel)) hK hP hD hS hA rfl (fun j hj => by rcases (show j = 0 ∨ j = 1 by omega) with rfl | rfl <;> rfl) (Nat.le_of_ble_eq_true rfl) (Nat.le_of_ble_eq_true rfl) dX4_init_5 (fun q_1 H hP hD hS => ?_)
  have hP : va_P D vwCl [(h, .inr (3, [.null, .int 0, .int 0, .int 0, .int 0, .int 0])), (q_1, .inr (5, [.null, .int 0]))] H := hP
  have hD : va_D A [(h, .inr (3, [.null, .int 0, .int 0, .int 0, .int 0, .int 0])), (q_1, .inr (5, [.null, .int 0]))] := hD
  refine lv_dup hx hb dX4_init_8 rfl ?_
  obtain ⟨z_2, hz, h0⟩ := bd_ok h0
  refine wr_I (As := []) (rest := [.ref q_1, .ref h]) (wc := [(q_1, .inr (5, [.null, .int 0]))]) (wr := [(h, .inr (3, [.null, .int 0, .int 0, .int 0, .int 0, .int 0]))]) hcf (kX6_init l D cI cC cT q_1 _ z_2 hz) (cwI 0 hts gX4_init_X6_init rfl rfl rfl (hts (.initialized RX6) (by decide +kernel)) (hts (.methodLink RX4 11 yX6_init) (by decide +kernel)) (hts (.instanceMethod yX6_init) (by decide +kernel)) rfl (by decide +kernel) ⟨Nat.le_of_ble_eq_true rfl, Nat.le_of_ble_eq_true rfl⟩) hE hP hD hS hA [1] [0] (hP.sub [1] rfl) (hD.sub [1] (by decide) rfl) rfl rfl (by decide) (by decide) rfl hl.1 rfl (Nat.le_of_ble_eq_true rfl) dX4_init_9 ⟨Nat.le_of_ble_eq_true rfl, Nat.le_of_ble_eq_true rfl⟩ (fun u H locs hP hD hS => ?_)
  obtain ⟨r_3, rfl⟩ : ∃ x, x = u := ⟨_, rfl⟩
  have hP : va_P D vwCl [(h, .inr (3, [.null, .int 0, .int 0, .int 0, .int 0, .int 0])), (q_1, .inr (5, [.ref r_3, .int z_2.2])), (r_3, .inl (cI, 64, .inl z_2.1))] H := hP
  have hD : va_D A [(h, .inr (3, [.null, .int 0, .int 0, .int 0, .int 0, .int 0])), (q_1, .inr (5, [.ref r_3, .int z_2.2])), (r_3, .inl (cI, 64, .inl z_2.1))] := hD
  refine W.eq (g2 := F0 m 12 ls [.ref q_1, .ref h]) rfl ?_
  refine va_putF (D := D) (ci := 3) (v := .ref q_1) (ty := (.object "CrookedSums$Table")) (C := RX4) (T := TX4) (N := 6) hx hb hts hi_X4 tyX4 tyX4_ok nmX4 hown hK hP hD hS 0 rfl rfl 0 (by decide) hf_12 (fun _ h9 => h9) rfl hin rfl (by decide +kernel) rfl rfl (Nat.le_of_ble_eq_true rfl) dX4_init_12 (fun H locs hP hD hS => ?_)
  have hP : va_P D vwCl [(h, .inr (3, [.ref q_1, .int 0, .int 0, .int 0, .int 0, .int 0])), (q_1, .inr (5, [.ref r_3, .int z_2.2])), (r_3, .inl (cI, 64, .inl z_2.1))] H := hP
  have hD : va_D A [(h, .inr (3, [.ref q_1, .int 0, .int 0, .int 0, .int 0, .int 0])), (q_1, .inr (5, [.ref r_3, .int z_2.2])), (r_3, .inl (cI, 64, .inl z_2.1))] := hD
  have e0 := Option.some.inj h0
  subst e0
  refine W.widen (k := 2) (n := 66) (Nat.le_of_ble_eq_true rfl) (Nat.le_of_ble_eq_true rfl) ?_
  exact W.vret hx hb hr (fun t ht hW => wr_end (q_1, r_3) ht (hP.sub [0, 1, 2] rfl) (hD.sub [0, 1, 2] (by decide) rfl) hS) hS.2.2 dX4_init_15
noncomputable def mX4_tryOut (h_swapped_cells_f : Nat → Int32) (h_swapped_size : Int32) (h_lesserRow : Int32) (h_greaterRow : Int32) (h_lesserColumn : Int32) (h_greaterColumn : Int32) (h_mostTriples : Int32) (p1 : Int32) (p2 : Int32) (p3 : Int32) (p4 : Int32) : Option ((Nat → Int32) × Int32 × Int32 × Int32 × Int32 × Int32) :=
  bd (mX6_swapSquare h_swapped_cells_f p1 p2 p3 p4) (fun z_1 => bd (mX8_associatingTriples z_1 h_swapped_size) (fun z_2 => bd (mX6_swapSquare z_1 p1 p2 p3 p4) (fun z_3 => if z_2 ≤ h_mostTriples then (some (z_3, h_lesserRow, h_greaterRow, h_lesserColumn, h_greaterColumn, h_mostTriples)) else (some (z_3, p1, p2, p3, p4, z_2)))))
set_option maxHeartbeats 8000000 in
set_option maxRecDepth 100000 in
theorem kX4_tryOut (l : Launch) (D : va_G) (cI cC cT : ClassId) (h h_swapped h_swapped_cells : Nat) (h_swapped_cells_f : Nat → Int32) (h_swapped_size : Int32) (h_lesserRow : Int32) (h_greaterRow : Int32) (h_lesserColumn : Int32) (h_greaterColumn : Int32) (h_mostTriples : Int32) (p1 : Int32) (p2 : Int32) (p3 : Int32) (p4 : Int32) (sz : Nat) (z : (Nat → Int32) × Int32 × Int32 × Int32 × Int32 × Int32) (h0 : mX4_tryOut h_swapped_cells_f h_swapped_size h_lesserRow h_greaterRow h_lesserColumn h_greaterColumn h_mostTriples p1 p2 p3 p4 = some z) : Met l yX4_tryOut wsX4_tryOut ({ frames := 4, cells := 0, slots := 0, locals := 94 } : Room) (va_Pc [.ref h, .int p1, .int p2, .int p3, .int p4] (wP D cI cC cT [(h, .inr (3, [.ref h_swapped, .int h_lesserRow, .int h_greaterRow, .int h_lesserColumn, .int h_greaterColumn, .int h_mostTriples])), (h_swapped, .inr (5, [.ref h_swapped_cells, .int h_swapped_size])), (h_swapped_cells, .inl (cI, 64, .inl h_swapped_cells_f))] sz)) (wQ D none (va_A [(h, .inr (3, [.ref h_swapped, .int h_lesserRow, .int h_greaterRow, .int h_lesserColumn, .int h_greaterColumn, .int h_mostTriples])), (h_swapped, .inr (5, [.ref h_swapped_cells, .int h_swapped_size])), (h_swapped_cells, .inl (cI, 64, .inl h_swapped_cells_f))] sz) (fun (u : Unit) => [(h, .inr (3, [.ref h_swapped, .int z.2.1, .int z.2.2.1, .int z.2.2.2.1, .int z.2.2.2.2.1, .int z.2.2.2.2.2])), (h_swapped, .inr (5, [.ref h_swapped_cells, .int h_swapped_size])), (h_swapped_cells, .inl (cI, 64, .inl z.1))])) 0 0 (va_A [(h, .inr (3, [.ref h_swapped, .int h_lesserRow, .int h_greaterRow, .int h_lesserColumn, .int h_greaterColumn, .int h_mostTriples])), (h_swapped, .inr (5, [.ref h_swapped_cells, .int h_swapped_size])), (h_swapped_cells, .inl (cI, 64, .inl h_swapped_cells_f))] sz) := by
  refine Met.ofW (cc := cX4_tryOut) (maxL := 6) (ret := none) (by decide) rfl ?_
  intro p e s m args below meth c s₁ B hml hv
  obtain ⟨rfl, hsz, hP, hE, hD0⟩ := hv
  have hx := B.exec
  have hb := B.bytes
  have hr := B.returns
  have hts := atoms_spec (ws := wsX4_tryOut) B.pre
  have hown : s.vm.findClass RX4 = some m.cls := findClass_of_methodNamed B.named
  have hlocks := B.notSynchronized
  have hK := hE.1
  have hcf : CallFix p m c cX4_tryOut 6 s ([.ref h, .int p1, .int p2, .int p3, .int p4] : List Value).toArray wsX4_tryOut RX4 := ⟨hx, hb, hml, hown, hts⟩
  subst hsz
  have hD := hD0.self (sz := s.heap.size)
  generalize hAe : va_A [(h, .inr (3, [.ref h_swapped, .int h_lesserRow, .int h_greaterRow, .int h_lesserColumn, .int h_greaterColumn, .int h_mostTriples])), (h_swapped, .inr (5, [.ref h_swapped_cells, .int h_swapped_size])), (h_swapped_cells, .inl (cI, 64, .inl h_swapped_cells_f))] s.heap.size = A at hD ⊢
  have hA : ∀ q : Nat, s.heap.size ≤ q → A q := fun q h => by rw [← hAe]; exact Or.inr h
  have hS : va_S A s.heap s.heap [] := va_S.rf
  have hP : va_P D vwCl [(h, .inr (3, [.ref h_swapped, .int h_lesserRow, .int h_greaterRow, .int h_lesserColumn, .int h_greaterColumn, .int h_mostTriples])), (h_swapped, .inr (5, [.ref h_swapped_cells, .int h_swapped_size])), (h_swapped_cells, .inl (cI, 64, .inl h_swapped_cells_f))] s.heap := hP
  have hf_12 := hts (.fieldLink RX4 12 "CrookedSums$Squares" "swapped" "LCrookedSums$Table;") (by decide +kernel)
  have hi_X4 := (show ∀ w ∈ u_ws RX4 TX4 6, w ∈ wsX4_tryOut from by decide +kernel)
  have hf_30 := hts (.fieldLink RX4 30 "CrookedSums$Squares" "mostTriples" "I") (by decide +kernel)
  have hf_55 := hts (.fieldLink RX4 55 "CrookedSums$Squares" "lesserRow" "I") (by decide +kernel)
  have hf_58 := hts (.fieldLink RX4 58 "CrookedSums$Squares" "greaterRow" "I") (by decide +kernel)
  have hf_61 := hts (.fieldLink RX4 61 "CrookedSums$Squares" "lesserColumn" "I") (by decide +kernel)
  have hf_64 := hts (.fieldLink RX4 64 "CrookedSums$Squares" "greaterColumn" "I") (by decide +kernel)
  have hl := lv_entry ([.ref h, .int p1, .int p2, .int p3, .int p4]) (n := 6) (Nat.le_of_ble_eq_true rfl)
  rw [lg_entry_eq]
  generalize (lg_sl ([.ref h, .int p1, .int p2, .int p3, .int p4]) ++ List.replicate (6 - (lg_sl ([.ref h, .int p1, .int p2, .int p3, .int p4])).length) Slot.unset).toArray = ls at hl ⊢
  have hl : lv_has ls 6 [(0, .ref h), (1, .int p1), (2, .int p2), (3, .int p3), (4, .int p4)] := hl
  unfold mX4_tryOut at h0
  refine lv_aload_n hx hb dX4_tryOut_0 rfl (lv_at hl 0 rfl) ?_
  refine va_get (D := D) (ci := 3) (v := .ref h_swapped) (C := RX4) (T := TX4) (N := 6) hx hb hts hi_X4 hown hK hP 0 rfl rfl 0 (by decide) hf_12 (fun _ h9 => h9) rfl dX4_tryOut_1 ?_
  refine lv_iload_n hx hb dX4_tryOut_4 rfl (lv_at hl 1 rfl) ?_
  refine lv_iload_n hx hb dX4_tryOut_5 rfl (lv_at hl 2 rfl) ?_
  refine lv_iload_n hx hb dX4_tryOut_6 rfl (lv_at hl 3 rfl) ?_
  refine lv_iload hx hb dX4_tryOut_7 (lv_at hl 4 rfl) ?_
  obtain ⟨z_1, hz, h0⟩ := bd_ok h0
  refine wr_V (As := [.int p1, .int p2, .int p3, .int p4]) (rest := []) (wc := [(h_swapped, .inr (5, [.ref h_swapped_cells, .int h_swapped_size])), (h_swapped_cells, .inl (cI, 64, .inl h_swapped_cells_f))]) (wr := [(h, .inr (3, [.ref h_swapped, .int h_lesserRow, .int h_greaterRow, .int h_lesserColumn, .int h_greaterColumn, .int h_mostTriples]))]) hcf (kX6_swapSquare l D cI cC cT h_swapped h_swapped_cells h_swapped_cells_f h_swapped_size p1 p2 p3 p4 _ z_1 hz) (cwV 4 hts gX4_tryOut_X6_swapSquare rfl rfl rfl (by decide +kernel) ⟨Nat.le_of_ble_eq_true rfl, Nat.le_of_ble_eq_true rfl⟩) hE hP hD hS hA [1, 2] [0] (hP.sub [1, 2] rfl) (hD.sub [1, 2] (by decide) rfl) (va_recv hK hP (ci := 5) (q0 := 1) rfl rfl) rfl rfl (by decide) (by decide) rfl hl.1 rfl (Nat.le_of_ble_eq_true rfl) dX4_tryOut_9 ⟨Nat.le_of_ble_eq_true rfl, Nat.le_of_ble_eq_true rfl⟩ (fun u H locs hP hD hS => ?_)
  have hP : va_P D vwCl [(h, .inr (3, [.ref h_swapped, .int h_lesserRow, .int h_greaterRow, .int h_lesserColumn, .int h_greaterColumn, .int h_mostTriples])), (h_swapped, .inr (5, [.ref h_swapped_cells, .int h_swapped_size])), (h_swapped_cells, .inl (cI, 64, .inl z_1))] H := hP
  have hD : va_D A [(h, .inr (3, [.ref h_swapped, .int h_lesserRow, .int h_greaterRow, .int h_lesserColumn, .int h_greaterColumn, .int h_mostTriples])), (h_swapped, .inr (5, [.ref h_swapped_cells, .int h_swapped_size])), (h_swapped_cells, .inl (cI, 64, .inl z_1))] := hD
  refine W.eq (g2 := F0 m 12 ls []) rfl ?_
  refine lv_aload_n hx hb dX4_tryOut_12 rfl (lv_at hl 0 rfl) ?_
  refine va_get (D := D) (ci := 3) (v := .ref h_swapped) (C := RX4) (T := TX4) (N := 6) hx hb hts hi_X4 hown hK hP 0 rfl rfl 0 (by decide) hf_12 (fun _ h9 => h9) rfl dX4_tryOut_13 ?_
  obtain ⟨z_2, hz, h0⟩ := bd_ok h0
  refine ro_S (As := [.ref h_swapped]) (rest := []) (wc := [(h_swapped, .inr (5, [.ref h_swapped_cells, .int h_swapped_size])), (h_swapped_cells, .inl (cI, 64, .inl z_1))]) hcf (kX8_associatingTriples l D cI cC cT h_swapped h_swapped_cells z_1 h_swapped_size z_2 hz) (va_cwS 1 hts gX4_tryOut_X8_associatingTriples rfl rfl rfl (by decide +kernel) ⟨Nat.le_of_ble_eq_true rfl, Nat.le_of_ble_eq_true rfl⟩) hE (hP.sub [1, 2] rfl) rfl hl.1 rfl (Nat.le_of_ble_eq_true rfl) dX4_tryOut_16 ⟨Nat.le_of_ble_eq_true rfl, Nat.le_of_ble_eq_true rfl⟩ ?_
  refine W.eq (g2 := F0 m 19 ls [.int z_2]) rfl ?_
  refine lv_istore (lv' := [(5, .int z_2), (0, .ref h), (1, .int p1), (2, .int p2), (3, .int p3), (4, .int p4)]) hx hb dX4_tryOut_19 hl (by decide) rfl (fun ls hl => ?_)
  refine lv_aload_n hx hb dX4_tryOut_21 rfl (lv_at hl 1 rfl) ?_
  refine va_get (D := D) (ci := 3) (v := .ref h_swapped) (C := RX4) (T := TX4) (N := 6) hx hb hts hi_X4 hown hK hP 0 rfl rfl 0 (by decide) hf_12 (fun _ h9 => h9) rfl dX4_tryOut_22 ?_
  refine lv_iload_n hx hb dX4_tryOut_25 rfl (lv_at hl 2 rfl) ?_
  refine lv_iload_n hx hb dX4_tryOut_26 rfl (lv_at hl 3 rfl) ?_
  refine lv_iload_n hx hb dX4_tryOut_27 rfl (lv_at hl 4 rfl) ?_
  refine lv_iload hx hb dX4_tryOut_28 (lv_at hl 5 rfl) ?_
  obtain ⟨z_3, hz, h0⟩ := bd_ok h0
  refine wr_V (As := [.int p1, .int p2, .int p3, .int p4]) (rest := []) (wc := [(h_swapped, .inr (5, [.ref h_swapped_cells, .int h_swapped_size])), (h_swapped_cells, .inl (cI, 64, .inl z_1))]) (wr := [(h, .inr (3, [.ref h_swapped, .int h_lesserRow, .int h_greaterRow, .int h_lesserColumn, .int h_greaterColumn, .int h_mostTriples]))]) hcf (kX6_swapSquare l D cI cC cT h_swapped h_swapped_cells z_1 h_swapped_size p1 p2 p3 p4 _ z_3 hz) (cwV 4 hts gX4_tryOut_X6_swapSquare rfl rfl rfl (by decide +kernel) ⟨Nat.le_of_ble_eq_true rfl, Nat.le_of_ble_eq_true rfl⟩) hE hP hD hS hA [1, 2] [0] (hP.sub [1, 2] rfl) (hD.sub [1, 2] (by decide) rfl) (va_recv hK hP (ci := 5) (q0 := 1) rfl rfl) rfl rfl (by decide) (by decide) rfl hl.1 rfl (Nat.le_of_ble_eq_true rfl) dX4_tryOut_30 ⟨Nat.le_of_ble_eq_true rfl, Nat.le_of_ble_eq_true rfl⟩ (fun u H locs hP hD hS => ?_)
  have hP : va_P D vwCl [(h, .inr (3, [.ref h_swapped, .int h_lesserRow, .int h_greaterRow, .int h_lesserColumn, .int h_greaterColumn, .int h_mostTriples])), (h_swapped, .inr (5, [.ref h_swapped_cells, .int h_swapped_size])), (h_swapped_cells, .inl (cI, 64, .inl z_3))] H := hP
  have hD : va_D A [(h, .inr (3, [.ref h_swapped, .int h_lesserRow, .int h_greaterRow, .int h_lesserColumn, .int h_greaterColumn, .int h_mostTriples])), (h_swapped, .inr (5, [.ref h_swapped_cells, .int h_swapped_size])), (h_swapped_cells, .inl (cI, 64, .inl z_3))] := hD
  refine W.eq (g2 := F0 m 33 ls []) rfl ?_
  refine lv_iload hx hb dX4_tryOut_33 (lv_at hl 0 rfl) ?_
  refine lv_aload_n hx hb dX4_tryOut_35 rfl (lv_at hl 1 rfl) ?_
  refine va_get (D := D) (ci := 3) (v := .int h_mostTriples) (C := RX4) (T := TX4) (N := 6) hx hb hts hi_X4 hown hK hP 0 rfl rfl 5 (by decide) hf_30 (fun _ h9 => h9) rfl dX4_tryOut_36 ?_
  refine lv_icmp_le (tgt := 69) hx hb dX4_tryOut_39 (by decide) (fun c9 => ?_) (fun c9 => ?_)
  · have h0 := it_t c9 h0
    have e0 := Option.some.inj h0
    subst e0
    exact W.vret hx hb hr (fun t ht hW => wr_end () ht hP hD hS) hS.2.2 dX4_tryOut_69
  · have h0 := it_f c9 h0
    refine lv_aload_n hx hb dX4_tryOut_42 rfl (lv_at hl 1 rfl) ?_
    refine lv_iload hx hb dX4_tryOut_43 (lv_at hl 0 rfl) ?_
    refine va_put (D := D) (ci := 3) (v := .int z_2) (ty := .int) (C := RX4) (T := TX4) (N := 6) hx hb hts hi_X4 tyX4 tyX4_ok nmX4 hown hK hP hD hS 0 rfl rfl 5 (by decide) hf_30 (fun _ h9 => h9) rfl (by decide +kernel) rfl rfl (Nat.le_of_ble_eq_true rfl) dX4_tryOut_45 (fun H locs hP hD hS => ?_)
    have hP : va_P D vwCl [(h, .inr (3, [.ref h_swapped, .int h_lesserRow, .int h_greaterRow, .int h_lesserColumn, .int h_greaterColumn, .int z_2])), (h_swapped, .inr (5, [.ref h_swapped_cells, .int h_swapped_size])), (h_swapped_cells, .inl (cI, 64, .inl z_3))] H := hP
    have hD : va_D A [(h, .inr (3, [.ref h_swapped, .int h_lesserRow, .int h_greaterRow, .int h_lesserColumn, .int h_greaterColumn, .int z_2])), (h_swapped, .inr (5, [.ref h_swapped_cells, .int h_swapped_size])), (h_swapped_cells, .inl (cI, 64, .inl z_3))] := hD
    refine lv_aload_n hx hb dX4_tryOut_48 rfl (lv_at hl 1 rfl) ?_
    refine lv_iload_n hx hb dX4_tryOut_49 rfl (lv_at hl 2 rfl) ?_
    refine va_put (D := D) (ci := 3) (v := .int p1) (ty := .int) (C := RX4) (T := TX4) (N := 6) hx hb hts hi_X4 tyX4 tyX4_ok nmX4 hown hK hP hD hS 0 rfl rfl 1 (by decide) hf_55 (fun _ h9 => h9) rfl (by decide +kernel) rfl rfl (Nat.le_of_ble_eq_true rfl) dX4_tryOut_50 (fun H locs hP hD hS => ?_)
    have hP : va_P D vwCl [(h, .inr (3, [.ref h_swapped, .int p1, .int h_greaterRow, .int h_lesserColumn, .int h_greaterColumn, .int z_2])), (h_swapped, .inr (5, [.ref h_swapped_cells, .int h_swapped_size])), (h_swapped_cells, .inl (cI, 64, .inl z_3))] H := hP
    have hD : va_D A [(h, .inr (3, [.ref h_swapped, .int p1, .int h_greaterRow, .int h_lesserColumn, .int h_greaterColumn, .int z_2])), (h_swapped, .inr (5, [.ref h_swapped_cells, .int h_swapped_size])), (h_swapped_cells, .inl (cI, 64, .inl z_3))] := hD
    refine lv_aload_n hx hb dX4_tryOut_53 rfl (lv_at hl 1 rfl) ?_
    refine lv_iload_n hx hb dX4_tryOut_54 rfl (lv_at hl 3 rfl) ?_
    refine va_put (D := D) (ci := 3) (v := .int p2) (ty := .int) (C := RX4) (T := TX4) (N := 6) hx hb hts hi_X4 tyX4 tyX4_ok nmX4 hown hK hP hD hS 0 rfl rfl 2 (by decide) hf_58 (fun _ h9 => h9) rfl (by decide +kernel) rfl rfl (Nat.le_of_ble_eq_true rfl) dX4_tryOut_55 (fun H locs hP hD hS => ?_)
    have hP : va_P D vwCl [(h, .inr (3, [.ref h_swapped, .int p1, .int p2, .int h_lesserColumn, .int h_greaterColumn, .int z_2])), (h_swapped, .inr (5, [.ref h_swapped_cells, .int h_swapped_size])), (h_swapped_cells, .inl (cI, 64, .inl z_3))] H := hP
    have hD : va_D A [(h, .inr (3, [.ref h_swapped, .int p1, .int p2, .int h_lesserColumn, .int h_greaterColumn, .int z_2])), (h_swapped, .inr (5, [.ref h_swapped_cells, .int h_swapped_size])), (h_swapped_cells, .inl (cI, 64, .inl z_3))] := hD
    refine lv_aload_n hx hb dX4_tryOut_58 rfl (lv_at hl 1 rfl) ?_
    refine lv_iload_n hx hb dX4_tryOut_59 rfl (lv_at hl 4 rfl) ?_
    refine va_put (D := D) (ci := 3) (v := .int p3) (ty := .int) (C := RX4) (T := TX4) (N := 6) hx hb hts hi_X4 tyX4 tyX4_ok nmX4 hown hK hP hD hS 0 rfl rfl 3 (by decide) hf_61 (fun _ h9 => h9) rfl (by decide +kernel) rfl rfl (Nat.le_of_ble_eq_true rfl) dX4_tryOut_60 (fun H locs hP hD hS => ?_)
    have hP : va_P D vwCl [(h, .inr (3, [.ref h_swapped, .int p1, .int p2, .int p3, .int h_greaterColumn, .int z_2])), (h_swapped, .inr (5, [.ref h_swapped_cells, .int h_swapped_size])), (h_swapped_cells, .inl (cI, 64, .inl z_3))] H := hP
    have hD : va_D A [(h, .inr (3, [.ref h_swapped, .int p1, .int p2, .int p3, .int h_greaterColumn, .int z_2])), (h_swapped, .inr (5, [.ref h_swapped_cells, .int h_swapped_size])), (h_swapped_cells, .inl (cI, 64, .inl z_3))] := hD
    refine lv_aload_n hx hb dX4_tryOut_63 rfl (lv_at hl 1 rfl) ?_
    refine lv_iload hx hb dX4_tryOut_64 (lv_at hl 5 rfl) ?_
    refine va_put (D := D) (ci := 3) (v := .int p4) (ty := .int) (C := RX4) (T := TX4) (N := 6) hx hb hts hi_X4 tyX4 tyX4_ok nmX4 hown hK hP hD hS 0 rfl rfl 4 (by decide) hf_64 (fun _ h9 => h9) rfl (by decide +kernel) rfl rfl (Nat.le_of_ble_eq_true rfl) dX4_tryOut_66 (fun H locs hP hD hS => ?_)
    have hP : va_P D vwCl [(h, .inr (3, [.ref h_swapped, .int p1, .int p2, .int p3, .int p4, .int z_2])), (h_swapped, .inr (5, [.ref h_swapped_cells, .int h_swapped_size])), (h_swapped_cells, .inl (cI, 64, .inl z_3))] H := hP
    have hD : va_D A [(h, .inr (3, [.ref h_swapped, .int p1, .int p2, .int p3, .int p4, .int z_2])), (h_swapped, .inr (5, [.ref h_swapped_cells, .int h_swapped_size])), (h_swapped_cells, .inl (cI, 64, .inl z_3))] := hD
    have e0 := Option.some.inj h0
    subst e0
    exact W.vret hx hb hr (fun t ht hW => wr_end () ht hP hD hS) hS.2.2 dX4_tryOut_69
noncomputable def mX4_findBestInRows_L23 (h_swapped_size : Int32) (p1 : Int32) (p2 : Int32) (z_1 : Int32) (x4_10 : Int32) (k23_61 : Int32 → Int32 → Int32 → Int32 → Int32 → Int32 → (Nat → Int32) → Option ((Nat → Int32) × Int32 × Int32 × Int32 × Int32 × Int32)) : Nat → Int32 → Int32 → Int32 → Int32 → Int32 → Int32 → (Nat → Int32) → Option ((Nat → Int32) × Int32 × Int32 × Int32 × Int32 × Int32)
  | 0, _, _, _, _, _, _, _ => none
  | F + 1, x5_25, y_26, y_27, y_28, y_29, y_30, f_31 => if z_1 ≤ x5_25 then (k23_61 x5_25 y_26 y_27 y_28 y_29 y_30 f_31) else (bd (mX6_isLittleSquare f_31 p1 p2 x4_10 x5_25) (fun z_32 => if z_32 = 0 then (mX4_findBestInRows_L23 h_swapped_size p1 p2 z_1 x4_10 k23_61 F (x5_25 + 1) y_26 y_27 y_28 y_29 y_30 f_31) else (bd (mX4_tryOut f_31 h_swapped_size y_26 y_27 y_28 y_29 y_30 p1 p2 x4_10 x5_25) (fun z_33 => mX4_findBestInRows_L23 h_swapped_size p1 p2 z_1 x4_10 k23_61 F (x5_25 + 1) z_33.2.1 z_33.2.2.1 z_33.2.2.2.1 z_33.2.2.2.2.1 z_33.2.2.2.2.2 z_33.1))))
noncomputable def mX4_findBestInRows_L11 (h_swapped_size : Int32) (p1 : Int32) (p2 : Int32) (z_1 : Int32) (k11_67 : Int32 → Int32 → Int32 → Int32 → Int32 → Int32 → (Nat → Int32) → Option ((Nat → Int32) × Int32 × Int32 × Int32 × Int32 × Int32)) : Nat → Int32 → Int32 → Int32 → Int32 → Int32 → Int32 → (Nat → Int32) → Option ((Nat → Int32) × Int32 × Int32 × Int32 × Int32 × Int32)
  | 0, _, _, _, _, _, _, _ => none
  | F + 1, x4_10, y_11, y_12, y_13, y_14, y_15, f_16 => if z_1 ≤ x4_10 then (k11_67 x4_10 y_11 y_12 y_13 y_14 y_15 f_16) else (mX4_findBestInRows_L23 h_swapped_size p1 p2 z_1 x4_10 (fun (x5_17 : Int32) (y_18 : Int32) (y_19 : Int32) (y_20 : Int32) (y_21 : Int32) (y_22 : Int32) (f_23 : Nat → Int32) => mX4_findBestInRows_L11 h_swapped_size p1 p2 z_1 k11_67 F (x4_10 + 1) y_18 y_19 y_20 y_21 y_22 f_23) FU (x4_10 + 1) y_11 y_12 y_13 y_14 y_15 f_16)
noncomputable def mX4_findBestInRows (h_swapped_cells_f : Nat → Int32) (h_swapped_size : Int32) (h_lesserRow : Int32) (h_greaterRow : Int32) (h_lesserColumn : Int32) (h_greaterColumn : Int32) (h_mostTriples : Int32) (p1 : Int32) (p2 : Int32) : Option ((Nat → Int32) × Int32 × Int32 × Int32 × Int32 × Int32) :=
  bd (mX6_size h_swapped_size) (fun z_1 => mX4_findBestInRows_L11 h_swapped_size p1 p2 z_1 (fun (x4_2 : Int32) (y_3 : Int32) (y_4 : Int32) (y_5 : Int32) (y_6 : Int32) (y_7 : Int32) (f_8 : Nat → Int32) => some (f_8, y_3, y_4, y_5, y_6, y_7)) FU 0 h_lesserRow h_greaterRow h_lesserColumn h_greaterColumn h_mostTriples h_swapped_cells_f)
set_option maxHeartbeats 8000000 in
set_option maxRecDepth 100000 in
theorem kX4_findBestInRows (l : Launch) (D : va_G) (cI cC cT : ClassId) (h h_swapped h_swapped_cells : Nat) (h_swapped_cells_f : Nat → Int32) (h_swapped_size : Int32) (h_lesserRow : Int32) (h_greaterRow : Int32) (h_lesserColumn : Int32) (h_greaterColumn : Int32) (h_mostTriples : Int32) (p1 : Int32) (p2 : Int32) (sz : Nat) (z : (Nat → Int32) × Int32 × Int32 × Int32 × Int32 × Int32) (h0 : mX4_findBestInRows h_swapped_cells_f h_swapped_size h_lesserRow h_greaterRow h_lesserColumn h_greaterColumn h_mostTriples p1 p2 = some z) : Met l yX4_findBestInRows wsX4_findBestInRows ({ frames := 5, cells := 0, slots := 0, locals := 119 } : Room) (va_Pc [.ref h, .int p1, .int p2] (wP D cI cC cT [(h, .inr (3, [.ref h_swapped, .int h_lesserRow, .int h_greaterRow, .int h_lesserColumn, .int h_greaterColumn, .int h_mostTriples])), (h_swapped, .inr (5, [.ref h_swapped_cells, .int h_swapped_size])), (h_swapped_cells, .inl (cI, 64, .inl h_swapped_cells_f))] sz)) (wQ D none (va_A [(h, .inr (3, [.ref h_swapped, .int h_lesserRow, .int h_greaterRow, .int h_lesserColumn, .int h_greaterColumn, .int h_mostTriples])), (h_swapped, .inr (5, [.ref h_swapped_cells, .int h_swapped_size])), (h_swapped_cells, .inl (cI, 64, .inl h_swapped_cells_f))] sz) (fun (u : Unit) => [(h, .inr (3, [.ref h_swapped, .int z.2.1, .int z.2.2.1, .int z.2.2.2.1, .int z.2.2.2.2.1, .int z.2.2.2.2.2])), (h_swapped, .inr (5, [.ref h_swapped_cells, .int h_swapped_size])), (h_swapped_cells, .inl (cI, 64, .inl z.1))])) 0 0 (va_A [(h, .inr (3, [.ref h_swapped, .int h_lesserRow, .int h_greaterRow, .int h_lesserColumn, .int h_greaterColumn, .int h_mostTriples])), (h_swapped, .inr (5, [.ref h_swapped_cells, .int h_swapped_size])), (h_swapped_cells, .inl (cI, 64, .inl h_swapped_cells_f))] sz) := by
  refine Met.ofW (cc := cX4_findBestInRows) (maxL := 6) (ret := none) (by decide) rfl ?_
  intro p e s m args below meth c s₁ B hml hv
  obtain ⟨rfl, hsz, hP, hE, hD0⟩ := hv
  have hx := B.exec
  have hb := B.bytes
  have hr := B.returns
  have hts := atoms_spec (ws := wsX4_findBestInRows) B.pre
  have hown : s.vm.findClass RX4 = some m.cls := findClass_of_methodNamed B.named
  have hlocks := B.notSynchronized
  have hK := hE.1
  have hcf : CallFix p m c cX4_findBestInRows 6 s ([.ref h, .int p1, .int p2] : List Value).toArray wsX4_findBestInRows RX4 := ⟨hx, hb, hml, hown, hts⟩
  subst hsz
  have hD := hD0.self (sz := s.heap.size)
  generalize hAe : va_A [(h, .inr (3, [.ref h_swapped, .int h_lesserRow, .int h_greaterRow, .int h_lesserColumn, .int h_greaterColumn, .int h_mostTriples])), (h_swapped, .inr (5, [.ref h_swapped_cells, .int h_swapped_size])), (h_swapped_cells, .inl (cI, 64, .inl h_swapped_cells_f))] s.heap.size = A at hD ⊢
  have hA : ∀ q : Nat, s.heap.size ≤ q → A q := fun q h => by rw [← hAe]; exact Or.inr h
  have hS : va_S A s.heap s.heap [] := va_S.rf
  have hP : va_P D vwCl [(h, .inr (3, [.ref h_swapped, .int h_lesserRow, .int h_greaterRow, .int h_lesserColumn, .int h_greaterColumn, .int h_mostTriples])), (h_swapped, .inr (5, [.ref h_swapped_cells, .int h_swapped_size])), (h_swapped_cells, .inl (cI, 64, .inl h_swapped_cells_f))] s.heap := hP
  have hf_12 := hts (.fieldLink RX4 12 "CrookedSums$Squares" "swapped" "LCrookedSums$Table;") (by decide +kernel)
  have hi_X4 := (show ∀ w ∈ u_ws RX4 TX4 6, w ∈ wsX4_findBestInRows from by decide +kernel)
  have hl := lv_entry ([.ref h, .int p1, .int p2]) (n := 6) (Nat.le_of_ble_eq_true rfl)
  rw [lg_entry_eq]
  generalize (lg_sl ([.ref h, .int p1, .int p2]) ++ List.replicate (6 - (lg_sl ([.ref h, .int p1, .int p2])).length) Slot.unset).toArray = ls at hl ⊢
  have hl : lv_has ls 6 [(0, .ref h), (1, .int p1), (2, .int p2)] := hl
  unfold mX4_findBestInRows at h0
  refine lv_aload_n hx hb dX4_findBestInRows_0 rfl (lv_at hl 0 rfl) ?_
  refine va_get (D := D) (ci := 3) (v := .ref h_swapped) (C := RX4) (T := TX4) (N := 6) hx hb hts hi_X4 hown hK hP 0 rfl rfl 0 (by decide) hf_12 (fun _ h9 => h9) rfl dX4_findBestInRows_1 ?_
  obtain ⟨z_1, hz, h0⟩ := bd_ok h0
  refine ro_V (As := []) (rest := []) (wc := [(h_swapped, .inr (5, [.ref h_swapped_cells, .int h_swapped_size])), (h_swapped_cells, .inl (cI, 64, .inl h_swapped_cells_f))]) hcf (kX6_size l D cI cC cT h_swapped h_swapped_cells h_swapped_cells_f h_swapped_size z_1 hz) (cwV 0 hts gX4_findBestInRows_X6_size rfl rfl rfl (by decide +kernel) ⟨Nat.le_of_ble_eq_true rfl, Nat.le_of_ble_eq_true rfl⟩) hE (hP.sub [1, 2] rfl) (va_recv hK hP (ci := 5) (q0 := 1) rfl rfl) rfl hl.1 rfl (Nat.le_of_ble_eq_true rfl) dX4_findBestInRows_4 ⟨Nat.le_of_ble_eq_true rfl, Nat.le_of_ble_eq_true rfl⟩ ?_
  refine W.eq (g2 := F0 m 7 ls [.int z_1]) rfl ?_
  refine lv_istore_n (lv' := [(3, .int z_1), (0, .ref h), (1, .int p1), (2, .int p2)]) hx hb dX4_findBestInRows_7 rfl hl (by decide) rfl (fun ls hl => ?_)
  refine lv_iconst (v := 0) hx hb dX4_findBestInRows_8 (by decide) ?_
  refine lv_istore (lv' := [(4, .int 0), (3, .int z_1), (0, .ref h), (1, .int p1), (2, .int p2)]) hx hb dX4_findBestInRows_9 hl (by decide) rfl (fun ls hl => ?_)
  have E_11_67_8 : ∀ (x4_2 : Int32) (y_3 : Int32) (y_4 : Int32) (y_5 : Int32) (y_6 : Int32) (y_7 : Int32) (f_8 : Nat → Int32) (H : Heap) (locs : List Loc) (ls : Array Slot), (some (f_8, y_3, y_4, y_5, y_6, y_7)) = some z → va_P D vwCl [(h, .inr (3, [.ref h_swapped, .int y_3, .int y_4, .int y_5, .int y_6, .int y_7])), (h_swapped, .inr (5, [.ref h_swapped_cells, .int h_swapped_size])), (h_swapped_cells, .inl (cI, 64, .inl f_8))] H → va_D A [(h, .inr (3, [.ref h_swapped, .int y_3, .int y_4, .int y_5, .int y_6, .int y_7])), (h_swapped, .inr (5, [.ref h_swapped_cells, .int h_swapped_size])), (h_swapped_cells, .inl (cI, 64, .inl f_8))] → va_S A s.heap H locs → lv_has ls 6 [(4, .int x4_2), (3, .int z_1), (0, .ref h), (1, .int p1), (2, .int p2)] → W p l e (headSpec wsX4_findBestInRows ({ frames := 5, cells := 0, slots := 0, locals := 119 } : Room)).room s m (([.ref h, .int p1, .int p2] : List Value).toArray) below meth c H locs 0 0 (MQ below (wQ D none A (fun (u : Unit) => [(h, .inr (3, [.ref h_swapped, .int z.2.1, .int z.2.2.1, .int z.2.2.2.1, .int z.2.2.2.2.1, .int z.2.2.2.2.2])), (h_swapped, .inr (5, [.ref h_swapped_cells, .int h_swapped_size])), (h_swapped_cells, .inl (cI, 64, .inl z.1))])) (([.ref h, .int p1, .int p2] : List Value).toArray) s 0 0 A) (F0 m 67 ls []) := by
    intro x4_2 y_3 y_4 y_5 y_6 y_7 f_8 H locs ls h0 hP hD hS hl
    have e0 := Option.some.inj h0
    subst e0
    exact W.vret hx hb hr (fun t ht hW => wr_end () ht hP hD hS) hS.2.2 dX4_findBestInRows_67
  have L_11_34 : ∀ (F11 : Nat) (x4_10 : Int32) (y_11 : Int32) (y_12 : Int32) (y_13 : Int32) (y_14 : Int32) (y_15 : Int32) (f_16 : Nat → Int32) (H : Heap) (locs : List Loc) (ls : Array Slot), mX4_findBestInRows_L11 h_swapped_size p1 p2 z_1 (fun (x4_2 : Int32) (y_3 : Int32) (y_4 : Int32) (y_5 : Int32) (y_6 : Int32) (y_7 : Int32) (f_8 : Nat → Int32) => some (f_8, y_3, y_4, y_5, y_6, y_7)) F11 x4_10 y_11 y_12 y_13 y_14 y_15 f_16 = some z → va_P D vwCl [(h, .inr (3, [.ref h_swapped, .int y_11, .int y_12, .int y_13, .int y_14, .int y_15])), (h_swapped, .inr (5, [.ref h_swapped_cells, .int h_swapped_size])), (h_swapped_cells, .inl (cI, 64, .inl f_16))] H → va_D A [(h, .inr (3, [.ref h_swapped, .int y_11, .int y_12, .int y_13, .int y_14, .int y_15])), (h_swapped, .inr (5, [.ref h_swapped_cells, .int h_swapped_size])), (h_swapped_cells, .inl (cI, 64, .inl f_16))] → va_S A s.heap H locs → lv_has ls 6 [(4, .int x4_10), (3, .int z_1), (0, .ref h), (1, .int p1), (2, .int p2)] → W p l e (headSpec wsX4_findBestInRows ({ frames := 5, cells := 0, slots := 0, locals := 119 } : Room)).room s m (([.ref h, .int p1, .int p2] : List Value).toArray) below meth c H locs 0 0 (MQ below (wQ D none A (fun (u : Unit) => [(h, .inr (3, [.ref h_swapped, .int z.2.1, .int z.2.2.1, .int z.2.2.2.1, .int z.2.2.2.2.1, .int z.2.2.2.2.2])), (h_swapped, .inr (5, [.ref h_swapped_cells, .int h_swapped_size])), (h_swapped_cells, .inl (cI, 64, .inl z.1))])) (([.ref h, .int p1, .int p2] : List Value).toArray) s 0 0 A) (F0 m 11 ls []) := by
    intro F11
    induction F11 with
    | zero => intro x4_10 y_11 y_12 y_13 y_14 y_15 f_16 H locs ls h0 hP hD hS hl; cases h0
    | succ F11 ih11 =>
      intro x4_10 y_11 y_12 y_13 y_14 y_15 f_16 H locs ls h0 hP hD hS hl
      rw [mX4_findBestInRows_L11] at h0
      refine lv_iload hx hb dX4_findBestInRows_11 (lv_at hl 0 rfl) ?_
      refine lv_iload_n hx hb dX4_findBestInRows_13 rfl (lv_at hl 1 rfl) ?_
      refine lv_icmp_ge (tgt := 67) hx hb dX4_findBestInRows_14 (by decide) (fun c9 => ?_) (fun c9 => ?_)
      · have h0 := it_t c9 h0
        exact E_11_67_8 x4_10 y_11 y_12 y_13 y_14 y_15 f_16 _ _ ls h0 hP hD hS hl
      · have h0 := it_f c9 h0
        refine lv_iload hx hb dX4_findBestInRows_17 (lv_at hl 0 rfl) ?_
        refine lv_iconst (v := 1) hx hb dX4_findBestInRows_19 (by decide) ?_
        refine lv_iadd hx hb dX4_findBestInRows_20 ?_
        refine lv_istore (lv' := [(5, .int (x4_10 + 1)), (4, .int x4_10), (3, .int z_1), (0, .ref h), (1, .int p1), (2, .int p2)]) hx hb dX4_findBestInRows_21 hl (by decide) rfl (fun ls hl => ?_)
        have E_23_61_23 : ∀ (x5_17 : Int32) (y_18 : Int32) (y_19 : Int32) (y_20 : Int32) (y_21 : Int32) (y_22 : Int32) (f_23 : Nat → Int32) (H : Heap) (locs : List Loc) (ls : Array Slot), (mX4_findBestInRows_L11 h_swapped_size p1 p2 z_1 (fun (x4_2 : Int32) (y_3 : Int32) (y_4 : Int32) (y_5 : Int32) (y_6 : Int32) (y_7 : Int32) (f_8 : Nat → Int32) => some (f_8, y_3, y_4, y_5, y_6, y_7)) F11 (x4_10 + 1) y_18 y_19 y_20 y_21 y_22 f_23) = some z → va_P D vwCl [(h, .inr (3, [.ref h_swapped, .int y_18, .int y_19, .int y_20, .int y_21, .int y_22])), (h_swapped, .inr (5, [.ref h_swapped_cells, .int h_swapped_size])), (h_swapped_cells, .inl (cI, 64, .inl f_23))] H → va_D A [(h, .inr (3, [.ref h_swapped, .int y_18, .int y_19, .int y_20, .int y_21, .int y_22])), (h_swapped, .inr (5, [.ref h_swapped_cells, .int h_swapped_size])), (h_swapped_cells, .inl (cI, 64, .inl f_23))] → va_S A s.heap H locs → lv_has ls 6 [(5, .int x5_17), (4, .int x4_10), (3, .int z_1), (0, .ref h), (1, .int p1), (2, .int p2)] → W p l e (headSpec wsX4_findBestInRows ({ frames := 5, cells := 0, slots := 0, locals := 119 } : Room)).room s m (([.ref h, .int p1, .int p2] : List Value).toArray) below meth c H locs 0 0 (MQ below (wQ D none A (fun (u : Unit) => [(h, .inr (3, [.ref h_swapped, .int z.2.1, .int z.2.2.1, .int z.2.2.2.1, .int z.2.2.2.2.1, .int z.2.2.2.2.2])), (h_swapped, .inr (5, [.ref h_swapped_cells, .int h_swapped_size])), (h_swapped_cells, .inl (cI, 64, .inl z.1))])) (([.ref h, .int p1, .int p2] : List Value).toArray) s 0 0 A) (F0 m 61 ls []) := by
          intro x5_17 y_18 y_19 y_20 y_21 y_22 f_23 H locs ls h0 hP hD hS hl
          refine lv_iinc (v := (x4_10 + 1)) (lv' := [(4, .int (x4_10 + 1)), (5, .int x5_17), (3, .int z_1), (0, .ref h), (1, .int p1), (2, .int p2)]) hx hb dX4_findBestInRows_61 hl (k := 1) rfl rfl (by decide) rfl (fun ls hl => ?_)
          refine lv_goto (tgt := 11) hx hb dX4_findBestInRows_64 (by decide) ?_
          exact ih11 (x4_10 + 1) y_18 y_19 y_20 y_21 y_22 f_23 _ _ ls h0 hP hD hS (lv_sub hl [0, 2, 3, 4, 5] rfl)
        have L_23_33 : ∀ (F23 : Nat) (x5_25 : Int32) (y_26 : Int32) (y_27 : Int32) (y_28 : Int32) (y_29 : Int32) (y_30 : Int32) (f_31 : Nat → Int32) (H : Heap) (locs : List Loc) (ls : Array Slot), mX4_findBestInRows_L23 h_swapped_size p1 p2 z_1 x4_10 (fun (x5_17 : Int32) (y_18 : Int32) (y_19 : Int32) (y_20 : Int32) (y_21 : Int32) (y_22 : Int32) (f_23 : Nat → Int32) => mX4_findBestInRows_L11 h_swapped_size p1 p2 z_1 (fun (x4_2 : Int32) (y_3 : Int32) (y_4 : Int32) (y_5 : Int32) (y_6 : Int32) (y_7 : Int32) (f_8 : Nat → Int32) => some (f_8, y_3, y_4, y_5, y_6, y_7)) F11 (x4_10 + 1) y_18 y_19 y_20 y_21 y_22 f_23) F23 x5_25 y_26 y_27 y_28 y_29 y_30 f_31 = some z → va_P D vwCl [(h, .inr (3, [.ref h_swapped, .int y_26, .int y_27, .int y_28, .int y_29, .int y_30])), (h_swapped, .inr (5, [.ref h_swapped_cells, .int h_swapped_size])), (h_swapped_cells, .inl (cI, 64, .inl f_31))] H → va_D A [(h, .inr (3, [.ref h_swapped, .int y_26, .int y_27, .int y_28, .int y_29, .int y_30])), (h_swapped, .inr (5, [.ref h_swapped_cells, .int h_swapped_size])), (h_swapped_cells, .inl (cI, 64, .inl f_31))] → va_S A s.heap H locs → lv_has ls 6 [(5, .int x5_25), (4, .int x4_10), (3, .int z_1), (0, .ref h), (1, .int p1), (2, .int p2)] → W p l e (headSpec wsX4_findBestInRows ({ frames := 5, cells := 0, slots := 0, locals := 119 } : Room)).room s m (([.ref h, .int p1, .int p2] : List Value).toArray) below meth c H locs 0 0 (MQ below (wQ D none A (fun (u : Unit) => [(h, .inr (3, [.ref h_swapped, .int z.2.1, .int z.2.2.1, .int z.2.2.2.1, .int z.2.2.2.2.1, .int z.2.2.2.2.2])), (h_swapped, .inr (5, [.ref h_swapped_cells, .int h_swapped_size])), (h_swapped_cells, .inl (cI, 64, .inl z.1))])) (([.ref h, .int p1, .int p2] : List Value).toArray) s 0 0 A) (F0 m 23 ls []) := by
          intro F23
          induction F23 with
          | zero => intro x5_25 y_26 y_27 y_28 y_29 y_30 f_31 H locs ls h0 hP hD hS hl; cases h0
          | succ F23 ih23 =>
            intro x5_25 y_26 y_27 y_28 y_29 y_30 f_31 H locs ls h0 hP hD hS hl
            rw [mX4_findBestInRows_L23] at h0
            refine lv_iload hx hb dX4_findBestInRows_23 (lv_at hl 0 rfl) ?_
            refine lv_iload_n hx hb dX4_findBestInRows_25 rfl (lv_at hl 2 rfl) ?_
            refine lv_icmp_ge (tgt := 61) hx hb dX4_findBestInRows_26 (by decide) (fun c9 => ?_) (fun c9 => ?_)
            · have h0 := it_t c9 h0
              exact E_23_61_23 x5_25 y_26 y_27 y_28 y_29 y_30 f_31 _ _ ls h0 hP hD hS hl
            · have h0 := it_f c9 h0
              refine lv_aload_n hx hb dX4_findBestInRows_29 rfl (lv_at hl 3 rfl) ?_
              refine va_get (D := D) (ci := 3) (v := .ref h_swapped) (C := RX4) (T := TX4) (N := 6) hx hb hts hi_X4 hown hK hP 0 rfl rfl 0 (by decide) hf_12 (fun _ h9 => h9) rfl dX4_findBestInRows_30 ?_
              refine lv_iload_n hx hb dX4_findBestInRows_33 rfl (lv_at hl 4 rfl) ?_
              refine lv_iload_n hx hb dX4_findBestInRows_34 rfl (lv_at hl 5 rfl) ?_
              refine lv_iload hx hb dX4_findBestInRows_35 (lv_at hl 1 rfl) ?_
              refine lv_iload hx hb dX4_findBestInRows_37 (lv_at hl 0 rfl) ?_
              obtain ⟨z_32, hz, h0⟩ := bd_ok h0
              refine ro_V (As := [.int p1, .int p2, .int x4_10, .int x5_25]) (rest := []) (wc := [(h_swapped, .inr (5, [.ref h_swapped_cells, .int h_swapped_size])), (h_swapped_cells, .inl (cI, 64, .inl f_31))]) hcf (kX6_isLittleSquare l D cI cC cT h_swapped h_swapped_cells f_31 h_swapped_size p1 p2 x4_10 x5_25 z_32 hz) (cwV 4 hts gX4_findBestInRows_X6_isLittleSquare rfl rfl rfl (by decide +kernel) ⟨Nat.le_of_ble_eq_true rfl, Nat.le_of_ble_eq_true rfl⟩) hE (hP.sub [1, 2] rfl) (va_recv hK hP (ci := 5) (q0 := 1) rfl rfl) rfl hl.1 rfl (Nat.le_of_ble_eq_true rfl) dX4_findBestInRows_39 ⟨Nat.le_of_ble_eq_true rfl, Nat.le_of_ble_eq_true rfl⟩ ?_
              refine W.eq (g2 := F0 m 42 ls [.int z_32]) rfl ?_
              refine lv_if_eq (tgt := 55) hx hb dX4_findBestInRows_42 (by decide) (fun c9 => ?_) (fun c9 => ?_)
              · have h0 := it_t c9 h0
                refine lv_iinc (v := (x5_25 + 1)) (lv' := [(5, .int (x5_25 + 1)), (4, .int x4_10), (3, .int z_1), (0, .ref h), (1, .int p1), (2, .int p2)]) hx hb dX4_findBestInRows_55 hl (k := 0) rfl rfl (by decide) rfl (fun ls hl => ?_)
                refine lv_goto (tgt := 23) hx hb dX4_findBestInRows_58 (by decide) ?_
                exact ih23 (x5_25 + 1) y_26 y_27 y_28 y_29 y_30 f_31 _ _ ls h0 hP hD hS hl
              · have h0 := it_f c9 h0
                refine lv_aload_n hx hb dX4_findBestInRows_45 rfl (lv_at hl 3 rfl) ?_
                refine lv_iload_n hx hb dX4_findBestInRows_46 rfl (lv_at hl 4 rfl) ?_
                refine lv_iload_n hx hb dX4_findBestInRows_47 rfl (lv_at hl 5 rfl) ?_
                refine lv_iload hx hb dX4_findBestInRows_48 (lv_at hl 1 rfl) ?_
                refine lv_iload hx hb dX4_findBestInRows_50 (lv_at hl 0 rfl) ?_
                obtain ⟨z_33, hz, h0⟩ := bd_ok h0
                refine wr_V (As := [.int p1, .int p2, .int x4_10, .int x5_25]) (rest := []) (wc := [(h, .inr (3, [.ref h_swapped, .int y_26, .int y_27, .int y_28, .int y_29, .int y_30])), (h_swapped, .inr (5, [.ref h_swapped_cells, .int h_swapped_size])), (h_swapped_cells, .inl (cI, 64, .inl f_31))]) (wr := []) hcf (kX4_tryOut l D cI cC cT h h_swapped h_swapped_cells f_31 h_swapped_size y_26 y_27 y_28 y_29 y_30 p1 p2 x4_10 x5_25 _ z_33 hz) (cwV 4 hts gX4_findBestInRows_X4_tryOut rfl rfl rfl (by decide +kernel) ⟨Nat.le_of_ble_eq_true rfl, Nat.le_of_ble_eq_true rfl⟩) hE hP hD hS hA [0, 1, 2] [] (hP.sub [0, 1, 2] rfl) (hD.sub [0, 1, 2] (by decide) rfl) (va_recv hK hP (ci := 3) (q0 := 0) rfl rfl) rfl rfl (by decide) (by decide) rfl hl.1 rfl (Nat.le_of_ble_eq_true rfl) dX4_findBestInRows_52 ⟨Nat.le_of_ble_eq_true rfl, Nat.le_of_ble_eq_true rfl⟩ (fun u H locs hP hD hS => ?_)
                have hP : va_P D vwCl [(h, .inr (3, [.ref h_swapped, .int z_33.2.1, .int z_33.2.2.1, .int z_33.2.2.2.1, .int z_33.2.2.2.2.1, .int z_33.2.2.2.2.2])), (h_swapped, .inr (5, [.ref h_swapped_cells, .int h_swapped_size])), (h_swapped_cells, .inl (cI, 64, .inl z_33.1))] H := hP
                have hD : va_D A [(h, .inr (3, [.ref h_swapped, .int z_33.2.1, .int z_33.2.2.1, .int z_33.2.2.2.1, .int z_33.2.2.2.2.1, .int z_33.2.2.2.2.2])), (h_swapped, .inr (5, [.ref h_swapped_cells, .int h_swapped_size])), (h_swapped_cells, .inl (cI, 64, .inl z_33.1))] := hD
                refine W.eq (g2 := F0 m 55 ls []) rfl ?_
                refine lv_iinc (v := (x5_25 + 1)) (lv' := [(5, .int (x5_25 + 1)), (4, .int x4_10), (3, .int z_1), (0, .ref h), (1, .int p1), (2, .int p2)]) hx hb dX4_findBestInRows_55 hl (k := 0) rfl rfl (by decide) rfl (fun ls hl => ?_)
                refine lv_goto (tgt := 23) hx hb dX4_findBestInRows_58 (by decide) ?_
                exact ih23 (x5_25 + 1) z_33.2.1 z_33.2.2.1 z_33.2.2.2.1 z_33.2.2.2.2.1 z_33.2.2.2.2.2 z_33.1 _ _ ls h0 hP hD hS hl
        exact L_23_33 FU (x4_10 + 1) y_11 y_12 y_13 y_14 y_15 f_16 _ _ ls h0 hP hD hS hl
  exact L_11_34 FU 0 h_lesserRow h_greaterRow h_lesserColumn h_greaterColumn h_mostTriples h_swapped_cells_f _ _ ls h0 hP hD hS hl
noncomputable def mX4_findBest_L31 (z_1 : Int32) (z_2 : (Nat → Int32) × Int32) (x3_11 : Int32) (k31_50 : Int32 → Int32 → Int32 → Int32 → Int32 → Int32 → (Nat → Int32) → Option (Int32 × (Nat → Int32) × Int32 × Int32 × Int32 × Int32 × Int32 × Int32)) : Nat → Int32 → Int32 → Int32 → Int32 → Int32 → Int32 → (Nat → Int32) → Option (Int32 × (Nat → Int32) × Int32 × Int32 × Int32 × Int32 × Int32 × Int32)
  | 0, _, _, _, _, _, _, _ => none
  | F + 1, x4_26, y_27, y_28, y_29, y_30, y_31, f_32 => if z_1 ≤ x4_26 then (k31_50 x4_26 y_27 y_28 y_29 y_30 y_31 f_32) else (bd (mX4_findBestInRows f_32 z_2.2 y_27 y_28 y_29 y_30 y_31 x3_11 x4_26) (fun z_33 => mX4_findBest_L31 z_1 z_2 x3_11 k31_50 F (x4_26 + 1) z_33.2.1 z_33.2.2.1 z_33.2.2.2.1 z_33.2.2.2.2.1 z_33.2.2.2.2.2 z_33.1))
noncomputable def mX4_findBest_L21 (z_1 : Int32) (z_2 : (Nat → Int32) × Int32) (k21_56 : Int32 → Int32 → Int32 → Int32 → Int32 → Int32 → (Nat → Int32) → Option (Int32 × (Nat → Int32) × Int32 × Int32 × Int32 × Int32 × Int32 × Int32)) : Nat → Int32 → Int32 → Int32 → Int32 → Int32 → Int32 → (Nat → Int32) → Option (Int32 × (Nat → Int32) × Int32 × Int32 × Int32 × Int32 × Int32 × Int32)
  | 0, _, _, _, _, _, _, _ => none
  | F + 1, x3_11, y_12, y_13, y_14, y_15, y_16, f_17 => if z_1 ≤ x3_11 then (k21_56 x3_11 y_12 y_13 y_14 y_15 y_16 f_17) else (mX4_findBest_L31 z_1 z_2 x3_11 (fun (x4_18 : Int32) (y_19 : Int32) (y_20 : Int32) (y_21 : Int32) (y_22 : Int32) (y_23 : Int32) (f_24 : Nat → Int32) => mX4_findBest_L21 z_1 z_2 k21_56 F (x3_11 + 1) y_19 y_20 y_21 y_22 y_23 f_24) FU (x3_11 + 1) y_12 y_13 y_14 y_15 y_16 f_17)
noncomputable def mX4_findBest (h_swapped_cells_f : Nat → Int32) (h_lesserRow : Int32) (h_greaterRow : Int32) (h_lesserColumn : Int32) (h_greaterColumn : Int32) (p1_cells_f : Nat → Int32) (p1_size : Int32) : Option (Int32 × (Nat → Int32) × Int32 × Int32 × Int32 × Int32 × Int32 × Int32) :=
  bd (mX6_size p1_size) (fun z_1 => bd (mX6_copyFrom h_swapped_cells_f p1_cells_f p1_size) (fun z_2 => mX4_findBest_L21 z_1 z_2 (fun (x3_3 : Int32) (y_4 : Int32) (y_5 : Int32) (y_6 : Int32) (y_7 : Int32) (y_8 : Int32) (f_9 : Nat → Int32) => if y_8 = (-4) then (some (0, f_9, z_2.2, y_4, y_5, y_6, y_7, y_8)) else (some (1, f_9, z_2.2, y_4, y_5, y_6, y_7, y_8))) FU 0 h_lesserRow h_greaterRow h_lesserColumn h_greaterColumn (-4) z_2.1))
set_option maxHeartbeats 8000000 in
set_option maxRecDepth 100000 in
theorem kX4_findBest (l : Launch) (D : va_G) (cI cC cT : ClassId) (h h_swapped h_swapped_cells p1 p1_cells : Nat) (h_swapped_cells_f : Nat → Int32) (h_swapped_size : Int32) (h_lesserRow : Int32) (h_greaterRow : Int32) (h_lesserColumn : Int32) (h_greaterColumn : Int32) (h_mostTriples : Int32) (p1_cells_f : Nat → Int32) (p1_size : Int32) (sz : Nat) (z : Int32 × (Nat → Int32) × Int32 × Int32 × Int32 × Int32 × Int32 × Int32) (h0 : mX4_findBest h_swapped_cells_f h_lesserRow h_greaterRow h_lesserColumn h_greaterColumn p1_cells_f p1_size = some z) : Met l yX4_findBest wsX4_findBest ({ frames := 6, cells := 0, slots := 0, locals := 144 } : Room) (va_Pc [.ref h, .ref p1] (wP D cI cC cT [(h, .inr (3, [.ref h_swapped, .int h_lesserRow, .int h_greaterRow, .int h_lesserColumn, .int h_greaterColumn, .int h_mostTriples])), (h_swapped, .inr (5, [.ref h_swapped_cells, .int h_swapped_size])), (h_swapped_cells, .inl (cI, 64, .inl h_swapped_cells_f)), (p1, .inr (5, [.ref p1_cells, .int p1_size])), (p1_cells, .inl (cI, 64, .inl p1_cells_f))] sz)) (wQ D (some (.int z.1)) (va_A [(h, .inr (3, [.ref h_swapped, .int h_lesserRow, .int h_greaterRow, .int h_lesserColumn, .int h_greaterColumn, .int h_mostTriples])), (h_swapped, .inr (5, [.ref h_swapped_cells, .int h_swapped_size])), (h_swapped_cells, .inl (cI, 64, .inl h_swapped_cells_f)), (p1, .inr (5, [.ref p1_cells, .int p1_size])), (p1_cells, .inl (cI, 64, .inl p1_cells_f))] sz) (fun (u : Unit) => [(h, .inr (3, [.ref h_swapped, .int z.2.2.2.1, .int z.2.2.2.2.1, .int z.2.2.2.2.2.1, .int z.2.2.2.2.2.2.1, .int z.2.2.2.2.2.2.2])), (h_swapped, .inr (5, [.ref h_swapped_cells, .int z.2.2.1])), (h_swapped_cells, .inl (cI, 64, .inl z.2.1)), (p1, .inr (5, [.ref p1_cells, .int p1_size])), (p1_cells, .inl (cI, 64, .inl p1_cells_f))])) 0 0 (va_A [(h, .inr (3, [.ref h_swapped, .int h_lesserRow, .int h_greaterRow, .int h_lesserColumn, .int h_greaterColumn, .int h_mostTriples])), (h_swapped, .inr (5, [.ref h_swapped_cells, .int h_swapped_size])), (h_swapped_cells, .inl (cI, 64, .inl h_swapped_cells_f)), (p1, .inr (5, [.ref p1_cells, .int p1_size])), (p1_cells, .inl (cI, 64, .inl p1_cells_f))] sz) := by
  refine Met.ofW (cc := cX4_findBest) (maxL := 5) (ret := (some .boolean)) (by decide) rfl ?_
  intro p e s m args below meth c s₁ B hml hv
  obtain ⟨rfl, hsz, hP, hE, hD0⟩ := hv
  have hx := B.exec
  have hb := B.bytes
  have hr := B.returns
  have hts := atoms_spec (ws := wsX4_findBest) B.pre
  have hown : s.vm.findClass RX4 = some m.cls := findClass_of_methodNamed B.named
  have hlocks := B.notSynchronized
  have hK := hE.1
  have hcf : CallFix p m c cX4_findBest 5 s ([.ref h, .ref p1] : List Value).toArray wsX4_findBest RX4 := ⟨hx, hb, hml, hown, hts⟩
  subst hsz
  have hD := hD0.self (sz := s.heap.size)
  generalize hAe : va_A [(h, .inr (3, [.ref h_swapped, .int h_lesserRow, .int h_greaterRow, .int h_lesserColumn, .int h_greaterColumn, .int h_mostTriples])), (h_swapped, .inr (5, [.ref h_swapped_cells, .int h_swapped_size])), (h_swapped_cells, .inl (cI, 64, .inl h_swapped_cells_f)), (p1, .inr (5, [.ref p1_cells, .int p1_size])), (p1_cells, .inl (cI, 64, .inl p1_cells_f))] s.heap.size = A at hD ⊢
  have hA : ∀ q : Nat, s.heap.size ≤ q → A q := fun q h => by rw [← hAe]; exact Or.inr h
  have hS : va_S A s.heap s.heap [] := va_S.rf
  have hP : va_P D vwCl [(h, .inr (3, [.ref h_swapped, .int h_lesserRow, .int h_greaterRow, .int h_lesserColumn, .int h_greaterColumn, .int h_mostTriples])), (h_swapped, .inr (5, [.ref h_swapped_cells, .int h_swapped_size])), (h_swapped_cells, .inl (cI, 64, .inl h_swapped_cells_f)), (p1, .inr (5, [.ref p1_cells, .int p1_size])), (p1_cells, .inl (cI, 64, .inl p1_cells_f))] s.heap := hP
  have hf_30 := hts (.fieldLink RX4 30 "CrookedSums$Squares" "mostTriples" "I") (by decide +kernel)
  have hi_X4 := (show ∀ w ∈ u_ws RX4 TX4 6, w ∈ wsX4_findBest from by decide +kernel)
  have hf_12 := hts (.fieldLink RX4 12 "CrookedSums$Squares" "swapped" "LCrookedSums$Table;") (by decide +kernel)
  have hl := lv_entry ([.ref h, .ref p1]) (n := 5) (Nat.le_of_ble_eq_true rfl)
  rw [lg_entry_eq]
  generalize (lg_sl ([.ref h, .ref p1]) ++ List.replicate (5 - (lg_sl ([.ref h, .ref p1])).length) Slot.unset).toArray = ls at hl ⊢
  have hl : lv_has ls 5 [(0, .ref h), (1, .ref p1)] := hl
  unfold mX4_findBest at h0
  refine lv_aload_n hx hb dX4_findBest_0 rfl (lv_at hl 1 rfl) ?_
  obtain ⟨z_1, hz, h0⟩ := bd_ok h0
  refine ro_V (As := []) (rest := []) (wc := [(p1, .inr (5, [.ref p1_cells, .int p1_size])), (p1_cells, .inl (cI, 64, .inl p1_cells_f))]) hcf (kX6_size l D cI cC cT p1 p1_cells p1_cells_f p1_size z_1 hz) (cwV 0 hts gX4_findBest_X6_size rfl rfl rfl (by decide +kernel) ⟨Nat.le_of_ble_eq_true rfl, Nat.le_of_ble_eq_true rfl⟩) hE (hP.sub [3, 4] rfl) (va_recv hK hP (ci := 5) (q0 := 3) rfl rfl) rfl hl.1 rfl (Nat.le_of_ble_eq_true rfl) dX4_findBest_1 ⟨Nat.le_of_ble_eq_true rfl, Nat.le_of_ble_eq_true rfl⟩ ?_
  refine W.eq (g2 := F0 m 4 ls [.int z_1]) rfl ?_
  refine lv_istore_n (lv' := [(2, .int z_1), (0, .ref h), (1, .ref p1)]) hx hb dX4_findBest_4 rfl hl (by decide) rfl (fun ls hl => ?_)
  refine lv_aload_n hx hb dX4_findBest_5 rfl (lv_at hl 1 rfl) ?_
  refine lv_bipush (v := (-4)) hx hb dX4_findBest_6 (by decide) ?_
  refine va_put (D := D) (ci := 3) (v := .int (-4)) (ty := .int) (C := RX4) (T := TX4) (N := 6) hx hb hts hi_X4 tyX4 tyX4_ok nmX4 hown hK hP hD hS 0 rfl rfl 5 (by decide) hf_30 (fun _ h9 => h9) rfl (by decide +kernel) rfl rfl (Nat.le_of_ble_eq_true rfl) dX4_findBest_8 (fun H locs hP hD hS => ?_)
  have hP : va_P D vwCl [(h, .inr (3, [.ref h_swapped, .int h_lesserRow, .int h_greaterRow, .int h_lesserColumn, .int h_greaterColumn, .int (-4)])), (h_swapped, .inr (5, [.ref h_swapped_cells, .int h_swapped_size])), (h_swapped_cells, .inl (cI, 64, .inl h_swapped_cells_f)), (p1, .inr (5, [.ref p1_cells, .int p1_size])), (p1_cells, .inl (cI, 64, .inl p1_cells_f))] H := hP
  have hD : va_D A [(h, .inr (3, [.ref h_swapped, .int h_lesserRow, .int h_greaterRow, .int h_lesserColumn, .int h_greaterColumn, .int (-4)])), (h_swapped, .inr (5, [.ref h_swapped_cells, .int h_swapped_size])), (h_swapped_cells, .inl (cI, 64, .inl h_swapped_cells_f)), (p1, .inr (5, [.ref p1_cells, .int p1_size])), (p1_cells, .inl (cI, 64, .inl p1_cells_f))] := hD
  refine lv_aload_n hx hb dX4_findBest_11 rfl (lv_at hl 1 rfl) ?_
  refine va_get (D := D) (ci := 3) (v := .ref h_swapped) (C := RX4) (T := TX4) (N := 6) hx hb hts hi_X4 hown hK hP 0 rfl rfl 0 (by decide) hf_12 (fun _ h9 => h9) rfl dX4_findBest_12 ?_
  refine lv_aload_n hx hb dX4_findBest_15 rfl (lv_at hl 2 rfl) ?_
  obtain ⟨z_2, hz, h0⟩ := bd_ok h0
  refine wr_V (As := [.ref p1]) (rest := []) (wc := [(h_swapped, .inr (5, [.ref h_swapped_cells, .int h_swapped_size])), (h_swapped_cells, .inl (cI, 64, .inl h_swapped_cells_f)), (p1, .inr (5, [.ref p1_cells, .int p1_size])), (p1_cells, .inl (cI, 64, .inl p1_cells_f))]) (wr := [(h, .inr (3, [.ref h_swapped, .int h_lesserRow, .int h_greaterRow, .int h_lesserColumn, .int h_greaterColumn, .int (-4)]))]) hcf (kX6_copyFrom l D cI cC cT h_swapped h_swapped_cells p1 p1_cells h_swapped_cells_f h_swapped_size p1_cells_f p1_size _ z_2 hz) (cwV 1 hts gX4_findBest_X6_copyFrom rfl rfl rfl (by decide +kernel) ⟨Nat.le_of_ble_eq_true rfl, Nat.le_of_ble_eq_true rfl⟩) hE hP hD hS hA [1, 2, 3, 4] [0] (hP.sub [1, 2, 3, 4] rfl) (hD.sub [1, 2, 3, 4] (by decide) rfl) (va_recv hK hP (ci := 5) (q0 := 1) rfl rfl) rfl rfl (by decide) (by decide) rfl hl.1 rfl (Nat.le_of_ble_eq_true rfl) dX4_findBest_16 ⟨Nat.le_of_ble_eq_true rfl, Nat.le_of_ble_eq_true rfl⟩ (fun u H locs hP hD hS => ?_)
  have hP : va_P D vwCl [(h, .inr (3, [.ref h_swapped, .int h_lesserRow, .int h_greaterRow, .int h_lesserColumn, .int h_greaterColumn, .int (-4)])), (h_swapped, .inr (5, [.ref h_swapped_cells, .int z_2.2])), (h_swapped_cells, .inl (cI, 64, .inl z_2.1)), (p1, .inr (5, [.ref p1_cells, .int p1_size])), (p1_cells, .inl (cI, 64, .inl p1_cells_f))] H := hP
  have hD : va_D A [(h, .inr (3, [.ref h_swapped, .int h_lesserRow, .int h_greaterRow, .int h_lesserColumn, .int h_greaterColumn, .int (-4)])), (h_swapped, .inr (5, [.ref h_swapped_cells, .int z_2.2])), (h_swapped_cells, .inl (cI, 64, .inl z_2.1)), (p1, .inr (5, [.ref p1_cells, .int p1_size])), (p1_cells, .inl (cI, 64, .inl p1_cells_f))] := hD
  refine W.eq (g2 := F0 m 19 ls []) rfl ?_
  refine lv_iconst (v := 0) hx hb dX4_findBest_19 (by decide) ?_
  refine lv_istore_n (lv' := [(3, .int 0), (2, .int z_1), (0, .ref h), (1, .ref p1)]) hx hb dX4_findBest_20 rfl hl (by decide) rfl (fun ls hl => ?_)
  have E_21_56_9 : ∀ (x3_3 : Int32) (y_4 : Int32) (y_5 : Int32) (y_6 : Int32) (y_7 : Int32) (y_8 : Int32) (f_9 : Nat → Int32) (H : Heap) (locs : List Loc) (ls : Array Slot), (if y_8 = (-4) then (some (0, f_9, z_2.2, y_4, y_5, y_6, y_7, y_8)) else (some (1, f_9, z_2.2, y_4, y_5, y_6, y_7, y_8))) = some z → va_P D vwCl [(h, .inr (3, [.ref h_swapped, .int y_4, .int y_5, .int y_6, .int y_7, .int y_8])), (h_swapped, .inr (5, [.ref h_swapped_cells, .int z_2.2])), (h_swapped_cells, .inl (cI, 64, .inl f_9)), (p1, .inr (5, [.ref p1_cells, .int p1_size])), (p1_cells, .inl (cI, 64, .inl p1_cells_f))] H → va_D A [(h, .inr (3, [.ref h_swapped, .int y_4, .int y_5, .int y_6, .int y_7, .int y_8])), (h_swapped, .inr (5, [.ref h_swapped_cells, .int z_2.2])), (h_swapped_cells, .inl (cI, 64, .inl f_9)), (p1, .inr (5, [.ref p1_cells, .int p1_size])), (p1_cells, .inl (cI, 64, .inl p1_cells_f))] → va_S A s.heap H locs → lv_has ls 5 [(3, .int x3_3), (2, .int z_1), (0, .ref h), (1, .ref p1)] → W p l e (headSpec wsX4_findBest ({ frames := 6, cells := 0, slots := 0, locals := 144 } : Room)).room s m (([.ref h, .ref p1] : List Value).toArray) below meth c H locs 0 0 (MQ below (wQ D (some (.int z.1)) A (fun (u : Unit) => [(h, .inr (3, [.ref h_swapped, .int z.2.2.2.1, .int z.2.2.2.2.1, .int z.2.2.2.2.2.1, .int z.2.2.2.2.2.2.1, .int z.2.2.2.2.2.2.2])), (h_swapped, .inr (5, [.ref h_swapped_cells, .int z.2.2.1])), (h_swapped_cells, .inl (cI, 64, .inl z.2.1)), (p1, .inr (5, [.ref p1_cells, .int p1_size])), (p1_cells, .inl (cI, 64, .inl p1_cells_f))])) (([.ref h, .ref p1] : List Value).toArray) s 0 0 A) (F0 m 56 ls []) := by
    intro x3_3 y_4 y_5 y_6 y_7 y_8 f_9 H locs ls h0 hP hD hS hl
    refine lv_aload_n hx hb dX4_findBest_56 rfl (lv_at hl 2 rfl) ?_
    refine va_get (D := D) (ci := 3) (v := .int y_8) (C := RX4) (T := TX4) (N := 6) hx hb hts hi_X4 hown hK hP 0 rfl rfl 5 (by decide) hf_30 (fun _ h9 => h9) rfl dX4_findBest_57 ?_
    refine lv_bipush (v := (-4)) hx hb dX4_findBest_60 (by decide) ?_
    refine lv_icmp_eq (tgt := 69) hx hb dX4_findBest_62 (by decide) (fun c9 => ?_) (fun c9 => ?_)
    · have h0 := it_t c9 h0
      refine lv_iconst (v := 0) hx hb dX4_findBest_69 (by decide) ?_
      have e0 := Option.some.inj h0
      subst e0
      exact W.zret (ty := .boolean) (v := 0) hx hb hr rfl (fun t ht hW => wr_end () ht hP hD hS) hS.2.2 dX4_findBest_70
    · have h0 := it_f c9 h0
      refine lv_iconst (v := 1) hx hb dX4_findBest_65 (by decide) ?_
      refine lv_goto (tgt := 70) hx hb dX4_findBest_66 (by decide) ?_
      have e0 := Option.some.inj h0
      subst e0
      exact W.zret (ty := .boolean) (v := 1) hx hb hr rfl (fun t ht hW => wr_end () ht hP hD hS) hS.2.2 dX4_findBest_70
  have L_21_34 : ∀ (F21 : Nat) (x3_11 : Int32) (y_12 : Int32) (y_13 : Int32) (y_14 : Int32) (y_15 : Int32) (y_16 : Int32) (f_17 : Nat → Int32) (H : Heap) (locs : List Loc) (ls : Array Slot), mX4_findBest_L21 z_1 z_2 (fun (x3_3 : Int32) (y_4 : Int32) (y_5 : Int32) (y_6 : Int32) (y_7 : Int32) (y_8 : Int32) (f_9 : Nat → Int32) => if y_8 = (-4) then (some (0, f_9, z_2.2, y_4, y_5, y_6, y_7, y_8)) else (some (1, f_9, z_2.2, y_4, y_5, y_6, y_7, y_8))) F21 x3_11 y_12 y_13 y_14 y_15 y_16 f_17 = some z → va_P D vwCl [(h, .inr (3, [.ref h_swapped, .int y_12, .int y_13, .int y_14, .int y_15, .int y_16])), (h_swapped, .inr (5, [.ref h_swapped_cells, .int z_2.2])), (h_swapped_cells, .inl (cI, 64, .inl f_17)), (p1, .inr (5, [.ref p1_cells, .int p1_size])), (p1_cells, .inl (cI, 64, .inl p1_cells_f))] H → va_D A [(h, .inr (3, [.ref h_swapped, .int y_12, .int y_13, .int y_14, .int y_15, .int y_16])), (h_swapped, .inr (5, [.ref h_swapped_cells, .int z_2.2])), (h_swapped_cells, .inl (cI, 64, .inl f_17)), (p1, .inr (5, [.ref p1_cells, .int p1_size])), (p1_cells, .inl (cI, 64, .inl p1_cells_f))] → va_S A s.heap H locs → lv_has ls 5 [(3, .int x3_11), (2, .int z_1), (0, .ref h), (1, .ref p1)] → W p l e (headSpec wsX4_findBest ({ frames := 6, cells := 0, slots := 0, locals := 144 } : Room)).room s m (([.ref h, .ref p1] : List Value).toArray) below meth c H locs 0 0 (MQ below (wQ D (some (.int z.1)) A (fun (u : Unit) => [(h, .inr (3, [.ref h_swapped, .int z.2.2.2.1, .int z.2.2.2.2.1, .int z.2.2.2.2.2.1, .int z.2.2.2.2.2.2.1, .int z.2.2.2.2.2.2.2])), (h_swapped, .inr (5, [.ref h_swapped_cells, .int z.2.2.1])), (h_swapped_cells, .inl (cI, 64, .inl z.2.1)), (p1, .inr (5, [.ref p1_cells, .int p1_size])), (p1_cells, .inl (cI, 64, .inl p1_cells_f))])) (([.ref h, .ref p1] : List Value).toArray) s 0 0 A) (F0 m 21 ls []) := by
    intro F21
    induction F21 with
    | zero => intro x3_11 y_12 y_13 y_14 y_15 y_16 f_17 H locs ls h0 hP hD hS hl; cases h0
    | succ F21 ih21 =>
      intro x3_11 y_12 y_13 y_14 y_15 y_16 f_17 H locs ls h0 hP hD hS hl
      rw [mX4_findBest_L21] at h0
      refine lv_iload_n hx hb dX4_findBest_21 rfl (lv_at hl 0 rfl) ?_
      refine lv_iload_n hx hb dX4_findBest_22 rfl (lv_at hl 1 rfl) ?_
      refine lv_icmp_ge (tgt := 56) hx hb dX4_findBest_23 (by decide) (fun c9 => ?_) (fun c9 => ?_)
      · have h0 := it_t c9 h0
        exact E_21_56_9 x3_11 y_12 y_13 y_14 y_15 y_16 f_17 _ _ ls h0 hP hD hS hl
      · have h0 := it_f c9 h0
        refine lv_iload_n hx hb dX4_findBest_26 rfl (lv_at hl 0 rfl) ?_
        refine lv_iconst (v := 1) hx hb dX4_findBest_27 (by decide) ?_
        refine lv_iadd hx hb dX4_findBest_28 ?_
        refine lv_istore (lv' := [(4, .int (x3_11 + 1)), (3, .int x3_11), (2, .int z_1), (0, .ref h), (1, .ref p1)]) hx hb dX4_findBest_29 hl (by decide) rfl (fun ls hl => ?_)
        have E_31_50_24 : ∀ (x4_18 : Int32) (y_19 : Int32) (y_20 : Int32) (y_21 : Int32) (y_22 : Int32) (y_23 : Int32) (f_24 : Nat → Int32) (H : Heap) (locs : List Loc) (ls : Array Slot), (mX4_findBest_L21 z_1 z_2 (fun (x3_3 : Int32) (y_4 : Int32) (y_5 : Int32) (y_6 : Int32) (y_7 : Int32) (y_8 : Int32) (f_9 : Nat → Int32) => if y_8 = (-4) then (some (0, f_9, z_2.2, y_4, y_5, y_6, y_7, y_8)) else (some (1, f_9, z_2.2, y_4, y_5, y_6, y_7, y_8))) F21 (x3_11 + 1) y_19 y_20 y_21 y_22 y_23 f_24) = some z → va_P D vwCl [(h, .inr (3, [.ref h_swapped, .int y_19, .int y_20, .int y_21, .int y_22, .int y_23])), (h_swapped, .inr (5, [.ref h_swapped_cells, .int z_2.2])), (h_swapped_cells, .inl (cI, 64, .inl f_24)), (p1, .inr (5, [.ref p1_cells, .int p1_size])), (p1_cells, .inl (cI, 64, .inl p1_cells_f))] H → va_D A [(h, .inr (3, [.ref h_swapped, .int y_19, .int y_20, .int y_21, .int y_22, .int y_23])), (h_swapped, .inr (5, [.ref h_swapped_cells, .int z_2.2])), (h_swapped_cells, .inl (cI, 64, .inl f_24)), (p1, .inr (5, [.ref p1_cells, .int p1_size])), (p1_cells, .inl (cI, 64, .inl p1_cells_f))] → va_S A s.heap H locs → lv_has ls 5 [(4, .int x4_18), (3, .int x3_11), (2, .int z_1), (0, .ref h), (1, .ref p1)] → W p l e (headSpec wsX4_findBest ({ frames := 6, cells := 0, slots := 0, locals := 144 } : Room)).room s m (([.ref h, .ref p1] : List Value).toArray) below meth c H locs 0 0 (MQ below (wQ D (some (.int z.1)) A (fun (u : Unit) => [(h, .inr (3, [.ref h_swapped, .int z.2.2.2.1, .int z.2.2.2.2.1, .int z.2.2.2.2.2.1, .int z.2.2.2.2.2.2.1, .int z.2.2.2.2.2.2.2])), (h_swapped, .inr (5, [.ref h_swapped_cells, .int z.2.2.1])), (h_swapped_cells, .inl (cI, 64, .inl z.2.1)), (p1, .inr (5, [.ref p1_cells, .int p1_size])), (p1_cells, .inl (cI, 64, .inl p1_cells_f))])) (([.ref h, .ref p1] : List Value).toArray) s 0 0 A) (F0 m 50 ls []) := by
          intro x4_18 y_19 y_20 y_21 y_22 y_23 f_24 H locs ls h0 hP hD hS hl
          refine lv_iinc (v := (x3_11 + 1)) (lv' := [(3, .int (x3_11 + 1)), (4, .int x4_18), (2, .int z_1), (0, .ref h), (1, .ref p1)]) hx hb dX4_findBest_50 hl (k := 1) rfl rfl (by decide) rfl (fun ls hl => ?_)
          refine lv_goto (tgt := 21) hx hb dX4_findBest_53 (by decide) ?_
          exact ih21 (x3_11 + 1) y_19 y_20 y_21 y_22 y_23 f_24 _ _ ls h0 hP hD hS (lv_sub hl [0, 2, 3, 4] rfl)
        have L_31_33 : ∀ (F31 : Nat) (x4_26 : Int32) (y_27 : Int32) (y_28 : Int32) (y_29 : Int32) (y_30 : Int32) (y_31 : Int32) (f_32 : Nat → Int32) (H : Heap) (locs : List Loc) (ls : Array Slot), mX4_findBest_L31 z_1 z_2 x3_11 (fun (x4_18 : Int32) (y_19 : Int32) (y_20 : Int32) (y_21 : Int32) (y_22 : Int32) (y_23 : Int32) (f_24 : Nat → Int32) => mX4_findBest_L21 z_1 z_2 (fun (x3_3 : Int32) (y_4 : Int32) (y_5 : Int32) (y_6 : Int32) (y_7 : Int32) (y_8 : Int32) (f_9 : Nat → Int32) => if y_8 = (-4) then (some (0, f_9, z_2.2, y_4, y_5, y_6, y_7, y_8)) else (some (1, f_9, z_2.2, y_4, y_5, y_6, y_7, y_8))) F21 (x3_11 + 1) y_19 y_20 y_21 y_22 y_23 f_24) F31 x4_26 y_27 y_28 y_29 y_30 y_31 f_32 = some z → va_P D vwCl [(h, .inr (3, [.ref h_swapped, .int y_27, .int y_28, .int y_29, .int y_30, .int y_31])), (h_swapped, .inr (5, [.ref h_swapped_cells, .int z_2.2])), (h_swapped_cells, .inl (cI, 64, .inl f_32)), (p1, .inr (5, [.ref p1_cells, .int p1_size])), (p1_cells, .inl (cI, 64, .inl p1_cells_f))] H → va_D A [(h, .inr (3, [.ref h_swapped, .int y_27, .int y_28, .int y_29, .int y_30, .int y_31])), (h_swapped, .inr (5, [.ref h_swapped_cells, .int z_2.2])), (h_swapped_cells, .inl (cI, 64, .inl f_32)), (p1, .inr (5, [.ref p1_cells, .int p1_size])), (p1_cells, .inl (cI, 64, .inl p1_cells_f))] → va_S A s.heap H locs → lv_has ls 5 [(4, .int x4_26), (3, .int x3_11), (2, .int z_1), (0, .ref h), (1, .ref p1)] → W p l e (headSpec wsX4_findBest ({ frames := 6, cells := 0, slots := 0, locals := 144 } : Room)).room s m (([.ref h, .ref p1] : List Value).toArray) below meth c H locs 0 0 (MQ below (wQ D (some (.int z.1)) A (fun (u : Unit) => [(h, .inr (3, [.ref h_swapped, .int z.2.2.2.1, .int z.2.2.2.2.1, .int z.2.2.2.2.2.1, .int z.2.2.2.2.2.2.1, .int z.2.2.2.2.2.2.2])), (h_swapped, .inr (5, [.ref h_swapped_cells, .int z.2.2.1])), (h_swapped_cells, .inl (cI, 64, .inl z.2.1)), (p1, .inr (5, [.ref p1_cells, .int p1_size])), (p1_cells, .inl (cI, 64, .inl p1_cells_f))])) (([.ref h, .ref p1] : List Value).toArray) s 0 0 A) (F0 m 31 ls []) := by
          intro F31
          induction F31 with
          | zero => intro x4_26 y_27 y_28 y_29 y_30 y_31 f_32 H locs ls h0 hP hD hS hl; cases h0
          | succ F31 ih31 =>
            intro x4_26 y_27 y_28 y_29 y_30 y_31 f_32 H locs ls h0 hP hD hS hl
            rw [mX4_findBest_L31] at h0
            refine lv_iload hx hb dX4_findBest_31 (lv_at hl 0 rfl) ?_
            refine lv_iload_n hx hb dX4_findBest_33 rfl (lv_at hl 2 rfl) ?_
            refine lv_icmp_ge (tgt := 50) hx hb dX4_findBest_34 (by decide) (fun c9 => ?_) (fun c9 => ?_)
            · have h0 := it_t c9 h0
              exact E_31_50_24 x4_26 y_27 y_28 y_29 y_30 y_31 f_32 _ _ ls h0 hP hD hS hl
            · have h0 := it_f c9 h0
              refine lv_aload_n hx hb dX4_findBest_37 rfl (lv_at hl 3 rfl) ?_
              refine lv_iload_n hx hb dX4_findBest_38 rfl (lv_at hl 1 rfl) ?_
              refine lv_iload hx hb dX4_findBest_39 (lv_at hl 0 rfl) ?_
              obtain ⟨z_33, hz, h0⟩ := bd_ok h0
              refine wr_V (As := [.int x3_11, .int x4_26]) (rest := []) (wc := [(h, .inr (3, [.ref h_swapped, .int y_27, .int y_28, .int y_29, .int y_30, .int y_31])), (h_swapped, .inr (5, [.ref h_swapped_cells, .int z_2.2])), (h_swapped_cells, .inl (cI, 64, .inl f_32))]) (wr := [(p1, .inr (5, [.ref p1_cells, .int p1_size])), (p1_cells, .inl (cI, 64, .inl p1_cells_f))]) hcf (kX4_findBestInRows l D cI cC cT h h_swapped h_swapped_cells f_32 z_2.2 y_27 y_28 y_29 y_30 y_31 x3_11 x4_26 _ z_33 hz) (cwV 2 hts gX4_findBest_X4_findBestInRows rfl rfl rfl (by decide +kernel) ⟨Nat.le_of_ble_eq_true rfl, Nat.le_of_ble_eq_true rfl⟩) hE hP hD hS hA [0, 1, 2] [3, 4] (hP.sub [0, 1, 2] rfl) (hD.sub [0, 1, 2] (by decide) rfl) (va_recv hK hP (ci := 3) (q0 := 0) rfl rfl) rfl rfl (by decide) (by decide) rfl hl.1 rfl (Nat.le_of_ble_eq_true rfl) dX4_findBest_41 ⟨Nat.le_of_ble_eq_true rfl, Nat.le_of_ble_eq_true rfl⟩ (fun u H locs hP hD hS => ?_)
              have hP : va_P D vwCl [(p1, .inr (5, [.ref p1_cells, .int p1_size])), (p1_cells, .inl (cI, 64, .inl p1_cells_f)), (h, .inr (3, [.ref h_swapped, .int z_33.2.1, .int z_33.2.2.1, .int z_33.2.2.2.1, .int z_33.2.2.2.2.1, .int z_33.2.2.2.2.2])), (h_swapped, .inr (5, [.ref h_swapped_cells, .int z_2.2])), (h_swapped_cells, .inl (cI, 64, .inl z_33.1))] H := hP
              have hD : va_D A [(p1, .inr (5, [.ref p1_cells, .int p1_size])), (p1_cells, .inl (cI, 64, .inl p1_cells_f)), (h, .inr (3, [.ref h_swapped, .int z_33.2.1, .int z_33.2.2.1, .int z_33.2.2.2.1, .int z_33.2.2.2.2.1, .int z_33.2.2.2.2.2])), (h_swapped, .inr (5, [.ref h_swapped_cells, .int z_2.2])), (h_swapped_cells, .inl (cI, 64, .inl z_33.1))] := hD
              refine W.eq (g2 := F0 m 44 ls []) rfl ?_
              refine lv_iinc (v := (x4_26 + 1)) (lv' := [(4, .int (x4_26 + 1)), (3, .int x3_11), (2, .int z_1), (0, .ref h), (1, .ref p1)]) hx hb dX4_findBest_44 hl (k := 0) rfl rfl (by decide) rfl (fun ls hl => ?_)
              refine lv_goto (tgt := 31) hx hb dX4_findBest_47 (by decide) ?_
              exact ih31 (x4_26 + 1) z_33.2.1 z_33.2.2.1 z_33.2.2.2.1 z_33.2.2.2.2.1 z_33.2.2.2.2.2 z_33.1 _ _ ls h0 (hP.sub [2, 3, 4, 0, 1] rfl) (hD.sub [2, 3, 4, 0, 1] (by decide) rfl) hS hl
        exact L_31_33 FU (x3_11 + 1) y_12 y_13 y_14 y_15 y_16 f_17 _ _ ls h0 hP hD hS hl
  exact L_21_34 FU 0 h_lesserRow h_greaterRow h_lesserColumn h_greaterColumn (-4) z_2.1 _ _ ls h0 hP hD hS hl
noncomputable def mX4_howManyInRows_L23 (p1_cells_f : Nat → Int32) (p2 : Int32) (p3 : Int32) (z_1 : Int32) (x5_5 : Int32) (k23_51 : Int32 → Int32 → Option (Int32)) : Nat → Int32 → Int32 → Option (Int32)
  | 0, _, _ => none
  | F + 1, x6_10, x4_11 => if z_1 ≤ x6_10 then (k23_51 x6_10 x4_11) else (bd (mX6_isLittleSquare p1_cells_f p2 p3 x5_5 x6_10) (fun z_12 => if z_12 = 0 then (mX4_howManyInRows_L23 p1_cells_f p2 p3 z_1 x5_5 k23_51 F (x6_10 + 1) x4_11) else (mX4_howManyInRows_L23 p1_cells_f p2 p3 z_1 x5_5 k23_51 F (x6_10 + 1) (x4_11 + 1))))
noncomputable def mX4_howManyInRows_L11 (p1_cells_f : Nat → Int32) (p2 : Int32) (p3 : Int32) (z_1 : Int32) (k11_57 : Int32 → Int32 → Option (Int32)) : Nat → Int32 → Int32 → Option (Int32)
  | 0, _, _ => none
  | F + 1, x5_5, x4_6 => if z_1 ≤ x5_5 then (k11_57 x5_5 x4_6) else (mX4_howManyInRows_L23 p1_cells_f p2 p3 z_1 x5_5 (fun (x6_7 : Int32) (x4_8 : Int32) => mX4_howManyInRows_L11 p1_cells_f p2 p3 z_1 k11_57 F (x5_5 + 1) x4_8) FU (x5_5 + 1) x4_6)
noncomputable def mX4_howManyInRows (p1_cells_f : Nat → Int32) (p1_size : Int32) (p2 : Int32) (p3 : Int32) : Option (Int32) :=
  bd (mX6_size p1_size) (fun z_1 => mX4_howManyInRows_L11 p1_cells_f p2 p3 z_1 (fun (x5_2 : Int32) (x4_3 : Int32) => some (x4_3)) FU 0 0)
set_option maxHeartbeats 8000000 in
set_option maxRecDepth 100000 in
theorem kX4_howManyInRows (l : Launch) (D : va_G) (cI cC cT : ClassId) (p1 p1_cells : Nat) (p1_cells_f : Nat → Int32) (p1_size : Int32) (p2 : Int32) (p3 : Int32) (z : Int32) (h0 : mX4_howManyInRows p1_cells_f p1_size p2 p3 = some z) : Met l yX4_howManyInRows wsX4_howManyInRows ({ frames := 2, cells := 0, slots := 0, locals := 47 } : Room) (va_Pc [.ref p1, .int p2, .int p3] (rP D cI cC cT [(p1, .inr (5, [.ref p1_cells, .int p1_size])), (p1_cells, .inl (cI, 64, .inl p1_cells_f))])) (rQ (some (.int z))) 0 0 (fun _ => False) := by
  refine Met.ofW (cc := cX4_howManyInRows) (maxL := 7) (ret := (some .int)) (by decide) rfl ?_
  intro p e s m args below meth c s₁ B hml hv
  obtain ⟨rfl, hP, hE⟩ := hv
  have hx := B.exec
  have hb := B.bytes
  have hr := B.returns
  have hts := atoms_spec (ws := wsX4_howManyInRows) B.pre
  have hown : s.vm.findClass RX4 = some m.cls := findClass_of_methodNamed B.named
  have hlocks := B.notSynchronized
  have hK := hE.1
  have hcf : CallFix p m c cX4_howManyInRows 7 s ([.ref p1, .int p2, .int p3] : List Value).toArray wsX4_howManyInRows RX4 := ⟨hx, hb, hml, hown, hts⟩
  have hP : va_P D vwCl [(p1, .inr (5, [.ref p1_cells, .int p1_size])), (p1_cells, .inl (cI, 64, .inl p1_cells_f))] s.heap := hP
  have hl := lv_entry ([.ref p1, .int p2, .int p3]) (n := 7) (Nat.le_of_ble_eq_true rfl)
  rw [lg_entry_eq]
  generalize (lg_sl ([.ref p1, .int p2, .int p3]) ++ List.replicate (7 - (lg_sl ([.ref p1, .int p2, .int p3])).length) Slot.unset).toArray = ls at hl ⊢
  have hl : lv_has ls 7 [(0, .ref p1), (1, .int p2), (2, .int p3)] := hl
  unfold mX4_howManyInRows at h0
  refine lv_aload_n hx hb dX4_howManyInRows_0 rfl (lv_at hl 0 rfl) ?_
  obtain ⟨z_1, hz, h0⟩ := bd_ok h0
  refine ro_V (As := []) (rest := []) (wc := [(p1, .inr (5, [.ref p1_cells, .int p1_size])), (p1_cells, .inl (cI, 64, .inl p1_cells_f))]) hcf (kX6_size l D cI cC cT p1 p1_cells p1_cells_f p1_size z_1 hz) (cwV 0 hts gX4_howManyInRows_X6_size rfl rfl rfl (by decide +kernel) ⟨Nat.le_of_ble_eq_true rfl, Nat.le_of_ble_eq_true rfl⟩) hE (hP.sub [0, 1] rfl) (va_recv hK hP (ci := 5) (q0 := 0) rfl rfl) rfl hl.1 rfl (Nat.le_of_ble_eq_true rfl) dX4_howManyInRows_1 ⟨Nat.le_of_ble_eq_true rfl, Nat.le_of_ble_eq_true rfl⟩ ?_
  refine W.eq (g2 := F0 m 4 ls [.int z_1]) rfl ?_
  refine lv_istore_n (lv' := [(3, .int z_1), (0, .ref p1), (1, .int p2), (2, .int p3)]) hx hb dX4_howManyInRows_4 rfl hl (by decide) rfl (fun ls hl => ?_)
  refine lv_iconst (v := 0) hx hb dX4_howManyInRows_5 (by decide) ?_
  refine lv_istore (lv' := [(4, .int 0), (3, .int z_1), (0, .ref p1), (1, .int p2), (2, .int p3)]) hx hb dX4_howManyInRows_6 hl (by decide) rfl (fun ls hl => ?_)
  refine lv_iconst (v := 0) hx hb dX4_howManyInRows_8 (by decide) ?_
  refine lv_istore (lv' := [(5, .int 0), (4, .int 0), (3, .int z_1), (0, .ref p1), (1, .int p2), (2, .int p3)]) hx hb dX4_howManyInRows_9 hl (by decide) rfl (fun ls hl => ?_)
  have E_11_57_3 : ∀ (x5_2 : Int32) (x4_3 : Int32) (ls : Array Slot), (some (x4_3)) = some z → lv_has ls 7 [(5, .int x5_2), (4, .int x4_3), (3, .int z_1), (0, .ref p1), (1, .int p2), (2, .int p3)] → W p l e (headSpec wsX4_howManyInRows ({ frames := 2, cells := 0, slots := 0, locals := 47 } : Room)).room s m (([.ref p1, .int p2, .int p3] : List Value).toArray) below meth c s.heap [] 0 0 (MQ below (rQ (some (.int z))) (([.ref p1, .int p2, .int p3] : List Value).toArray) s 0 0 (fun _ => False)) (F0 m 57 ls []) := by
    intro x5_2 x4_3 ls h0 hl
    refine lv_iload hx hb dX4_howManyInRows_57 (lv_at hl 1 rfl) ?_
    have e0 := Option.some.inj h0
    subst e0
    exact W.iret (v := x4_3) hx hb hr (fun t ht hW => ⟨rfl, ht⟩) (fun q hq => absurd hq List.not_mem_nil) dX4_howManyInRows_59
  have L_11_13 : ∀ (F11 : Nat) (x5_5 : Int32) (x4_6 : Int32) (ls : Array Slot), mX4_howManyInRows_L11 p1_cells_f p2 p3 z_1 (fun (x5_2 : Int32) (x4_3 : Int32) => some (x4_3)) F11 x5_5 x4_6 = some z → lv_has ls 7 [(5, .int x5_5), (4, .int x4_6), (3, .int z_1), (0, .ref p1), (1, .int p2), (2, .int p3)] → W p l e (headSpec wsX4_howManyInRows ({ frames := 2, cells := 0, slots := 0, locals := 47 } : Room)).room s m (([.ref p1, .int p2, .int p3] : List Value).toArray) below meth c s.heap [] 0 0 (MQ below (rQ (some (.int z))) (([.ref p1, .int p2, .int p3] : List Value).toArray) s 0 0 (fun _ => False)) (F0 m 11 ls []) := by
    intro F11
    induction F11 with
    | zero => intro x5_5 x4_6 ls h0 hl; cases h0
    | succ F11 ih11 =>
      intro x5_5 x4_6 ls h0 hl
      rw [mX4_howManyInRows_L11] at h0
      refine lv_iload hx hb dX4_howManyInRows_11 (lv_at hl 0 rfl) ?_
      refine lv_iload_n hx hb dX4_howManyInRows_13 rfl (lv_at hl 2 rfl) ?_
      refine lv_icmp_ge (tgt := 57) hx hb dX4_howManyInRows_14 (by decide) (fun c9 => ?_) (fun c9 => ?_)
      · have h0 := it_t c9 h0
        exact E_11_57_3 x5_5 x4_6 ls h0 hl
      · have h0 := it_f c9 h0
        refine lv_iload hx hb dX4_howManyInRows_17 (lv_at hl 0 rfl) ?_
        refine lv_iconst (v := 1) hx hb dX4_howManyInRows_19 (by decide) ?_
        refine lv_iadd hx hb dX4_howManyInRows_20 ?_
        refine lv_istore (lv' := [(6, .int (x5_5 + 1)), (5, .int x5_5), (4, .int x4_6), (3, .int z_1), (0, .ref p1), (1, .int p2), (2, .int p3)]) hx hb dX4_howManyInRows_21 hl (by decide) rfl (fun ls hl => ?_)
        have E_23_51_8 : ∀ (x6_7 : Int32) (x4_8 : Int32) (ls : Array Slot), (mX4_howManyInRows_L11 p1_cells_f p2 p3 z_1 (fun (x5_2 : Int32) (x4_3 : Int32) => some (x4_3)) F11 (x5_5 + 1) x4_8) = some z → lv_has ls 7 [(6, .int x6_7), (5, .int x5_5), (4, .int x4_8), (3, .int z_1), (0, .ref p1), (1, .int p2), (2, .int p3)] → W p l e (headSpec wsX4_howManyInRows ({ frames := 2, cells := 0, slots := 0, locals := 47 } : Room)).room s m (([.ref p1, .int p2, .int p3] : List Value).toArray) below meth c s.heap [] 0 0 (MQ below (rQ (some (.int z))) (([.ref p1, .int p2, .int p3] : List Value).toArray) s 0 0 (fun _ => False)) (F0 m 51 ls []) := by
          intro x6_7 x4_8 ls h0 hl
          refine lv_iinc (v := (x5_5 + 1)) (lv' := [(5, .int (x5_5 + 1)), (6, .int x6_7), (4, .int x4_8), (3, .int z_1), (0, .ref p1), (1, .int p2), (2, .int p3)]) hx hb dX4_howManyInRows_51 hl (k := 1) rfl rfl (by decide) rfl (fun ls hl => ?_)
          refine lv_goto (tgt := 11) hx hb dX4_howManyInRows_54 (by decide) ?_
          exact ih11 (x5_5 + 1) x4_8 ls h0 (lv_sub hl [0, 2, 3, 4, 5, 6] rfl)
        have L_23_12 : ∀ (F23 : Nat) (x6_10 : Int32) (x4_11 : Int32) (ls : Array Slot), mX4_howManyInRows_L23 p1_cells_f p2 p3 z_1 x5_5 (fun (x6_7 : Int32) (x4_8 : Int32) => mX4_howManyInRows_L11 p1_cells_f p2 p3 z_1 (fun (x5_2 : Int32) (x4_3 : Int32) => some (x4_3)) F11 (x5_5 + 1) x4_8) F23 x6_10 x4_11 = some z → lv_has ls 7 [(6, .int x6_10), (5, .int x5_5), (4, .int x4_11), (3, .int z_1), (0, .ref p1), (1, .int p2), (2, .int p3)] → W p l e (headSpec wsX4_howManyInRows ({ frames := 2, cells := 0, slots := 0, locals := 47 } : Room)).room s m (([.ref p1, .int p2, .int p3] : List Value).toArray) below meth c s.heap [] 0 0 (MQ below (rQ (some (.int z))) (([.ref p1, .int p2, .int p3] : List Value).toArray) s 0 0 (fun _ => False)) (F0 m 23 ls []) := by
          intro F23
          induction F23 with
          | zero => intro x6_10 x4_11 ls h0 hl; cases h0
          | succ F23 ih23 =>
            intro x6_10 x4_11 ls h0 hl
            rw [mX4_howManyInRows_L23] at h0
            refine lv_iload hx hb dX4_howManyInRows_23 (lv_at hl 0 rfl) ?_
            refine lv_iload_n hx hb dX4_howManyInRows_25 rfl (lv_at hl 3 rfl) ?_
            refine lv_icmp_ge (tgt := 51) hx hb dX4_howManyInRows_26 (by decide) (fun c9 => ?_) (fun c9 => ?_)
            · have h0 := it_t c9 h0
              exact E_23_51_8 x6_10 x4_11 ls h0 hl
            · have h0 := it_f c9 h0
              refine lv_aload_n hx hb dX4_howManyInRows_29 rfl (lv_at hl 4 rfl) ?_
              refine lv_iload_n hx hb dX4_howManyInRows_30 rfl (lv_at hl 5 rfl) ?_
              refine lv_iload_n hx hb dX4_howManyInRows_31 rfl (lv_at hl 6 rfl) ?_
              refine lv_iload hx hb dX4_howManyInRows_32 (lv_at hl 1 rfl) ?_
              refine lv_iload hx hb dX4_howManyInRows_34 (lv_at hl 0 rfl) ?_
              obtain ⟨z_12, hz, h0⟩ := bd_ok h0
              refine ro_V (As := [.int p2, .int p3, .int x5_5, .int x6_10]) (rest := []) (wc := [(p1, .inr (5, [.ref p1_cells, .int p1_size])), (p1_cells, .inl (cI, 64, .inl p1_cells_f))]) hcf (kX6_isLittleSquare l D cI cC cT p1 p1_cells p1_cells_f p1_size p2 p3 x5_5 x6_10 z_12 hz) (cwV 4 hts gX4_howManyInRows_X6_isLittleSquare rfl rfl rfl (by decide +kernel) ⟨Nat.le_of_ble_eq_true rfl, Nat.le_of_ble_eq_true rfl⟩) hE (hP.sub [0, 1] rfl) (va_recv hK hP (ci := 5) (q0 := 0) rfl rfl) rfl hl.1 rfl (Nat.le_of_ble_eq_true rfl) dX4_howManyInRows_36 ⟨Nat.le_of_ble_eq_true rfl, Nat.le_of_ble_eq_true rfl⟩ ?_
              refine W.eq (g2 := F0 m 39 ls [.int z_12]) rfl ?_
              refine lv_if_eq (tgt := 45) hx hb dX4_howManyInRows_39 (by decide) (fun c9 => ?_) (fun c9 => ?_)
              · have h0 := it_t c9 h0
                refine lv_iinc (v := (x6_10 + 1)) (lv' := [(6, .int (x6_10 + 1)), (5, .int x5_5), (4, .int x4_11), (3, .int z_1), (0, .ref p1), (1, .int p2), (2, .int p3)]) hx hb dX4_howManyInRows_45 hl (k := 0) rfl rfl (by decide) rfl (fun ls hl => ?_)
                refine lv_goto (tgt := 23) hx hb dX4_howManyInRows_48 (by decide) ?_
                exact ih23 (x6_10 + 1) x4_11 ls h0 hl
              · have h0 := it_f c9 h0
                refine lv_iinc (v := (x4_11 + 1)) (lv' := [(4, .int (x4_11 + 1)), (6, .int x6_10), (5, .int x5_5), (3, .int z_1), (0, .ref p1), (1, .int p2), (2, .int p3)]) hx hb dX4_howManyInRows_42 hl (k := 2) rfl rfl (by decide) rfl (fun ls hl => ?_)
                refine lv_iinc (v := (x6_10 + 1)) (lv' := [(6, .int (x6_10 + 1)), (4, .int (x4_11 + 1)), (5, .int x5_5), (3, .int z_1), (0, .ref p1), (1, .int p2), (2, .int p3)]) hx hb dX4_howManyInRows_45 hl (k := 1) rfl rfl (by decide) rfl (fun ls hl => ?_)
                refine lv_goto (tgt := 23) hx hb dX4_howManyInRows_48 (by decide) ?_
                exact ih23 (x6_10 + 1) (x4_11 + 1) ls h0 (lv_sub hl [0, 2, 1, 3, 4, 5, 6] rfl)
        exact L_23_12 FU (x5_5 + 1) x4_6 ls h0 hl
  exact L_11_13 FU 0 0 ls h0 hl
noncomputable def mX4_howMany_L22 (p1_cells_f : Nat → Int32) (p1_size : Int32) (z_1 : Int32) (x4_5 : Int32) (k22_45 : Int32 → Int32 → Option (Int32)) : Nat → Int32 → Int32 → Option (Int32)
  | 0, _, _ => none
  | F + 1, x5_10, x3_11 => if z_1 ≤ x5_10 then (k22_45 x5_10 x3_11) else (bd (mX4_howManyInRows p1_cells_f p1_size x4_5 x5_10) (fun z_12 => mX4_howMany_L22 p1_cells_f p1_size z_1 x4_5 k22_45 F (x5_10 + 1) (x3_11 + z_12)))
noncomputable def mX4_howMany_L10 (p1_cells_f : Nat → Int32) (p1_size : Int32) (z_1 : Int32) (k10_51 : Int32 → Int32 → Option (Int32)) : Nat → Int32 → Int32 → Option (Int32)
  | 0, _, _ => none
  | F + 1, x4_5, x3_6 => if z_1 ≤ x4_5 then (k10_51 x4_5 x3_6) else (mX4_howMany_L22 p1_cells_f p1_size z_1 x4_5 (fun (x5_7 : Int32) (x3_8 : Int32) => mX4_howMany_L10 p1_cells_f p1_size z_1 k10_51 F (x4_5 + 1) x3_8) FU (x4_5 + 1) x3_6)
noncomputable def mX4_howMany (p1_cells_f : Nat → Int32) (p1_size : Int32) : Option (Int32) :=
  bd (mX6_size p1_size) (fun z_1 => mX4_howMany_L10 p1_cells_f p1_size z_1 (fun (x4_2 : Int32) (x3_3 : Int32) => some (x3_3)) FU 0 0)
set_option maxHeartbeats 8000000 in
set_option maxRecDepth 100000 in
theorem kX4_howMany (l : Launch) (D : va_G) (cI cC cT : ClassId) (h h_swapped h_swapped_cells p1 p1_cells : Nat) (h_swapped_cells_f : Nat → Int32) (h_swapped_size : Int32) (h_lesserRow : Int32) (h_greaterRow : Int32) (h_lesserColumn : Int32) (h_greaterColumn : Int32) (h_mostTriples : Int32) (p1_cells_f : Nat → Int32) (p1_size : Int32) (z : Int32) (h0 : mX4_howMany p1_cells_f p1_size = some z) : Met l yX4_howMany wsX4_howMany ({ frames := 3, cells := 0, slots := 0, locals := 73 } : Room) (va_Pc [.ref h, .ref p1] (rP D cI cC cT [(h, .inr (3, [.ref h_swapped, .int h_lesserRow, .int h_greaterRow, .int h_lesserColumn, .int h_greaterColumn, .int h_mostTriples])), (h_swapped, .inr (5, [.ref h_swapped_cells, .int h_swapped_size])), (h_swapped_cells, .inl (cI, 64, .inl h_swapped_cells_f)), (p1, .inr (5, [.ref p1_cells, .int p1_size])), (p1_cells, .inl (cI, 64, .inl p1_cells_f))])) (rQ (some (.int z))) 0 0 (fun _ => False) := by
  refine Met.ofW (cc := cX4_howMany) (maxL := 6) (ret := (some .int)) (by decide) rfl ?_
  intro p e s m args below meth c s₁ B hml hv
  obtain ⟨rfl, hP, hE⟩ := hv
  have hx := B.exec
  have hb := B.bytes
  have hr := B.returns
  have hts := atoms_spec (ws := wsX4_howMany) B.pre
  have hown : s.vm.findClass RX4 = some m.cls := findClass_of_methodNamed B.named
  have hlocks := B.notSynchronized
  have hK := hE.1
  have hcf : CallFix p m c cX4_howMany 6 s ([.ref h, .ref p1] : List Value).toArray wsX4_howMany RX4 := ⟨hx, hb, hml, hown, hts⟩
  have hP : va_P D vwCl [(h, .inr (3, [.ref h_swapped, .int h_lesserRow, .int h_greaterRow, .int h_lesserColumn, .int h_greaterColumn, .int h_mostTriples])), (h_swapped, .inr (5, [.ref h_swapped_cells, .int h_swapped_size])), (h_swapped_cells, .inl (cI, 64, .inl h_swapped_cells_f)), (p1, .inr (5, [.ref p1_cells, .int p1_size])), (p1_cells, .inl (cI, 64, .inl p1_cells_f))] s.heap := hP
  have hl := lv_entry ([.ref h, .ref p1]) (n := 6) (Nat.le_of_ble_eq_true rfl)
  rw [lg_entry_eq]
  generalize (lg_sl ([.ref h, .ref p1]) ++ List.replicate (6 - (lg_sl ([.ref h, .ref p1])).length) Slot.unset).toArray = ls at hl ⊢
  have hl : lv_has ls 6 [(0, .ref h), (1, .ref p1)] := hl
  unfold mX4_howMany at h0
  refine lv_aload_n hx hb dX4_howMany_0 rfl (lv_at hl 1 rfl) ?_
  obtain ⟨z_1, hz, h0⟩ := bd_ok h0
  refine ro_V (As := []) (rest := []) (wc := [(p1, .inr (5, [.ref p1_cells, .int p1_size])), (p1_cells, .inl (cI, 64, .inl p1_cells_f))]) hcf (kX6_size l D cI cC cT p1 p1_cells p1_cells_f p1_size z_1 hz) (cwV 0 hts gX4_howMany_X6_size rfl rfl rfl (by decide +kernel) ⟨Nat.le_of_ble_eq_true rfl, Nat.le_of_ble_eq_true rfl⟩) hE (hP.sub [3, 4] rfl) (va_recv hK hP (ci := 5) (q0 := 3) rfl rfl) rfl hl.1 rfl (Nat.le_of_ble_eq_true rfl) dX4_howMany_1 ⟨Nat.le_of_ble_eq_true rfl, Nat.le_of_ble_eq_true rfl⟩ ?_
  refine W.eq (g2 := F0 m 4 ls [.int z_1]) rfl ?_
  refine lv_istore_n (lv' := [(2, .int z_1), (0, .ref h), (1, .ref p1)]) hx hb dX4_howMany_4 rfl hl (by decide) rfl (fun ls hl => ?_)
  refine lv_iconst (v := 0) hx hb dX4_howMany_5 (by decide) ?_
  refine lv_istore_n (lv' := [(3, .int 0), (2, .int z_1), (0, .ref h), (1, .ref p1)]) hx hb dX4_howMany_6 rfl hl (by decide) rfl (fun ls hl => ?_)
  refine lv_iconst (v := 0) hx hb dX4_howMany_7 (by decide) ?_
  refine lv_istore (lv' := [(4, .int 0), (3, .int 0), (2, .int z_1), (0, .ref h), (1, .ref p1)]) hx hb dX4_howMany_8 hl (by decide) rfl (fun ls hl => ?_)
  have E_10_51_3 : ∀ (x4_2 : Int32) (x3_3 : Int32) (ls : Array Slot), (some (x3_3)) = some z → lv_has ls 6 [(4, .int x4_2), (3, .int x3_3), (2, .int z_1), (0, .ref h), (1, .ref p1)] → W p l e (headSpec wsX4_howMany ({ frames := 3, cells := 0, slots := 0, locals := 73 } : Room)).room s m (([.ref h, .ref p1] : List Value).toArray) below meth c s.heap [] 0 0 (MQ below (rQ (some (.int z))) (([.ref h, .ref p1] : List Value).toArray) s 0 0 (fun _ => False)) (F0 m 51 ls []) := by
    intro x4_2 x3_3 ls h0 hl
    refine lv_iload_n hx hb dX4_howMany_51 rfl (lv_at hl 1 rfl) ?_
    have e0 := Option.some.inj h0
    subst e0
    exact W.iret (v := x3_3) hx hb hr (fun t ht hW => ⟨rfl, ht⟩) (fun q hq => absurd hq List.not_mem_nil) dX4_howMany_52
  have L_10_13 : ∀ (F10 : Nat) (x4_5 : Int32) (x3_6 : Int32) (ls : Array Slot), mX4_howMany_L10 p1_cells_f p1_size z_1 (fun (x4_2 : Int32) (x3_3 : Int32) => some (x3_3)) F10 x4_5 x3_6 = some z → lv_has ls 6 [(4, .int x4_5), (3, .int x3_6), (2, .int z_1), (0, .ref h), (1, .ref p1)] → W p l e (headSpec wsX4_howMany ({ frames := 3, cells := 0, slots := 0, locals := 73 } : Room)).room s m (([.ref h, .ref p1] : List Value).toArray) below meth c s.heap [] 0 0 (MQ below (rQ (some (.int z))) (([.ref h, .ref p1] : List Value).toArray) s 0 0 (fun _ => False)) (F0 m 10 ls []) := by
    intro F10
    induction F10 with
    | zero => intro x4_5 x3_6 ls h0 hl; cases h0
    | succ F10 ih10 =>
      intro x4_5 x3_6 ls h0 hl
      rw [mX4_howMany_L10] at h0
      refine lv_iload hx hb dX4_howMany_10 (lv_at hl 0 rfl) ?_
      refine lv_iload_n hx hb dX4_howMany_12 rfl (lv_at hl 2 rfl) ?_
      refine lv_icmp_ge (tgt := 51) hx hb dX4_howMany_13 (by decide) (fun c9 => ?_) (fun c9 => ?_)
      · have h0 := it_t c9 h0
        exact E_10_51_3 x4_5 x3_6 ls h0 hl
      · have h0 := it_f c9 h0
        refine lv_iload hx hb dX4_howMany_16 (lv_at hl 0 rfl) ?_
        refine lv_iconst (v := 1) hx hb dX4_howMany_18 (by decide) ?_
        refine lv_iadd hx hb dX4_howMany_19 ?_
        refine lv_istore (lv' := [(5, .int (x4_5 + 1)), (4, .int x4_5), (3, .int x3_6), (2, .int z_1), (0, .ref h), (1, .ref p1)]) hx hb dX4_howMany_20 hl (by decide) rfl (fun ls hl => ?_)
        have E_22_45_8 : ∀ (x5_7 : Int32) (x3_8 : Int32) (ls : Array Slot), (mX4_howMany_L10 p1_cells_f p1_size z_1 (fun (x4_2 : Int32) (x3_3 : Int32) => some (x3_3)) F10 (x4_5 + 1) x3_8) = some z → lv_has ls 6 [(5, .int x5_7), (4, .int x4_5), (3, .int x3_8), (2, .int z_1), (0, .ref h), (1, .ref p1)] → W p l e (headSpec wsX4_howMany ({ frames := 3, cells := 0, slots := 0, locals := 73 } : Room)).room s m (([.ref h, .ref p1] : List Value).toArray) below meth c s.heap [] 0 0 (MQ below (rQ (some (.int z))) (([.ref h, .ref p1] : List Value).toArray) s 0 0 (fun _ => False)) (F0 m 45 ls []) := by
          intro x5_7 x3_8 ls h0 hl
          refine lv_iinc (v := (x4_5 + 1)) (lv' := [(4, .int (x4_5 + 1)), (5, .int x5_7), (3, .int x3_8), (2, .int z_1), (0, .ref h), (1, .ref p1)]) hx hb dX4_howMany_45 hl (k := 1) rfl rfl (by decide) rfl (fun ls hl => ?_)
          refine lv_goto (tgt := 10) hx hb dX4_howMany_48 (by decide) ?_
          exact ih10 (x4_5 + 1) x3_8 ls h0 (lv_sub hl [0, 2, 3, 4, 5] rfl)
        have L_22_12 : ∀ (F22 : Nat) (x5_10 : Int32) (x3_11 : Int32) (ls : Array Slot), mX4_howMany_L22 p1_cells_f p1_size z_1 x4_5 (fun (x5_7 : Int32) (x3_8 : Int32) => mX4_howMany_L10 p1_cells_f p1_size z_1 (fun (x4_2 : Int32) (x3_3 : Int32) => some (x3_3)) F10 (x4_5 + 1) x3_8) F22 x5_10 x3_11 = some z → lv_has ls 6 [(5, .int x5_10), (4, .int x4_5), (3, .int x3_11), (2, .int z_1), (0, .ref h), (1, .ref p1)] → W p l e (headSpec wsX4_howMany ({ frames := 3, cells := 0, slots := 0, locals := 73 } : Room)).room s m (([.ref h, .ref p1] : List Value).toArray) below meth c s.heap [] 0 0 (MQ below (rQ (some (.int z))) (([.ref h, .ref p1] : List Value).toArray) s 0 0 (fun _ => False)) (F0 m 22 ls []) := by
          intro F22
          induction F22 with
          | zero => intro x5_10 x3_11 ls h0 hl; cases h0
          | succ F22 ih22 =>
            intro x5_10 x3_11 ls h0 hl
            rw [mX4_howMany_L22] at h0
            refine lv_iload hx hb dX4_howMany_22 (lv_at hl 0 rfl) ?_
            refine lv_iload_n hx hb dX4_howMany_24 rfl (lv_at hl 3 rfl) ?_
            refine lv_icmp_ge (tgt := 45) hx hb dX4_howMany_25 (by decide) (fun c9 => ?_) (fun c9 => ?_)
            · have h0 := it_t c9 h0
              exact E_22_45_8 x5_10 x3_11 ls h0 hl
            · have h0 := it_f c9 h0
              refine lv_iload_n hx hb dX4_howMany_28 rfl (lv_at hl 2 rfl) ?_
              refine lv_aload_n hx hb dX4_howMany_29 rfl (lv_at hl 5 rfl) ?_
              refine lv_iload hx hb dX4_howMany_30 (lv_at hl 1 rfl) ?_
              refine lv_iload hx hb dX4_howMany_32 (lv_at hl 0 rfl) ?_
              obtain ⟨z_12, hz, h0⟩ := bd_ok h0
              refine ro_S (As := [.ref p1, .int x4_5, .int x5_10]) (rest := [.int x3_11]) (wc := [(p1, .inr (5, [.ref p1_cells, .int p1_size])), (p1_cells, .inl (cI, 64, .inl p1_cells_f))]) hcf (kX4_howManyInRows l D cI cC cT p1 p1_cells p1_cells_f p1_size x4_5 x5_10 z_12 hz) (va_cwS 3 hts gX4_howMany_X4_howManyInRows rfl rfl rfl (by decide +kernel) ⟨Nat.le_of_ble_eq_true rfl, Nat.le_of_ble_eq_true rfl⟩) hE (hP.sub [3, 4] rfl) rfl hl.1 rfl (Nat.le_of_ble_eq_true rfl) dX4_howMany_34 ⟨Nat.le_of_ble_eq_true rfl, Nat.le_of_ble_eq_true rfl⟩ ?_
              refine W.eq (g2 := F0 m 37 ls [.int z_12, .int x3_11]) rfl ?_
              refine lv_iadd hx hb dX4_howMany_37 ?_
              refine lv_istore_n (lv' := [(3, .int (x3_11 + z_12)), (5, .int x5_10), (4, .int x4_5), (2, .int z_1), (0, .ref h), (1, .ref p1)]) hx hb dX4_howMany_38 rfl hl (by decide) rfl (fun ls hl => ?_)
              refine lv_iinc (v := (x5_10 + 1)) (lv' := [(5, .int (x5_10 + 1)), (3, .int (x3_11 + z_12)), (4, .int x4_5), (2, .int z_1), (0, .ref h), (1, .ref p1)]) hx hb dX4_howMany_39 hl (k := 1) rfl rfl (by decide) rfl (fun ls hl => ?_)
              refine lv_goto (tgt := 22) hx hb dX4_howMany_42 (by decide) ?_
              exact ih22 (x5_10 + 1) (x3_11 + z_12) ls h0 (lv_sub hl [0, 2, 1, 3, 4, 5] rfl)
        exact L_22_12 FU (x4_5 + 1) x3_6 ls h0 hl
  exact L_10_13 FU 0 0 ls h0 hl
noncomputable def mX4_tellBest (h_lesserRow : Int32) (h_greaterRow : Int32) (h_lesserColumn : Int32) (h_greaterColumn : Int32) (h_mostTriples : Int32) (p1 : Int32) : Option (Int32) :=
  if p1 = 0 then (some (h_lesserRow)) else (if p1 = 1 then (some (h_greaterRow)) else (if p1 = 2 then (some (h_lesserColumn)) else (if p1 = 3 then (some (h_greaterColumn)) else (some (h_mostTriples)))))
set_option maxHeartbeats 8000000 in
set_option maxRecDepth 100000 in
theorem kX4_tellBest (l : Launch) (D : va_G) (cI cC cT : ClassId) (h h_swapped h_swapped_cells : Nat) (h_swapped_cells_f : Nat → Int32) (h_swapped_size : Int32) (h_lesserRow : Int32) (h_greaterRow : Int32) (h_lesserColumn : Int32) (h_greaterColumn : Int32) (h_mostTriples : Int32) (p1 : Int32) (z : Int32) (h0 : mX4_tellBest h_lesserRow h_greaterRow h_lesserColumn h_greaterColumn h_mostTriples p1 = some z) : Met l yX4_tellBest wsX4_tellBest ({ frames := 0, cells := 0, slots := 0, locals := 0 } : Room) (va_Pc [.ref h, .int p1] (rP D cI cC cT [(h, .inr (3, [.ref h_swapped, .int h_lesserRow, .int h_greaterRow, .int h_lesserColumn, .int h_greaterColumn, .int h_mostTriples])), (h_swapped, .inr (5, [.ref h_swapped_cells, .int h_swapped_size])), (h_swapped_cells, .inl (cI, 64, .inl h_swapped_cells_f))])) (rQ (some (.int z))) 0 0 (fun _ => False) := by
  refine Met.ofW (cc := cX4_tellBest) (maxL := 2) (ret := (some .int)) (by decide) rfl ?_
  intro p e s m args below meth c s₁ B hml hv
  obtain ⟨rfl, hP, hE⟩ := hv
  have hx := B.exec
  have hb := B.bytes
  have hr := B.returns
  have hts := atoms_spec (ws := wsX4_tellBest) B.pre
  have hown : s.vm.findClass RX4 = some m.cls := findClass_of_methodNamed B.named
  have hlocks := B.notSynchronized
  have hK := hE.1
  have hcf : CallFix p m c cX4_tellBest 2 s ([.ref h, .int p1] : List Value).toArray wsX4_tellBest RX4 := ⟨hx, hb, hml, hown, hts⟩
  have hP : va_P D vwCl [(h, .inr (3, [.ref h_swapped, .int h_lesserRow, .int h_greaterRow, .int h_lesserColumn, .int h_greaterColumn, .int h_mostTriples])), (h_swapped, .inr (5, [.ref h_swapped_cells, .int h_swapped_size])), (h_swapped_cells, .inl (cI, 64, .inl h_swapped_cells_f))] s.heap := hP
  have hf_55 := hts (.fieldLink RX4 55 "CrookedSums$Squares" "lesserRow" "I") (by decide +kernel)
  have hi_X4 := (show ∀ w ∈ u_ws RX4 TX4 6, w ∈ wsX4_tellBest from by decide +kernel)
  have hf_58 := hts (.fieldLink RX4 58 "CrookedSums$Squares" "greaterRow" "I") (by decide +kernel)
  have hf_61 := hts (.fieldLink RX4 61 "CrookedSums$Squares" "lesserColumn" "I") (by decide +kernel)
  have hf_64 := hts (.fieldLink RX4 64 "CrookedSums$Squares" "greaterColumn" "I") (by decide +kernel)
  have hf_30 := hts (.fieldLink RX4 30 "CrookedSums$Squares" "mostTriples" "I") (by decide +kernel)
  have hl := lv_entry ([.ref h, .int p1]) (n := 2) (Nat.le_of_ble_eq_true rfl)
  rw [lg_entry_eq]
  generalize (lg_sl ([.ref h, .int p1]) ++ List.replicate (2 - (lg_sl ([.ref h, .int p1])).length) Slot.unset).toArray = ls at hl ⊢
  have hl : lv_has ls 2 [(0, .ref h), (1, .int p1)] := hl
  unfold mX4_tellBest at h0
  refine lv_iload_n hx hb dX4_tellBest_0 rfl (lv_at hl 1 rfl) ?_
  by_cases c_1 : p1 = 0
  · have h0 := it_t c_1 h0
    refine lv_tableIn (tgt := 32) hx hb dX4_tellBest_1 (by rw [c_1]; decide) (by rw [c_1]; decide) (by rw [c_1]; rfl) (by decide) ?_
    refine lv_aload_n hx hb dX4_tellBest_32 rfl (lv_at hl 0 rfl) ?_
    refine va_get (D := D) (ci := 3) (v := .int h_lesserRow) (C := RX4) (T := TX4) (N := 6) hx hb hts hi_X4 hown hK hP 0 rfl rfl 1 (by decide) hf_55 (fun _ h9 => h9) rfl dX4_tellBest_33 ?_
    have e0 := Option.some.inj h0
    subst e0
    exact W.iret (v := h_lesserRow) hx hb hr (fun t ht hW => ⟨rfl, ht⟩) (fun q hq => absurd hq List.not_mem_nil) dX4_tellBest_36
  · have h0 := it_f c_1 h0
    by_cases c_2 : p1 = 1
    · have h0 := it_t c_2 h0
      refine lv_tableIn (tgt := 37) hx hb dX4_tellBest_1 (by rw [c_2]; decide) (by rw [c_2]; decide) (by rw [c_2]; rfl) (by decide) ?_
      refine lv_aload_n hx hb dX4_tellBest_37 rfl (lv_at hl 0 rfl) ?_
      refine va_get (D := D) (ci := 3) (v := .int h_greaterRow) (C := RX4) (T := TX4) (N := 6) hx hb hts hi_X4 hown hK hP 0 rfl rfl 2 (by decide) hf_58 (fun _ h9 => h9) rfl dX4_tellBest_38 ?_
      have e0 := Option.some.inj h0
      subst e0
      exact W.iret (v := h_greaterRow) hx hb hr (fun t ht hW => ⟨rfl, ht⟩) (fun q hq => absurd hq List.not_mem_nil) dX4_tellBest_41
    · have h0 := it_f c_2 h0
      by_cases c_3 : p1 = 2
      · have h0 := it_t c_3 h0
        refine lv_tableIn (tgt := 42) hx hb dX4_tellBest_1 (by rw [c_3]; decide) (by rw [c_3]; decide) (by rw [c_3]; rfl) (by decide) ?_
        refine lv_aload_n hx hb dX4_tellBest_42 rfl (lv_at hl 0 rfl) ?_
        refine va_get (D := D) (ci := 3) (v := .int h_lesserColumn) (C := RX4) (T := TX4) (N := 6) hx hb hts hi_X4 hown hK hP 0 rfl rfl 3 (by decide) hf_61 (fun _ h9 => h9) rfl dX4_tellBest_43 ?_
        have e0 := Option.some.inj h0
        subst e0
        exact W.iret (v := h_lesserColumn) hx hb hr (fun t ht hW => ⟨rfl, ht⟩) (fun q hq => absurd hq List.not_mem_nil) dX4_tellBest_46
      · have h0 := it_f c_3 h0
        by_cases c_4 : p1 = 3
        · have h0 := it_t c_4 h0
          refine lv_tableIn (tgt := 47) hx hb dX4_tellBest_1 (by rw [c_4]; decide) (by rw [c_4]; decide) (by rw [c_4]; rfl) (by decide) ?_
          refine lv_aload_n hx hb dX4_tellBest_47 rfl (lv_at hl 0 rfl) ?_
          refine va_get (D := D) (ci := 3) (v := .int h_greaterColumn) (C := RX4) (T := TX4) (N := 6) hx hb hts hi_X4 hown hK hP 0 rfl rfl 4 (by decide) hf_64 (fun _ h9 => h9) rfl dX4_tellBest_48 ?_
          have e0 := Option.some.inj h0
          subst e0
          exact W.iret (v := h_greaterColumn) hx hb hr (fun t ht hW => ⟨rfl, ht⟩) (fun q hq => absurd hq List.not_mem_nil) dX4_tellBest_51
        · have h0 := it_f c_4 h0
          refine lv_tableOut (tgt := 52) hx hb dX4_tellBest_1 (by have a0 := sw_ne 0 0 (by decide) c_1; have a1 := sw_ne 1 1 (by decide) c_2; have a2 := sw_ne 2 2 (by decide) c_3; have a3 := sw_ne 3 3 (by decide) c_4; omega) (by decide) ?_
          refine lv_aload_n hx hb dX4_tellBest_52 rfl (lv_at hl 0 rfl) ?_
          refine va_get (D := D) (ci := 3) (v := .int h_mostTriples) (C := RX4) (T := TX4) (N := 6) hx hb hts hi_X4 hown hK hP 0 rfl rfl 5 (by decide) hf_30 (fun _ h9 => h9) rfl dX4_tellBest_53 ?_
          have e0 := Option.some.inj h0
          subst e0
          exact W.iret (v := h_mostTriples) hx hb hr (fun t ht hW => ⟨rfl, ht⟩) (fun q hq => absurd hq List.not_mem_nil) dX4_tellBest_56
