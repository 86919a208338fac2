noncomputable def mX3_init  : Option ((Nat → Int32) × (Nat → Int32) × Int32) :=
  some ((fun _ => 0), (fun _ => 0), 0)
set_option maxHeartbeats 8000000 in
set_option maxRecDepth 100000 in
theorem kX3_init (l : Launch) (D : va_G) (cI cC cT : ClassId) (h : Nat) (sz : Nat) (z : (Nat → Int32) × (Nat → Int32) × Int32) (h0 : mX3_init  = some z) : Met l yX3_init wsX3_init ({ frames := 1, cells := 2, slots := 455, locals := 20 } : Room) (va_Pc [.ref h] (wP D cI cC cT [(h, .inr (2, [.null, .null, .int 0]))] sz)) (wQ D none (va_A [(h, .inr (2, [.null, .null, .int 0]))] sz) (fun (u : Nat × Nat) => [(h, .inr (2, [.ref u.1, .ref u.2, .int z.2.2])), (u.1, .inl (cI, 7, .inl z.1)), (u.2, .inl (cI, 448, .inl z.2.1))])) 2 455 (va_A [(h, .inr (2, [.null, .null, .int 0]))] sz) := by
  refine Met.ofW (cc := cX3_init) (maxL := 1) (ret := none) (by decide) rfl ?_
  intro p e s m args below meth c s₁ B hml hv
  obtain ⟨rfl, hsz, hP, hE, hD0⟩ := hv
  have hx := B.exec
  have hb := B.bytes
  have hr := B.returns
  have hts := atoms_spec (ws := wsX3_init) B.pre
  have hown : s.vm.findClass RX3 = some m.cls := findClass_of_methodNamed B.named
  have hlocks := B.notSynchronized
  have hK := hE.1
  have hcf : CallFix p m c cX3_init 1 s ([.ref h] : List Value).toArray wsX3_init RX3 := ⟨hx, hb, hml, hown, hts⟩
  have hin : meth.name = "<init>" := (name_of_methodNamed B.named B.method).1
  subst hsz
  have hD := hD0.self (sz := s.heap.size)
  generalize hAe : va_A [(h, .inr (2, [.null, .null, .int 0]))] s.heap.size = A at hD ⊢
  have hA : ∀ q : Nat, s.heap.size ≤ q → A q := fun q h => by rw [← hAe]; exact Or.inr h
  have hS : va_S A s.heap s.heap [] := va_S.rf
  have hP : va_P D vwCl [(h, .inr (2, [.null, .null, .int 0]))] s.heap := hP
  have hf_11 := hts (.fieldLink RX3 11 "CrookedSums$RowText" "row" "[I") (by decide +kernel)
  have hi_X3 := (show ∀ w ∈ u_ws RX3 TX3 3, w ∈ wsX3_init from by decide +kernel)
  have hf_15 := hts (.fieldLink RX3 15 "CrookedSums$RowText" "parts" "[I") (by decide +kernel)
  have hl := lv_entry ([.ref h]) (n := 1) (Nat.le_of_ble_eq_true rfl)
  rw [lg_entry_eq]
  generalize (lg_sl ([.ref h]) ++ List.replicate (1 - (lg_sl ([.ref h])).length) Slot.unset).toArray = ls at hl ⊢
  have hl : lv_has ls 1 [(0, .ref h)] := hl
  unfold mX3_init at h0
  refine lv_aload_n hx hb dX3_init_0 rfl (lv_at hl 0 rfl) ?_
  refine W.objInit hx hb hown (hts (.methodLink RX3 3 objectInit) (by decide +kernel)) (hts (.instanceMethod objectInit) (by decide +kernel)) (hts (.code objectInit ⟨#[0xb1]⟩ 1 none) (by decide +kernel)) rfl (by rw [hml]; exact hl.1) rfl dX3_init_1 (Nat.le_of_ble_eq_true rfl) (Nat.le_of_ble_eq_true rfl) ?_
  refine W.eq (g2 := F0 m 4 ls []) rfl ?_
  refine lv_aload_n hx hb dX3_init_4 rfl (lv_at hl 0 rfl) ?_
  refine lv_bipush (v := 7) hx hb dX3_init_5 (by decide) ?_
  refine va_newa (atype := .int) (ty := .int) (N' := 7) (a0 := (7, .inl (fun _ => 0))) hx hb (hts (.arrayClass .int) (by decide +kernel)) rfl hK hP hD hS hA (fun cA => rfl) (by decide) (by decide) (Nat.le_of_ble_eq_true rfl) (Nat.le_of_ble_eq_true rfl) (Nat.le_of_ble_eq_true rfl) dX3_init_7 (fun q_1 cA H hK2 hP hD hS => ?_)
  have ecA := eK_int hK hK2
  subst ecA
  have hP : va_P D vwCl [(h, .inr (2, [.null, .null, .int 0])), (q_1, .inl (cI, 7, .inl (fun _ => 0)))] H := hP
  have hD : va_D A [(h, .inr (2, [.null, .null, .int 0])), (q_1, .inl (cI, 7, .inl (fun _ => 0)))] := hD
  refine va_putF (D := D) (ci := 2) (v := .ref q_1) (ty := (.array .int)) (C := RX3) (T := TX3) (N := 3) hx hb hts hi_X3 tyX3 tyX3_ok nmX3 hown hK hP hD hS 0 rfl rfl 0 (by decide) hf_11 (fun _ h9 => h9) rfl hin rfl (by decide +kernel) rfl rfl (Nat.le_of_ble_eq_true rfl) dX3_init_9 (fun H locs hP hD hS => ?_)
  have hP : va_P D vwCl [(h, .inr (2, [.ref q_1, .null, .int 0])), (q_1, .inl (cI, 7, .inl (fun _ => 0)))] H := hP
  have hD : va_D A [(h, .inr (2, [.ref q_1, .null, .int 0])), (q_1, .inl (cI, 7, .inl (fun _ => 0)))] := hD
  refine lv_aload_n hx hb dX3_init_12 rfl (lv_at hl 0 rfl) ?_
  refine lv_sipush (v := 448) hx hb dX3_init_13 (by decide) ?_
  refine va_newa (atype := .int) (ty := .int) (N' := 448) (a0 := (448, .inl (fun _ => 0))) hx hb (hts (.arrayClass .int) (by decide +kernel)) rfl hK hP hD hS hA (fun cA => rfl) (by decide) (by decide) (Nat.le_of_ble_eq_true rfl) (Nat.le_of_ble_eq_true rfl) (Nat.le_of_ble_eq_true rfl) dX3_init_16 (fun q_2 cA H hK2 hP hD hS => ?_)
  have ecA := eK_int hK hK2
  subst ecA
  have hP : va_P D vwCl [(h, .inr (2, [.ref q_1, .null, .int 0])), (q_1, .inl (cI, 7, .inl (fun _ => 0))), (q_2, .inl (cI, 448, .inl (fun _ => 0)))] H := hP
  have hD : va_D A [(h, .inr (2, [.ref q_1, .null, .int 0])), (q_1, .inl (cI, 7, .inl (fun _ => 0))), (q_2, .inl (cI, 448, .inl (fun _ => 0)))] := hD
  refine va_putF (D := D) (ci := 2) (v := .ref q_2) (ty := (.array .int)) (C := RX3) (T := TX3) (N := 3) hx hb hts hi_X3 tyX3 tyX3_ok nmX3 hown hK hP hD hS 0 rfl rfl 1 (by decide) hf_15 (fun _ h9 => h9) rfl hin rfl (by decide +kernel) rfl rfl (Nat.le_of_ble_eq_true rfl) dX3_init_18 (fun H locs hP hD hS => ?_)
  have hP : va_P D vwCl [(h, .inr (2, [.ref q_1, .ref q_2, .int 0])), (q_1, .inl (cI, 7, .inl (fun _ => 0))), (q_2, .inl (cI, 448, .inl (fun _ => 0)))] H := hP
  have hD : va_D A [(h, .inr (2, [.ref q_1, .ref q_2, .int 0])), (q_1, .inl (cI, 7, .inl (fun _ => 0))), (q_2, .inl (cI, 448, .inl (fun _ => 0)))] := hD
  have e0 := Option.some.inj h0
  subst e0
  refine W.widen (k := 2) (n := 455) (Nat.le_of_ble_eq_true rfl) (Nat.le_of_ble_eq_true rfl) ?_
  exact W.vret hx hb hr (fun t ht hW => wr_end (q_1, q_2) ht (hP.sub [0, 1, 2] rfl) (hD.sub [0, 1, 2] (by decide) rfl) hS) hS.2.2 dX3_init_21
noncomputable def mX3_partPlace (p1 : Int32) (p2 : Int32) (p3 : Int32) : Option (Int32) :=
  some (((((p1 * 8) + p2) * 8) + p3))
set_option maxHeartbeats 8000000 in
set_option maxRecDepth 100000 in
theorem kX3_partPlace (l : Launch) (D : va_G) (cI cC cT : ClassId) (p1 : Int32) (p2 : Int32) (p3 : Int32) (z : Int32) (h0 : mX3_partPlace p1 p2 p3 = some z) : Met l yX3_partPlace wsX3_partPlace ({ frames := 0, cells := 0, slots := 0, locals := 0 } : Room) (va_Pc [.int p1, .int p2, .int p3] (rP D cI cC cT [])) (rQ (some (.int z))) 0 0 (fun _ => False) := by
  refine Met.ofW (cc := cX3_partPlace) (maxL := 3) (ret := (some .int)) (by decide) rfl ?_
  intro p e s m args below meth c s₁ B hml hv
  obtain ⟨rfl, hP, hE⟩ := hv
  have hx := B.exec
  have hb := B.bytes
  have hr := B.returns
  have hts := atoms_spec (ws := wsX3_partPlace) B.pre
  have hown : s.vm.findClass RX3 = some m.cls := findClass_of_methodNamed B.named
  have hlocks := B.notSynchronized
  have hK := hE.1
  have hcf : CallFix p m c cX3_partPlace 3 s ([.int p1, .int p2, .int p3] : List Value).toArray wsX3_partPlace RX3 := ⟨hx, hb, hml, hown, hts⟩
  have hP : va_P D vwCl [] s.heap := hP
  have hl := lv_entry ([.int p1, .int p2, .int p3]) (n := 3) (Nat.le_of_ble_eq_true rfl)
  rw [lg_entry_eq]
  generalize (lg_sl ([.int p1, .int p2, .int p3]) ++ List.replicate (3 - (lg_sl ([.int p1, .int p2, .int p3])).length) Slot.unset).toArray = ls at hl ⊢
  have hl : lv_has ls 3 [(0, .int p1), (1, .int p2), (2, .int p3)] := hl
  unfold mX3_partPlace at h0
  refine lv_iload_n hx hb dX3_partPlace_0 rfl (lv_at hl 0 rfl) ?_
  refine lv_bipush (v := 8) hx hb dX3_partPlace_1 (by decide) ?_
  refine lv_imul hx hb dX3_partPlace_3 ?_
  refine lv_iload_n hx hb dX3_partPlace_4 rfl (lv_at hl 1 rfl) ?_
  refine lv_iadd hx hb dX3_partPlace_5 ?_
  refine lv_bipush (v := 8) hx hb dX3_partPlace_6 (by decide) ?_
  refine lv_imul hx hb dX3_partPlace_8 ?_
  refine lv_iload_n hx hb dX3_partPlace_9 rfl (lv_at hl 2 rfl) ?_
  refine lv_iadd hx hb dX3_partPlace_10 ?_
  have e0 := Option.some.inj h0
  subst e0
  exact W.iret (v := ((((p1 * 8) + p2) * 8) + p3)) hx hb hr (fun t ht hW => ⟨rfl, ht⟩) (fun q hq => absurd hq List.not_mem_nil) dX3_partPlace_11
noncomputable def mX3_partWays (h_parts_f : Nat → Int32) (p1 : Int32) (p2 : Int32) (p3 : Int32) : Option (Int32) :=
  bd (mX3_partPlace p1 p2 p3) (fun z_1 => bd (mX9_get 448 h_parts_f z_1) (fun z_2 => some (z_2)))
set_option maxHeartbeats 8000000 in
set_option maxRecDepth 100000 in
theorem kX3_partWays (l : Launch) (D : va_G) (cI cC cT : ClassId) (h h_row h_parts : Nat) (h_row_f : Nat → Int32) (h_parts_f : Nat → Int32) (h_length : Int32) (p1 : Int32) (p2 : Int32) (p3 : Int32) (z : Int32) (h0 : mX3_partWays h_parts_f p1 p2 p3 = some z) : Met l yX3_partWays wsX3_partWays ({ frames := 1, cells := 0, slots := 0, locals := 22 } : Room) (va_Pc [.ref h, .int p1, .int p2, .int p3] (rP D cI cC cT [(h, .inr (2, [.ref h_row, .ref h_parts, .int h_length])), (h_row, .inl (cI, 7, .inl h_row_f)), (h_parts, .inl (cI, 448, .inl h_parts_f))])) (rQ (some (.int z))) 0 0 (fun _ => False) := by
  refine Met.ofW (cc := cX3_partWays) (maxL := 4) (ret := (some .int)) (by decide) rfl ?_
  intro p e s m args below meth c s₁ B hml hv
  obtain ⟨rfl, hP, hE⟩ := hv
  have hx := B.exec
  have hb := B.bytes
  have hr := B.returns
  have hts := atoms_spec (ws := wsX3_partWays) B.pre
  have hown : s.vm.findClass RX3 = some m.cls := findClass_of_methodNamed B.named
  have hlocks := B.notSynchronized
  have hK := hE.1
  have hcf : CallFix p m c cX3_partWays 4 s ([.ref h, .int p1, .int p2, .int p3] : List Value).toArray wsX3_partWays RX3 := ⟨hx, hb, hml, hown, hts⟩
  have hP : va_P D vwCl [(h, .inr (2, [.ref h_row, .ref h_parts, .int h_length])), (h_row, .inl (cI, 7, .inl h_row_f)), (h_parts, .inl (cI, 448, .inl h_parts_f))] s.heap := hP
  have hf_15 := hts (.fieldLink RX3 15 "CrookedSums$RowText" "parts" "[I") (by decide +kernel)
  have hi_X3 := (show ∀ w ∈ u_ws RX3 TX3 3, w ∈ wsX3_partWays from by decide +kernel)
  have hini_X9 := hts (.initialized RX9) (by decide +kernel)
  have hst_X9_get := hts (.static yX9_get) (by decide +kernel)
  have hl := lv_entry ([.ref h, .int p1, .int p2, .int p3]) (n := 4) (Nat.le_of_ble_eq_true rfl)
  rw [lg_entry_eq]
  generalize (lg_sl ([.ref h, .int p1, .int p2, .int p3]) ++ List.replicate (4 - (lg_sl ([.ref h, .int p1, .int p2, .int p3])).length) Slot.unset).toArray = ls at hl ⊢
  have hl : lv_has ls 4 [(0, .ref h), (1, .int p1), (2, .int p2), (3, .int p3)] := hl
  unfold mX3_partWays at h0
  refine lv_aload_n hx hb dX3_partWays_0 rfl (lv_at hl 0 rfl) ?_
  refine va_get (D := D) (ci := 2) (v := .ref h_parts) (C := RX3) (T := TX3) (N := 3) hx hb hts hi_X3 hown hK hP 0 rfl rfl 1 (by decide) hf_15 (fun _ h9 => h9) rfl dX3_partWays_1 ?_
  refine lv_iload_n hx hb dX3_partWays_4 rfl (lv_at hl 1 rfl) ?_
  refine lv_iload_n hx hb dX3_partWays_5 rfl (lv_at hl 2 rfl) ?_
  refine lv_iload_n hx hb dX3_partWays_6 rfl (lv_at hl 3 rfl) ?_
  obtain ⟨z_1, hz, h0⟩ := bd_ok h0
  refine ro_S (As := [.int p1, .int p2, .int p3]) (rest := [.ref h_parts]) (wc := []) hcf (kX3_partPlace l D cI cC cT p1 p2 p3 z_1 hz) (va_cwS 3 hts gX3_partWays_X3_partPlace rfl rfl rfl (by decide +kernel) ⟨Nat.le_of_ble_eq_true rfl, Nat.le_of_ble_eq_true rfl⟩) hE (hP.sub [] rfl) rfl hl.1 rfl (Nat.le_of_ble_eq_true rfl) dX3_partWays_7 ⟨Nat.le_of_ble_eq_true rfl, Nat.le_of_ble_eq_true rfl⟩ ?_
  refine W.eq (g2 := F0 m 10 ls [.int z_1, .ref h_parts]) rfl ?_
  obtain ⟨z_2, hz, h0⟩ := bd_ok h0
  refine ro_SN (As := [.ref h_parts, .int z_1]) (rest := []) (wc := [(h_parts, .inl (cI, 448, .inl h_parts_f))]) hcf (kX9_get l D cI cC cT h_parts 448 h_parts_f z_1 z_2 hz) ⟨va_cnB (host := RX9) 2 hts gX3_partWays_X9_get_n52 rfl rfl rfl hE.2.2.2.1 hini_X9 (by decide +kernel) ⟨Nat.le_of_ble_eq_true rfl, Nat.le_of_ble_eq_true rfl⟩, hst_X9_get, trivial⟩ hE (hP.sub [2] rfl) rfl hl.1 rfl (Nat.le_of_ble_eq_true rfl) dX3_partWays_10 ⟨Nat.le_of_ble_eq_true rfl, Nat.le_of_ble_eq_true rfl⟩ ?_
  refine W.eq (g2 := F0 m 13 ls [.int z_2]) rfl ?_
  have e0 := Option.some.inj h0
  subst e0
  exact W.iret (v := z_2) hx hb hr (fun t ht hW => ⟨rfl, ht⟩) (fun q hq => absurd hq List.not_mem_nil) dX3_partWays_13
noncomputable def mX3_addWays (h_parts_f : Nat → Int32) (p1 : Int32) (p2 : Int32) (p3 : Int32) (p4 : Int32) : Option ((Nat → Int32)) :=
  bd (mX3_partPlace p1 p2 p3) (fun z_1 => bd (mX3_partWays h_parts_f p1 p2 p3) (fun z_2 => bd (mX9_put 448 h_parts_f z_1 (z_2 + p4)) (fun z_3 => some (z_3))))
set_option maxHeartbeats 8000000 in
set_option maxRecDepth 100000 in
theorem kX3_addWays (l : Launch) (D : va_G) (cI cC cT : ClassId) (h h_row h_parts : Nat) (h_row_f : Nat → Int32) (h_parts_f : Nat → Int32) (h_length : Int32) (p1 : Int32) (p2 : Int32) (p3 : Int32) (p4 : Int32) (sz : Nat) (z : (Nat → Int32)) (h0 : mX3_addWays h_parts_f p1 p2 p3 p4 = some z) : Met l yX3_addWays wsX3_addWays ({ frames := 2, cells := 0, slots := 0, locals := 45 } : Room) (va_Pc [.ref h, .int p1, .int p2, .int p3, .int p4] (wP D cI cC cT [(h, .inr (2, [.ref h_row, .ref h_parts, .int h_length])), (h_row, .inl (cI, 7, .inl h_row_f)), (h_parts, .inl (cI, 448, .inl h_parts_f))] sz)) (wQ D none (va_A [(h, .inr (2, [.ref h_row, .ref h_parts, .int h_length])), (h_row, .inl (cI, 7, .inl h_row_f)), (h_parts, .inl (cI, 448, .inl h_parts_f))] sz) (fun (u : Unit) => [(h, .inr (2, [.ref h_row, .ref h_parts, .int h_length])), (h_row, .inl (cI, 7, .inl h_row_f)), (h_parts, .inl (cI, 448, .inl z))])) 0 0 (va_A [(h, .inr (2, [.ref h_row, .ref h_parts, .int h_length])), (h_row, .inl (cI, 7, .inl h_row_f)), (h_parts, .inl (cI, 448, .inl h_parts_f))] sz) := by
  refine Met.ofW (cc := cX3_addWays) (maxL := 5) (ret := none) (by decide) rfl ?_
  intro p e s m args below meth c s₁ B hml hv
  obtain ⟨rfl, hsz, hP, hE, hD0⟩ := hv
  have hx := B.exec
  have hb := B.bytes
  have hr := B.returns
  have hts := atoms_spec (ws := wsX3_addWays) B.pre
  have hown : s.vm.findClass RX3 = some m.cls := findClass_of_methodNamed B.named
  have hlocks := B.notSynchronized
  have hK := hE.1
  have hcf : CallFix p m c cX3_addWays 5 s ([.ref h, .int p1, .int p2, .int p3, .int p4] : List Value).toArray wsX3_addWays RX3 := ⟨hx, hb, hml, hown, hts⟩
  subst hsz
  have hD := hD0.self (sz := s.heap.size)
  generalize hAe : va_A [(h, .inr (2, [.ref h_row, .ref h_parts, .int h_length])), (h_row, .inl (cI, 7, .inl h_row_f)), (h_parts, .inl (cI, 448, .inl h_parts_f))] s.heap.size = A at hD ⊢
  have hA : ∀ q : Nat, s.heap.size ≤ q → A q := fun q h => by rw [← hAe]; exact Or.inr h
  have hS : va_S A s.heap s.heap [] := va_S.rf
  have hP : va_P D vwCl [(h, .inr (2, [.ref h_row, .ref h_parts, .int h_length])), (h_row, .inl (cI, 7, .inl h_row_f)), (h_parts, .inl (cI, 448, .inl h_parts_f))] s.heap := hP
  have hf_15 := hts (.fieldLink RX3 15 "CrookedSums$RowText" "parts" "[I") (by decide +kernel)
  have hi_X3 := (show ∀ w ∈ u_ws RX3 TX3 3, w ∈ wsX3_addWays from by decide +kernel)
  have hini_X9 := hts (.initialized RX9) (by decide +kernel)
  have hst_X9_put := hts (.static yX9_put) (by decide +kernel)
  have hl := lv_entry ([.ref h, .int p1, .int p2, .int p3, .int p4]) (n := 5) (Nat.le_of_ble_eq_true rfl)
  rw [lg_entry_eq]
  generalize (lg_sl ([.ref h, .int p1, .int p2, .int p3, .int p4]) ++ List.replicate (5 - (lg_sl ([.ref h, .int p1, .int p2, .int p3, .int p4])).length) Slot.unset).toArray = ls at hl ⊢
  have hl : lv_has ls 5 [(0, .ref h), (1, .int p1), (2, .int p2), (3, .int p3), (4, .int p4)] := hl
  unfold mX3_addWays at h0
  refine lv_aload_n hx hb dX3_addWays_0 rfl (lv_at hl 0 rfl) ?_
  refine va_get (D := D) (ci := 2) (v := .ref h_parts) (C := RX3) (T := TX3) (N := 3) hx hb hts hi_X3 hown hK hP 0 rfl rfl 1 (by decide) hf_15 (fun _ h9 => h9) rfl dX3_addWays_1 ?_
  refine lv_iload_n hx hb dX3_addWays_4 rfl (lv_at hl 1 rfl) ?_
  refine lv_iload_n hx hb dX3_addWays_5 rfl (lv_at hl 2 rfl) ?_
  refine lv_iload_n hx hb dX3_addWays_6 rfl (lv_at hl 3 rfl) ?_
  obtain ⟨z_1, hz, h0⟩ := bd_ok h0
  refine ro_S (As := [.int p1, .int p2, .int p3]) (rest := [.ref h_parts]) (wc := []) hcf (kX3_partPlace l D cI cC cT p1 p2 p3 z_1 hz) (va_cwS 3 hts gX3_addWays_X3_partPlace rfl rfl rfl (by decide +kernel) ⟨Nat.le_of_ble_eq_true rfl, Nat.le_of_ble_eq_true rfl⟩) hE (hP.sub [] rfl) rfl hl.1 rfl (Nat.le_of_ble_eq_true rfl) dX3_addWays_7 ⟨Nat.le_of_ble_eq_true rfl, Nat.le_of_ble_eq_true rfl⟩ ?_
  refine W.eq (g2 := F0 m 10 ls [.int z_1, .ref h_parts]) rfl ?_
  refine lv_aload_n hx hb dX3_addWays_10 rfl (lv_at hl 0 rfl) ?_
  refine lv_iload_n hx hb dX3_addWays_11 rfl (lv_at hl 1 rfl) ?_
  refine lv_iload_n hx hb dX3_addWays_12 rfl (lv_at hl 2 rfl) ?_
  refine lv_iload_n hx hb dX3_addWays_13 rfl (lv_at hl 3 rfl) ?_
  obtain ⟨z_2, hz, h0⟩ := bd_ok h0
  refine ro_V (As := [.int p1, .int p2, .int p3]) (rest := [.int z_1, .ref h_parts]) (wc := [(h, .inr (2, [.ref h_row, .ref h_parts, .int h_length])), (h_row, .inl (cI, 7, .inl h_row_f)), (h_parts, .inl (cI, 448, .inl h_parts_f))]) hcf (kX3_partWays l D cI cC cT h h_row h_parts h_row_f h_parts_f h_length p1 p2 p3 z_2 hz) (cwV 3 hts gX3_addWays_X3_partWays rfl rfl rfl (by decide +kernel) ⟨Nat.le_of_ble_eq_true rfl, Nat.le_of_ble_eq_true rfl⟩) hE (hP.sub [0, 1, 2] rfl) (va_recv hK hP (ci := 2) (q0 := 0) rfl rfl) rfl hl.1 rfl (Nat.le_of_ble_eq_true rfl) dX3_addWays_14 ⟨Nat.le_of_ble_eq_true rfl, Nat.le_of_ble_eq_true rfl⟩ ?_
  refine W.eq (g2 := F0 m 17 ls [.int z_2, .int z_1, .ref h_parts]) rfl ?_
  refine lv_iload hx hb dX3_addWays_17 (lv_at hl 4 rfl) ?_
  refine lv_iadd hx hb dX3_addWays_19 ?_
  obtain ⟨z_3, hz, h0⟩ := bd_ok h0
  refine wr_SN (As := [.ref h_parts, .int z_1, .int (z_2 + p4)]) (rest := []) (wc := [(h_parts, .inl (cI, 448, .inl h_parts_f))]) (wr := [(h, .inr (2, [.ref h_row, .ref h_parts, .int h_length])), (h_row, .inl (cI, 7, .inl h_row_f))]) hcf (kX9_put l D cI cC cT h_parts 448 h_parts_f z_1 (z_2 + p4) _ z_3 hz) ⟨va_cnB (host := RX9) 3 hts gX3_addWays_X9_put_n37 rfl rfl rfl hE.2.2.1 hini_X9 (by decide +kernel) ⟨Nat.le_of_ble_eq_true rfl, Nat.le_of_ble_eq_true rfl⟩, hst_X9_put, trivial⟩ hE hP hD hS hA [2] [0, 1] (hP.sub [2] rfl) (hD.sub [2] (by decide) rfl) rfl rfl (by decide) (by decide) rfl hl.1 rfl (Nat.le_of_ble_eq_true rfl) dX3_addWays_20 ⟨Nat.le_of_ble_eq_true rfl, Nat.le_of_ble_eq_true rfl⟩ (fun u H locs hP hD hS => ?_)
  have hP : va_P D vwCl [(h, .inr (2, [.ref h_row, .ref h_parts, .int h_length])), (h_row, .inl (cI, 7, .inl h_row_f)), (h_parts, .inl (cI, 448, .inl z_3))] H := hP
  have hD : va_D A [(h, .inr (2, [.ref h_row, .ref h_parts, .int h_length])), (h_row, .inl (cI, 7, .inl h_row_f)), (h_parts, .inl (cI, 448, .inl z_3))] := hD
  refine W.eq (g2 := F0 m 23 ls []) rfl ?_
  have e0 := Option.some.inj h0
  subst e0
  exact W.vret hx hb hr (fun t ht hW => wr_end () ht hP hD hS) hS.2.2 dX3_addWays_23
noncomputable def mX3_cutComesTo_L15 (h_parts_f : Nat → Int32) (h_length : Int32) (p1_cells_f : Nat → Int32) (p1_size : Int32) (p2 : Int32) (p3 : Int32) (x4_3 : Int32) (k15_71 : Int32 → Option (Int32)) : Nat → Int32 → Option (Int32)
  | 0, _ => none
  | F + 1, x5_7 => bd (mX6_size p1_size) (fun z_8 => if z_8 ≤ x5_7 then (k15_71 x5_7) else (bd (mX6_at p1_cells_f x4_3 x5_7) (fun z_9 => if z_9 = p3 then (bd (mX3_partWays h_parts_f 0 p2 x4_3) (fun z_10 => if z_10 ≤ 0 then (mX3_cutComesTo_L15 h_parts_f h_length p1_cells_f p1_size p2 p3 x4_3 k15_71 F (x5_7 + 1)) else (bd (mX3_partWays h_parts_f p2 (h_length - p2) x5_7) (fun z_11 => if z_11 ≤ 0 then (mX3_cutComesTo_L15 h_parts_f h_length p1_cells_f p1_size p2 p3 x4_3 k15_71 F (x5_7 + 1)) else (some (1)))))) else (mX3_cutComesTo_L15 h_parts_f h_length p1_cells_f p1_size p2 p3 x4_3 k15_71 F (x5_7 + 1)))))
noncomputable def mX3_cutComesTo_L3 (h_parts_f : Nat → Int32) (h_length : Int32) (p1_cells_f : Nat → Int32) (p1_size : Int32) (p2 : Int32) (p3 : Int32) (k3_77 : Int32 → Option (Int32)) : Nat → Int32 → Option (Int32)
  | 0, _ => none
  | F + 1, x4_3 => bd (mX6_size p1_size) (fun z_4 => if z_4 ≤ x4_3 then (k3_77 x4_3) else (mX3_cutComesTo_L15 h_parts_f h_length p1_cells_f p1_size p2 p3 x4_3 (fun (x5_5 : Int32) => mX3_cutComesTo_L3 h_parts_f h_length p1_cells_f p1_size p2 p3 k3_77 F (x4_3 + 1)) FU 0))
noncomputable def mX3_cutComesTo (h_parts_f : Nat → Int32) (h_length : Int32) (p1_cells_f : Nat → Int32) (p1_size : Int32) (p2 : Int32) (p3 : Int32) : Option (Int32) :=
  mX3_cutComesTo_L3 h_parts_f h_length p1_cells_f p1_size p2 p3 (fun (x4_1 : Int32) => some (0)) FU 0
set_option maxHeartbeats 8000000 in
set_option maxRecDepth 100000 in
theorem kX3_cutComesTo (l : Launch) (D : va_G) (cI cC cT : ClassId) (h h_row h_parts p1 p1_cells : Nat) (h_row_f : Nat → Int32) (h_parts_f : Nat → Int32) (h_length : Int32) (p1_cells_f : Nat → Int32) (p1_size : Int32) (p2 : Int32) (p3 : Int32) (z : Int32) (h0 : mX3_cutComesTo h_parts_f h_length p1_cells_f p1_size p2 p3 = some z) : Met l yX3_cutComesTo wsX3_cutComesTo ({ frames := 2, cells := 0, slots := 0, locals := 45 } : Room) (va_Pc [.ref h, .ref p1, .int p2, .int p3] (rP D cI cC cT [(h, .inr (2, [.ref h_row, .ref h_parts, .int h_length])), (h_row, .inl (cI, 7, .inl h_row_f)), (h_parts, .inl (cI, 448, .inl h_parts_f)), (p1, .inr (5, [.ref p1_cells, .int p1_size])), (p1_cells, .inl (cI, 64, .inl p1_cells_f))])) (rQ (some (.int z))) 0 0 (fun _ => False) := by
  refine Met.ofW (cc := cX3_cutComesTo) (maxL := 6) (ret := (some .boolean)) (by decide) rfl ?_
  intro p e s m args below meth c s₁ B hml hv
  obtain ⟨rfl, hP, hE⟩ := hv
  have hx := B.exec
  have hb := B.bytes
  have hr := B.returns
  have hts := atoms_spec (ws := wsX3_cutComesTo) B.pre
  have hown : s.vm.findClass RX3 = some m.cls := findClass_of_methodNamed B.named
  have hlocks := B.notSynchronized
  have hK := hE.1
  have hcf : CallFix p m c cX3_cutComesTo 6 s ([.ref h, .ref p1, .int p2, .int p3] : List Value).toArray wsX3_cutComesTo RX3 := ⟨hx, hb, hml, hown, hts⟩
  have hP : va_P D vwCl [(h, .inr (2, [.ref h_row, .ref h_parts, .int h_length])), (h_row, .inl (cI, 7, .inl h_row_f)), (h_parts, .inl (cI, 448, .inl h_parts_f)), (p1, .inr (5, [.ref p1_cells, .int p1_size])), (p1_cells, .inl (cI, 64, .inl p1_cells_f))] s.heap := hP
  have hf_18 := hts (.fieldLink RX3 18 "CrookedSums$RowText" "length" "I") (by decide +kernel)
  have hi_X3 := (show ∀ w ∈ u_ws RX3 TX3 3, w ∈ wsX3_cutComesTo from by decide +kernel)
  have hl := lv_entry ([.ref h, .ref p1, .int p2, .int p3]) (n := 6) (Nat.le_of_ble_eq_true rfl)
  rw [lg_entry_eq]
  generalize (lg_sl ([.ref h, .ref p1, .int p2, .int p3]) ++ List.replicate (6 - (lg_sl ([.ref h, .ref p1, .int p2, .int p3])).length) Slot.unset).toArray = ls at hl ⊢
  have hl : lv_has ls 6 [(0, .ref h), (1, .ref p1), (2, .int p2), (3, .int p3)] := hl
  unfold mX3_cutComesTo at h0
  refine lv_iconst (v := 0) hx hb dX3_cutComesTo_0 (by decide) ?_
  refine lv_istore (lv' := [(4, .int 0), (0, .ref h), (1, .ref p1), (2, .int p2), (3, .int p3)]) hx hb dX3_cutComesTo_1 hl (by decide) rfl (fun ls hl => ?_)
  have E_3_77_1 : ∀ (x4_1 : Int32) (ls : Array Slot), (some (0)) = some z → lv_has ls 6 [(4, .int x4_1), (0, .ref h), (1, .ref p1), (2, .int p2), (3, .int p3)] → W p l e (headSpec wsX3_cutComesTo ({ frames := 2, cells := 0, slots := 0, locals := 45 } : Room)).room s m (([.ref h, .ref p1, .int p2, .int p3] : List Value).toArray) below meth c s.heap [] 0 0 (MQ below (rQ (some (.int z))) (([.ref h, .ref p1, .int p2, .int p3] : List Value).toArray) s 0 0 (fun _ => False)) (F0 m 77 ls []) := by
    intro x4_1 ls h0 hl
    refine lv_iconst (v := 0) hx hb dX3_cutComesTo_77 (by decide) ?_
    have e0 := Option.some.inj h0
    subst e0
    exact W.zret (ty := .boolean) (v := 0) hx hb hr rfl (fun t ht hW => ⟨rfl, ht⟩) (fun q hq => absurd hq List.not_mem_nil) dX3_cutComesTo_78
  have L_3_12 : ∀ (F3 : Nat) (x4_3 : Int32) (ls : Array Slot), mX3_cutComesTo_L3 h_parts_f h_length p1_cells_f p1_size p2 p3 (fun (x4_1 : Int32) => some (0)) F3 x4_3 = some z → lv_has ls 6 [(4, .int x4_3), (0, .ref h), (1, .ref p1), (2, .int p2), (3, .int p3)] → W p l e (headSpec wsX3_cutComesTo ({ frames := 2, cells := 0, slots := 0, locals := 45 } : Room)).room s m (([.ref h, .ref p1, .int p2, .int p3] : List Value).toArray) below meth c s.heap [] 0 0 (MQ below (rQ (some (.int z))) (([.ref h, .ref p1, .int p2, .int p3] : List Value).toArray) s 0 0 (fun _ => False)) (F0 m 3 ls []) := by
    intro F3
    induction F3 with
    | zero => intro x4_3 ls h0 hl; cases h0
    | succ F3 ih3 =>
      intro x4_3 ls h0 hl
      rw [mX3_cutComesTo_L3] at h0
      refine lv_iload hx hb dX3_cutComesTo_3 (lv_at hl 0 rfl) ?_
      refine lv_aload_n hx hb dX3_cutComesTo_5 rfl (lv_at hl 2 rfl) ?_
      obtain ⟨z_4, hz, h0⟩ := bd_ok h0
      refine ro_V (As := []) (rest := [.int x4_3]) (wc := [(p1, .inr (5, [.ref p1_cells, .int p1_size])), (p1_cells, .inl (cI, 64, .inl p1_cells_f))]) hcf (kX6_size l D cI cC cT p1 p1_cells p1_cells_f p1_size z_4 hz) (cwV 0 hts gX3_cutComesTo_X6_size rfl rfl rfl (by decide +kernel) ⟨Nat.le_of_ble_eq_true rfl, Nat.le_of_ble_eq_true rfl⟩) hE (hP.sub [3, 4] rfl) (va_recv hK hP (ci := 5) (q0 := 3) rfl rfl) rfl hl.1 rfl (Nat.le_of_ble_eq_true rfl) dX3_cutComesTo_6 ⟨Nat.le_of_ble_eq_true rfl, Nat.le_of_ble_eq_true rfl⟩ ?_
      refine W.eq (g2 := F0 m 9 ls [.int z_4, .int x4_3]) rfl ?_
      refine lv_icmp_ge (tgt := 77) hx hb dX3_cutComesTo_9 (by decide) (fun c9 => ?_) (fun c9 => ?_)
      · have h0 := it_t c9 h0
        exact E_3_77_1 x4_3 ls h0 hl
      · have h0 := it_f c9 h0
        refine lv_iconst (v := 0) hx hb dX3_cutComesTo_12 (by decide) ?_
        refine lv_istore (lv' := [(5, .int 0), (4, .int x4_3), (0, .ref h), (1, .ref p1), (2, .int p2), (3, .int p3)]) hx hb dX3_cutComesTo_13 hl (by decide) rfl (fun ls hl => ?_)
        have E_15_71_5 : ∀ (x5_5 : Int32) (ls : Array Slot), (mX3_cutComesTo_L3 h_parts_f h_length p1_cells_f p1_size p2 p3 (fun (x4_1 : Int32) => some (0)) F3 (x4_3 + 1)) = some z → lv_has ls 6 [(5, .int x5_5), (4, .int x4_3), (0, .ref h), (1, .ref p1), (2, .int p2), (3, .int p3)] → W p l e (headSpec wsX3_cutComesTo ({ frames := 2, cells := 0, slots := 0, locals := 45 } : Room)).room s m (([.ref h, .ref p1, .int p2, .int p3] : List Value).toArray) below meth c s.heap [] 0 0 (MQ below (rQ (some (.int z))) (([.ref h, .ref p1, .int p2, .int p3] : List Value).toArray) s 0 0 (fun _ => False)) (F0 m 71 ls []) := by
          intro x5_5 ls h0 hl
          refine lv_iinc (v := (x4_3 + 1)) (lv' := [(4, .int (x4_3 + 1)), (5, .int x5_5), (0, .ref h), (1, .ref p1), (2, .int p2), (3, .int p3)]) hx hb dX3_cutComesTo_71 hl (k := 1) rfl rfl (by decide) rfl (fun ls hl => ?_)
          refine lv_goto (tgt := 3) hx hb dX3_cutComesTo_74 (by decide) ?_
          exact ih3 (x4_3 + 1) ls h0 (lv_sub hl [0, 2, 3, 4, 5] rfl)
        have L_15_11 : ∀ (F15 : Nat) (x5_7 : Int32) (ls : Array Slot), mX3_cutComesTo_L15 h_parts_f h_length p1_cells_f p1_size p2 p3 x4_3 (fun (x5_5 : Int32) => mX3_cutComesTo_L3 h_parts_f h_length p1_cells_f p1_size p2 p3 (fun (x4_1 : Int32) => some (0)) F3 (x4_3 + 1)) F15 x5_7 = some z → lv_has ls 6 [(5, .int x5_7), (4, .int x4_3), (0, .ref h), (1, .ref p1), (2, .int p2), (3, .int p3)] → W p l e (headSpec wsX3_cutComesTo ({ frames := 2, cells := 0, slots := 0, locals := 45 } : Room)).room s m (([.ref h, .ref p1, .int p2, .int p3] : List Value).toArray) below meth c s.heap [] 0 0 (MQ below (rQ (some (.int z))) (([.ref h, .ref p1, .int p2, .int p3] : List Value).toArray) s 0 0 (fun _ => False)) (F0 m 15 ls []) := by
          intro F15
          induction F15 with
          | zero => intro x5_7 ls h0 hl; cases h0
          | succ F15 ih15 =>
            intro x5_7 ls h0 hl
            rw [mX3_cutComesTo_L15] at h0
            refine lv_iload hx hb dX3_cutComesTo_15 (lv_at hl 0 rfl) ?_
            refine lv_aload_n hx hb dX3_cutComesTo_17 rfl (lv_at hl 3 rfl) ?_
            obtain ⟨z_8, hz, h0⟩ := bd_ok h0
            refine ro_V (As := []) (rest := [.int x5_7]) (wc := [(p1, .inr (5, [.ref p1_cells, .int p1_size])), (p1_cells, .inl (cI, 64, .inl p1_cells_f))]) hcf (kX6_size l D cI cC cT p1 p1_cells p1_cells_f p1_size z_8 hz) (cwV 0 hts gX3_cutComesTo_X6_size rfl rfl rfl (by decide +kernel) ⟨Nat.le_of_ble_eq_true rfl, Nat.le_of_ble_eq_true rfl⟩) hE (hP.sub [3, 4] rfl) (va_recv hK hP (ci := 5) (q0 := 3) rfl rfl) rfl hl.1 rfl (Nat.le_of_ble_eq_true rfl) dX3_cutComesTo_18 ⟨Nat.le_of_ble_eq_true rfl, Nat.le_of_ble_eq_true rfl⟩ ?_
            refine W.eq (g2 := F0 m 21 ls [.int z_8, .int x5_7]) rfl ?_
            refine lv_icmp_ge (tgt := 71) hx hb dX3_cutComesTo_21 (by decide) (fun c9 => ?_) (fun c9 => ?_)
            · have h0 := it_t c9 h0
              exact E_15_71_5 x5_7 ls h0 hl
            · have h0 := it_f c9 h0
              refine lv_aload_n hx hb dX3_cutComesTo_24 rfl (lv_at hl 3 rfl) ?_
              refine lv_iload hx hb dX3_cutComesTo_25 (lv_at hl 1 rfl) ?_
              refine lv_iload hx hb dX3_cutComesTo_27 (lv_at hl 0 rfl) ?_
              obtain ⟨z_9, hz, h0⟩ := bd_ok h0
              refine ro_V (As := [.int x4_3, .int x5_7]) (rest := []) (wc := [(p1, .inr (5, [.ref p1_cells, .int p1_size])), (p1_cells, .inl (cI, 64, .inl p1_cells_f))]) hcf (kX6_at l D cI cC cT p1 p1_cells p1_cells_f p1_size x4_3 x5_7 z_9 hz) (cwV 2 hts gX3_cutComesTo_X6_at rfl rfl rfl (by decide +kernel) ⟨Nat.le_of_ble_eq_true rfl, Nat.le_of_ble_eq_true rfl⟩) hE (hP.sub [3, 4] rfl) (va_recv hK hP (ci := 5) (q0 := 3) rfl rfl) rfl hl.1 rfl (Nat.le_of_ble_eq_true rfl) dX3_cutComesTo_29 ⟨Nat.le_of_ble_eq_true rfl, Nat.le_of_ble_eq_true rfl⟩ ?_
              refine W.eq (g2 := F0 m 32 ls [.int z_9]) rfl ?_
              refine lv_iload_n hx hb dX3_cutComesTo_32 rfl (lv_at hl 5 rfl) ?_
              refine lv_icmp_ne (tgt := 65) hx hb dX3_cutComesTo_33 (by decide) (fun c9 => ?_) (fun c9 => ?_)
              · have h0 := it_f c9 h0
                refine lv_iinc (v := (x5_7 + 1)) (lv' := [(5, .int (x5_7 + 1)), (4, .int x4_3), (0, .ref h), (1, .ref p1), (2, .int p2), (3, .int p3)]) hx hb dX3_cutComesTo_65 hl (k := 0) rfl rfl (by decide) rfl (fun ls hl => ?_)
                refine lv_goto (tgt := 15) hx hb dX3_cutComesTo_68 (by decide) ?_
                exact ih15 (x5_7 + 1) ls h0 hl
              · have h0 := it_t c9 h0
                refine lv_aload_n hx hb dX3_cutComesTo_36 rfl (lv_at hl 2 rfl) ?_
                refine lv_iconst (v := 0) hx hb dX3_cutComesTo_37 (by decide) ?_
                refine lv_iload_n hx hb dX3_cutComesTo_38 rfl (lv_at hl 4 rfl) ?_
                refine lv_iload hx hb dX3_cutComesTo_39 (lv_at hl 1 rfl) ?_
                obtain ⟨z_10, hz, h0⟩ := bd_ok h0
                refine ro_V (As := [.int 0, .int p2, .int x4_3]) (rest := []) (wc := [(h, .inr (2, [.ref h_row, .ref h_parts, .int h_length])), (h_row, .inl (cI, 7, .inl h_row_f)), (h_parts, .inl (cI, 448, .inl h_parts_f))]) hcf (kX3_partWays l D cI cC cT h h_row h_parts h_row_f h_parts_f h_length 0 p2 x4_3 z_10 hz) (cwV 3 hts gX3_cutComesTo_X3_partWays rfl rfl rfl (by decide +kernel) ⟨Nat.le_of_ble_eq_true rfl, Nat.le_of_ble_eq_true rfl⟩) hE (hP.sub [0, 1, 2] rfl) (va_recv hK hP (ci := 2) (q0 := 0) rfl rfl) rfl hl.1 rfl (Nat.le_of_ble_eq_true rfl) dX3_cutComesTo_41 ⟨Nat.le_of_ble_eq_true rfl, Nat.le_of_ble_eq_true rfl⟩ ?_
                refine W.eq (g2 := F0 m 44 ls [.int z_10]) rfl ?_
                refine lv_if_le (tgt := 65) hx hb dX3_cutComesTo_44 (by decide) (fun c9 => ?_) (fun c9 => ?_)
                · have h0 := it_t c9 h0
                  refine lv_iinc (v := (x5_7 + 1)) (lv' := [(5, .int (x5_7 + 1)), (4, .int x4_3), (0, .ref h), (1, .ref p1), (2, .int p2), (3, .int p3)]) hx hb dX3_cutComesTo_65 hl (k := 0) rfl rfl (by decide) rfl (fun ls hl => ?_)
                  refine lv_goto (tgt := 15) hx hb dX3_cutComesTo_68 (by decide) ?_
                  exact ih15 (x5_7 + 1) ls h0 hl
                · have h0 := it_f c9 h0
                  refine lv_aload_n hx hb dX3_cutComesTo_47 rfl (lv_at hl 2 rfl) ?_
                  refine lv_iload_n hx hb dX3_cutComesTo_48 rfl (lv_at hl 4 rfl) ?_
                  refine lv_aload_n hx hb dX3_cutComesTo_49 rfl (lv_at hl 2 rfl) ?_
                  refine va_get (D := D) (ci := 2) (v := .int h_length) (C := RX3) (T := TX3) (N := 3) hx hb hts hi_X3 hown hK hP 0 rfl rfl 2 (by decide) hf_18 (fun _ h9 => h9) rfl dX3_cutComesTo_50 ?_
                  refine lv_iload_n hx hb dX3_cutComesTo_53 rfl (lv_at hl 4 rfl) ?_
                  refine lv_isub hx hb dX3_cutComesTo_54 ?_
                  refine lv_iload hx hb dX3_cutComesTo_55 (lv_at hl 0 rfl) ?_
                  obtain ⟨z_11, hz, h0⟩ := bd_ok h0
                  refine ro_V (As := [.int p2, .int (h_length - p2), .int x5_7]) (rest := []) (wc := [(h, .inr (2, [.ref h_row, .ref h_parts, .int h_length])), (h_row, .inl (cI, 7, .inl h_row_f)), (h_parts, .inl (cI, 448, .inl h_parts_f))]) hcf (kX3_partWays l D cI cC cT h h_row h_parts h_row_f h_parts_f h_length p2 (h_length - p2) x5_7 z_11 hz) (cwV 3 hts gX3_cutComesTo_X3_partWays rfl rfl rfl (by decide +kernel) ⟨Nat.le_of_ble_eq_true rfl, Nat.le_of_ble_eq_true rfl⟩) hE (hP.sub [0, 1, 2] rfl) (va_recv hK hP (ci := 2) (q0 := 0) rfl rfl) rfl hl.1 rfl (Nat.le_of_ble_eq_true rfl) dX3_cutComesTo_57 ⟨Nat.le_of_ble_eq_true rfl, Nat.le_of_ble_eq_true rfl⟩ ?_
                  refine W.eq (g2 := F0 m 60 ls [.int z_11]) rfl ?_
                  refine lv_if_le (tgt := 65) hx hb dX3_cutComesTo_60 (by decide) (fun c9 => ?_) (fun c9 => ?_)
                  · have h0 := it_t c9 h0
                    refine lv_iinc (v := (x5_7 + 1)) (lv' := [(5, .int (x5_7 + 1)), (4, .int x4_3), (0, .ref h), (1, .ref p1), (2, .int p2), (3, .int p3)]) hx hb dX3_cutComesTo_65 hl (k := 0) rfl rfl (by decide) rfl (fun ls hl => ?_)
                    refine lv_goto (tgt := 15) hx hb dX3_cutComesTo_68 (by decide) ?_
                    exact ih15 (x5_7 + 1) ls h0 hl
                  · have h0 := it_f c9 h0
                    refine lv_iconst (v := 1) hx hb dX3_cutComesTo_63 (by decide) ?_
                    have e0 := Option.some.inj h0
                    subst e0
                    exact W.zret (ty := .boolean) (v := 1) hx hb hr rfl (fun t ht hW => ⟨rfl, ht⟩) (fun q hq => absurd hq List.not_mem_nil) dX3_cutComesTo_64
        exact L_15_11 FU 0 ls h0 hl
  exact L_3_12 FU 0 ls h0 hl
noncomputable def mX3_sumCut_L33 (p1_cells_f : Nat → Int32) (p1_size : Int32) (p2 : Int32) (p3 : Int32) (p4 : Int32) (z_7 : Int32) (x5_4 : Int32) (k33_83 : Int32 → (Nat → Int32) → Option ((Nat → Int32))) : Nat → Int32 → (Nat → Int32) → Option ((Nat → Int32))
  | 0, _, _ => none
  | F + 1, x7_11, f_12 => bd (mX6_size p1_size) (fun z_13 => if z_13 ≤ x7_11 then (k33_83 x7_11 f_12) else (bd (mX3_partWays f_12 (p2 + p3) (p4 - p3) x7_11) (fun z_14 => bd (mX6_at p1_cells_f x5_4 x7_11) (fun z_15 => bd (mX3_addWays f_12 p2 p4 z_15 (z_7 * z_14)) (fun z_16 => mX3_sumCut_L33 p1_cells_f p1_size p2 p3 p4 z_7 x5_4 k33_83 F (x7_11 + 1) z_16)))))
noncomputable def mX3_sumCut_L3 (p1_cells_f : Nat → Int32) (p1_size : Int32) (p2 : Int32) (p3 : Int32) (p4 : Int32) (k3_89 : Int32 → (Nat → Int32) → Option ((Nat → Int32))) : Nat → Int32 → (Nat → Int32) → Option ((Nat → Int32))
  | 0, _, _ => none
  | F + 1, x5_4, f_5 => bd (mX6_size p1_size) (fun z_6 => if z_6 ≤ x5_4 then (k3_89 x5_4 f_5) else (bd (mX3_partWays f_5 p2 p3 x5_4) (fun z_7 => if z_7 = 0 then (mX3_sumCut_L3 p1_cells_f p1_size p2 p3 p4 k3_89 F (x5_4 + 1) f_5) else (mX3_sumCut_L33 p1_cells_f p1_size p2 p3 p4 z_7 x5_4 (fun (x7_8 : Int32) (f_9 : Nat → Int32) => mX3_sumCut_L3 p1_cells_f p1_size p2 p3 p4 k3_89 F (x5_4 + 1) f_9) FU 0 f_5))))
noncomputable def mX3_sumCut (h_parts_f : Nat → Int32) (p1_cells_f : Nat → Int32) (p1_size : Int32) (p2 : Int32) (p3 : Int32) (p4 : Int32) : Option ((Nat → Int32)) :=
  mX3_sumCut_L3 p1_cells_f p1_size p2 p3 p4 (fun (x5_1 : Int32) (f_2 : Nat → Int32) => some (f_2)) FU 0 h_parts_f
set_option maxHeartbeats 8000000 in
set_option maxRecDepth 100000 in
theorem kX3_sumCut (l : Launch) (D : va_G) (cI cC cT : ClassId) (h h_row h_parts p1 p1_cells : Nat) (h_row_f : Nat → Int32) (h_parts_f : Nat → Int32) (h_length : Int32) (p1_cells_f : Nat → Int32) (p1_size : Int32) (p2 : Int32) (p3 : Int32) (p4 : Int32) (sz : Nat) (z : (Nat → Int32)) (h0 : mX3_sumCut h_parts_f p1_cells_f p1_size p2 p3 p4 = some z) : Met l yX3_sumCut wsX3_sumCut ({ frames := 3, cells := 0, slots := 0, locals := 69 } : Room) (va_Pc [.ref h, .ref p1, .int p2, .int p3, .int p4] (wP D cI cC cT [(h, .inr (2, [.ref h_row, .ref h_parts, .int h_length])), (h_row, .inl (cI, 7, .inl h_row_f)), (h_parts, .inl (cI, 448, .inl h_parts_f)), (p1, .inr (5, [.ref p1_cells, .int p1_size])), (p1_cells, .inl (cI, 64, .inl p1_cells_f))] sz)) (wQ D none (va_A [(h, .inr (2, [.ref h_row, .ref h_parts, .int h_length])), (h_row, .inl (cI, 7, .inl h_row_f)), (h_parts, .inl (cI, 448, .inl h_parts_f)), (p1, .inr (5, [.ref p1_cells, .int p1_size])), (p1_cells, .inl (cI, 64, .inl p1_cells_f))] sz) (fun (u : Unit) => [(h, .inr (2, [.ref h_row, .ref h_parts, .int h_length])), (h_row, .inl (cI, 7, .inl h_row_f)), (h_parts, .inl (cI, 448, .inl z)), (p1, .inr (5, [.ref p1_cells, .int p1_size])), (p1_cells, .inl (cI, 64, .inl p1_cells_f))])) 0 0 (va_A [(h, .inr (2, [.ref h_row, .ref h_parts, .int h_length])), (h_row, .inl (cI, 7, .inl h_row_f)), (h_parts, .inl (cI, 448, .inl h_parts_f)), (p1, .inr (5, [.ref p1_cells, .int p1_size])), (p1_cells, .inl (cI, 64, .inl p1_cells_f))] sz) := by
  refine Met.ofW (cc := cX3_sumCut) (maxL := 9) (ret := none) (by decide) rfl ?_
  intro p e s m args below meth c s₁ B hml hv
  obtain ⟨rfl, hsz, hP, hE, hD0⟩ := hv
  have hx := B.exec
  have hb := B.bytes
  have hr := B.returns
  have hts := atoms_spec (ws := wsX3_sumCut) B.pre
  have hown : s.vm.findClass RX3 = some m.cls := findClass_of_methodNamed B.named
  have hlocks := B.notSynchronized
  have hK := hE.1
  have hcf : CallFix p m c cX3_sumCut 9 s ([.ref h, .ref p1, .int p2, .int p3, .int p4] : List Value).toArray wsX3_sumCut RX3 := ⟨hx, hb, hml, hown, hts⟩
  subst hsz
  have hD := hD0.self (sz := s.heap.size)
  generalize hAe : va_A [(h, .inr (2, [.ref h_row, .ref h_parts, .int h_length])), (h_row, .inl (cI, 7, .inl h_row_f)), (h_parts, .inl (cI, 448, .inl h_parts_f)), (p1, .inr (5, [.ref p1_cells, .int p1_size])), (p1_cells, .inl (cI, 64, .inl p1_cells_f))] s.heap.size = A at hD ⊢
  have hA : ∀ q : Nat, s.heap.size ≤ q → A q := fun q h => by rw [← hAe]; exact Or.inr h
  have hS : va_S A s.heap s.heap [] := va_S.rf
  have hP : va_P D vwCl [(h, .inr (2, [.ref h_row, .ref h_parts, .int h_length])), (h_row, .inl (cI, 7, .inl h_row_f)), (h_parts, .inl (cI, 448, .inl h_parts_f)), (p1, .inr (5, [.ref p1_cells, .int p1_size])), (p1_cells, .inl (cI, 64, .inl p1_cells_f))] s.heap := hP
  have hl := lv_entry ([.ref h, .ref p1, .int p2, .int p3, .int p4]) (n := 9) (Nat.le_of_ble_eq_true rfl)
  rw [lg_entry_eq]
  generalize (lg_sl ([.ref h, .ref p1, .int p2, .int p3, .int p4]) ++ List.replicate (9 - (lg_sl ([.ref h, .ref p1, .int p2, .int p3, .int p4])).length) Slot.unset).toArray = ls at hl ⊢
  have hl : lv_has ls 9 [(0, .ref h), (1, .ref p1), (2, .int p2), (3, .int p3), (4, .int p4)] := hl
  unfold mX3_sumCut at h0
  refine lv_iconst (v := 0) hx hb dX3_sumCut_0 (by decide) ?_
  refine lv_istore (lv' := [(5, .int 0), (0, .ref h), (1, .ref p1), (2, .int p2), (3, .int p3), (4, .int p4)]) hx hb dX3_sumCut_1 hl (by decide) rfl (fun ls hl => ?_)
  have E_3_89_2 : ∀ (x5_1 : Int32) (f_2 : Nat → Int32) (H : Heap) (locs : List Loc) (ls : Array Slot), (some (f_2)) = some z → va_P D vwCl [(h, .inr (2, [.ref h_row, .ref h_parts, .int h_length])), (h_row, .inl (cI, 7, .inl h_row_f)), (h_parts, .inl (cI, 448, .inl f_2)), (p1, .inr (5, [.ref p1_cells, .int p1_size])), (p1_cells, .inl (cI, 64, .inl p1_cells_f))] H → va_D A [(h, .inr (2, [.ref h_row, .ref h_parts, .int h_length])), (h_row, .inl (cI, 7, .inl h_row_f)), (h_parts, .inl (cI, 448, .inl f_2)), (p1, .inr (5, [.ref p1_cells, .int p1_size])), (p1_cells, .inl (cI, 64, .inl p1_cells_f))] → va_S A s.heap H locs → lv_has ls 9 [(5, .int x5_1), (0, .ref h), (1, .ref p1), (2, .int p2), (3, .int p3), (4, .int p4)] → W p l e (headSpec wsX3_sumCut ({ frames := 3, cells := 0, slots := 0, locals := 69 } : Room)).room s m (([.ref h, .ref p1, .int p2, .int p3, .int p4] : List Value).toArray) below meth c H locs 0 0 (MQ below (wQ D none A (fun (u : Unit) => [(h, .inr (2, [.ref h_row, .ref h_parts, .int h_length])), (h_row, .inl (cI, 7, .inl h_row_f)), (h_parts, .inl (cI, 448, .inl z)), (p1, .inr (5, [.ref p1_cells, .int p1_size])), (p1_cells, .inl (cI, 64, .inl p1_cells_f))])) (([.ref h, .ref p1, .int p2, .int p3, .int p4] : List Value).toArray) s 0 0 A) (F0 m 89 ls []) := by
    intro x5_1 f_2 H locs ls h0 hP hD hS hl
    have e0 := Option.some.inj h0
    subst e0
    exact W.vret hx hb hr (fun t ht hW => wr_end () ht hP hD hS) hS.2.2 dX3_sumCut_89
  have L_3_17 : ∀ (F3 : Nat) (x5_4 : Int32) (f_5 : Nat → Int32) (H : Heap) (locs : List Loc) (ls : Array Slot), mX3_sumCut_L3 p1_cells_f p1_size p2 p3 p4 (fun (x5_1 : Int32) (f_2 : Nat → Int32) => some (f_2)) F3 x5_4 f_5 = some z → va_P D vwCl [(h, .inr (2, [.ref h_row, .ref h_parts, .int h_length])), (h_row, .inl (cI, 7, .inl h_row_f)), (h_parts, .inl (cI, 448, .inl f_5)), (p1, .inr (5, [.ref p1_cells, .int p1_size])), (p1_cells, .inl (cI, 64, .inl p1_cells_f))] H → va_D A [(h, .inr (2, [.ref h_row, .ref h_parts, .int h_length])), (h_row, .inl (cI, 7, .inl h_row_f)), (h_parts, .inl (cI, 448, .inl f_5)), (p1, .inr (5, [.ref p1_cells, .int p1_size])), (p1_cells, .inl (cI, 64, .inl p1_cells_f))] → va_S A s.heap H locs → lv_has ls 9 [(5, .int x5_4), (0, .ref h), (1, .ref p1), (2, .int p2), (3, .int p3), (4, .int p4)] → W p l e (headSpec wsX3_sumCut ({ frames := 3, cells := 0, slots := 0, locals := 69 } : Room)).room s m (([.ref h, .ref p1, .int p2, .int p3, .int p4] : List Value).toArray) below meth c H locs 0 0 (MQ below (wQ D none A (fun (u : Unit) => [(h, .inr (2, [.ref h_row, .ref h_parts, .int h_length])), (h_row, .inl (cI, 7, .inl h_row_f)), (h_parts, .inl (cI, 448, .inl z)), (p1, .inr (5, [.ref p1_cells, .int p1_size])), (p1_cells, .inl (cI, 64, .inl p1_cells_f))])) (([.ref h, .ref p1, .int p2, .int p3, .int p4] : List Value).toArray) s 0 0 A) (F0 m 3 ls []) := by
    intro F3
    induction F3 with
    | zero => intro x5_4 f_5 H locs ls h0 hP hD hS hl; cases h0
    | succ F3 ih3 =>
      intro x5_4 f_5 H locs ls h0 hP hD hS hl
      rw [mX3_sumCut_L3] at h0
      refine lv_iload hx hb dX3_sumCut_3 (lv_at hl 0 rfl) ?_
      refine lv_aload_n hx hb dX3_sumCut_5 rfl (lv_at hl 2 rfl) ?_
      obtain ⟨z_6, hz, h0⟩ := bd_ok h0
      refine ro_V (As := []) (rest := [.int x5_4]) (wc := [(p1, .inr (5, [.ref p1_cells, .int p1_size])), (p1_cells, .inl (cI, 64, .inl p1_cells_f))]) hcf (kX6_size l D cI cC cT p1 p1_cells p1_cells_f p1_size z_6 hz) (cwV 0 hts gX3_sumCut_X6_size rfl rfl rfl (by decide +kernel) ⟨Nat.le_of_ble_eq_true rfl, Nat.le_of_ble_eq_true rfl⟩) hE (hP.sub [3, 4] rfl) (va_recv hK hP (ci := 5) (q0 := 3) rfl rfl) rfl hl.1 rfl (Nat.le_of_ble_eq_true rfl) dX3_sumCut_6 ⟨Nat.le_of_ble_eq_true rfl, Nat.le_of_ble_eq_true rfl⟩ ?_
      refine W.eq (g2 := F0 m 9 ls [.int z_6, .int x5_4]) rfl ?_
      refine lv_icmp_ge (tgt := 89) hx hb dX3_sumCut_9 (by decide) (fun c9 => ?_) (fun c9 => ?_)
      · have h0 := it_t c9 h0
        exact E_3_89_2 x5_4 f_5 _ _ ls h0 hP hD hS hl
      · have h0 := it_f c9 h0
        refine lv_aload_n hx hb dX3_sumCut_12 rfl (lv_at hl 1 rfl) ?_
        refine lv_iload_n hx hb dX3_sumCut_13 rfl (lv_at hl 3 rfl) ?_
        refine lv_iload_n hx hb dX3_sumCut_14 rfl (lv_at hl 4 rfl) ?_
        refine lv_iload hx hb dX3_sumCut_15 (lv_at hl 0 rfl) ?_
        obtain ⟨z_7, hz, h0⟩ := bd_ok h0
        refine ro_V (As := [.int p2, .int p3, .int x5_4]) (rest := []) (wc := [(h, .inr (2, [.ref h_row, .ref h_parts, .int h_length])), (h_row, .inl (cI, 7, .inl h_row_f)), (h_parts, .inl (cI, 448, .inl f_5))]) hcf (kX3_partWays l D cI cC cT h h_row h_parts h_row_f f_5 h_length p2 p3 x5_4 z_7 hz) (cwV 3 hts gX3_sumCut_X3_partWays rfl rfl rfl (by decide +kernel) ⟨Nat.le_of_ble_eq_true rfl, Nat.le_of_ble_eq_true rfl⟩) hE (hP.sub [0, 1, 2] rfl) (va_recv hK hP (ci := 2) (q0 := 0) rfl rfl) rfl hl.1 rfl (Nat.le_of_ble_eq_true rfl) dX3_sumCut_17 ⟨Nat.le_of_ble_eq_true rfl, Nat.le_of_ble_eq_true rfl⟩ ?_
        refine W.eq (g2 := F0 m 20 ls [.int z_7]) rfl ?_
        refine lv_istore (lv' := [(6, .int z_7), (5, .int x5_4), (0, .ref h), (1, .ref p1), (2, .int p2), (3, .int p3), (4, .int p4)]) hx hb dX3_sumCut_20 hl (by decide) rfl (fun ls hl => ?_)
        refine lv_iload hx hb dX3_sumCut_22 (lv_at hl 0 rfl) ?_
        refine lv_if_ne (tgt := 30) hx hb dX3_sumCut_24 (by decide) (fun c9 => ?_) (fun c9 => ?_)
        · have h0 := it_f c9 h0
          refine lv_iconst (v := 0) hx hb dX3_sumCut_30 (by decide) ?_
          refine lv_istore (lv' := [(7, .int 0), (6, .int z_7), (5, .int x5_4), (0, .ref h), (1, .ref p1), (2, .int p2), (3, .int p3), (4, .int p4)]) hx hb dX3_sumCut_31 hl (by decide) rfl (fun ls hl => ?_)
          have E_33_83_9 : ∀ (x7_8 : Int32) (f_9 : Nat → Int32) (H : Heap) (locs : List Loc) (ls : Array Slot), (mX3_sumCut_L3 p1_cells_f p1_size p2 p3 p4 (fun (x5_1 : Int32) (f_2 : Nat → Int32) => some (f_2)) F3 (x5_4 + 1) f_9) = some z → va_P D vwCl [(h, .inr (2, [.ref h_row, .ref h_parts, .int h_length])), (h_row, .inl (cI, 7, .inl h_row_f)), (h_parts, .inl (cI, 448, .inl f_9)), (p1, .inr (5, [.ref p1_cells, .int p1_size])), (p1_cells, .inl (cI, 64, .inl p1_cells_f))] H → va_D A [(h, .inr (2, [.ref h_row, .ref h_parts, .int h_length])), (h_row, .inl (cI, 7, .inl h_row_f)), (h_parts, .inl (cI, 448, .inl f_9)), (p1, .inr (5, [.ref p1_cells, .int p1_size])), (p1_cells, .inl (cI, 64, .inl p1_cells_f))] → va_S A s.heap H locs → lv_has ls 9 [(7, .int x7_8), (6, .int z_7), (5, .int x5_4), (0, .ref h), (1, .ref p1), (2, .int p2), (3, .int p3), (4, .int p4)] → W p l e (headSpec wsX3_sumCut ({ frames := 3, cells := 0, slots := 0, locals := 69 } : Room)).room s m (([.ref h, .ref p1, .int p2, .int p3, .int p4] : List Value).toArray) below meth c H locs 0 0 (MQ below (wQ D none A (fun (u : Unit) => [(h, .inr (2, [.ref h_row, .ref h_parts, .int h_length])), (h_row, .inl (cI, 7, .inl h_row_f)), (h_parts, .inl (cI, 448, .inl z)), (p1, .inr (5, [.ref p1_cells, .int p1_size])), (p1_cells, .inl (cI, 64, .inl p1_cells_f))])) (([.ref h, .ref p1, .int p2, .int p3, .int p4] : List Value).toArray) s 0 0 A) (F0 m 83 ls []) := by
            intro x7_8 f_9 H locs ls h0 hP hD hS hl
            refine lv_iinc (v := (x5_4 + 1)) (lv' := [(5, .int (x5_4 + 1)), (7, .int x7_8), (6, .int z_7), (0, .ref h), (1, .ref p1), (2, .int p2), (3, .int p3), (4, .int p4)]) hx hb dX3_sumCut_83 hl (k := 2) rfl rfl (by decide) rfl (fun ls hl => ?_)
            refine lv_goto (tgt := 3) hx hb dX3_sumCut_86 (by decide) ?_
            exact ih3 (x5_4 + 1) f_9 _ _ ls h0 hP hD hS (lv_sub hl [0, 3, 4, 5, 6, 7] rfl)
          have L_33_16 : ∀ (F33 : Nat) (x7_11 : Int32) (f_12 : Nat → Int32) (H : Heap) (locs : List Loc) (ls : Array Slot), mX3_sumCut_L33 p1_cells_f p1_size p2 p3 p4 z_7 x5_4 (fun (x7_8 : Int32) (f_9 : Nat → Int32) => mX3_sumCut_L3 p1_cells_f p1_size p2 p3 p4 (fun (x5_1 : Int32) (f_2 : Nat → Int32) => some (f_2)) F3 (x5_4 + 1) f_9) F33 x7_11 f_12 = some z → va_P D vwCl [(h, .inr (2, [.ref h_row, .ref h_parts, .int h_length])), (h_row, .inl (cI, 7, .inl h_row_f)), (h_parts, .inl (cI, 448, .inl f_12)), (p1, .inr (5, [.ref p1_cells, .int p1_size])), (p1_cells, .inl (cI, 64, .inl p1_cells_f))] H → va_D A [(h, .inr (2, [.ref h_row, .ref h_parts, .int h_length])), (h_row, .inl (cI, 7, .inl h_row_f)), (h_parts, .inl (cI, 448, .inl f_12)), (p1, .inr (5, [.ref p1_cells, .int p1_size])), (p1_cells, .inl (cI, 64, .inl p1_cells_f))] → va_S A s.heap H locs → lv_has ls 9 [(7, .int x7_11), (6, .int z_7), (5, .int x5_4), (0, .ref h), (1, .ref p1), (2, .int p2), (3, .int p3), (4, .int p4)] → W p l e (headSpec wsX3_sumCut ({ frames := 3, cells := 0, slots := 0, locals := 69 } : Room)).room s m (([.ref h, .ref p1, .int p2, .int p3, .int p4] : List Value).toArray) below meth c H locs 0 0 (MQ below (wQ D none A (fun (u : Unit) => [(h, .inr (2, [.ref h_row, .ref h_parts, .int h_length])), (h_row, .inl (cI, 7, .inl h_row_f)), (h_parts, .inl (cI, 448, .inl z)), (p1, .inr (5, [.ref p1_cells, .int p1_size])), (p1_cells, .inl (cI, 64, .inl p1_cells_f))])) (([.ref h, .ref p1, .int p2, .int p3, .int p4] : List Value).toArray) s 0 0 A) (F0 m 33 ls []) := by
            intro F33
            induction F33 with
            | zero => intro x7_11 f_12 H locs ls h0 hP hD hS hl; cases h0
            | succ F33 ih33 =>
              intro x7_11 f_12 H locs ls h0 hP hD hS hl
              rw [mX3_sumCut_L33] at h0
              refine lv_iload hx hb dX3_sumCut_33 (lv_at hl 0 rfl) ?_
              refine lv_aload_n hx hb dX3_sumCut_35 rfl (lv_at hl 4 rfl) ?_
              obtain ⟨z_13, hz, h0⟩ := bd_ok h0
              refine ro_V (As := []) (rest := [.int x7_11]) (wc := [(p1, .inr (5, [.ref p1_cells, .int p1_size])), (p1_cells, .inl (cI, 64, .inl p1_cells_f))]) hcf (kX6_size l D cI cC cT p1 p1_cells p1_cells_f p1_size z_13 hz) (cwV 0 hts gX3_sumCut_X6_size rfl rfl rfl (by decide +kernel) ⟨Nat.le_of_ble_eq_true rfl, Nat.le_of_ble_eq_true rfl⟩) hE (hP.sub [3, 4] rfl) (va_recv hK hP (ci := 5) (q0 := 3) rfl rfl) rfl hl.1 rfl (Nat.le_of_ble_eq_true rfl) dX3_sumCut_36 ⟨Nat.le_of_ble_eq_true rfl, Nat.le_of_ble_eq_true rfl⟩ ?_
              refine W.eq (g2 := F0 m 39 ls [.int z_13, .int x7_11]) rfl ?_
              refine lv_icmp_ge (tgt := 83) hx hb dX3_sumCut_39 (by decide) (fun c9 => ?_) (fun c9 => ?_)
              · have h0 := it_t c9 h0
                exact E_33_83_9 x7_11 f_12 _ _ ls h0 hP hD hS hl
              · have h0 := it_f c9 h0
                refine lv_aload_n hx hb dX3_sumCut_42 rfl (lv_at hl 3 rfl) ?_
                refine lv_iload_n hx hb dX3_sumCut_43 rfl (lv_at hl 5 rfl) ?_
                refine lv_iload_n hx hb dX3_sumCut_44 rfl (lv_at hl 6 rfl) ?_
                refine lv_iadd hx hb dX3_sumCut_45 ?_
                refine lv_iload hx hb dX3_sumCut_46 (lv_at hl 7 rfl) ?_
                refine lv_iload_n hx hb dX3_sumCut_48 rfl (lv_at hl 6 rfl) ?_
                refine lv_isub hx hb dX3_sumCut_49 ?_
                refine lv_iload hx hb dX3_sumCut_50 (lv_at hl 0 rfl) ?_
                obtain ⟨z_14, hz, h0⟩ := bd_ok h0
                refine ro_V (As := [.int (p2 + p3), .int (p4 - p3), .int x7_11]) (rest := []) (wc := [(h, .inr (2, [.ref h_row, .ref h_parts, .int h_length])), (h_row, .inl (cI, 7, .inl h_row_f)), (h_parts, .inl (cI, 448, .inl f_12))]) hcf (kX3_partWays l D cI cC cT h h_row h_parts h_row_f f_12 h_length (p2 + p3) (p4 - p3) x7_11 z_14 hz) (cwV 3 hts gX3_sumCut_X3_partWays rfl rfl rfl (by decide +kernel) ⟨Nat.le_of_ble_eq_true rfl, Nat.le_of_ble_eq_true rfl⟩) hE (hP.sub [0, 1, 2] rfl) (va_recv hK hP (ci := 2) (q0 := 0) rfl rfl) rfl hl.1 rfl (Nat.le_of_ble_eq_true rfl) dX3_sumCut_52 ⟨Nat.le_of_ble_eq_true rfl, Nat.le_of_ble_eq_true rfl⟩ ?_
                refine W.eq (g2 := F0 m 55 ls [.int z_14]) rfl ?_
                refine lv_istore (lv' := [(8, .int z_14), (7, .int x7_11), (6, .int z_7), (5, .int x5_4), (0, .ref h), (1, .ref p1), (2, .int p2), (3, .int p3), (4, .int p4)]) hx hb dX3_sumCut_55 hl (by decide) rfl (fun ls hl => ?_)
                refine lv_aload_n hx hb dX3_sumCut_57 rfl (lv_at hl 4 rfl) ?_
                refine lv_iload_n hx hb dX3_sumCut_58 rfl (lv_at hl 6 rfl) ?_
                refine lv_iload hx hb dX3_sumCut_59 (lv_at hl 8 rfl) ?_
                refine lv_aload_n hx hb dX3_sumCut_61 rfl (lv_at hl 5 rfl) ?_
                refine lv_iload hx hb dX3_sumCut_62 (lv_at hl 3 rfl) ?_
                refine lv_iload hx hb dX3_sumCut_64 (lv_at hl 1 rfl) ?_
                obtain ⟨z_15, hz, h0⟩ := bd_ok h0
                refine ro_V (As := [.int x5_4, .int x7_11]) (rest := [.int p4, .int p2, .ref h]) (wc := [(p1, .inr (5, [.ref p1_cells, .int p1_size])), (p1_cells, .inl (cI, 64, .inl p1_cells_f))]) hcf (kX6_at l D cI cC cT p1 p1_cells p1_cells_f p1_size x5_4 x7_11 z_15 hz) (cwV 2 hts gX3_sumCut_X6_at rfl rfl rfl (by decide +kernel) ⟨Nat.le_of_ble_eq_true rfl, Nat.le_of_ble_eq_true rfl⟩) hE (hP.sub [3, 4] rfl) (va_recv hK hP (ci := 5) (q0 := 3) rfl rfl) rfl hl.1 rfl (Nat.le_of_ble_eq_true rfl) dX3_sumCut_66 ⟨Nat.le_of_ble_eq_true rfl, Nat.le_of_ble_eq_true rfl⟩ ?_
                refine W.eq (g2 := F0 m 69 ls [.int z_15, .int p4, .int p2, .ref h]) rfl ?_
                refine lv_iload hx hb dX3_sumCut_69 (lv_at hl 2 rfl) ?_
                refine lv_iload hx hb dX3_sumCut_71 (lv_at hl 0 rfl) ?_
                refine lv_imul hx hb dX3_sumCut_73 ?_
                obtain ⟨z_16, hz, h0⟩ := bd_ok h0
                refine wr_V (As := [.int p2, .int p4, .int z_15, .int (z_7 * z_14)]) (rest := []) (wc := [(h, .inr (2, [.ref h_row, .ref h_parts, .int h_length])), (h_row, .inl (cI, 7, .inl h_row_f)), (h_parts, .inl (cI, 448, .inl f_12))]) (wr := [(p1, .inr (5, [.ref p1_cells, .int p1_size])), (p1_cells, .inl (cI, 64, .inl p1_cells_f))]) hcf (kX3_addWays l D cI cC cT h h_row h_parts h_row_f f_12 h_length p2 p4 z_15 (z_7 * z_14) _ z_16 hz) (cwV 4 hts gX3_sumCut_X3_addWays rfl rfl rfl (by decide +kernel) ⟨Nat.le_of_ble_eq_true rfl, Nat.le_of_ble_eq_true rfl⟩) hE hP hD hS hA [0, 1, 2] [3, 4] (hP.sub [0, 1, 2] rfl) (hD.sub [0, 1, 2] (by decide) rfl) (va_recv hK hP (ci := 2) (q0 := 0) rfl rfl) rfl rfl (by decide) (by decide) rfl hl.1 rfl (Nat.le_of_ble_eq_true rfl) dX3_sumCut_74 ⟨Nat.le_of_ble_eq_true rfl, Nat.le_of_ble_eq_true rfl⟩ (fun u H locs hP hD hS => ?_)
                have hP : va_P D vwCl [(p1, .inr (5, [.ref p1_cells, .int p1_size])), (p1_cells, .inl (cI, 64, .inl p1_cells_f)), (h, .inr (2, [.ref h_row, .ref h_parts, .int h_length])), (h_row, .inl (cI, 7, .inl h_row_f)), (h_parts, .inl (cI, 448, .inl z_16))] H := hP
                have hD : va_D A [(p1, .inr (5, [.ref p1_cells, .int p1_size])), (p1_cells, .inl (cI, 64, .inl p1_cells_f)), (h, .inr (2, [.ref h_row, .ref h_parts, .int h_length])), (h_row, .inl (cI, 7, .inl h_row_f)), (h_parts, .inl (cI, 448, .inl z_16))] := hD
                refine W.eq (g2 := F0 m 77 ls []) rfl ?_
                refine lv_iinc (v := (x7_11 + 1)) (lv' := [(7, .int (x7_11 + 1)), (8, .int z_14), (6, .int z_7), (5, .int x5_4), (0, .ref h), (1, .ref p1), (2, .int p2), (3, .int p3), (4, .int p4)]) hx hb dX3_sumCut_77 hl (k := 1) rfl rfl (by decide) rfl (fun ls hl => ?_)
                refine lv_goto (tgt := 33) hx hb dX3_sumCut_80 (by decide) ?_
                exact ih33 (x7_11 + 1) z_16 _ _ ls h0 (hP.sub [2, 3, 4, 0, 1] rfl) (hD.sub [2, 3, 4, 0, 1] (by decide) rfl) hS (lv_sub hl [0, 2, 3, 4, 5, 6, 7, 8] rfl)
          exact L_33_16 FU 0 f_5 _ _ ls h0 hP hD hS hl
        · have h0 := it_t c9 h0
          refine lv_goto (tgt := 83) hx hb dX3_sumCut_27 (by decide) ?_
          refine lv_iinc (v := (x5_4 + 1)) (lv' := [(5, .int (x5_4 + 1)), (6, .int z_7), (0, .ref h), (1, .ref p1), (2, .int p2), (3, .int p3), (4, .int p4)]) hx hb dX3_sumCut_83 hl (k := 1) rfl rfl (by decide) rfl (fun ls hl => ?_)
          refine lv_goto (tgt := 3) hx hb dX3_sumCut_86 (by decide) ?_
          exact ih3 (x5_4 + 1) f_5 _ _ ls h0 hP hD hS (lv_sub hl [0, 2, 3, 4, 5, 6] rfl)
  exact L_3_17 FU 0 h_parts_f _ _ ls h0 hP hD hS hl
noncomputable def mX3_sumParts_L82 (p1_cells_f : Nat → Int32) (p1_size : Int32) (x2_8 : Int32) (x3_13 : Int32) (k82_103 : Int32 → (Nat → Int32) → Option ((Nat → Int32))) : Nat → Int32 → (Nat → Int32) → Option ((Nat → Int32))
  | 0, _, _ => none
  | F + 1, x4_18, f_19 => if x2_8 ≤ x4_18 then (k82_103 x4_18 f_19) else (bd (mX3_sumCut f_19 p1_cells_f p1_size x3_13 x4_18 x2_8) (fun z_20 => mX3_sumParts_L82 p1_cells_f p1_size x2_8 x3_13 k82_103 F (x4_18 + 1) z_20))
noncomputable def mX3_sumParts_L69 (h_length : Int32) (p1_cells_f : Nat → Int32) (p1_size : Int32) (x2_8 : Int32) (k69_109 : Int32 → (Nat → Int32) → Option ((Nat → Int32))) : Nat → Int32 → (Nat → Int32) → Option ((Nat → Int32))
  | 0, _, _ => none
  | F + 1, x3_13, f_14 => if h_length < (x3_13 + x2_8) then (k69_109 x3_13 f_14) else (mX3_sumParts_L82 p1_cells_f p1_size x2_8 x3_13 (fun (x4_15 : Int32) (f_16 : Nat → Int32) => mX3_sumParts_L69 h_length p1_cells_f p1_size x2_8 k69_109 F (x3_13 + 1) f_16) FU 1 f_14)
noncomputable def mX3_sumParts_L59 (h_length : Int32) (p1_cells_f : Nat → Int32) (p1_size : Int32) (k59_115 : Int32 → (Nat → Int32) → Option ((Nat → Int32))) : Nat → Int32 → (Nat → Int32) → Option ((Nat → Int32))
  | 0, _, _ => none
  | F + 1, x2_8, f_9 => if h_length < x2_8 then (k59_115 x2_8 f_9) else (mX3_sumParts_L69 h_length p1_cells_f p1_size x2_8 (fun (x3_10 : Int32) (f_11 : Nat → Int32) => mX3_sumParts_L59 h_length p1_cells_f p1_size k59_115 F (x2_8 + 1) f_11) FU 0 f_9)
noncomputable def mX3_sumParts_L28 (h_row_f : Nat → Int32) (h_length : Int32) (k28_57 : Int32 → (Nat → Int32) → Option ((Nat → Int32))) : Nat → Int32 → (Nat → Int32) → Option ((Nat → Int32))
  | 0, _, _ => none
  | F + 1, x2_25, f_26 => if h_length ≤ x2_25 then (k28_57 x2_25 f_26) else (bd (mX9_get 7 h_row_f x2_25) (fun z_27 => bd (mX3_addWays f_26 x2_25 1 z_27 1) (fun z_28 => mX3_sumParts_L28 h_row_f h_length k28_57 F (x2_25 + 1) z_28)))
noncomputable def mX3_sumParts_L2  (k2_26 : Int32 → (Nat → Int32) → Option ((Nat → Int32))) : Nat → Int32 → (Nat → Int32) → Option ((Nat → Int32))
  | 0, _, _ => none
  | F + 1, x2_31, f_32 => if (448 : Int32) ≤ x2_31 then (k2_26 x2_31 f_32) else (bd (mX9_put 448 f_32 x2_31 0) (fun z_33 => mX3_sumParts_L2  k2_26 F (x2_31 + 1) z_33))
noncomputable def mX3_sumParts (h_row_f : Nat → Int32) (h_parts_f : Nat → Int32) (h_length : Int32) (p1_cells_f : Nat → Int32) (p1_size : Int32) : Option ((Nat → Int32)) :=
  mX3_sumParts_L2  (fun (x2_1 : Int32) (f_2 : Nat → Int32) => mX3_sumParts_L28 h_row_f h_length (fun (x2_3 : Int32) (f_4 : Nat → Int32) => mX3_sumParts_L59 h_length p1_cells_f p1_size (fun (x2_5 : Int32) (f_6 : Nat → Int32) => some (f_6)) FU 2 f_4) FU 0 f_2) FU 0 h_parts_f
set_option maxHeartbeats 8000000 in
set_option maxRecDepth 100000 in
theorem kX3_sumParts (l : Launch) (D : va_G) (cI cC cT : ClassId) (h h_row h_parts p1 p1_cells : Nat) (h_row_f : Nat → Int32) (h_parts_f : Nat → Int32) (h_length : Int32) (p1_cells_f : Nat → Int32) (p1_size : Int32) (sz : Nat) (z : (Nat → Int32)) (h0 : mX3_sumParts h_row_f h_parts_f h_length p1_cells_f p1_size = some z) : Met l yX3_sumParts wsX3_sumParts ({ frames := 4, cells := 0, slots := 0, locals := 97 } : Room) (va_Pc [.ref h, .ref p1] (wP D cI cC cT [(h, .inr (2, [.ref h_row, .ref h_parts, .int h_length])), (h_row, .inl (cI, 7, .inl h_row_f)), (h_parts, .inl (cI, 448, .inl h_parts_f)), (p1, .inr (5, [.ref p1_cells, .int p1_size])), (p1_cells, .inl (cI, 64, .inl p1_cells_f))] sz)) (wQ D none (va_A [(h, .inr (2, [.ref h_row, .ref h_parts, .int h_length])), (h_row, .inl (cI, 7, .inl h_row_f)), (h_parts, .inl (cI, 448, .inl h_parts_f)), (p1, .inr (5, [.ref p1_cells, .int p1_size])), (p1_cells, .inl (cI, 64, .inl p1_cells_f))] sz) (fun (u : Unit) => [(h, .inr (2, [.ref h_row, .ref h_parts, .int h_length])), (h_row, .inl (cI, 7, .inl h_row_f)), (h_parts, .inl (cI, 448, .inl z)), (p1, .inr (5, [.ref p1_cells, .int p1_size])), (p1_cells, .inl (cI, 64, .inl p1_cells_f))])) 0 0 (va_A [(h, .inr (2, [.ref h_row, .ref h_parts, .int h_length])), (h_row, .inl (cI, 7, .inl h_row_f)), (h_parts, .inl (cI, 448, .inl h_parts_f)), (p1, .inr (5, [.ref p1_cells, .int p1_size])), (p1_cells, .inl (cI, 64, .inl p1_cells_f))] sz) := by
  refine Met.ofW (cc := cX3_sumParts) (maxL := 5) (ret := none) (by decide) rfl ?_
  intro p e s m args below meth c s₁ B hml hv
  obtain ⟨rfl, hsz, hP, hE, hD0⟩ := hv
  have hx := B.exec
  have hb := B.bytes
  have hr := B.returns
  have hts := atoms_spec (ws := wsX3_sumParts) B.pre
  have hown : s.vm.findClass RX3 = some m.cls := findClass_of_methodNamed B.named
  have hlocks := B.notSynchronized
  have hK := hE.1
  have hcf : CallFix p m c cX3_sumParts 5 s ([.ref h, .ref p1] : List Value).toArray wsX3_sumParts RX3 := ⟨hx, hb, hml, hown, hts⟩
  subst hsz
  have hD := hD0.self (sz := s.heap.size)
  generalize hAe : va_A [(h, .inr (2, [.ref h_row, .ref h_parts, .int h_length])), (h_row, .inl (cI, 7, .inl h_row_f)), (h_parts, .inl (cI, 448, .inl h_parts_f)), (p1, .inr (5, [.ref p1_cells, .int p1_size])), (p1_cells, .inl (cI, 64, .inl p1_cells_f))] s.heap.size = A at hD ⊢
  have hA : ∀ q : Nat, s.heap.size ≤ q → A q := fun q h => by rw [← hAe]; exact Or.inr h
  have hS : va_S A s.heap s.heap [] := va_S.rf
  have hP : va_P D vwCl [(h, .inr (2, [.ref h_row, .ref h_parts, .int h_length])), (h_row, .inl (cI, 7, .inl h_row_f)), (h_parts, .inl (cI, 448, .inl h_parts_f)), (p1, .inr (5, [.ref p1_cells, .int p1_size])), (p1_cells, .inl (cI, 64, .inl p1_cells_f))] s.heap := hP
  have hf_18 := hts (.fieldLink RX3 18 "CrookedSums$RowText" "length" "I") (by decide +kernel)
  have hi_X3 := (show ∀ w ∈ u_ws RX3 TX3 3, w ∈ wsX3_sumParts from by decide +kernel)
  have hf_11 := hts (.fieldLink RX3 11 "CrookedSums$RowText" "row" "[I") (by decide +kernel)
  have hini_X9 := hts (.initialized RX9) (by decide +kernel)
  have hst_X9_get := hts (.static yX9_get) (by decide +kernel)
  have hf_15 := hts (.fieldLink RX3 15 "CrookedSums$RowText" "parts" "[I") (by decide +kernel)
  have hst_X9_put := hts (.static yX9_put) (by decide +kernel)
  have hl := lv_entry ([.ref h, .ref p1]) (n := 5) (Nat.le_of_ble_eq_true rfl)
  rw [lg_entry_eq]
  generalize (lg_sl ([.ref h, .ref p1]) ++ List.replicate (5 - (lg_sl ([.ref h, .ref p1])).length) Slot.unset).toArray = ls at hl ⊢
  have hl : lv_has ls 5 [(0, .ref h), (1, .ref p1)] := hl
  unfold mX3_sumParts at h0
  refine lv_iconst (v := 0) hx hb dX3_sumParts_0 (by decide) ?_
  refine lv_istore_n (lv' := [(2, .int 0), (0, .ref h), (1, .ref p1)]) hx hb dX3_sumParts_1 rfl hl (by decide) rfl (fun ls hl => ?_)
  have E_2_26_29 : ∀ (x2_1 : Int32) (f_2 : Nat → Int32) (H : Heap) (locs : List Loc) (ls : Array Slot), (mX3_sumParts_L28 h_row_f h_length (fun (x2_3 : Int32) (f_4 : Nat → Int32) => mX3_sumParts_L59 h_length p1_cells_f p1_size (fun (x2_5 : Int32) (f_6 : Nat → Int32) => some (f_6)) FU 2 f_4) FU 0 f_2) = some z → va_P D vwCl [(h, .inr (2, [.ref h_row, .ref h_parts, .int h_length])), (h_row, .inl (cI, 7, .inl h_row_f)), (h_parts, .inl (cI, 448, .inl f_2)), (p1, .inr (5, [.ref p1_cells, .int p1_size])), (p1_cells, .inl (cI, 64, .inl p1_cells_f))] H → va_D A [(h, .inr (2, [.ref h_row, .ref h_parts, .int h_length])), (h_row, .inl (cI, 7, .inl h_row_f)), (h_parts, .inl (cI, 448, .inl f_2)), (p1, .inr (5, [.ref p1_cells, .int p1_size])), (p1_cells, .inl (cI, 64, .inl p1_cells_f))] → va_S A s.heap H locs → lv_has ls 5 [(2, .int x2_1), (0, .ref h), (1, .ref p1)] → W p l e (headSpec wsX3_sumParts ({ frames := 4, cells := 0, slots := 0, locals := 97 } : Room)).room s m (([.ref h, .ref p1] : List Value).toArray) below meth c H locs 0 0 (MQ below (wQ D none A (fun (u : Unit) => [(h, .inr (2, [.ref h_row, .ref h_parts, .int h_length])), (h_row, .inl (cI, 7, .inl h_row_f)), (h_parts, .inl (cI, 448, .inl z)), (p1, .inr (5, [.ref p1_cells, .int p1_size])), (p1_cells, .inl (cI, 64, .inl p1_cells_f))])) (([.ref h, .ref p1] : List Value).toArray) s 0 0 A) (F0 m 26 ls []) := by
    intro x2_1 f_2 H locs ls h0 hP hD hS hl
    refine lv_iconst (v := 0) hx hb dX3_sumParts_26 (by decide) ?_
    refine lv_istore_n (lv' := [(2, .int 0), (0, .ref h), (1, .ref p1)]) hx hb dX3_sumParts_27 rfl hl (by decide) rfl (fun ls hl => ?_)
    have E_28_57_23 : ∀ (x2_3 : Int32) (f_4 : Nat → Int32) (H : Heap) (locs : List Loc) (ls : Array Slot), (mX3_sumParts_L59 h_length p1_cells_f p1_size (fun (x2_5 : Int32) (f_6 : Nat → Int32) => some (f_6)) FU 2 f_4) = some z → va_P D vwCl [(h, .inr (2, [.ref h_row, .ref h_parts, .int h_length])), (h_row, .inl (cI, 7, .inl h_row_f)), (h_parts, .inl (cI, 448, .inl f_4)), (p1, .inr (5, [.ref p1_cells, .int p1_size])), (p1_cells, .inl (cI, 64, .inl p1_cells_f))] H → va_D A [(h, .inr (2, [.ref h_row, .ref h_parts, .int h_length])), (h_row, .inl (cI, 7, .inl h_row_f)), (h_parts, .inl (cI, 448, .inl f_4)), (p1, .inr (5, [.ref p1_cells, .int p1_size])), (p1_cells, .inl (cI, 64, .inl p1_cells_f))] → va_S A s.heap H locs → lv_has ls 5 [(2, .int x2_3), (0, .ref h), (1, .ref p1)] → W p l e (headSpec wsX3_sumParts ({ frames := 4, cells := 0, slots := 0, locals := 97 } : Room)).room s m (([.ref h, .ref p1] : List Value).toArray) below meth c H locs 0 0 (MQ below (wQ D none A (fun (u : Unit) => [(h, .inr (2, [.ref h_row, .ref h_parts, .int h_length])), (h_row, .inl (cI, 7, .inl h_row_f)), (h_parts, .inl (cI, 448, .inl z)), (p1, .inr (5, [.ref p1_cells, .int p1_size])), (p1_cells, .inl (cI, 64, .inl p1_cells_f))])) (([.ref h, .ref p1] : List Value).toArray) s 0 0 A) (F0 m 57 ls []) := by
      intro x2_3 f_4 H locs ls h0 hP hD hS hl
      refine lv_iconst (v := 2) hx hb dX3_sumParts_57 (by decide) ?_
      refine lv_istore_n (lv' := [(2, .int 2), (0, .ref h), (1, .ref p1)]) hx hb dX3_sumParts_58 rfl hl (by decide) rfl (fun ls hl => ?_)
      have E_59_115_6 : ∀ (x2_5 : Int32) (f_6 : Nat → Int32) (H : Heap) (locs : List Loc) (ls : Array Slot), (some (f_6)) = some z → va_P D vwCl [(h, .inr (2, [.ref h_row, .ref h_parts, .int h_length])), (h_row, .inl (cI, 7, .inl h_row_f)), (h_parts, .inl (cI, 448, .inl f_6)), (p1, .inr (5, [.ref p1_cells, .int p1_size])), (p1_cells, .inl (cI, 64, .inl p1_cells_f))] H → va_D A [(h, .inr (2, [.ref h_row, .ref h_parts, .int h_length])), (h_row, .inl (cI, 7, .inl h_row_f)), (h_parts, .inl (cI, 448, .inl f_6)), (p1, .inr (5, [.ref p1_cells, .int p1_size])), (p1_cells, .inl (cI, 64, .inl p1_cells_f))] → va_S A s.heap H locs → lv_has ls 5 [(2, .int x2_5), (0, .ref h), (1, .ref p1)] → W p l e (headSpec wsX3_sumParts ({ frames := 4, cells := 0, slots := 0, locals := 97 } : Room)).room s m (([.ref h, .ref p1] : List Value).toArray) below meth c H locs 0 0 (MQ below (wQ D none A (fun (u : Unit) => [(h, .inr (2, [.ref h_row, .ref h_parts, .int h_length])), (h_row, .inl (cI, 7, .inl h_row_f)), (h_parts, .inl (cI, 448, .inl z)), (p1, .inr (5, [.ref p1_cells, .int p1_size])), (p1_cells, .inl (cI, 64, .inl p1_cells_f))])) (([.ref h, .ref p1] : List Value).toArray) s 0 0 A) (F0 m 115 ls []) := by
        intro x2_5 f_6 H locs ls h0 hP hD hS hl
        have e0 := Option.some.inj h0
        subst e0
        exact W.vret hx hb hr (fun t ht hW => wr_end () ht hP hD hS) hS.2.2 dX3_sumParts_115
      have L_59_22 : ∀ (F59 : Nat) (x2_8 : Int32) (f_9 : Nat → Int32) (H : Heap) (locs : List Loc) (ls : Array Slot), mX3_sumParts_L59 h_length p1_cells_f p1_size (fun (x2_5 : Int32) (f_6 : Nat → Int32) => some (f_6)) F59 x2_8 f_9 = some z → va_P D vwCl [(h, .inr (2, [.ref h_row, .ref h_parts, .int h_length])), (h_row, .inl (cI, 7, .inl h_row_f)), (h_parts, .inl (cI, 448, .inl f_9)), (p1, .inr (5, [.ref p1_cells, .int p1_size])), (p1_cells, .inl (cI, 64, .inl p1_cells_f))] H → va_D A [(h, .inr (2, [.ref h_row, .ref h_parts, .int h_length])), (h_row, .inl (cI, 7, .inl h_row_f)), (h_parts, .inl (cI, 448, .inl f_9)), (p1, .inr (5, [.ref p1_cells, .int p1_size])), (p1_cells, .inl (cI, 64, .inl p1_cells_f))] → va_S A s.heap H locs → lv_has ls 5 [(2, .int x2_8), (0, .ref h), (1, .ref p1)] → W p l e (headSpec wsX3_sumParts ({ frames := 4, cells := 0, slots := 0, locals := 97 } : Room)).room s m (([.ref h, .ref p1] : List Value).toArray) below meth c H locs 0 0 (MQ below (wQ D none A (fun (u : Unit) => [(h, .inr (2, [.ref h_row, .ref h_parts, .int h_length])), (h_row, .inl (cI, 7, .inl h_row_f)), (h_parts, .inl (cI, 448, .inl z)), (p1, .inr (5, [.ref p1_cells, .int p1_size])), (p1_cells, .inl (cI, 64, .inl p1_cells_f))])) (([.ref h, .ref p1] : List Value).toArray) s 0 0 A) (F0 m 59 ls []) := by
        intro F59
        induction F59 with
        | zero => intro x2_8 f_9 H locs ls h0 hP hD hS hl; cases h0
        | succ F59 ih59 =>
          intro x2_8 f_9 H locs ls h0 hP hD hS hl
          rw [mX3_sumParts_L59] at h0
          refine lv_iload_n hx hb dX3_sumParts_59 rfl (lv_at hl 0 rfl) ?_
          refine lv_aload_n hx hb dX3_sumParts_60 rfl (lv_at hl 1 rfl) ?_
          refine va_get (D := D) (ci := 2) (v := .int h_length) (C := RX3) (T := TX3) (N := 3) hx hb hts hi_X3 hown hK hP 0 rfl rfl 2 (by decide) hf_18 (fun _ h9 => h9) rfl dX3_sumParts_61 ?_
          refine lv_icmp_gt (tgt := 115) hx hb dX3_sumParts_64 (by decide) (fun c9 => ?_) (fun c9 => ?_)
          · have h0 := it_t c9 h0
            exact E_59_115_6 x2_8 f_9 _ _ ls h0 hP hD hS hl
          · have h0 := it_f c9 h0
            refine lv_iconst (v := 0) hx hb dX3_sumParts_67 (by decide) ?_
            refine lv_istore_n (lv' := [(3, .int 0), (2, .int x2_8), (0, .ref h), (1, .ref p1)]) hx hb dX3_sumParts_68 rfl hl (by decide) rfl (fun ls hl => ?_)
            have E_69_109_11 : ∀ (x3_10 : Int32) (f_11 : Nat → Int32) (H : Heap) (locs : List Loc) (ls : Array Slot), (mX3_sumParts_L59 h_length p1_cells_f p1_size (fun (x2_5 : Int32) (f_6 : Nat → Int32) => some (f_6)) F59 (x2_8 + 1) f_11) = some z → va_P D vwCl [(h, .inr (2, [.ref h_row, .ref h_parts, .int h_length])), (h_row, .inl (cI, 7, .inl h_row_f)), (h_parts, .inl (cI, 448, .inl f_11)), (p1, .inr (5, [.ref p1_cells, .int p1_size])), (p1_cells, .inl (cI, 64, .inl p1_cells_f))] H → va_D A [(h, .inr (2, [.ref h_row, .ref h_parts, .int h_length])), (h_row, .inl (cI, 7, .inl h_row_f)), (h_parts, .inl (cI, 448, .inl f_11)), (p1, .inr (5, [.ref p1_cells, .int p1_size])), (p1_cells, .inl (cI, 64, .inl p1_cells_f))] → va_S A s.heap H locs → lv_has ls 5 [(3, .int x3_10), (2, .int x2_8), (0, .ref h), (1, .ref p1)] → W p l e (headSpec wsX3_sumParts ({ frames := 4, cells := 0, slots := 0, locals := 97 } : Room)).room s m (([.ref h, .ref p1] : List Value).toArray) below meth c H locs 0 0 (MQ below (wQ D none A (fun (u : Unit) => [(h, .inr (2, [.ref h_row, .ref h_parts, .int h_length])), (h_row, .inl (cI, 7, .inl h_row_f)), (h_parts, .inl (cI, 448, .inl z)), (p1, .inr (5, [.ref p1_cells, .int p1_size])), (p1_cells, .inl (cI, 64, .inl p1_cells_f))])) (([.ref h, .ref p1] : List Value).toArray) s 0 0 A) (F0 m 109 ls []) := by
              intro x3_10 f_11 H locs ls h0 hP hD hS hl
              refine lv_iinc (v := (x2_8 + 1)) (lv' := [(2, .int (x2_8 + 1)), (3, .int x3_10), (0, .ref h), (1, .ref p1)]) hx hb dX3_sumParts_109 hl (k := 1) rfl rfl (by decide) rfl (fun ls hl => ?_)
              refine lv_goto (tgt := 59) hx hb dX3_sumParts_112 (by decide) ?_
              exact ih59 (x2_8 + 1) f_11 _ _ ls h0 hP hD hS (lv_sub hl [0, 2, 3] rfl)
            have L_69_21 : ∀ (F69 : Nat) (x3_13 : Int32) (f_14 : Nat → Int32) (H : Heap) (locs : List Loc) (ls : Array Slot), mX3_sumParts_L69 h_length p1_cells_f p1_size x2_8 (fun (x3_10 : Int32) (f_11 : Nat → Int32) => mX3_sumParts_L59 h_length p1_cells_f p1_size (fun (x2_5 : Int32) (f_6 : Nat → Int32) => some (f_6)) F59 (x2_8 + 1) f_11) F69 x3_13 f_14 = some z → va_P D vwCl [(h, .inr (2, [.ref h_row, .ref h_parts, .int h_length])), (h_row, .inl (cI, 7, .inl h_row_f)), (h_parts, .inl (cI, 448, .inl f_14)), (p1, .inr (5, [.ref p1_cells, .int p1_size])), (p1_cells, .inl (cI, 64, .inl p1_cells_f))] H → va_D A [(h, .inr (2, [.ref h_row, .ref h_parts, .int h_length])), (h_row, .inl (cI, 7, .inl h_row_f)), (h_parts, .inl (cI, 448, .inl f_14)), (p1, .inr (5, [.ref p1_cells, .int p1_size])), (p1_cells, .inl (cI, 64, .inl p1_cells_f))] → va_S A s.heap H locs → lv_has ls 5 [(3, .int x3_13), (2, .int x2_8), (0, .ref h), (1, .ref p1)] → W p l e (headSpec wsX3_sumParts ({ frames := 4, cells := 0, slots := 0, locals := 97 } : Room)).room s m (([.ref h, .ref p1] : List Value).toArray) below meth c H locs 0 0 (MQ below (wQ D none A (fun (u : Unit) => [(h, .inr (2, [.ref h_row, .ref h_parts, .int h_length])), (h_row, .inl (cI, 7, .inl h_row_f)), (h_parts, .inl (cI, 448, .inl z)), (p1, .inr (5, [.ref p1_cells, .int p1_size])), (p1_cells, .inl (cI, 64, .inl p1_cells_f))])) (([.ref h, .ref p1] : List Value).toArray) s 0 0 A) (F0 m 69 ls []) := by
              intro F69
              induction F69 with
              | zero => intro x3_13 f_14 H locs ls h0 hP hD hS hl; cases h0
              | succ F69 ih69 =>
                intro x3_13 f_14 H locs ls h0 hP hD hS hl
                rw [mX3_sumParts_L69] at h0
                refine lv_iload_n hx hb dX3_sumParts_69 rfl (lv_at hl 0 rfl) ?_
                refine lv_iload_n hx hb dX3_sumParts_70 rfl (lv_at hl 1 rfl) ?_
                refine lv_iadd hx hb dX3_sumParts_71 ?_
                refine lv_aload_n hx hb dX3_sumParts_72 rfl (lv_at hl 2 rfl) ?_
                refine va_get (D := D) (ci := 2) (v := .int h_length) (C := RX3) (T := TX3) (N := 3) hx hb hts hi_X3 hown hK hP 0 rfl rfl 2 (by decide) hf_18 (fun _ h9 => h9) rfl dX3_sumParts_73 ?_
                refine lv_icmp_gt (tgt := 109) hx hb dX3_sumParts_76 (by decide) (fun c9 => ?_) (fun c9 => ?_)
                · have h0 := it_t c9 h0
                  exact E_69_109_11 x3_13 f_14 _ _ ls h0 hP hD hS hl
                · have h0 := it_f c9 h0
                  refine lv_iconst (v := 1) hx hb dX3_sumParts_79 (by decide) ?_
                  refine lv_istore (lv' := [(4, .int 1), (3, .int x3_13), (2, .int x2_8), (0, .ref h), (1, .ref p1)]) hx hb dX3_sumParts_80 hl (by decide) rfl (fun ls hl => ?_)
                  have E_82_103_16 : ∀ (x4_15 : Int32) (f_16 : Nat → Int32) (H : Heap) (locs : List Loc) (ls : Array Slot), (mX3_sumParts_L69 h_length p1_cells_f p1_size x2_8 (fun (x3_10 : Int32) (f_11 : Nat → Int32) => mX3_sumParts_L59 h_length p1_cells_f p1_size (fun (x2_5 : Int32) (f_6 : Nat → Int32) => some (f_6)) F59 (x2_8 + 1) f_11) F69 (x3_13 + 1) f_16) = some z → va_P D vwCl [(h, .inr (2, [.ref h_row, .ref h_parts, .int h_length])), (h_row, .inl (cI, 7, .inl h_row_f)), (h_parts, .inl (cI, 448, .inl f_16)), (p1, .inr (5, [.ref p1_cells, .int p1_size])), (p1_cells, .inl (cI, 64, .inl p1_cells_f))] H → va_D A [(h, .inr (2, [.ref h_row, .ref h_parts, .int h_length])), (h_row, .inl (cI, 7, .inl h_row_f)), (h_parts, .inl (cI, 448, .inl f_16)), (p1, .inr (5, [.ref p1_cells, .int p1_size])), (p1_cells, .inl (cI, 64, .inl p1_cells_f))] → va_S A s.heap H locs → lv_has ls 5 [(4, .int x4_15), (3, .int x3_13), (2, .int x2_8), (0, .ref h), (1, .ref p1)] → W p l e (headSpec wsX3_sumParts ({ frames := 4, cells := 0, slots := 0, locals := 97 } : Room)).room s m (([.ref h, .ref p1] : List Value).toArray) below meth c H locs 0 0 (MQ below (wQ D none A (fun (u : Unit) => [(h, .inr (2, [.ref h_row, .ref h_parts, .int h_length])), (h_row, .inl (cI, 7, .inl h_row_f)), (h_parts, .inl (cI, 448, .inl z)), (p1, .inr (5, [.ref p1_cells, .int p1_size])), (p1_cells, .inl (cI, 64, .inl p1_cells_f))])) (([.ref h, .ref p1] : List Value).toArray) s 0 0 A) (F0 m 103 ls []) := by
                    intro x4_15 f_16 H locs ls h0 hP hD hS hl
                    refine lv_iinc (v := (x3_13 + 1)) (lv' := [(3, .int (x3_13 + 1)), (4, .int x4_15), (2, .int x2_8), (0, .ref h), (1, .ref p1)]) hx hb dX3_sumParts_103 hl (k := 1) rfl rfl (by decide) rfl (fun ls hl => ?_)
                    refine lv_goto (tgt := 69) hx hb dX3_sumParts_106 (by decide) ?_
                    exact ih69 (x3_13 + 1) f_16 _ _ ls h0 hP hD hS (lv_sub hl [0, 2, 3, 4] rfl)
                  have L_82_20 : ∀ (F82 : Nat) (x4_18 : Int32) (f_19 : Nat → Int32) (H : Heap) (locs : List Loc) (ls : Array Slot), mX3_sumParts_L82 p1_cells_f p1_size x2_8 x3_13 (fun (x4_15 : Int32) (f_16 : Nat → Int32) => mX3_sumParts_L69 h_length p1_cells_f p1_size x2_8 (fun (x3_10 : Int32) (f_11 : Nat → Int32) => mX3_sumParts_L59 h_length p1_cells_f p1_size (fun (x2_5 : Int32) (f_6 : Nat → Int32) => some (f_6)) F59 (x2_8 + 1) f_11) F69 (x3_13 + 1) f_16) F82 x4_18 f_19 = some z → va_P D vwCl [(h, .inr (2, [.ref h_row, .ref h_parts, .int h_length])), (h_row, .inl (cI, 7, .inl h_row_f)), (h_parts, .inl (cI, 448, .inl f_19)), (p1, .inr (5, [.ref p1_cells, .int p1_size])), (p1_cells, .inl (cI, 64, .inl p1_cells_f))] H → va_D A [(h, .inr (2, [.ref h_row, .ref h_parts, .int h_length])), (h_row, .inl (cI, 7, .inl h_row_f)), (h_parts, .inl (cI, 448, .inl f_19)), (p1, .inr (5, [.ref p1_cells, .int p1_size])), (p1_cells, .inl (cI, 64, .inl p1_cells_f))] → va_S A s.heap H locs → lv_has ls 5 [(4, .int x4_18), (3, .int x3_13), (2, .int x2_8), (0, .ref h), (1, .ref p1)] → W p l e (headSpec wsX3_sumParts ({ frames := 4, cells := 0, slots := 0, locals := 97 } : Room)).room s m (([.ref h, .ref p1] : List Value).toArray) below meth c H locs 0 0 (MQ below (wQ D none A (fun (u : Unit) => [(h, .inr (2, [.ref h_row, .ref h_parts, .int h_length])), (h_row, .inl (cI, 7, .inl h_row_f)), (h_parts, .inl (cI, 448, .inl z)), (p1, .inr (5, [.ref p1_cells, .int p1_size])), (p1_cells, .inl (cI, 64, .inl p1_cells_f))])) (([.ref h, .ref p1] : List Value).toArray) s 0 0 A) (F0 m 82 ls []) := by
                    intro F82
                    induction F82 with
                    | zero => intro x4_18 f_19 H locs ls h0 hP hD hS hl; cases h0
                    | succ F82 ih82 =>
                      intro x4_18 f_19 H locs ls h0 hP hD hS hl
                      rw [mX3_sumParts_L82] at h0
                      refine lv_iload hx hb dX3_sumParts_82 (lv_at hl 0 rfl) ?_
                      refine lv_iload_n hx hb dX3_sumParts_84 rfl (lv_at hl 2 rfl) ?_
                      refine lv_icmp_ge (tgt := 103) hx hb dX3_sumParts_85 (by decide) (fun c9 => ?_) (fun c9 => ?_)
                      · have h0 := it_t c9 h0
                        exact E_82_103_16 x4_18 f_19 _ _ ls h0 hP hD hS hl
                      · have h0 := it_f c9 h0
                        refine lv_aload_n hx hb dX3_sumParts_88 rfl (lv_at hl 3 rfl) ?_
                        refine lv_aload_n hx hb dX3_sumParts_89 rfl (lv_at hl 4 rfl) ?_
                        refine lv_iload_n hx hb dX3_sumParts_90 rfl (lv_at hl 1 rfl) ?_
                        refine lv_iload hx hb dX3_sumParts_91 (lv_at hl 0 rfl) ?_
                        refine lv_iload_n hx hb dX3_sumParts_93 rfl (lv_at hl 2 rfl) ?_
                        obtain ⟨z_20, hz, h0⟩ := bd_ok h0
                        refine wr_V (As := [.ref p1, .int x3_13, .int x4_18, .int x2_8]) (rest := []) (wc := [(h, .inr (2, [.ref h_row, .ref h_parts, .int h_length])), (h_row, .inl (cI, 7, .inl h_row_f)), (h_parts, .inl (cI, 448, .inl f_19)), (p1, .inr (5, [.ref p1_cells, .int p1_size])), (p1_cells, .inl (cI, 64, .inl p1_cells_f))]) (wr := []) hcf (kX3_sumCut l D cI cC cT h h_row h_parts p1 p1_cells h_row_f f_19 h_length p1_cells_f p1_size x3_13 x4_18 x2_8 _ z_20 hz) (cwV 4 hts gX3_sumParts_X3_sumCut rfl rfl rfl (by decide +kernel) ⟨Nat.le_of_ble_eq_true rfl, Nat.le_of_ble_eq_true rfl⟩) hE hP hD hS hA [0, 1, 2, 3, 4] [] (hP.sub [0, 1, 2, 3, 4] rfl) (hD.sub [0, 1, 2, 3, 4] (by decide) rfl) (va_recv hK hP (ci := 2) (q0 := 0) rfl rfl) rfl rfl (by decide) (by decide) rfl hl.1 rfl (Nat.le_of_ble_eq_true rfl) dX3_sumParts_94 ⟨Nat.le_of_ble_eq_true rfl, Nat.le_of_ble_eq_true rfl⟩ (fun u H locs hP hD hS => ?_)
                        have hP : va_P D vwCl [(h, .inr (2, [.ref h_row, .ref h_parts, .int h_length])), (h_row, .inl (cI, 7, .inl h_row_f)), (h_parts, .inl (cI, 448, .inl z_20)), (p1, .inr (5, [.ref p1_cells, .int p1_size])), (p1_cells, .inl (cI, 64, .inl p1_cells_f))] H := hP
                        have hD : va_D A [(h, .inr (2, [.ref h_row, .ref h_parts, .int h_length])), (h_row, .inl (cI, 7, .inl h_row_f)), (h_parts, .inl (cI, 448, .inl z_20)), (p1, .inr (5, [.ref p1_cells, .int p1_size])), (p1_cells, .inl (cI, 64, .inl p1_cells_f))] := hD
                        refine W.eq (g2 := F0 m 97 ls []) rfl ?_
                        refine lv_iinc (v := (x4_18 + 1)) (lv' := [(4, .int (x4_18 + 1)), (3, .int x3_13), (2, .int x2_8), (0, .ref h), (1, .ref p1)]) hx hb dX3_sumParts_97 hl (k := 0) rfl rfl (by decide) rfl (fun ls hl => ?_)
                        refine lv_goto (tgt := 82) hx hb dX3_sumParts_100 (by decide) ?_
                        exact ih82 (x4_18 + 1) z_20 _ _ ls h0 hP hD hS hl
                  exact L_82_20 FU 1 f_14 _ _ ls h0 hP hD hS hl
            exact L_69_21 FU 0 f_9 _ _ ls h0 hP hD hS hl
      exact L_59_22 FU 2 f_4 _ _ ls h0 hP hD hS hl
    have L_28_28 : ∀ (F28 : Nat) (x2_25 : Int32) (f_26 : Nat → Int32) (H : Heap) (locs : List Loc) (ls : Array Slot), mX3_sumParts_L28 h_row_f h_length (fun (x2_3 : Int32) (f_4 : Nat → Int32) => mX3_sumParts_L59 h_length p1_cells_f p1_size (fun (x2_5 : Int32) (f_6 : Nat → Int32) => some (f_6)) FU 2 f_4) F28 x2_25 f_26 = some z → va_P D vwCl [(h, .inr (2, [.ref h_row, .ref h_parts, .int h_length])), (h_row, .inl (cI, 7, .inl h_row_f)), (h_parts, .inl (cI, 448, .inl f_26)), (p1, .inr (5, [.ref p1_cells, .int p1_size])), (p1_cells, .inl (cI, 64, .inl p1_cells_f))] H → va_D A [(h, .inr (2, [.ref h_row, .ref h_parts, .int h_length])), (h_row, .inl (cI, 7, .inl h_row_f)), (h_parts, .inl (cI, 448, .inl f_26)), (p1, .inr (5, [.ref p1_cells, .int p1_size])), (p1_cells, .inl (cI, 64, .inl p1_cells_f))] → va_S A s.heap H locs → lv_has ls 5 [(2, .int x2_25), (0, .ref h), (1, .ref p1)] → W p l e (headSpec wsX3_sumParts ({ frames := 4, cells := 0, slots := 0, locals := 97 } : Room)).room s m (([.ref h, .ref p1] : List Value).toArray) below meth c H locs 0 0 (MQ below (wQ D none A (fun (u : Unit) => [(h, .inr (2, [.ref h_row, .ref h_parts, .int h_length])), (h_row, .inl (cI, 7, .inl h_row_f)), (h_parts, .inl (cI, 448, .inl z)), (p1, .inr (5, [.ref p1_cells, .int p1_size])), (p1_cells, .inl (cI, 64, .inl p1_cells_f))])) (([.ref h, .ref p1] : List Value).toArray) s 0 0 A) (F0 m 28 ls []) := by
      intro F28
      induction F28 with
      | zero => intro x2_25 f_26 H locs ls h0 hP hD hS hl; cases h0
      | succ F28 ih28 =>
        intro x2_25 f_26 H locs ls h0 hP hD hS hl
        rw [mX3_sumParts_L28] at h0
        refine lv_iload_n hx hb dX3_sumParts_28 rfl (lv_at hl 0 rfl) ?_
        refine lv_aload_n hx hb dX3_sumParts_29 rfl (lv_at hl 1 rfl) ?_
        refine va_get (D := D) (ci := 2) (v := .int h_length) (C := RX3) (T := TX3) (N := 3) hx hb hts hi_X3 hown hK hP 0 rfl rfl 2 (by decide) hf_18 (fun _ h9 => h9) rfl dX3_sumParts_30 ?_
        refine lv_icmp_ge (tgt := 57) hx hb dX3_sumParts_33 (by decide) (fun c9 => ?_) (fun c9 => ?_)
        · have h0 := it_t c9 h0
          exact E_28_57_23 x2_25 f_26 _ _ ls h0 hP hD hS hl
        · have h0 := it_f c9 h0
          refine lv_aload_n hx hb dX3_sumParts_36 rfl (lv_at hl 1 rfl) ?_
          refine lv_iload_n hx hb dX3_sumParts_37 rfl (lv_at hl 0 rfl) ?_
          refine lv_iconst (v := 1) hx hb dX3_sumParts_38 (by decide) ?_
          refine lv_aload_n hx hb dX3_sumParts_39 rfl (lv_at hl 1 rfl) ?_
          refine va_get (D := D) (ci := 2) (v := .ref h_row) (C := RX3) (T := TX3) (N := 3) hx hb hts hi_X3 hown hK hP 0 rfl rfl 0 (by decide) hf_11 (fun _ h9 => h9) rfl dX3_sumParts_40 ?_
          refine lv_iload_n hx hb dX3_sumParts_43 rfl (lv_at hl 0 rfl) ?_
          obtain ⟨z_27, hz, h0⟩ := bd_ok h0
          refine ro_SN (As := [.ref h_row, .int x2_25]) (rest := [.int 1, .int x2_25, .ref h]) (wc := [(h_row, .inl (cI, 7, .inl h_row_f))]) hcf (kX9_get l D cI cC cT h_row 7 h_row_f x2_25 z_27 hz) ⟨va_cnB (host := RX9) 2 hts gX3_sumParts_X9_get_n52 rfl rfl rfl hE.2.2.2.1 hini_X9 (by decide +kernel) ⟨Nat.le_of_ble_eq_true rfl, Nat.le_of_ble_eq_true rfl⟩, hst_X9_get, trivial⟩ hE (hP.sub [1] rfl) rfl hl.1 rfl (Nat.le_of_ble_eq_true rfl) dX3_sumParts_44 ⟨Nat.le_of_ble_eq_true rfl, Nat.le_of_ble_eq_true rfl⟩ ?_
          refine W.eq (g2 := F0 m 47 ls [.int z_27, .int 1, .int x2_25, .ref h]) rfl ?_
          refine lv_iconst (v := 1) hx hb dX3_sumParts_47 (by decide) ?_
          obtain ⟨z_28, hz, h0⟩ := bd_ok h0
          refine wr_V (As := [.int x2_25, .int 1, .int z_27, .int 1]) (rest := []) (wc := [(h, .inr (2, [.ref h_row, .ref h_parts, .int h_length])), (h_row, .inl (cI, 7, .inl h_row_f)), (h_parts, .inl (cI, 448, .inl f_26))]) (wr := [(p1, .inr (5, [.ref p1_cells, .int p1_size])), (p1_cells, .inl (cI, 64, .inl p1_cells_f))]) hcf (kX3_addWays l D cI cC cT h h_row h_parts h_row_f f_26 h_length x2_25 1 z_27 1 _ z_28 hz) (cwV 4 hts gX3_sumParts_X3_addWays rfl rfl rfl (by decide +kernel) ⟨Nat.le_of_ble_eq_true rfl, Nat.le_of_ble_eq_true rfl⟩) hE hP hD hS hA [0, 1, 2] [3, 4] (hP.sub [0, 1, 2] rfl) (hD.sub [0, 1, 2] (by decide) rfl) (va_recv hK hP (ci := 2) (q0 := 0) rfl rfl) rfl rfl (by decide) (by decide) rfl hl.1 rfl (Nat.le_of_ble_eq_true rfl) dX3_sumParts_48 ⟨Nat.le_of_ble_eq_true rfl, Nat.le_of_ble_eq_true rfl⟩ (fun u H locs hP hD hS => ?_)
          have hP : va_P D vwCl [(p1, .inr (5, [.ref p1_cells, .int p1_size])), (p1_cells, .inl (cI, 64, .inl p1_cells_f)), (h, .inr (2, [.ref h_row, .ref h_parts, .int h_length])), (h_row, .inl (cI, 7, .inl h_row_f)), (h_parts, .inl (cI, 448, .inl z_28))] H := hP
          have hD : va_D A [(p1, .inr (5, [.ref p1_cells, .int p1_size])), (p1_cells, .inl (cI, 64, .inl p1_cells_f)), (h, .inr (2, [.ref h_row, .ref h_parts, .int h_length])), (h_row, .inl (cI, 7, .inl h_row_f)), (h_parts, .inl (cI, 448, .inl z_28))] := hD
          refine W.eq (g2 := F0 m 51 ls []) rfl ?_
          refine lv_iinc (v := (x2_25 + 1)) (lv' := [(2, .int (x2_25 + 1)), (0, .ref h), (1, .ref p1)]) hx hb dX3_sumParts_51 hl (k := 0) rfl rfl (by decide) rfl (fun ls hl => ?_)
          refine lv_goto (tgt := 28) hx hb dX3_sumParts_54 (by decide) ?_
          exact ih28 (x2_25 + 1) z_28 _ _ ls h0 (hP.sub [2, 3, 4, 0, 1] rfl) (hD.sub [2, 3, 4, 0, 1] (by decide) rfl) hS hl
    exact L_28_28 FU 0 f_2 _ _ ls h0 hP hD hS hl
  have L_2_33 : ∀ (F2 : Nat) (x2_31 : Int32) (f_32 : Nat → Int32) (H : Heap) (locs : List Loc) (ls : Array Slot), mX3_sumParts_L2  (fun (x2_1 : Int32) (f_2 : Nat → Int32) => mX3_sumParts_L28 h_row_f h_length (fun (x2_3 : Int32) (f_4 : Nat → Int32) => mX3_sumParts_L59 h_length p1_cells_f p1_size (fun (x2_5 : Int32) (f_6 : Nat → Int32) => some (f_6)) FU 2 f_4) FU 0 f_2) F2 x2_31 f_32 = some z → va_P D vwCl [(h, .inr (2, [.ref h_row, .ref h_parts, .int h_length])), (h_row, .inl (cI, 7, .inl h_row_f)), (h_parts, .inl (cI, 448, .inl f_32)), (p1, .inr (5, [.ref p1_cells, .int p1_size])), (p1_cells, .inl (cI, 64, .inl p1_cells_f))] H → va_D A [(h, .inr (2, [.ref h_row, .ref h_parts, .int h_length])), (h_row, .inl (cI, 7, .inl h_row_f)), (h_parts, .inl (cI, 448, .inl f_32)), (p1, .inr (5, [.ref p1_cells, .int p1_size])), (p1_cells, .inl (cI, 64, .inl p1_cells_f))] → va_S A s.heap H locs → lv_has ls 5 [(2, .int x2_31), (0, .ref h), (1, .ref p1)] → W p l e (headSpec wsX3_sumParts ({ frames := 4, cells := 0, slots := 0, locals := 97 } : Room)).room s m (([.ref h, .ref p1] : List Value).toArray) below meth c H locs 0 0 (MQ below (wQ D none A (fun (u : Unit) => [(h, .inr (2, [.ref h_row, .ref h_parts, .int h_length])), (h_row, .inl (cI, 7, .inl h_row_f)), (h_parts, .inl (cI, 448, .inl z)), (p1, .inr (5, [.ref p1_cells, .int p1_size])), (p1_cells, .inl (cI, 64, .inl p1_cells_f))])) (([.ref h, .ref p1] : List Value).toArray) s 0 0 A) (F0 m 2 ls []) := by
    intro F2
    induction F2 with
    | zero => intro x2_31 f_32 H locs ls h0 hP hD hS hl; cases h0
    | succ F2 ih2 =>
      intro x2_31 f_32 H locs ls h0 hP hD hS hl
      rw [mX3_sumParts_L2] at h0
      refine lv_iload_n hx hb dX3_sumParts_2 rfl (lv_at hl 0 rfl) ?_
      refine lv_aload_n hx hb dX3_sumParts_3 rfl (lv_at hl 1 rfl) ?_
      refine va_get (D := D) (ci := 2) (v := .ref h_parts) (C := RX3) (T := TX3) (N := 3) hx hb hts hi_X3 hown hK hP 0 rfl rfl 1 (by decide) hf_15 (fun _ h9 => h9) rfl dX3_sumParts_4 ?_
      refine va_alen hx hb hK hP 2 0 (v := 448) rfl rfl (show Int32.ofNat 448 = 448 from by decide) dX3_sumParts_7 ?_
      refine lv_icmp_ge (tgt := 26) hx hb dX3_sumParts_8 (by decide) (fun c9 => ?_) (fun c9 => ?_)
      · have h0 := it_t c9 h0
        exact E_2_26_29 x2_31 f_32 _ _ ls h0 hP hD hS hl
      · have h0 := it_f c9 h0
        refine lv_aload_n hx hb dX3_sumParts_11 rfl (lv_at hl 1 rfl) ?_
        refine va_get (D := D) (ci := 2) (v := .ref h_parts) (C := RX3) (T := TX3) (N := 3) hx hb hts hi_X3 hown hK hP 0 rfl rfl 1 (by decide) hf_15 (fun _ h9 => h9) rfl dX3_sumParts_12 ?_
        refine lv_iload_n hx hb dX3_sumParts_15 rfl (lv_at hl 0 rfl) ?_
        refine lv_iconst (v := 0) hx hb dX3_sumParts_16 (by decide) ?_
        obtain ⟨z_33, hz, h0⟩ := bd_ok h0
        refine wr_SN (As := [.ref h_parts, .int x2_31, .int 0]) (rest := []) (wc := [(h_parts, .inl (cI, 448, .inl f_32))]) (wr := [(h, .inr (2, [.ref h_row, .ref h_parts, .int h_length])), (h_row, .inl (cI, 7, .inl h_row_f)), (p1, .inr (5, [.ref p1_cells, .int p1_size])), (p1_cells, .inl (cI, 64, .inl p1_cells_f))]) hcf (kX9_put l D cI cC cT h_parts 448 f_32 x2_31 0 _ z_33 hz) ⟨va_cnB (host := RX9) 3 hts gX3_sumParts_X9_put_n37 rfl rfl rfl hE.2.2.1 hini_X9 (by decide +kernel) ⟨Nat.le_of_ble_eq_true rfl, Nat.le_of_ble_eq_true rfl⟩, hst_X9_put, trivial⟩ hE hP hD hS hA [2] [0, 1, 3, 4] (hP.sub [2] rfl) (hD.sub [2] (by decide) rfl) rfl rfl (by decide) (by decide) rfl hl.1 rfl (Nat.le_of_ble_eq_true rfl) dX3_sumParts_17 ⟨Nat.le_of_ble_eq_true rfl, Nat.le_of_ble_eq_true rfl⟩ (fun u H locs hP hD hS => ?_)
        have hP : va_P D vwCl [(h, .inr (2, [.ref h_row, .ref h_parts, .int h_length])), (h_row, .inl (cI, 7, .inl h_row_f)), (p1, .inr (5, [.ref p1_cells, .int p1_size])), (p1_cells, .inl (cI, 64, .inl p1_cells_f)), (h_parts, .inl (cI, 448, .inl z_33))] H := hP
        have hD : va_D A [(h, .inr (2, [.ref h_row, .ref h_parts, .int h_length])), (h_row, .inl (cI, 7, .inl h_row_f)), (p1, .inr (5, [.ref p1_cells, .int p1_size])), (p1_cells, .inl (cI, 64, .inl p1_cells_f)), (h_parts, .inl (cI, 448, .inl z_33))] := hD
        refine W.eq (g2 := F0 m 20 ls []) rfl ?_
        refine lv_iinc (v := (x2_31 + 1)) (lv' := [(2, .int (x2_31 + 1)), (0, .ref h), (1, .ref p1)]) hx hb dX3_sumParts_20 hl (k := 0) rfl rfl (by decide) rfl (fun ls hl => ?_)
        refine lv_goto (tgt := 2) hx hb dX3_sumParts_23 (by decide) ?_
        exact ih2 (x2_31 + 1) z_33 _ _ ls h0 (hP.sub [0, 1, 4, 2, 3] rfl) (hD.sub [0, 1, 4, 2, 3] (by decide) rfl) hS hl
  exact L_2_33 FU 0 h_parts_f _ _ ls h0 hP hD hS hl
noncomputable def mX3_firstCut_L7 (h_length : Int32) (p1_cells_f : Nat → Int32) (p1_size : Int32) (p2 : Int32) (z_1 : (Nat → Int32)) (k7_33 : Int32 → Option (Int32 × (Nat → Int32))) : Nat → Int32 → Option (Int32 × (Nat → Int32))
  | 0, _ => none
  | F + 1, x3_4 => if h_length ≤ x3_4 then (k7_33 x3_4) else (bd (mX3_cutComesTo z_1 h_length p1_cells_f p1_size x3_4 p2) (fun z_5 => if z_5 = 0 then (mX3_firstCut_L7 h_length p1_cells_f p1_size p2 z_1 k7_33 F (x3_4 + 1)) else (some (x3_4, z_1))))
noncomputable def mX3_firstCut (h_row_f : Nat → Int32) (h_parts_f : Nat → Int32) (h_length : Int32) (p1_cells_f : Nat → Int32) (p1_size : Int32) (p2 : Int32) : Option (Int32 × (Nat → Int32)) :=
  bd (mX3_sumParts h_row_f h_parts_f h_length p1_cells_f p1_size) (fun z_1 => mX3_firstCut_L7 h_length p1_cells_f p1_size p2 z_1 (fun (x3_2 : Int32) => some ((-4), z_1)) FU 1)
set_option maxHeartbeats 8000000 in
set_option maxRecDepth 100000 in
theorem kX3_firstCut (l : Launch) (D : va_G) (cI cC cT : ClassId) (h h_row h_parts p1 p1_cells : Nat) (h_row_f : Nat → Int32) (h_parts_f : Nat → Int32) (h_length : Int32) (p1_cells_f : Nat → Int32) (p1_size : Int32) (p2 : Int32) (sz : Nat) (z : Int32 × (Nat → Int32)) (h0 : mX3_firstCut h_row_f h_parts_f h_length p1_cells_f p1_size p2 = some z) : Met l yX3_firstCut wsX3_firstCut ({ frames := 5, cells := 0, slots := 0, locals := 121 } : Room) (va_Pc [.ref h, .ref p1, .int p2] (wP D cI cC cT [(h, .inr (2, [.ref h_row, .ref h_parts, .int h_length])), (h_row, .inl (cI, 7, .inl h_row_f)), (h_parts, .inl (cI, 448, .inl h_parts_f)), (p1, .inr (5, [.ref p1_cells, .int p1_size])), (p1_cells, .inl (cI, 64, .inl p1_cells_f))] sz)) (wQ D (some (.int z.1)) (va_A [(h, .inr (2, [.ref h_row, .ref h_parts, .int h_length])), (h_row, .inl (cI, 7, .inl h_row_f)), (h_parts, .inl (cI, 448, .inl h_parts_f)), (p1, .inr (5, [.ref p1_cells, .int p1_size])), (p1_cells, .inl (cI, 64, .inl p1_cells_f))] sz) (fun (u : Unit) => [(h, .inr (2, [.ref h_row, .ref h_parts, .int h_length])), (h_row, .inl (cI, 7, .inl h_row_f)), (h_parts, .inl (cI, 448, .inl z.2)), (p1, .inr (5, [.ref p1_cells, .int p1_size])), (p1_cells, .inl (cI, 64, .inl p1_cells_f))])) 0 0 (va_A [(h, .inr (2, [.ref h_row, .ref h_parts, .int h_length])), (h_row, .inl (cI, 7, .inl h_row_f)), (h_parts, .inl (cI, 448, .inl h_parts_f)), (p1, .inr (5, [.ref p1_cells, .int p1_size])), (p1_cells, .inl (cI, 64, .inl p1_cells_f))] sz) := by
  refine Met.ofW (cc := cX3_firstCut) (maxL := 4) (ret := (some .int)) (by decide) rfl ?_
  intro p e s m args below meth c s₁ B hml hv
  obtain ⟨rfl, hsz, hP, hE, hD0⟩ := hv
  have hx := B.exec
  have hb := B.bytes
  have hr := B.returns
  have hts := atoms_spec (ws := wsX3_firstCut) B.pre
  have hown : s.vm.findClass RX3 = some m.cls := findClass_of_methodNamed B.named
  have hlocks := B.notSynchronized
  have hK := hE.1
  have hcf : CallFix p m c cX3_firstCut 4 s ([.ref h, .ref p1, .int p2] : List Value).toArray wsX3_firstCut RX3 := ⟨hx, hb, hml, hown, hts⟩
  subst hsz
  have hD := hD0.self (sz := s.heap.size)
  generalize hAe : va_A [(h, .inr (2, [.ref h_row, .ref h_parts, .int h_length])), (h_row, .inl (cI, 7, .inl h_row_f)), (h_parts, .inl (cI, 448, .inl h_parts_f)), (p1, .inr (5, [.ref p1_cells, .int p1_size])), (p1_cells, .inl (cI, 64, .inl p1_cells_f))] s.heap.size = A at hD ⊢
  have hA : ∀ q : Nat, s.heap.size ≤ q → A q := fun q h => by rw [← hAe]; exact Or.inr h
  have hS : va_S A s.heap s.heap [] := va_S.rf
  have hP : va_P D vwCl [(h, .inr (2, [.ref h_row, .ref h_parts, .int h_length])), (h_row, .inl (cI, 7, .inl h_row_f)), (h_parts, .inl (cI, 448, .inl h_parts_f)), (p1, .inr (5, [.ref p1_cells, .int p1_size])), (p1_cells, .inl (cI, 64, .inl p1_cells_f))] s.heap := hP
  have hf_18 := hts (.fieldLink RX3 18 "CrookedSums$RowText" "length" "I") (by decide +kernel)
  have hi_X3 := (show ∀ w ∈ u_ws RX3 TX3 3, w ∈ wsX3_firstCut from by decide +kernel)
  have hl := lv_entry ([.ref h, .ref p1, .int p2]) (n := 4) (Nat.le_of_ble_eq_true rfl)
  rw [lg_entry_eq]
  generalize (lg_sl ([.ref h, .ref p1, .int p2]) ++ List.replicate (4 - (lg_sl ([.ref h, .ref p1, .int p2])).length) Slot.unset).toArray = ls at hl ⊢
  have hl : lv_has ls 4 [(0, .ref h), (1, .ref p1), (2, .int p2)] := hl
  unfold mX3_firstCut at h0
  refine lv_aload_n hx hb dX3_firstCut_0 rfl (lv_at hl 0 rfl) ?_
  refine lv_aload_n hx hb dX3_firstCut_1 rfl (lv_at hl 1 rfl) ?_
  obtain ⟨z_1, hz, h0⟩ := bd_ok h0
  refine wr_V (As := [.ref p1]) (rest := []) (wc := [(h, .inr (2, [.ref h_row, .ref h_parts, .int h_length])), (h_row, .inl (cI, 7, .inl h_row_f)), (h_parts, .inl (cI, 448, .inl h_parts_f)), (p1, .inr (5, [.ref p1_cells, .int p1_size])), (p1_cells, .inl (cI, 64, .inl p1_cells_f))]) (wr := []) hcf (kX3_sumParts l D cI cC cT h h_row h_parts p1 p1_cells h_row_f h_parts_f h_length p1_cells_f p1_size _ z_1 hz) (cwV 1 hts gX3_firstCut_X3_sumParts rfl rfl rfl (by decide +kernel) ⟨Nat.le_of_ble_eq_true rfl, Nat.le_of_ble_eq_true rfl⟩) hE hP hD hS hA [0, 1, 2, 3, 4] [] (hP.sub [0, 1, 2, 3, 4] rfl) (hD.sub [0, 1, 2, 3, 4] (by decide) rfl) (va_recv hK hP (ci := 2) (q0 := 0) rfl rfl) rfl rfl (by decide) (by decide) rfl hl.1 rfl (Nat.le_of_ble_eq_true rfl) dX3_firstCut_2 ⟨Nat.le_of_ble_eq_true rfl, Nat.le_of_ble_eq_true rfl⟩ (fun u H locs hP hD hS => ?_)
  have hP : va_P D vwCl [(h, .inr (2, [.ref h_row, .ref h_parts, .int h_length])), (h_row, .inl (cI, 7, .inl h_row_f)), (h_parts, .inl (cI, 448, .inl z_1)), (p1, .inr (5, [.ref p1_cells, .int p1_size])), (p1_cells, .inl (cI, 64, .inl p1_cells_f))] H := hP
  have hD : va_D A [(h, .inr (2, [.ref h_row, .ref h_parts, .int h_length])), (h_row, .inl (cI, 7, .inl h_row_f)), (h_parts, .inl (cI, 448, .inl z_1)), (p1, .inr (5, [.ref p1_cells, .int p1_size])), (p1_cells, .inl (cI, 64, .inl p1_cells_f))] := hD
  refine W.eq (g2 := F0 m 5 ls []) rfl ?_
  refine lv_iconst (v := 1) hx hb dX3_firstCut_5 (by decide) ?_
  refine lv_istore_n (lv' := [(3, .int 1), (0, .ref h), (1, .ref p1), (2, .int p2)]) hx hb dX3_firstCut_6 rfl hl (by decide) rfl (fun ls hl => ?_)
  have E_7_33_2 : ∀ (x3_2 : Int32) (H : Heap) (locs : List Loc) (ls : Array Slot), (some ((-4), z_1)) = some z → va_P D vwCl [(h, .inr (2, [.ref h_row, .ref h_parts, .int h_length])), (h_row, .inl (cI, 7, .inl h_row_f)), (h_parts, .inl (cI, 448, .inl z_1)), (p1, .inr (5, [.ref p1_cells, .int p1_size])), (p1_cells, .inl (cI, 64, .inl p1_cells_f))] H → va_D A [(h, .inr (2, [.ref h_row, .ref h_parts, .int h_length])), (h_row, .inl (cI, 7, .inl h_row_f)), (h_parts, .inl (cI, 448, .inl z_1)), (p1, .inr (5, [.ref p1_cells, .int p1_size])), (p1_cells, .inl (cI, 64, .inl p1_cells_f))] → va_S A s.heap H locs → lv_has ls 4 [(3, .int x3_2), (0, .ref h), (1, .ref p1), (2, .int p2)] → W p l e (headSpec wsX3_firstCut ({ frames := 5, cells := 0, slots := 0, locals := 121 } : Room)).room s m (([.ref h, .ref p1, .int p2] : List Value).toArray) below meth c H locs 0 0 (MQ below (wQ D (some (.int z.1)) A (fun (u : Unit) => [(h, .inr (2, [.ref h_row, .ref h_parts, .int h_length])), (h_row, .inl (cI, 7, .inl h_row_f)), (h_parts, .inl (cI, 448, .inl z.2)), (p1, .inr (5, [.ref p1_cells, .int p1_size])), (p1_cells, .inl (cI, 64, .inl p1_cells_f))])) (([.ref h, .ref p1, .int p2] : List Value).toArray) s 0 0 A) (F0 m 33 ls []) := by
    intro x3_2 H locs ls h0 hP hD hS hl
    refine lv_bipush (v := (-4)) hx hb dX3_firstCut_33 (by decide) ?_
    have e0 := Option.some.inj h0
    subst e0
    exact W.iret (v := (-4)) hx hb hr (fun t ht hW => wr_end () ht hP hD hS) hS.2.2 dX3_firstCut_35
  have L_7_5 : ∀ (F7 : Nat) (x3_4 : Int32) (H : Heap) (locs : List Loc) (ls : Array Slot), mX3_firstCut_L7 h_length p1_cells_f p1_size p2 z_1 (fun (x3_2 : Int32) => some ((-4), z_1)) F7 x3_4 = some z → va_P D vwCl [(h, .inr (2, [.ref h_row, .ref h_parts, .int h_length])), (h_row, .inl (cI, 7, .inl h_row_f)), (h_parts, .inl (cI, 448, .inl z_1)), (p1, .inr (5, [.ref p1_cells, .int p1_size])), (p1_cells, .inl (cI, 64, .inl p1_cells_f))] H → va_D A [(h, .inr (2, [.ref h_row, .ref h_parts, .int h_length])), (h_row, .inl (cI, 7, .inl h_row_f)), (h_parts, .inl (cI, 448, .inl z_1)), (p1, .inr (5, [.ref p1_cells, .int p1_size])), (p1_cells, .inl (cI, 64, .inl p1_cells_f))] → va_S A s.heap H locs → lv_has ls 4 [(3, .int x3_4), (0, .ref h), (1, .ref p1), (2, .int p2)] → W p l e (headSpec wsX3_firstCut ({ frames := 5, cells := 0, slots := 0, locals := 121 } : Room)).room s m (([.ref h, .ref p1, .int p2] : List Value).toArray) below meth c H locs 0 0 (MQ below (wQ D (some (.int z.1)) A (fun (u : Unit) => [(h, .inr (2, [.ref h_row, .ref h_parts, .int h_length])), (h_row, .inl (cI, 7, .inl h_row_f)), (h_parts, .inl (cI, 448, .inl z.2)), (p1, .inr (5, [.ref p1_cells, .int p1_size])), (p1_cells, .inl (cI, 64, .inl p1_cells_f))])) (([.ref h, .ref p1, .int p2] : List Value).toArray) s 0 0 A) (F0 m 7 ls []) := by
    intro F7
    induction F7 with
    | zero => intro x3_4 H locs ls h0 hP hD hS hl; cases h0
    | succ F7 ih7 =>
      intro x3_4 H locs ls h0 hP hD hS hl
      rw [mX3_firstCut_L7] at h0
      refine lv_iload_n hx hb dX3_firstCut_7 rfl (lv_at hl 0 rfl) ?_
      refine lv_aload_n hx hb dX3_firstCut_8 rfl (lv_at hl 1 rfl) ?_
      refine va_get (D := D) (ci := 2) (v := .int h_length) (C := RX3) (T := TX3) (N := 3) hx hb hts hi_X3 hown hK hP 0 rfl rfl 2 (by decide) hf_18 (fun _ h9 => h9) rfl dX3_firstCut_9 ?_
      refine lv_icmp_ge (tgt := 33) hx hb dX3_firstCut_12 (by decide) (fun c9 => ?_) (fun c9 => ?_)
      · have h0 := it_t c9 h0
        exact E_7_33_2 x3_4 _ _ ls h0 hP hD hS hl
      · have h0 := it_f c9 h0
        refine lv_aload_n hx hb dX3_firstCut_15 rfl (lv_at hl 1 rfl) ?_
        refine lv_aload_n hx hb dX3_firstCut_16 rfl (lv_at hl 2 rfl) ?_
        refine lv_iload_n hx hb dX3_firstCut_17 rfl (lv_at hl 0 rfl) ?_
        refine lv_iload_n hx hb dX3_firstCut_18 rfl (lv_at hl 3 rfl) ?_
        obtain ⟨z_5, hz, h0⟩ := bd_ok h0
        refine ro_V (As := [.ref p1, .int x3_4, .int p2]) (rest := []) (wc := [(h, .inr (2, [.ref h_row, .ref h_parts, .int h_length])), (h_row, .inl (cI, 7, .inl h_row_f)), (h_parts, .inl (cI, 448, .inl z_1)), (p1, .inr (5, [.ref p1_cells, .int p1_size])), (p1_cells, .inl (cI, 64, .inl p1_cells_f))]) hcf (kX3_cutComesTo l D cI cC cT h h_row h_parts p1 p1_cells h_row_f z_1 h_length p1_cells_f p1_size x3_4 p2 z_5 hz) (cwV 3 hts gX3_firstCut_X3_cutComesTo rfl rfl rfl (by decide +kernel) ⟨Nat.le_of_ble_eq_true rfl, Nat.le_of_ble_eq_true rfl⟩) hE (hP.sub [0, 1, 2, 3, 4] rfl) (va_recv hK hP (ci := 2) (q0 := 0) rfl rfl) rfl hl.1 rfl (Nat.le_of_ble_eq_true rfl) dX3_firstCut_19 ⟨Nat.le_of_ble_eq_true rfl, Nat.le_of_ble_eq_true rfl⟩ ?_
        refine W.eq (g2 := F0 m 22 ls [.int z_5]) rfl ?_
        refine lv_if_eq (tgt := 27) hx hb dX3_firstCut_22 (by decide) (fun c9 => ?_) (fun c9 => ?_)
        · have h0 := it_t c9 h0
          refine lv_iinc (v := (x3_4 + 1)) (lv' := [(3, .int (x3_4 + 1)), (0, .ref h), (1, .ref p1), (2, .int p2)]) hx hb dX3_firstCut_27 hl (k := 0) rfl rfl (by decide) rfl (fun ls hl => ?_)
          refine lv_goto (tgt := 7) hx hb dX3_firstCut_30 (by decide) ?_
          exact ih7 (x3_4 + 1) _ _ ls h0 hP hD hS hl
        · have h0 := it_f c9 h0
          refine lv_iload_n hx hb dX3_firstCut_25 rfl (lv_at hl 0 rfl) ?_
          have e0 := Option.some.inj h0
          subst e0
          exact W.iret (v := x3_4) hx hb hr (fun t ht hW => wr_end () ht hP hD hS) hS.2.2 dX3_firstCut_26
  exact L_7_5 FU 1 _ _ ls h0 hP hD hS hl
noncomputable def mX3_likeliestSum_L9 (h_length : Int32) (p1_size : Int32) (z_1 : (Nat → Int32)) (k9_48 : Int32 → Int32 → Option (Int32 × (Nat → Int32))) : Nat → Int32 → Int32 → Option (Int32 × (Nat → Int32))
  | 0, _, _ => none
  | F + 1, x3_5, x2_6 => bd (mX6_size p1_size) (fun z_7 => if z_7 ≤ x3_5 then (k9_48 x3_5 x2_6) else (bd (mX3_partWays z_1 0 h_length x3_5) (fun z_8 => bd (mX3_partWays z_1 0 h_length x2_6) (fun z_9 => if z_8 ≤ z_9 then (mX3_likeliestSum_L9 h_length p1_size z_1 k9_48 F (x3_5 + 1) x2_6) else (mX3_likeliestSum_L9 h_length p1_size z_1 k9_48 F (x3_5 + 1) x3_5)))))
noncomputable def mX3_likeliestSum (h_row_f : Nat → Int32) (h_parts_f : Nat → Int32) (h_length : Int32) (p1_cells_f : Nat → Int32) (p1_size : Int32) : Option (Int32 × (Nat → Int32)) :=
  bd (mX3_sumParts h_row_f h_parts_f h_length p1_cells_f p1_size) (fun z_1 => mX3_likeliestSum_L9 h_length p1_size z_1 (fun (x3_2 : Int32) (x2_3 : Int32) => some (x2_3, z_1)) FU 1 0)
set_option maxHeartbeats 8000000 in
set_option maxRecDepth 100000 in
theorem kX3_likeliestSum (l : Launch) (D : va_G) (cI cC cT : ClassId) (h h_row h_parts p1 p1_cells : Nat) (h_row_f : Nat → Int32) (h_parts_f : Nat → Int32) (h_length : Int32) (p1_cells_f : Nat → Int32) (p1_size : Int32) (sz : Nat) (z : Int32 × (Nat → Int32)) (h0 : mX3_likeliestSum h_row_f h_parts_f h_length p1_cells_f p1_size = some z) : Met l yX3_likeliestSum wsX3_likeliestSum ({ frames := 5, cells := 0, slots := 0, locals := 121 } : Room) (va_Pc [.ref h, .ref p1] (wP D cI cC cT [(h, .inr (2, [.ref h_row, .ref h_parts, .int h_length])), (h_row, .inl (cI, 7, .inl h_row_f)), (h_parts, .inl (cI, 448, .inl h_parts_f)), (p1, .inr (5, [.ref p1_cells, .int p1_size])), (p1_cells, .inl (cI, 64, .inl p1_cells_f))] sz)) (wQ D (some (.int z.1)) (va_A [(h, .inr (2, [.ref h_row, .ref h_parts, .int h_length])), (h_row, .inl (cI, 7, .inl h_row_f)), (h_parts, .inl (cI, 448, .inl h_parts_f)), (p1, .inr (5, [.ref p1_cells, .int p1_size])), (p1_cells, .inl (cI, 64, .inl p1_cells_f))] sz) (fun (u : Unit) => [(h, .inr (2, [.ref h_row, .ref h_parts, .int h_length])), (h_row, .inl (cI, 7, .inl h_row_f)), (h_parts, .inl (cI, 448, .inl z.2)), (p1, .inr (5, [.ref p1_cells, .int p1_size])), (p1_cells, .inl (cI, 64, .inl p1_cells_f))])) 0 0 (va_A [(h, .inr (2, [.ref h_row, .ref h_parts, .int h_length])), (h_row, .inl (cI, 7, .inl h_row_f)), (h_parts, .inl (cI, 448, .inl h_parts_f)), (p1, .inr (5, [.ref p1_cells, .int p1_size])), (p1_cells, .inl (cI, 64, .inl p1_cells_f))] sz) := by
  refine Met.ofW (cc := cX3_likeliestSum) (maxL := 4) (ret := (some .int)) (by decide) rfl ?_
  intro p e s m args below meth c s₁ B hml hv
  obtain ⟨rfl, hsz, hP, hE, hD0⟩ := hv
  have hx := B.exec
  have hb := B.bytes
  have hr := B.returns
  have hts := atoms_spec (ws := wsX3_likeliestSum) B.pre
  have hown : s.vm.findClass RX3 = some m.cls := findClass_of_methodNamed B.named
  have hlocks := B.notSynchronized
  have hK := hE.1
  have hcf : CallFix p m c cX3_likeliestSum 4 s ([.ref h, .ref p1] : List Value).toArray wsX3_likeliestSum RX3 := ⟨hx, hb, hml, hown, hts⟩
  subst hsz
  have hD := hD0.self (sz := s.heap.size)
  generalize hAe : va_A [(h, .inr (2, [.ref h_row, .ref h_parts, .int h_length])), (h_row, .inl (cI, 7, .inl h_row_f)), (h_parts, .inl (cI, 448, .inl h_parts_f)), (p1, .inr (5, [.ref p1_cells, .int p1_size])), (p1_cells, .inl (cI, 64, .inl p1_cells_f))] s.heap.size = A at hD ⊢
  have hA : ∀ q : Nat, s.heap.size ≤ q → A q := fun q h => by rw [← hAe]; exact Or.inr h
  have hS : va_S A s.heap s.heap [] := va_S.rf
  have hP : va_P D vwCl [(h, .inr (2, [.ref h_row, .ref h_parts, .int h_length])), (h_row, .inl (cI, 7, .inl h_row_f)), (h_parts, .inl (cI, 448, .inl h_parts_f)), (p1, .inr (5, [.ref p1_cells, .int p1_size])), (p1_cells, .inl (cI, 64, .inl p1_cells_f))] s.heap := hP
  have hf_18 := hts (.fieldLink RX3 18 "CrookedSums$RowText" "length" "I") (by decide +kernel)
  have hi_X3 := (show ∀ w ∈ u_ws RX3 TX3 3, w ∈ wsX3_likeliestSum from by decide +kernel)
  have hl := lv_entry ([.ref h, .ref p1]) (n := 4) (Nat.le_of_ble_eq_true rfl)
  rw [lg_entry_eq]
  generalize (lg_sl ([.ref h, .ref p1]) ++ List.replicate (4 - (lg_sl ([.ref h, .ref p1])).length) Slot.unset).toArray = ls at hl ⊢
  have hl : lv_has ls 4 [(0, .ref h), (1, .ref p1)] := hl
  unfold mX3_likeliestSum at h0
  refine lv_aload_n hx hb dX3_likeliestSum_0 rfl (lv_at hl 0 rfl) ?_
  refine lv_aload_n hx hb dX3_likeliestSum_1 rfl (lv_at hl 1 rfl) ?_
  obtain ⟨z_1, hz, h0⟩ := bd_ok h0
  refine wr_V (As := [.ref p1]) (rest := []) (wc := [(h, .inr (2, [.ref h_row, .ref h_parts, .int h_length])), (h_row, .inl (cI, 7, .inl h_row_f)), (h_parts, .inl (cI, 448, .inl h_parts_f)), (p1, .inr (5, [.ref p1_cells, .int p1_size])), (p1_cells, .inl (cI, 64, .inl p1_cells_f))]) (wr := []) hcf (kX3_sumParts l D cI cC cT h h_row h_parts p1 p1_cells h_row_f h_parts_f h_length p1_cells_f p1_size _ z_1 hz) (cwV 1 hts gX3_likeliestSum_X3_sumParts rfl rfl rfl (by decide +kernel) ⟨Nat.le_of_ble_eq_true rfl, Nat.le_of_ble_eq_true rfl⟩) hE hP hD hS hA [0, 1, 2, 3, 4] [] (hP.sub [0, 1, 2, 3, 4] rfl) (hD.sub [0, 1, 2, 3, 4] (by decide) rfl) (va_recv hK hP (ci := 2) (q0 := 0) rfl rfl) rfl rfl (by decide) (by decide) rfl hl.1 rfl (Nat.le_of_ble_eq_true rfl) dX3_likeliestSum_2 ⟨Nat.le_of_ble_eq_true rfl, Nat.le_of_ble_eq_true rfl⟩ (fun u H locs hP hD hS => ?_)
  have hP : va_P D vwCl [(h, .inr (2, [.ref h_row, .ref h_parts, .int h_length])), (h_row, .inl (cI, 7, .inl h_row_f)), (h_parts, .inl (cI, 448, .inl z_1)), (p1, .inr (5, [.ref p1_cells, .int p1_size])), (p1_cells, .inl (cI, 64, .inl p1_cells_f))] H := hP
  have hD : va_D A [(h, .inr (2, [.ref h_row, .ref h_parts, .int h_length])), (h_row, .inl (cI, 7, .inl h_row_f)), (h_parts, .inl (cI, 448, .inl z_1)), (p1, .inr (5, [.ref p1_cells, .int p1_size])), (p1_cells, .inl (cI, 64, .inl p1_cells_f))] := hD
  refine W.eq (g2 := F0 m 5 ls []) rfl ?_
  refine lv_iconst (v := 0) hx hb dX3_likeliestSum_5 (by decide) ?_
  refine lv_istore_n (lv' := [(2, .int 0), (0, .ref h), (1, .ref p1)]) hx hb dX3_likeliestSum_6 rfl hl (by decide) rfl (fun ls hl => ?_)
  refine lv_iconst (v := 1) hx hb dX3_likeliestSum_7 (by decide) ?_
  refine lv_istore_n (lv' := [(3, .int 1), (2, .int 0), (0, .ref h), (1, .ref p1)]) hx hb dX3_likeliestSum_8 rfl hl (by decide) rfl (fun ls hl => ?_)
  have E_9_48_3 : ∀ (x3_2 : Int32) (x2_3 : Int32) (H : Heap) (locs : List Loc) (ls : Array Slot), (some (x2_3, z_1)) = some z → va_P D vwCl [(h, .inr (2, [.ref h_row, .ref h_parts, .int h_length])), (h_row, .inl (cI, 7, .inl h_row_f)), (h_parts, .inl (cI, 448, .inl z_1)), (p1, .inr (5, [.ref p1_cells, .int p1_size])), (p1_cells, .inl (cI, 64, .inl p1_cells_f))] H → va_D A [(h, .inr (2, [.ref h_row, .ref h_parts, .int h_length])), (h_row, .inl (cI, 7, .inl h_row_f)), (h_parts, .inl (cI, 448, .inl z_1)), (p1, .inr (5, [.ref p1_cells, .int p1_size])), (p1_cells, .inl (cI, 64, .inl p1_cells_f))] → va_S A s.heap H locs → lv_has ls 4 [(3, .int x3_2), (2, .int x2_3), (0, .ref h), (1, .ref p1)] → W p l e (headSpec wsX3_likeliestSum ({ frames := 5, cells := 0, slots := 0, locals := 121 } : Room)).room s m (([.ref h, .ref p1] : List Value).toArray) below meth c H locs 0 0 (MQ below (wQ D (some (.int z.1)) A (fun (u : Unit) => [(h, .inr (2, [.ref h_row, .ref h_parts, .int h_length])), (h_row, .inl (cI, 7, .inl h_row_f)), (h_parts, .inl (cI, 448, .inl z.2)), (p1, .inr (5, [.ref p1_cells, .int p1_size])), (p1_cells, .inl (cI, 64, .inl p1_cells_f))])) (([.ref h, .ref p1] : List Value).toArray) s 0 0 A) (F0 m 48 ls []) := by
    intro x3_2 x2_3 H locs ls h0 hP hD hS hl
    refine lv_iload_n hx hb dX3_likeliestSum_48 rfl (lv_at hl 1 rfl) ?_
    have e0 := Option.some.inj h0
    subst e0
    exact W.iret (v := x2_3) hx hb hr (fun t ht hW => wr_end () ht hP hD hS) hS.2.2 dX3_likeliestSum_49
  have L_9_9 : ∀ (F9 : Nat) (x3_5 : Int32) (x2_6 : Int32) (H : Heap) (locs : List Loc) (ls : Array Slot), mX3_likeliestSum_L9 h_length p1_size z_1 (fun (x3_2 : Int32) (x2_3 : Int32) => some (x2_3, z_1)) F9 x3_5 x2_6 = some z → va_P D vwCl [(h, .inr (2, [.ref h_row, .ref h_parts, .int h_length])), (h_row, .inl (cI, 7, .inl h_row_f)), (h_parts, .inl (cI, 448, .inl z_1)), (p1, .inr (5, [.ref p1_cells, .int p1_size])), (p1_cells, .inl (cI, 64, .inl p1_cells_f))] H → va_D A [(h, .inr (2, [.ref h_row, .ref h_parts, .int h_length])), (h_row, .inl (cI, 7, .inl h_row_f)), (h_parts, .inl (cI, 448, .inl z_1)), (p1, .inr (5, [.ref p1_cells, .int p1_size])), (p1_cells, .inl (cI, 64, .inl p1_cells_f))] → va_S A s.heap H locs → lv_has ls 4 [(3, .int x3_5), (2, .int x2_6), (0, .ref h), (1, .ref p1)] → W p l e (headSpec wsX3_likeliestSum ({ frames := 5, cells := 0, slots := 0, locals := 121 } : Room)).room s m (([.ref h, .ref p1] : List Value).toArray) below meth c H locs 0 0 (MQ below (wQ D (some (.int z.1)) A (fun (u : Unit) => [(h, .inr (2, [.ref h_row, .ref h_parts, .int h_length])), (h_row, .inl (cI, 7, .inl h_row_f)), (h_parts, .inl (cI, 448, .inl z.2)), (p1, .inr (5, [.ref p1_cells, .int p1_size])), (p1_cells, .inl (cI, 64, .inl p1_cells_f))])) (([.ref h, .ref p1] : List Value).toArray) s 0 0 A) (F0 m 9 ls []) := by
    intro F9
    induction F9 with
    | zero => intro x3_5 x2_6 H locs ls h0 hP hD hS hl; cases h0
    | succ F9 ih9 =>
      intro x3_5 x2_6 H locs ls h0 hP hD hS hl
      rw [mX3_likeliestSum_L9] at h0
      refine lv_iload_n hx hb dX3_likeliestSum_9 rfl (lv_at hl 0 rfl) ?_
      refine lv_aload_n hx hb dX3_likeliestSum_10 rfl (lv_at hl 3 rfl) ?_
      obtain ⟨z_7, hz, h0⟩ := bd_ok h0
      refine ro_V (As := []) (rest := [.int x3_5]) (wc := [(p1, .inr (5, [.ref p1_cells, .int p1_size])), (p1_cells, .inl (cI, 64, .inl p1_cells_f))]) hcf (kX6_size l D cI cC cT p1 p1_cells p1_cells_f p1_size z_7 hz) (cwV 0 hts gX3_likeliestSum_X6_size rfl rfl rfl (by decide +kernel) ⟨Nat.le_of_ble_eq_true rfl, Nat.le_of_ble_eq_true rfl⟩) hE (hP.sub [3, 4] rfl) (va_recv hK hP (ci := 5) (q0 := 3) rfl rfl) rfl hl.1 rfl (Nat.le_of_ble_eq_true rfl) dX3_likeliestSum_11 ⟨Nat.le_of_ble_eq_true rfl, Nat.le_of_ble_eq_true rfl⟩ ?_
      refine W.eq (g2 := F0 m 14 ls [.int z_7, .int x3_5]) rfl ?_
      refine lv_icmp_ge (tgt := 48) hx hb dX3_likeliestSum_14 (by decide) (fun c9 => ?_) (fun c9 => ?_)
      · have h0 := it_t c9 h0
        exact E_9_48_3 x3_5 x2_6 _ _ ls h0 hP hD hS hl
      · have h0 := it_f c9 h0
        refine lv_aload_n hx hb dX3_likeliestSum_17 rfl (lv_at hl 2 rfl) ?_
        refine lv_iconst (v := 0) hx hb dX3_likeliestSum_18 (by decide) ?_
        refine lv_aload_n hx hb dX3_likeliestSum_19 rfl (lv_at hl 2 rfl) ?_
        refine va_get (D := D) (ci := 2) (v := .int h_length) (C := RX3) (T := TX3) (N := 3) hx hb hts hi_X3 hown hK hP 0 rfl rfl 2 (by decide) hf_18 (fun _ h9 => h9) rfl dX3_likeliestSum_20 ?_
        refine lv_iload_n hx hb dX3_likeliestSum_23 rfl (lv_at hl 0 rfl) ?_
        obtain ⟨z_8, hz, h0⟩ := bd_ok h0
        refine ro_V (As := [.int 0, .int h_length, .int x3_5]) (rest := []) (wc := [(h, .inr (2, [.ref h_row, .ref h_parts, .int h_length])), (h_row, .inl (cI, 7, .inl h_row_f)), (h_parts, .inl (cI, 448, .inl z_1))]) hcf (kX3_partWays l D cI cC cT h h_row h_parts h_row_f z_1 h_length 0 h_length x3_5 z_8 hz) (cwV 3 hts gX3_likeliestSum_X3_partWays rfl rfl rfl (by decide +kernel) ⟨Nat.le_of_ble_eq_true rfl, Nat.le_of_ble_eq_true rfl⟩) hE (hP.sub [0, 1, 2] rfl) (va_recv hK hP (ci := 2) (q0 := 0) rfl rfl) rfl hl.1 rfl (Nat.le_of_ble_eq_true rfl) dX3_likeliestSum_24 ⟨Nat.le_of_ble_eq_true rfl, Nat.le_of_ble_eq_true rfl⟩ ?_
        refine W.eq (g2 := F0 m 27 ls [.int z_8]) rfl ?_
        refine lv_aload_n hx hb dX3_likeliestSum_27 rfl (lv_at hl 2 rfl) ?_
        refine lv_iconst (v := 0) hx hb dX3_likeliestSum_28 (by decide) ?_
        refine lv_aload_n hx hb dX3_likeliestSum_29 rfl (lv_at hl 2 rfl) ?_
        refine va_get (D := D) (ci := 2) (v := .int h_length) (C := RX3) (T := TX3) (N := 3) hx hb hts hi_X3 hown hK hP 0 rfl rfl 2 (by decide) hf_18 (fun _ h9 => h9) rfl dX3_likeliestSum_30 ?_
        refine lv_iload_n hx hb dX3_likeliestSum_33 rfl (lv_at hl 1 rfl) ?_
        obtain ⟨z_9, hz, h0⟩ := bd_ok h0
        refine ro_V (As := [.int 0, .int h_length, .int x2_6]) (rest := [.int z_8]) (wc := [(h, .inr (2, [.ref h_row, .ref h_parts, .int h_length])), (h_row, .inl (cI, 7, .inl h_row_f)), (h_parts, .inl (cI, 448, .inl z_1))]) hcf (kX3_partWays l D cI cC cT h h_row h_parts h_row_f z_1 h_length 0 h_length x2_6 z_9 hz) (cwV 3 hts gX3_likeliestSum_X3_partWays rfl rfl rfl (by decide +kernel) ⟨Nat.le_of_ble_eq_true rfl, Nat.le_of_ble_eq_true rfl⟩) hE (hP.sub [0, 1, 2] rfl) (va_recv hK hP (ci := 2) (q0 := 0) rfl rfl) rfl hl.1 rfl (Nat.le_of_ble_eq_true rfl) dX3_likeliestSum_34 ⟨Nat.le_of_ble_eq_true rfl, Nat.le_of_ble_eq_true rfl⟩ ?_
        refine W.eq (g2 := F0 m 37 ls [.int z_9, .int z_8]) rfl ?_
        refine lv_icmp_le (tgt := 42) hx hb dX3_likeliestSum_37 (by decide) (fun c9 => ?_) (fun c9 => ?_)
        · have h0 := it_t c9 h0
          refine lv_iinc (v := (x3_5 + 1)) (lv' := [(3, .int (x3_5 + 1)), (2, .int x2_6), (0, .ref h), (1, .ref p1)]) hx hb dX3_likeliestSum_42 hl (k := 0) rfl rfl (by decide) rfl (fun ls hl => ?_)
          refine lv_goto (tgt := 9) hx hb dX3_likeliestSum_45 (by decide) ?_
          exact ih9 (x3_5 + 1) x2_6 _ _ ls h0 hP hD hS hl
        · have h0 := it_f c9 h0
          refine lv_iload_n hx hb dX3_likeliestSum_40 rfl (lv_at hl 0 rfl) ?_
          refine lv_istore_n (lv' := [(2, .int x3_5), (3, .int x3_5), (0, .ref h), (1, .ref p1)]) hx hb dX3_likeliestSum_41 rfl hl (by decide) rfl (fun ls hl => ?_)
          refine lv_iinc (v := (x3_5 + 1)) (lv' := [(3, .int (x3_5 + 1)), (2, .int x3_5), (0, .ref h), (1, .ref p1)]) hx hb dX3_likeliestSum_42 hl (k := 1) rfl rfl (by decide) rfl (fun ls hl => ?_)
          refine lv_goto (tgt := 9) hx hb dX3_likeliestSum_45 (by decide) ?_
          exact ih9 (x3_5 + 1) x3_5 _ _ ls h0 hP hD hS hl
  exact L_9_9 FU 1 0 _ _ ls h0 hP hD hS hl
noncomputable def mX3_possibleSums_L9 (h_length : Int32) (p1_size : Int32) (z_1 : (Nat → Int32)) (k9_42 : Int32 → Int32 → Option (Int32 × (Nat → Int32))) : Nat → Int32 → Int32 → Option (Int32 × (Nat → Int32))
  | 0, _, _ => none
  | F + 1, x3_5, x2_6 => bd (mX6_size p1_size) (fun z_7 => if z_7 ≤ x3_5 then (k9_42 x3_5 x2_6) else (bd (mX3_partWays z_1 0 h_length x3_5) (fun z_8 => if z_8 ≤ 0 then (mX3_possibleSums_L9 h_length p1_size z_1 k9_42 F (x3_5 + 1) x2_6) else (mX3_possibleSums_L9 h_length p1_size z_1 k9_42 F (x3_5 + 1) (x2_6 ||| ((1 : Int32) <<< (x3_5 &&& 31)))))))
noncomputable def mX3_possibleSums (h_row_f : Nat → Int32) (h_parts_f : Nat → Int32) (h_length : Int32) (p1_cells_f : Nat → Int32) (p1_size : Int32) : Option (Int32 × (Nat → Int32)) :=
  bd (mX3_sumParts h_row_f h_parts_f h_length p1_cells_f p1_size) (fun z_1 => mX3_possibleSums_L9 h_length p1_size z_1 (fun (x3_2 : Int32) (x2_3 : Int32) => some (x2_3, z_1)) FU 0 0)
set_option maxHeartbeats 8000000 in
set_option maxRecDepth 100000 in
theorem kX3_possibleSums (l : Launch) (D : va_G) (cI cC cT : ClassId) (h h_row h_parts p1 p1_cells : Nat) (h_row_f : Nat → Int32) (h_parts_f : Nat → Int32) (h_length : Int32) (p1_cells_f : Nat → Int32) (p1_size : Int32) (sz : Nat) (z : Int32 × (Nat → Int32)) (h0 : mX3_possibleSums h_row_f h_parts_f h_length p1_cells_f p1_size = some z) : Met l yX3_possibleSums wsX3_possibleSums ({ frames := 5, cells := 0, slots := 0, locals := 121 } : Room) (va_Pc [.ref h, .ref p1] (wP D cI cC cT [(h, .inr (2, [.ref h_row, .ref h_parts, .int h_length])), (h_row, .inl (cI, 7, .inl h_row_f)), (h_parts, .inl (cI, 448, .inl h_parts_f)), (p1, .inr (5, [.ref p1_cells, .int p1_size])), (p1_cells, .inl (cI, 64, .inl p1_cells_f))] sz)) (wQ D (some (.int z.1)) (va_A [(h, .inr (2, [.ref h_row, .ref h_parts, .int h_length])), (h_row, .inl (cI, 7, .inl h_row_f)), (h_parts, .inl (cI, 448, .inl h_parts_f)), (p1, .inr (5, [.ref p1_cells, .int p1_size])), (p1_cells, .inl (cI, 64, .inl p1_cells_f))] sz) (fun (u : Unit) => [(h, .inr (2, [.ref h_row, .ref h_parts, .int h_length])), (h_row, .inl (cI, 7, .inl h_row_f)), (h_parts, .inl (cI, 448, .inl z.2)), (p1, .inr (5, [.ref p1_cells, .int p1_size])), (p1_cells, .inl (cI, 64, .inl p1_cells_f))])) 0 0 (va_A [(h, .inr (2, [.ref h_row, .ref h_parts, .int h_length])), (h_row, .inl (cI, 7, .inl h_row_f)), (h_parts, .inl (cI, 448, .inl h_parts_f)), (p1, .inr (5, [.ref p1_cells, .int p1_size])), (p1_cells, .inl (cI, 64, .inl p1_cells_f))] sz) := by
  refine Met.ofW (cc := cX3_possibleSums) (maxL := 4) (ret := (some .int)) (by decide) rfl ?_
  intro p e s m args below meth c s₁ B hml hv
  obtain ⟨rfl, hsz, hP, hE, hD0⟩ := hv
  have hx := B.exec
  have hb := B.bytes
  have hr := B.returns
  have hts := atoms_spec (ws := wsX3_possibleSums) B.pre
  have hown : s.vm.findClass RX3 = some m.cls := findClass_of_methodNamed B.named
  have hlocks := B.notSynchronized
  have hK := hE.1
  have hcf : CallFix p m c cX3_possibleSums 4 s ([.ref h, .ref p1] : List Value).toArray wsX3_possibleSums RX3 := ⟨hx, hb, hml, hown, hts⟩
  subst hsz
  have hD := hD0.self (sz := s.heap.size)
  generalize hAe : va_A [(h, .inr (2, [.ref h_row, .ref h_parts, .int h_length])), (h_row, .inl (cI, 7, .inl h_row_f)), (h_parts, .inl (cI, 448, .inl h_parts_f)), (p1, .inr (5, [.ref p1_cells, .int p1_size])), (p1_cells, .inl (cI, 64, .inl p1_cells_f))] s.heap.size = A at hD ⊢
  have hA : ∀ q : Nat, s.heap.size ≤ q → A q := fun q h => by rw [← hAe]; exact Or.inr h
  have hS : va_S A s.heap s.heap [] := va_S.rf
  have hP : va_P D vwCl [(h, .inr (2, [.ref h_row, .ref h_parts, .int h_length])), (h_row, .inl (cI, 7, .inl h_row_f)), (h_parts, .inl (cI, 448, .inl h_parts_f)), (p1, .inr (5, [.ref p1_cells, .int p1_size])), (p1_cells, .inl (cI, 64, .inl p1_cells_f))] s.heap := hP
  have hf_18 := hts (.fieldLink RX3 18 "CrookedSums$RowText" "length" "I") (by decide +kernel)
  have hi_X3 := (show ∀ w ∈ u_ws RX3 TX3 3, w ∈ wsX3_possibleSums from by decide +kernel)
  have hl := lv_entry ([.ref h, .ref p1]) (n := 4) (Nat.le_of_ble_eq_true rfl)
  rw [lg_entry_eq]
  generalize (lg_sl ([.ref h, .ref p1]) ++ List.replicate (4 - (lg_sl ([.ref h, .ref p1])).length) Slot.unset).toArray = ls at hl ⊢
  have hl : lv_has ls 4 [(0, .ref h), (1, .ref p1)] := hl
  unfold mX3_possibleSums at h0
  refine lv_aload_n hx hb dX3_possibleSums_0 rfl (lv_at hl 0 rfl) ?_
  refine lv_aload_n hx hb dX3_possibleSums_1 rfl (lv_at hl 1 rfl) ?_
  obtain ⟨z_1, hz, h0⟩ := bd_ok h0
  refine wr_V (As := [.ref p1]) (rest := []) (wc := [(h, .inr (2, [.ref h_row, .ref h_parts, .int h_length])), (h_row, .inl (cI, 7, .inl h_row_f)), (h_parts, .inl (cI, 448, .inl h_parts_f)), (p1, .inr (5, [.ref p1_cells, .int p1_size])), (p1_cells, .inl (cI, 64, .inl p1_cells_f))]) (wr := []) hcf (kX3_sumParts l D cI cC cT h h_row h_parts p1 p1_cells h_row_f h_parts_f h_length p1_cells_f p1_size _ z_1 hz) (cwV 1 hts gX3_possibleSums_X3_sumParts rfl rfl rfl (by decide +kernel) ⟨Nat.le_of_ble_eq_true rfl, Nat.le_of_ble_eq_true rfl⟩) hE hP hD hS hA [0, 1, 2, 3, 4] [] (hP.sub [0, 1, 2, 3, 4] rfl) (hD.sub [0, 1, 2, 3, 4] (by decide) rfl) (va_recv hK hP (ci := 2) (q0 := 0) rfl rfl) rfl rfl (by decide) (by decide) rfl hl.1 rfl (Nat.le_of_ble_eq_true rfl) dX3_possibleSums_2 ⟨Nat.le_of_ble_eq_true rfl, Nat.le_of_ble_eq_true rfl⟩ (fun u H locs hP hD hS => ?_)
  have hP : va_P D vwCl [(h, .inr (2, [.ref h_row, .ref h_parts, .int h_length])), (h_row, .inl (cI, 7, .inl h_row_f)), (h_parts, .inl (cI, 448, .inl z_1)), (p1, .inr (5, [.ref p1_cells, .int p1_size])), (p1_cells, .inl (cI, 64, .inl p1_cells_f))] H := hP
  have hD : va_D A [(h, .inr (2, [.ref h_row, .ref h_parts, .int h_length])), (h_row, .inl (cI, 7, .inl h_row_f)), (h_parts, .inl (cI, 448, .inl z_1)), (p1, .inr (5, [.ref p1_cells, .int p1_size])), (p1_cells, .inl (cI, 64, .inl p1_cells_f))] := hD
  refine W.eq (g2 := F0 m 5 ls []) rfl ?_
  refine lv_iconst (v := 0) hx hb dX3_possibleSums_5 (by decide) ?_
  refine lv_istore_n (lv' := [(2, .int 0), (0, .ref h), (1, .ref p1)]) hx hb dX3_possibleSums_6 rfl hl (by decide) rfl (fun ls hl => ?_)
  refine lv_iconst (v := 0) hx hb dX3_possibleSums_7 (by decide) ?_
  refine lv_istore_n (lv' := [(3, .int 0), (2, .int 0), (0, .ref h), (1, .ref p1)]) hx hb dX3_possibleSums_8 rfl hl (by decide) rfl (fun ls hl => ?_)
  have E_9_42_3 : ∀ (x3_2 : Int32) (x2_3 : Int32) (H : Heap) (locs : List Loc) (ls : Array Slot), (some (x2_3, z_1)) = some z → va_P D vwCl [(h, .inr (2, [.ref h_row, .ref h_parts, .int h_length])), (h_row, .inl (cI, 7, .inl h_row_f)), (h_parts, .inl (cI, 448, .inl z_1)), (p1, .inr (5, [.ref p1_cells, .int p1_size])), (p1_cells, .inl (cI, 64, .inl p1_cells_f))] H → va_D A [(h, .inr (2, [.ref h_row, .ref h_parts, .int h_length])), (h_row, .inl (cI, 7, .inl h_row_f)), (h_parts, .inl (cI, 448, .inl z_1)), (p1, .inr (5, [.ref p1_cells, .int p1_size])), (p1_cells, .inl (cI, 64, .inl p1_cells_f))] → va_S A s.heap H locs → lv_has ls 4 [(3, .int x3_2), (2, .int x2_3), (0, .ref h), (1, .ref p1)] → W p l e (headSpec wsX3_possibleSums ({ frames := 5, cells := 0, slots := 0, locals := 121 } : Room)).room s m (([.ref h, .ref p1] : List Value).toArray) below meth c H locs 0 0 (MQ below (wQ D (some (.int z.1)) A (fun (u : Unit) => [(h, .inr (2, [.ref h_row, .ref h_parts, .int h_length])), (h_row, .inl (cI, 7, .inl h_row_f)), (h_parts, .inl (cI, 448, .inl z.2)), (p1, .inr (5, [.ref p1_cells, .int p1_size])), (p1_cells, .inl (cI, 64, .inl p1_cells_f))])) (([.ref h, .ref p1] : List Value).toArray) s 0 0 A) (F0 m 42 ls []) := by
    intro x3_2 x2_3 H locs ls h0 hP hD hS hl
    refine lv_iload_n hx hb dX3_possibleSums_42 rfl (lv_at hl 1 rfl) ?_
    have e0 := Option.some.inj h0
    subst e0
    exact W.iret (v := x2_3) hx hb hr (fun t ht hW => wr_end () ht hP hD hS) hS.2.2 dX3_possibleSums_43
  have L_9_8 : ∀ (F9 : Nat) (x3_5 : Int32) (x2_6 : Int32) (H : Heap) (locs : List Loc) (ls : Array Slot), mX3_possibleSums_L9 h_length p1_size z_1 (fun (x3_2 : Int32) (x2_3 : Int32) => some (x2_3, z_1)) F9 x3_5 x2_6 = some z → va_P D vwCl [(h, .inr (2, [.ref h_row, .ref h_parts, .int h_length])), (h_row, .inl (cI, 7, .inl h_row_f)), (h_parts, .inl (cI, 448, .inl z_1)), (p1, .inr (5, [.ref p1_cells, .int p1_size])), (p1_cells, .inl (cI, 64, .inl p1_cells_f))] H → va_D A [(h, .inr (2, [.ref h_row, .ref h_parts, .int h_length])), (h_row, .inl (cI, 7, .inl h_row_f)), (h_parts, .inl (cI, 448, .inl z_1)), (p1, .inr (5, [.ref p1_cells, .int p1_size])), (p1_cells, .inl (cI, 64, .inl p1_cells_f))] → va_S A s.heap H locs → lv_has ls 4 [(3, .int x3_5), (2, .int x2_6), (0, .ref h), (1, .ref p1)] → W p l e (headSpec wsX3_possibleSums ({ frames := 5, cells := 0, slots := 0, locals := 121 } : Room)).room s m (([.ref h, .ref p1] : List Value).toArray) below meth c H locs 0 0 (MQ below (wQ D (some (.int z.1)) A (fun (u : Unit) => [(h, .inr (2, [.ref h_row, .ref h_parts, .int h_length])), (h_row, .inl (cI, 7, .inl h_row_f)), (h_parts, .inl (cI, 448, .inl z.2)), (p1, .inr (5, [.ref p1_cells, .int p1_size])), (p1_cells, .inl (cI, 64, .inl p1_cells_f))])) (([.ref h, .ref p1] : List Value).toArray) s 0 0 A) (F0 m 9 ls []) := by
    intro F9
    induction F9 with
    | zero => intro x3_5 x2_6 H locs ls h0 hP hD hS hl; cases h0
    | succ F9 ih9 =>
      intro x3_5 x2_6 H locs ls h0 hP hD hS hl
      rw [mX3_possibleSums_L9] at h0
      refine lv_iload_n hx hb dX3_possibleSums_9 rfl (lv_at hl 0 rfl) ?_
      refine lv_aload_n hx hb dX3_possibleSums_10 rfl (lv_at hl 3 rfl) ?_
      obtain ⟨z_7, hz, h0⟩ := bd_ok h0
      refine ro_V (As := []) (rest := [.int x3_5]) (wc := [(p1, .inr (5, [.ref p1_cells, .int p1_size])), (p1_cells, .inl (cI, 64, .inl p1_cells_f))]) hcf (kX6_size l D cI cC cT p1 p1_cells p1_cells_f p1_size z_7 hz) (cwV 0 hts gX3_possibleSums_X6_size rfl rfl rfl (by decide +kernel) ⟨Nat.le_of_ble_eq_true rfl, Nat.le_of_ble_eq_true rfl⟩) hE (hP.sub [3, 4] rfl) (va_recv hK hP (ci := 5) (q0 := 3) rfl rfl) rfl hl.1 rfl (Nat.le_of_ble_eq_true rfl) dX3_possibleSums_11 ⟨Nat.le_of_ble_eq_true rfl, Nat.le_of_ble_eq_true rfl⟩ ?_
      refine W.eq (g2 := F0 m 14 ls [.int z_7, .int x3_5]) rfl ?_
      refine lv_icmp_ge (tgt := 42) hx hb dX3_possibleSums_14 (by decide) (fun c9 => ?_) (fun c9 => ?_)
      · have h0 := it_t c9 h0
        exact E_9_42_3 x3_5 x2_6 _ _ ls h0 hP hD hS hl
      · have h0 := it_f c9 h0
        refine lv_aload_n hx hb dX3_possibleSums_17 rfl (lv_at hl 2 rfl) ?_
        refine lv_iconst (v := 0) hx hb dX3_possibleSums_18 (by decide) ?_
        refine lv_aload_n hx hb dX3_possibleSums_19 rfl (lv_at hl 2 rfl) ?_
        refine va_get (D := D) (ci := 2) (v := .int h_length) (C := RX3) (T := TX3) (N := 3) hx hb hts hi_X3 hown hK hP 0 rfl rfl 2 (by decide) hf_18 (fun _ h9 => h9) rfl dX3_possibleSums_20 ?_
        refine lv_iload_n hx hb dX3_possibleSums_23 rfl (lv_at hl 0 rfl) ?_
        obtain ⟨z_8, hz, h0⟩ := bd_ok h0
        refine ro_V (As := [.int 0, .int h_length, .int x3_5]) (rest := []) (wc := [(h, .inr (2, [.ref h_row, .ref h_parts, .int h_length])), (h_row, .inl (cI, 7, .inl h_row_f)), (h_parts, .inl (cI, 448, .inl z_1))]) hcf (kX3_partWays l D cI cC cT h h_row h_parts h_row_f z_1 h_length 0 h_length x3_5 z_8 hz) (cwV 3 hts gX3_possibleSums_X3_partWays rfl rfl rfl (by decide +kernel) ⟨Nat.le_of_ble_eq_true rfl, Nat.le_of_ble_eq_true rfl⟩) hE (hP.sub [0, 1, 2] rfl) (va_recv hK hP (ci := 2) (q0 := 0) rfl rfl) rfl hl.1 rfl (Nat.le_of_ble_eq_true rfl) dX3_possibleSums_24 ⟨Nat.le_of_ble_eq_true rfl, Nat.le_of_ble_eq_true rfl⟩ ?_
        refine W.eq (g2 := F0 m 27 ls [.int z_8]) rfl ?_
        refine lv_if_le (tgt := 36) hx hb dX3_possibleSums_27 (by decide) (fun c9 => ?_) (fun c9 => ?_)
        · have h0 := it_t c9 h0
          refine lv_iinc (v := (x3_5 + 1)) (lv' := [(3, .int (x3_5 + 1)), (2, .int x2_6), (0, .ref h), (1, .ref p1)]) hx hb dX3_possibleSums_36 hl (k := 0) rfl rfl (by decide) rfl (fun ls hl => ?_)
          refine lv_goto (tgt := 9) hx hb dX3_possibleSums_39 (by decide) ?_
          exact ih9 (x3_5 + 1) x2_6 _ _ ls h0 hP hD hS hl
        · have h0 := it_f c9 h0
          refine lv_iload_n hx hb dX3_possibleSums_30 rfl (lv_at hl 1 rfl) ?_
          refine lv_iconst (v := 1) hx hb dX3_possibleSums_31 (by decide) ?_
          refine lv_iload_n hx hb dX3_possibleSums_32 rfl (lv_at hl 0 rfl) ?_
          refine lv_ishl hx hb dX3_possibleSums_33 ?_
          refine lv_ior hx hb dX3_possibleSums_34 ?_
          refine lv_istore_n (lv' := [(2, .int (x2_6 ||| ((1 : Int32) <<< (x3_5 &&& 31)))), (3, .int x3_5), (0, .ref h), (1, .ref p1)]) hx hb dX3_possibleSums_35 rfl hl (by decide) rfl (fun ls hl => ?_)
          refine lv_iinc (v := (x3_5 + 1)) (lv' := [(3, .int (x3_5 + 1)), (2, .int (x2_6 ||| ((1 : Int32) <<< (x3_5 &&& 31)))), (0, .ref h), (1, .ref p1)]) hx hb dX3_possibleSums_36 hl (k := 1) rfl rfl (by decide) rfl (fun ls hl => ?_)
          refine lv_goto (tgt := 9) hx hb dX3_possibleSums_39 (by decide) ?_
          exact ih9 (x3_5 + 1) (x2_6 ||| ((1 : Int32) <<< (x3_5 &&& 31))) _ _ ls h0 hP hD hS hl
  exact L_9_8 FU 0 0 _ _ ls h0 hP hD hS hl
noncomputable def mX3_readFrom_L7 (p1_signs_f : Nat → Int32) (p1_length : Int32) (p2_size : Int32) (k7_65 : Int32 → Int32 → (Nat → Int32) → Option (Int32 × (Nat → Int32) × Int32)) : Nat → Int32 → Int32 → (Nat → Int32) → Option (Int32 × (Nat → Int32) × Int32)
  | 0, _, _, _ => none
  | F + 1, x3_5, y_6, f_7 => bd (mX1_length p1_length) (fun z_8 => if z_8 ≤ x3_5 then (k7_65 x3_5 y_6 f_7) else (bd (mX1_digitAt p1_signs_f p1_length x3_5) (fun z_9 => if (7 : Int32) ≤ x3_5 then (some (x3_5, f_7, y_6)) else (bd (mX6_has p2_size z_9) (fun z_10 => if z_10 = 0 then (some (x3_5, f_7, y_6)) else (bd (mX9_put 7 f_7 x3_5 z_9) (fun z_11 => mX3_readFrom_L7 p1_signs_f p1_length p2_size k7_65 F (x3_5 + 1) (y_6 + 1) z_11)))))))
noncomputable def mX3_readFrom (h_row_f : Nat → Int32) (p1_signs_f : Nat → Int32) (p1_length : Int32) (p2_size : Int32) : Option (Int32 × (Nat → Int32) × Int32) :=
  mX3_readFrom_L7 p1_signs_f p1_length p2_size (fun (x3_1 : Int32) (y_2 : Int32) (f_3 : Nat → Int32) => if y_2 = 0 then (some (0, f_3, y_2)) else (some ((-4), f_3, y_2))) FU 0 0 h_row_f
set_option maxHeartbeats 8000000 in
set_option maxRecDepth 100000 in
theorem kX3_readFrom (l : Launch) (D : va_G) (cI cC cT : ClassId) (h h_row h_parts p1 p1_signs p2 p2_cells : Nat) (h_row_f : Nat → Int32) (h_parts_f : Nat → Int32) (h_length : Int32) (p1_signs_f : Nat → Int32) (p1_length : Int32) (p2_cells_f : Nat → Int32) (p2_size : Int32) (sz : Nat) (z : Int32 × (Nat → Int32) × Int32) (h0 : mX3_readFrom h_row_f p1_signs_f p1_length p2_size = some z) : Met l yX3_readFrom wsX3_readFrom ({ frames := 2, cells := 0, slots := 0, locals := 42 } : Room) (va_Pc [.ref h, .ref p1, .ref p2] (wP D cI cC cT [(h, .inr (2, [.ref h_row, .ref h_parts, .int h_length])), (h_row, .inl (cI, 7, .inl h_row_f)), (h_parts, .inl (cI, 448, .inl h_parts_f)), (p1, .inr (1, [.ref p1_signs, .int p1_length])), (p1_signs, .inl (cC, 80, .inl p1_signs_f)), (p2, .inr (5, [.ref p2_cells, .int p2_size])), (p2_cells, .inl (cI, 64, .inl p2_cells_f))] sz)) (wQ D (some (.int z.1)) (va_A [(h, .inr (2, [.ref h_row, .ref h_parts, .int h_length])), (h_row, .inl (cI, 7, .inl h_row_f)), (h_parts, .inl (cI, 448, .inl h_parts_f)), (p1, .inr (1, [.ref p1_signs, .int p1_length])), (p1_signs, .inl (cC, 80, .inl p1_signs_f)), (p2, .inr (5, [.ref p2_cells, .int p2_size])), (p2_cells, .inl (cI, 64, .inl p2_cells_f))] sz) (fun (u : Unit) => [(h, .inr (2, [.ref h_row, .ref h_parts, .int z.2.2])), (h_row, .inl (cI, 7, .inl z.2.1)), (h_parts, .inl (cI, 448, .inl h_parts_f)), (p1, .inr (1, [.ref p1_signs, .int p1_length])), (p1_signs, .inl (cC, 80, .inl p1_signs_f)), (p2, .inr (5, [.ref p2_cells, .int p2_size])), (p2_cells, .inl (cI, 64, .inl p2_cells_f))])) 0 0 (va_A [(h, .inr (2, [.ref h_row, .ref h_parts, .int h_length])), (h_row, .inl (cI, 7, .inl h_row_f)), (h_parts, .inl (cI, 448, .inl h_parts_f)), (p1, .inr (1, [.ref p1_signs, .int p1_length])), (p1_signs, .inl (cC, 80, .inl p1_signs_f)), (p2, .inr (5, [.ref p2_cells, .int p2_size])), (p2_cells, .inl (cI, 64, .inl p2_cells_f))] sz) := by
  refine Met.ofW (cc := cX3_readFrom) (maxL := 5) (ret := (some .int)) (by decide) rfl ?_
  intro p e s m args below meth c s₁ B hml hv
  obtain ⟨rfl, hsz, hP, hE, hD0⟩ := hv
  have hx := B.exec
  have hb := B.bytes
  have hr := B.returns
  have hts := atoms_spec (ws := wsX3_readFrom) B.pre
  have hown : s.vm.findClass RX3 = some m.cls := findClass_of_methodNamed B.named
  have hlocks := B.notSynchronized
  have hK := hE.1
  have hcf : CallFix p m c cX3_readFrom 5 s ([.ref h, .ref p1, .ref p2] : List Value).toArray wsX3_readFrom RX3 := ⟨hx, hb, hml, hown, hts⟩
  subst hsz
  have hD := hD0.self (sz := s.heap.size)
  generalize hAe : va_A [(h, .inr (2, [.ref h_row, .ref h_parts, .int h_length])), (h_row, .inl (cI, 7, .inl h_row_f)), (h_parts, .inl (cI, 448, .inl h_parts_f)), (p1, .inr (1, [.ref p1_signs, .int p1_length])), (p1_signs, .inl (cC, 80, .inl p1_signs_f)), (p2, .inr (5, [.ref p2_cells, .int p2_size])), (p2_cells, .inl (cI, 64, .inl p2_cells_f))] s.heap.size = A at hD ⊢
  have hA : ∀ q : Nat, s.heap.size ≤ q → A q := fun q h => by rw [← hAe]; exact Or.inr h
  have hS : va_S A s.heap s.heap [] := va_S.rf
  have hP : va_P D vwCl [(h, .inr (2, [.ref h_row, .ref h_parts, .int h_length])), (h_row, .inl (cI, 7, .inl h_row_f)), (h_parts, .inl (cI, 448, .inl h_parts_f)), (p1, .inr (1, [.ref p1_signs, .int p1_length])), (p1_signs, .inl (cC, 80, .inl p1_signs_f)), (p2, .inr (5, [.ref p2_cells, .int p2_size])), (p2_cells, .inl (cI, 64, .inl p2_cells_f))] s.heap := hP
  have hf_18 := hts (.fieldLink RX3 18 "CrookedSums$RowText" "length" "I") (by decide +kernel)
  have hi_X3 := (show ∀ w ∈ u_ws RX3 TX3 3, w ∈ wsX3_readFrom from by decide +kernel)
  have hf_11 := hts (.fieldLink RX3 11 "CrookedSums$RowText" "row" "[I") (by decide +kernel)
  have hini_X9 := hts (.initialized RX9) (by decide +kernel)
  have hst_X9_put := hts (.static yX9_put) (by decide +kernel)
  have hl := lv_entry ([.ref h, .ref p1, .ref p2]) (n := 5) (Nat.le_of_ble_eq_true rfl)
  rw [lg_entry_eq]
  generalize (lg_sl ([.ref h, .ref p1, .ref p2]) ++ List.replicate (5 - (lg_sl ([.ref h, .ref p1, .ref p2])).length) Slot.unset).toArray = ls at hl ⊢
  have hl : lv_has ls 5 [(0, .ref h), (1, .ref p1), (2, .ref p2)] := hl
  unfold mX3_readFrom at h0
  refine lv_aload_n hx hb dX3_readFrom_0 rfl (lv_at hl 0 rfl) ?_
  refine lv_iconst (v := 0) hx hb dX3_readFrom_1 (by decide) ?_
  refine va_put (D := D) (ci := 2) (v := .int 0) (ty := .int) (C := RX3) (T := TX3) (N := 3) hx hb hts hi_X3 tyX3 tyX3_ok nmX3 hown hK hP hD hS 0 rfl rfl 2 (by decide) hf_18 (fun _ h9 => h9) rfl (by decide +kernel) rfl rfl (Nat.le_of_ble_eq_true rfl) dX3_readFrom_2 (fun H locs hP hD hS => ?_)
  have hP : va_P D vwCl [(h, .inr (2, [.ref h_row, .ref h_parts, .int 0])), (h_row, .inl (cI, 7, .inl h_row_f)), (h_parts, .inl (cI, 448, .inl h_parts_f)), (p1, .inr (1, [.ref p1_signs, .int p1_length])), (p1_signs, .inl (cC, 80, .inl p1_signs_f)), (p2, .inr (5, [.ref p2_cells, .int p2_size])), (p2_cells, .inl (cI, 64, .inl p2_cells_f))] H := hP
  have hD : va_D A [(h, .inr (2, [.ref h_row, .ref h_parts, .int 0])), (h_row, .inl (cI, 7, .inl h_row_f)), (h_parts, .inl (cI, 448, .inl h_parts_f)), (p1, .inr (1, [.ref p1_signs, .int p1_length])), (p1_signs, .inl (cC, 80, .inl p1_signs_f)), (p2, .inr (5, [.ref p2_cells, .int p2_size])), (p2_cells, .inl (cI, 64, .inl p2_cells_f))] := hD
  refine lv_iconst (v := 0) hx hb dX3_readFrom_5 (by decide) ?_
  refine lv_istore_n (lv' := [(3, .int 0), (0, .ref h), (1, .ref p1), (2, .ref p2)]) hx hb dX3_readFrom_6 rfl hl (by decide) rfl (fun ls hl => ?_)
  have E_7_65_3 : ∀ (x3_1 : Int32) (y_2 : Int32) (f_3 : Nat → Int32) (H : Heap) (locs : List Loc) (ls : Array Slot), (if y_2 = 0 then (some (0, f_3, y_2)) else (some ((-4), f_3, y_2))) = some z → va_P D vwCl [(h, .inr (2, [.ref h_row, .ref h_parts, .int y_2])), (h_row, .inl (cI, 7, .inl f_3)), (h_parts, .inl (cI, 448, .inl h_parts_f)), (p1, .inr (1, [.ref p1_signs, .int p1_length])), (p1_signs, .inl (cC, 80, .inl p1_signs_f)), (p2, .inr (5, [.ref p2_cells, .int p2_size])), (p2_cells, .inl (cI, 64, .inl p2_cells_f))] H → va_D A [(h, .inr (2, [.ref h_row, .ref h_parts, .int y_2])), (h_row, .inl (cI, 7, .inl f_3)), (h_parts, .inl (cI, 448, .inl h_parts_f)), (p1, .inr (1, [.ref p1_signs, .int p1_length])), (p1_signs, .inl (cC, 80, .inl p1_signs_f)), (p2, .inr (5, [.ref p2_cells, .int p2_size])), (p2_cells, .inl (cI, 64, .inl p2_cells_f))] → va_S A s.heap H locs → lv_has ls 5 [(3, .int x3_1), (0, .ref h), (1, .ref p1), (2, .ref p2)] → W p l e (headSpec wsX3_readFrom ({ frames := 2, cells := 0, slots := 0, locals := 42 } : Room)).room s m (([.ref h, .ref p1, .ref p2] : List Value).toArray) below meth c H locs 0 0 (MQ below (wQ D (some (.int z.1)) A (fun (u : Unit) => [(h, .inr (2, [.ref h_row, .ref h_parts, .int z.2.2])), (h_row, .inl (cI, 7, .inl z.2.1)), (h_parts, .inl (cI, 448, .inl h_parts_f)), (p1, .inr (1, [.ref p1_signs, .int p1_length])), (p1_signs, .inl (cC, 80, .inl p1_signs_f)), (p2, .inr (5, [.ref p2_cells, .int p2_size])), (p2_cells, .inl (cI, 64, .inl p2_cells_f))])) (([.ref h, .ref p1, .ref p2] : List Value).toArray) s 0 0 A) (F0 m 65 ls []) := by
    intro x3_1 y_2 f_3 H locs ls h0 hP hD hS hl
    refine lv_aload_n hx hb dX3_readFrom_65 rfl (lv_at hl 1 rfl) ?_
    refine va_get (D := D) (ci := 2) (v := .int y_2) (C := RX3) (T := TX3) (N := 3) hx hb hts hi_X3 hown hK hP 0 rfl rfl 2 (by decide) hf_18 (fun _ h9 => h9) rfl dX3_readFrom_66 ?_
    refine lv_if_ne (tgt := 76) hx hb dX3_readFrom_69 (by decide) (fun c9 => ?_) (fun c9 => ?_)
    · have h0 := it_f c9 h0
      refine lv_bipush (v := (-4)) hx hb dX3_readFrom_76 (by decide) ?_
      have e0 := Option.some.inj h0
      subst e0
      exact W.iret (v := (-4)) hx hb hr (fun t ht hW => wr_end () ht hP hD hS) hS.2.2 dX3_readFrom_78
    · have h0 := it_t c9 h0
      refine lv_iconst (v := 0) hx hb dX3_readFrom_72 (by decide) ?_
      refine lv_goto (tgt := 78) hx hb dX3_readFrom_73 (by decide) ?_
      have e0 := Option.some.inj h0
      subst e0
      exact W.iret (v := 0) hx hb hr (fun t ht hW => wr_end () ht hP hD hS) hS.2.2 dX3_readFrom_78
  have L_7_11 : ∀ (F7 : Nat) (x3_5 : Int32) (y_6 : Int32) (f_7 : Nat → Int32) (H : Heap) (locs : List Loc) (ls : Array Slot), mX3_readFrom_L7 p1_signs_f p1_length p2_size (fun (x3_1 : Int32) (y_2 : Int32) (f_3 : Nat → Int32) => if y_2 = 0 then (some (0, f_3, y_2)) else (some ((-4), f_3, y_2))) F7 x3_5 y_6 f_7 = some z → va_P D vwCl [(h, .inr (2, [.ref h_row, .ref h_parts, .int y_6])), (h_row, .inl (cI, 7, .inl f_7)), (h_parts, .inl (cI, 448, .inl h_parts_f)), (p1, .inr (1, [.ref p1_signs, .int p1_length])), (p1_signs, .inl (cC, 80, .inl p1_signs_f)), (p2, .inr (5, [.ref p2_cells, .int p2_size])), (p2_cells, .inl (cI, 64, .inl p2_cells_f))] H → va_D A [(h, .inr (2, [.ref h_row, .ref h_parts, .int y_6])), (h_row, .inl (cI, 7, .inl f_7)), (h_parts, .inl (cI, 448, .inl h_parts_f)), (p1, .inr (1, [.ref p1_signs, .int p1_length])), (p1_signs, .inl (cC, 80, .inl p1_signs_f)), (p2, .inr (5, [.ref p2_cells, .int p2_size])), (p2_cells, .inl (cI, 64, .inl p2_cells_f))] → va_S A s.heap H locs → lv_has ls 5 [(3, .int x3_5), (0, .ref h), (1, .ref p1), (2, .ref p2)] → W p l e (headSpec wsX3_readFrom ({ frames := 2, cells := 0, slots := 0, locals := 42 } : Room)).room s m (([.ref h, .ref p1, .ref p2] : List Value).toArray) below meth c H locs 0 0 (MQ below (wQ D (some (.int z.1)) A (fun (u : Unit) => [(h, .inr (2, [.ref h_row, .ref h_parts, .int z.2.2])), (h_row, .inl (cI, 7, .inl z.2.1)), (h_parts, .inl (cI, 448, .inl h_parts_f)), (p1, .inr (1, [.ref p1_signs, .int p1_length])), (p1_signs, .inl (cC, 80, .inl p1_signs_f)), (p2, .inr (5, [.ref p2_cells, .int p2_size])), (p2_cells, .inl (cI, 64, .inl p2_cells_f))])) (([.ref h, .ref p1, .ref p2] : List Value).toArray) s 0 0 A) (F0 m 7 ls []) := by
    intro F7
    induction F7 with
    | zero => intro x3_5 y_6 f_7 H locs ls h0 hP hD hS hl; cases h0
    | succ F7 ih7 =>
      intro x3_5 y_6 f_7 H locs ls h0 hP hD hS hl
      rw [mX3_readFrom_L7] at h0
      refine lv_iload_n hx hb dX3_readFrom_7 rfl (lv_at hl 0 rfl) ?_
      refine lv_aload_n hx hb dX3_readFrom_8 rfl (lv_at hl 2 rfl) ?_
      obtain ⟨z_8, hz, h0⟩ := bd_ok h0
      refine ro_V (As := []) (rest := [.int x3_5]) (wc := [(p1, .inr (1, [.ref p1_signs, .int p1_length])), (p1_signs, .inl (cC, 80, .inl p1_signs_f))]) hcf (kX1_length l D cI cC cT p1 p1_signs p1_signs_f p1_length z_8 hz) (cwV 0 hts gX3_readFrom_X1_length rfl rfl rfl (by decide +kernel) ⟨Nat.le_of_ble_eq_true rfl, Nat.le_of_ble_eq_true rfl⟩) hE (hP.sub [3, 4] rfl) (va_recv hK hP (ci := 1) (q0 := 3) rfl rfl) rfl hl.1 rfl (Nat.le_of_ble_eq_true rfl) dX3_readFrom_9 ⟨Nat.le_of_ble_eq_true rfl, Nat.le_of_ble_eq_true rfl⟩ ?_
      refine W.eq (g2 := F0 m 12 ls [.int z_8, .int x3_5]) rfl ?_
      refine lv_icmp_ge (tgt := 65) hx hb dX3_readFrom_12 (by decide) (fun c9 => ?_) (fun c9 => ?_)
      · have h0 := it_t c9 h0
        exact E_7_65_3 x3_5 y_6 f_7 _ _ ls h0 hP hD hS hl
      · have h0 := it_f c9 h0
        refine lv_aload_n hx hb dX3_readFrom_15 rfl (lv_at hl 2 rfl) ?_
        refine lv_iload_n hx hb dX3_readFrom_16 rfl (lv_at hl 0 rfl) ?_
        obtain ⟨z_9, hz, h0⟩ := bd_ok h0
        refine ro_V (As := [.int x3_5]) (rest := []) (wc := [(p1, .inr (1, [.ref p1_signs, .int p1_length])), (p1_signs, .inl (cC, 80, .inl p1_signs_f))]) hcf (kX1_digitAt l D cI cC cT p1 p1_signs p1_signs_f p1_length x3_5 z_9 hz) (cwV 1 hts gX3_readFrom_X1_digitAt rfl rfl rfl (by decide +kernel) ⟨Nat.le_of_ble_eq_true rfl, Nat.le_of_ble_eq_true rfl⟩) hE (hP.sub [3, 4] rfl) (va_recv hK hP (ci := 1) (q0 := 3) rfl rfl) rfl hl.1 rfl (Nat.le_of_ble_eq_true rfl) dX3_readFrom_17 ⟨Nat.le_of_ble_eq_true rfl, Nat.le_of_ble_eq_true rfl⟩ ?_
        refine W.eq (g2 := F0 m 20 ls [.int z_9]) rfl ?_
        refine lv_istore (lv' := [(4, .int z_9), (3, .int x3_5), (0, .ref h), (1, .ref p1), (2, .ref p2)]) hx hb dX3_readFrom_20 hl (by decide) rfl (fun ls hl => ?_)
        refine lv_iload_n hx hb dX3_readFrom_22 rfl (lv_at hl 1 rfl) ?_
        refine lv_bipush (v := 7) hx hb dX3_readFrom_23 (by decide) ?_
        refine lv_icmp_ge (tgt := 37) hx hb dX3_readFrom_25 (by decide) (fun c9 => ?_) (fun c9 => ?_)
        · have h0 := it_t c9 h0
          refine lv_iload_n hx hb dX3_readFrom_37 rfl (lv_at hl 1 rfl) ?_
          have e0 := Option.some.inj h0
          subst e0
          exact W.iret (v := x3_5) hx hb hr (fun t ht hW => wr_end () ht hP hD hS) hS.2.2 dX3_readFrom_38
        · have h0 := it_f c9 h0
          refine lv_aload_n hx hb dX3_readFrom_28 rfl (lv_at hl 4 rfl) ?_
          refine lv_iload hx hb dX3_readFrom_29 (lv_at hl 0 rfl) ?_
          obtain ⟨z_10, hz, h0⟩ := bd_ok h0
          refine ro_V (As := [.int z_9]) (rest := []) (wc := [(p2, .inr (5, [.ref p2_cells, .int p2_size])), (p2_cells, .inl (cI, 64, .inl p2_cells_f))]) hcf (kX6_has l D cI cC cT p2 p2_cells p2_cells_f p2_size z_9 z_10 hz) (cwV 1 hts gX3_readFrom_X6_has rfl rfl rfl (by decide +kernel) ⟨Nat.le_of_ble_eq_true rfl, Nat.le_of_ble_eq_true rfl⟩) hE (hP.sub [5, 6] rfl) (va_recv hK hP (ci := 5) (q0 := 5) rfl rfl) rfl hl.1 rfl (Nat.le_of_ble_eq_true rfl) dX3_readFrom_31 ⟨Nat.le_of_ble_eq_true rfl, Nat.le_of_ble_eq_true rfl⟩ ?_
          refine W.eq (g2 := F0 m 34 ls [.int z_10]) rfl ?_
          refine lv_if_ne (tgt := 39) hx hb dX3_readFrom_34 (by decide) (fun c9 => ?_) (fun c9 => ?_)
          · have h0 := it_f c9 h0
            refine lv_aload_n hx hb dX3_readFrom_39 rfl (lv_at hl 2 rfl) ?_
            refine va_get (D := D) (ci := 2) (v := .ref h_row) (C := RX3) (T := TX3) (N := 3) hx hb hts hi_X3 hown hK hP 0 rfl rfl 0 (by decide) hf_11 (fun _ h9 => h9) rfl dX3_readFrom_40 ?_
            refine lv_iload_n hx hb dX3_readFrom_43 rfl (lv_at hl 1 rfl) ?_
            refine lv_iload hx hb dX3_readFrom_44 (lv_at hl 0 rfl) ?_
            obtain ⟨z_11, hz, h0⟩ := bd_ok h0
            refine wr_SN (As := [.ref h_row, .int x3_5, .int z_9]) (rest := []) (wc := [(h_row, .inl (cI, 7, .inl f_7))]) (wr := [(h, .inr (2, [.ref h_row, .ref h_parts, .int y_6])), (h_parts, .inl (cI, 448, .inl h_parts_f)), (p1, .inr (1, [.ref p1_signs, .int p1_length])), (p1_signs, .inl (cC, 80, .inl p1_signs_f)), (p2, .inr (5, [.ref p2_cells, .int p2_size])), (p2_cells, .inl (cI, 64, .inl p2_cells_f))]) hcf (kX9_put l D cI cC cT h_row 7 f_7 x3_5 z_9 _ z_11 hz) ⟨va_cnB (host := RX9) 3 hts gX3_readFrom_X9_put_n37 rfl rfl rfl hE.2.2.1 hini_X9 (by decide +kernel) ⟨Nat.le_of_ble_eq_true rfl, Nat.le_of_ble_eq_true rfl⟩, hst_X9_put, trivial⟩ hE hP hD hS hA [1] [0, 2, 3, 4, 5, 6] (hP.sub [1] rfl) (hD.sub [1] (by decide) rfl) rfl rfl (by decide) (by decide) rfl hl.1 rfl (Nat.le_of_ble_eq_true rfl) dX3_readFrom_46 ⟨Nat.le_of_ble_eq_true rfl, Nat.le_of_ble_eq_true rfl⟩ (fun u H locs hP hD hS => ?_)
            have hP : va_P D vwCl [(h, .inr (2, [.ref h_row, .ref h_parts, .int y_6])), (h_parts, .inl (cI, 448, .inl h_parts_f)), (p1, .inr (1, [.ref p1_signs, .int p1_length])), (p1_signs, .inl (cC, 80, .inl p1_signs_f)), (p2, .inr (5, [.ref p2_cells, .int p2_size])), (p2_cells, .inl (cI, 64, .inl p2_cells_f)), (h_row, .inl (cI, 7, .inl z_11))] H := hP
            have hD : va_D A [(h, .inr (2, [.ref h_row, .ref h_parts, .int y_6])), (h_parts, .inl (cI, 448, .inl h_parts_f)), (p1, .inr (1, [.ref p1_signs, .int p1_length])), (p1_signs, .inl (cC, 80, .inl p1_signs_f)), (p2, .inr (5, [.ref p2_cells, .int p2_size])), (p2_cells, .inl (cI, 64, .inl p2_cells_f)), (h_row, .inl (cI, 7, .inl z_11))] := hD
            refine W.eq (g2 := F0 m 49 ls []) rfl ?_
            refine lv_aload_n hx hb dX3_readFrom_49 rfl (lv_at hl 2 rfl) ?_
            refine lv_dup hx hb dX3_readFrom_50 rfl ?_
            refine va_get (D := D) (ci := 2) (v := .int y_6) (C := RX3) (T := TX3) (N := 3) hx hb hts hi_X3 hown hK hP 0 rfl rfl 2 (by decide) hf_18 (fun _ h9 => h9) rfl dX3_readFrom_51 ?_
            refine lv_iconst (v := 1) hx hb dX3_readFrom_54 (by decide) ?_
            refine lv_iadd hx hb dX3_readFrom_55 ?_
            refine va_put (D := D) (ci := 2) (v := .int (y_6 + 1)) (ty := .int) (C := RX3) (T := TX3) (N := 3) hx hb hts hi_X3 tyX3 tyX3_ok nmX3 hown hK hP hD hS 0 rfl rfl 2 (by decide) hf_18 (fun _ h9 => h9) rfl (by decide +kernel) rfl rfl (Nat.le_of_ble_eq_true rfl) dX3_readFrom_56 (fun H locs hP hD hS => ?_)
            have hP : va_P D vwCl [(h, .inr (2, [.ref h_row, .ref h_parts, .int (y_6 + 1)])), (h_parts, .inl (cI, 448, .inl h_parts_f)), (p1, .inr (1, [.ref p1_signs, .int p1_length])), (p1_signs, .inl (cC, 80, .inl p1_signs_f)), (p2, .inr (5, [.ref p2_cells, .int p2_size])), (p2_cells, .inl (cI, 64, .inl p2_cells_f)), (h_row, .inl (cI, 7, .inl z_11))] H := hP
            have hD : va_D A [(h, .inr (2, [.ref h_row, .ref h_parts, .int (y_6 + 1)])), (h_parts, .inl (cI, 448, .inl h_parts_f)), (p1, .inr (1, [.ref p1_signs, .int p1_length])), (p1_signs, .inl (cC, 80, .inl p1_signs_f)), (p2, .inr (5, [.ref p2_cells, .int p2_size])), (p2_cells, .inl (cI, 64, .inl p2_cells_f)), (h_row, .inl (cI, 7, .inl z_11))] := hD
            refine lv_iinc (v := (x3_5 + 1)) (lv' := [(3, .int (x3_5 + 1)), (4, .int z_9), (0, .ref h), (1, .ref p1), (2, .ref p2)]) hx hb dX3_readFrom_59 hl (k := 1) rfl rfl (by decide) rfl (fun ls hl => ?_)
            refine lv_goto (tgt := 7) hx hb dX3_readFrom_62 (by decide) ?_
            exact ih7 (x3_5 + 1) (y_6 + 1) z_11 _ _ ls h0 (hP.sub [0, 6, 1, 2, 3, 4, 5] rfl) (hD.sub [0, 6, 1, 2, 3, 4, 5] (by decide) rfl) hS (lv_sub hl [0, 2, 3, 4] rfl)
          · have h0 := it_t c9 h0
            refine lv_iload_n hx hb dX3_readFrom_37 rfl (lv_at hl 1 rfl) ?_
            have e0 := Option.some.inj h0
            subst e0
            exact W.iret (v := x3_5) hx hb hr (fun t ht hW => wr_end () ht hP hD hS) hS.2.2 dX3_readFrom_38
  exact L_7_11 FU 0 0 h_row_f _ _ ls h0 hP hD hS hl
noncomputable def mX3_sumFromLeft_L11 (h_row_f : Nat → Int32) (h_length : Int32) (p1_cells_f : Nat → Int32) (k11_39 : Int32 → Int32 → Option (Int32)) : Nat → Int32 → Int32 → Option (Int32)
  | 0, _, _ => none
  | F + 1, x3_5, x2_6 => if h_length ≤ x3_5 then (k11_39 x3_5 x2_6) else (bd (mX9_get 7 h_row_f x3_5) (fun z_7 => bd (mX6_at p1_cells_f x2_6 z_7) (fun z_8 => mX3_sumFromLeft_L11 h_row_f h_length p1_cells_f k11_39 F (x3_5 + 1) z_8)))
noncomputable def mX3_sumFromLeft (h_row_f : Nat → Int32) (h_length : Int32) (p1_cells_f : Nat → Int32) : Option (Int32) :=
  bd (mX9_get 7 h_row_f 0) (fun z_1 => mX3_sumFromLeft_L11 h_row_f h_length p1_cells_f (fun (x3_2 : Int32) (x2_3 : Int32) => some (x2_3)) FU 1 z_1)
set_option maxHeartbeats 8000000 in
set_option maxRecDepth 100000 in
theorem kX3_sumFromLeft (l : Launch) (D : va_G) (cI cC cT : ClassId) (h h_row h_parts p1 p1_cells : Nat) (h_row_f : Nat → Int32) (h_parts_f : Nat → Int32) (h_length : Int32) (p1_cells_f : Nat → Int32) (p1_size : Int32) (z : Int32) (h0 : mX3_sumFromLeft h_row_f h_length p1_cells_f = some z) : Met l yX3_sumFromLeft wsX3_sumFromLeft ({ frames := 1, cells := 0, slots := 0, locals := 23 } : Room) (va_Pc [.ref h, .ref p1] (rP D cI cC cT [(h, .inr (2, [.ref h_row, .ref h_parts, .int h_length])), (h_row, .inl (cI, 7, .inl h_row_f)), (h_parts, .inl (cI, 448, .inl h_parts_f)), (p1, .inr (5, [.ref p1_cells, .int p1_size])), (p1_cells, .inl (cI, 64, .inl p1_cells_f))])) (rQ (some (.int z))) 0 0 (fun _ => False) := by
  refine Met.ofW (cc := cX3_sumFromLeft) (maxL := 4) (ret := (some .int)) (by decide) rfl ?_
  intro p e s m args below meth c s₁ B hml hv
  obtain ⟨rfl, hP, hE⟩ := hv
  have hx := B.exec
  have hb := B.bytes
  have hr := B.returns
  have hts := atoms_spec (ws := wsX3_sumFromLeft) B.pre
  have hown : s.vm.findClass RX3 = some m.cls := findClass_of_methodNamed B.named
  have hlocks := B.notSynchronized
  have hK := hE.1
  have hcf : CallFix p m c cX3_sumFromLeft 4 s ([.ref h, .ref p1] : List Value).toArray wsX3_sumFromLeft RX3 := ⟨hx, hb, hml, hown, hts⟩
  have hP : va_P D vwCl [(h, .inr (2, [.ref h_row, .ref h_parts, .int h_length])), (h_row, .inl (cI, 7, .inl h_row_f)), (h_parts, .inl (cI, 448, .inl h_parts_f)), (p1, .inr (5, [.ref p1_cells, .int p1_size])), (p1_cells, .inl (cI, 64, .inl p1_cells_f))] s.heap := hP
  have hf_11 := hts (.fieldLink RX3 11 "CrookedSums$RowText" "row" "[I") (by decide +kernel)
  have hi_X3 := (show ∀ w ∈ u_ws RX3 TX3 3, w ∈ wsX3_sumFromLeft from by decide +kernel)
  have hini_X9 := hts (.initialized RX9) (by decide +kernel)
  have hst_X9_get := hts (.static yX9_get) (by decide +kernel)
  have hf_18 := hts (.fieldLink RX3 18 "CrookedSums$RowText" "length" "I") (by decide +kernel)
  have hl := lv_entry ([.ref h, .ref p1]) (n := 4) (Nat.le_of_ble_eq_true rfl)
  rw [lg_entry_eq]
  generalize (lg_sl ([.ref h, .ref p1]) ++ List.replicate (4 - (lg_sl ([.ref h, .ref p1])).length) Slot.unset).toArray = ls at hl ⊢
  have hl : lv_has ls 4 [(0, .ref h), (1, .ref p1)] := hl
  unfold mX3_sumFromLeft at h0
  refine lv_aload_n hx hb dX3_sumFromLeft_0 rfl (lv_at hl 0 rfl) ?_
  refine va_get (D := D) (ci := 2) (v := .ref h_row) (C := RX3) (T := TX3) (N := 3) hx hb hts hi_X3 hown hK hP 0 rfl rfl 0 (by decide) hf_11 (fun _ h9 => h9) rfl dX3_sumFromLeft_1 ?_
  refine lv_iconst (v := 0) hx hb dX3_sumFromLeft_4 (by decide) ?_
  obtain ⟨z_1, hz, h0⟩ := bd_ok h0
  refine ro_SN (As := [.ref h_row, .int 0]) (rest := []) (wc := [(h_row, .inl (cI, 7, .inl h_row_f))]) hcf (kX9_get l D cI cC cT h_row 7 h_row_f 0 z_1 hz) ⟨va_cnB (host := RX9) 2 hts gX3_sumFromLeft_X9_get_n52 rfl rfl rfl hE.2.2.2.1 hini_X9 (by decide +kernel) ⟨Nat.le_of_ble_eq_true rfl, Nat.le_of_ble_eq_true rfl⟩, hst_X9_get, trivial⟩ hE (hP.sub [1] rfl) rfl hl.1 rfl (Nat.le_of_ble_eq_true rfl) dX3_sumFromLeft_5 ⟨Nat.le_of_ble_eq_true rfl, Nat.le_of_ble_eq_true rfl⟩ ?_
  refine W.eq (g2 := F0 m 8 ls [.int z_1]) rfl ?_
  refine lv_istore_n (lv' := [(2, .int z_1), (0, .ref h), (1, .ref p1)]) hx hb dX3_sumFromLeft_8 rfl hl (by decide) rfl (fun ls hl => ?_)
  refine lv_iconst (v := 1) hx hb dX3_sumFromLeft_9 (by decide) ?_
  refine lv_istore_n (lv' := [(3, .int 1), (2, .int z_1), (0, .ref h), (1, .ref p1)]) hx hb dX3_sumFromLeft_10 rfl hl (by decide) rfl (fun ls hl => ?_)
  have E_11_39_3 : ∀ (x3_2 : Int32) (x2_3 : Int32) (ls : Array Slot), (some (x2_3)) = some z → lv_has ls 4 [(3, .int x3_2), (2, .int x2_3), (0, .ref h), (1, .ref p1)] → W p l e (headSpec wsX3_sumFromLeft ({ frames := 1, cells := 0, slots := 0, locals := 23 } : Room)).room s m (([.ref h, .ref p1] : List Value).toArray) below meth c s.heap [] 0 0 (MQ below (rQ (some (.int z))) (([.ref h, .ref p1] : List Value).toArray) s 0 0 (fun _ => False)) (F0 m 39 ls []) := by
    intro x3_2 x2_3 ls h0 hl
    refine lv_iload_n hx hb dX3_sumFromLeft_39 rfl (lv_at hl 1 rfl) ?_
    have e0 := Option.some.inj h0
    subst e0
    exact W.iret (v := x2_3) hx hb hr (fun t ht hW => ⟨rfl, ht⟩) (fun q hq => absurd hq List.not_mem_nil) dX3_sumFromLeft_40
  have L_11_8 : ∀ (F11 : Nat) (x3_5 : Int32) (x2_6 : Int32) (ls : Array Slot), mX3_sumFromLeft_L11 h_row_f h_length p1_cells_f (fun (x3_2 : Int32) (x2_3 : Int32) => some (x2_3)) F11 x3_5 x2_6 = some z → lv_has ls 4 [(3, .int x3_5), (2, .int x2_6), (0, .ref h), (1, .ref p1)] → W p l e (headSpec wsX3_sumFromLeft ({ frames := 1, cells := 0, slots := 0, locals := 23 } : Room)).room s m (([.ref h, .ref p1] : List Value).toArray) below meth c s.heap [] 0 0 (MQ below (rQ (some (.int z))) (([.ref h, .ref p1] : List Value).toArray) s 0 0 (fun _ => False)) (F0 m 11 ls []) := by
    intro F11
    induction F11 with
    | zero => intro x3_5 x2_6 ls h0 hl; cases h0
    | succ F11 ih11 =>
      intro x3_5 x2_6 ls h0 hl
      rw [mX3_sumFromLeft_L11] at h0
      refine lv_iload_n hx hb dX3_sumFromLeft_11 rfl (lv_at hl 0 rfl) ?_
      refine lv_aload_n hx hb dX3_sumFromLeft_12 rfl (lv_at hl 2 rfl) ?_
      refine va_get (D := D) (ci := 2) (v := .int h_length) (C := RX3) (T := TX3) (N := 3) hx hb hts hi_X3 hown hK hP 0 rfl rfl 2 (by decide) hf_18 (fun _ h9 => h9) rfl dX3_sumFromLeft_13 ?_
      refine lv_icmp_ge (tgt := 39) hx hb dX3_sumFromLeft_16 (by decide) (fun c9 => ?_) (fun c9 => ?_)
      · have h0 := it_t c9 h0
        exact E_11_39_3 x3_5 x2_6 ls h0 hl
      · have h0 := it_f c9 h0
        refine lv_aload_n hx hb dX3_sumFromLeft_19 rfl (lv_at hl 3 rfl) ?_
        refine lv_iload_n hx hb dX3_sumFromLeft_20 rfl (lv_at hl 1 rfl) ?_
        refine lv_aload_n hx hb dX3_sumFromLeft_21 rfl (lv_at hl 2 rfl) ?_
        refine va_get (D := D) (ci := 2) (v := .ref h_row) (C := RX3) (T := TX3) (N := 3) hx hb hts hi_X3 hown hK hP 0 rfl rfl 0 (by decide) hf_11 (fun _ h9 => h9) rfl dX3_sumFromLeft_22 ?_
        refine lv_iload_n hx hb dX3_sumFromLeft_25 rfl (lv_at hl 0 rfl) ?_
        obtain ⟨z_7, hz, h0⟩ := bd_ok h0
        refine ro_SN (As := [.ref h_row, .int x3_5]) (rest := [.int x2_6, .ref p1]) (wc := [(h_row, .inl (cI, 7, .inl h_row_f))]) hcf (kX9_get l D cI cC cT h_row 7 h_row_f x3_5 z_7 hz) ⟨va_cnB (host := RX9) 2 hts gX3_sumFromLeft_X9_get_n52 rfl rfl rfl hE.2.2.2.1 hini_X9 (by decide +kernel) ⟨Nat.le_of_ble_eq_true rfl, Nat.le_of_ble_eq_true rfl⟩, hst_X9_get, trivial⟩ hE (hP.sub [1] rfl) rfl hl.1 rfl (Nat.le_of_ble_eq_true rfl) dX3_sumFromLeft_26 ⟨Nat.le_of_ble_eq_true rfl, Nat.le_of_ble_eq_true rfl⟩ ?_
        refine W.eq (g2 := F0 m 29 ls [.int z_7, .int x2_6, .ref p1]) rfl ?_
        obtain ⟨z_8, hz, h0⟩ := bd_ok h0
        refine ro_V (As := [.int x2_6, .int z_7]) (rest := []) (wc := [(p1, .inr (5, [.ref p1_cells, .int p1_size])), (p1_cells, .inl (cI, 64, .inl p1_cells_f))]) hcf (kX6_at l D cI cC cT p1 p1_cells p1_cells_f p1_size x2_6 z_7 z_8 hz) (cwV 2 hts gX3_sumFromLeft_X6_at rfl rfl rfl (by decide +kernel) ⟨Nat.le_of_ble_eq_true rfl, Nat.le_of_ble_eq_true rfl⟩) hE (hP.sub [3, 4] rfl) (va_recv hK hP (ci := 5) (q0 := 3) rfl rfl) rfl hl.1 rfl (Nat.le_of_ble_eq_true rfl) dX3_sumFromLeft_29 ⟨Nat.le_of_ble_eq_true rfl, Nat.le_of_ble_eq_true rfl⟩ ?_
        refine W.eq (g2 := F0 m 32 ls [.int z_8]) rfl ?_
        refine lv_istore_n (lv' := [(2, .int z_8), (3, .int x3_5), (0, .ref h), (1, .ref p1)]) hx hb dX3_sumFromLeft_32 rfl hl (by decide) rfl (fun ls hl => ?_)
        refine lv_iinc (v := (x3_5 + 1)) (lv' := [(3, .int (x3_5 + 1)), (2, .int z_8), (0, .ref h), (1, .ref p1)]) hx hb dX3_sumFromLeft_33 hl (k := 1) rfl rfl (by decide) rfl (fun ls hl => ?_)
        refine lv_goto (tgt := 11) hx hb dX3_sumFromLeft_36 (by decide) ?_
        exact ih11 (x3_5 + 1) z_8 ls h0 hl
  exact L_11_8 FU 1 z_1 ls h0 hl
noncomputable def mX3_sumFromRight_L21 (h_row_f : Nat → Int32) (p1_cells_f : Nat → Int32) (k21_45 : Int32 → Int32 → Option (Int32)) : Nat → Int32 → Int32 → Option (Int32)
  | 0, _, _ => none
  | F + 1, x3_5, x2_6 => if x3_5 < 0 then (k21_45 x3_5 x2_6) else (bd (mX9_get 7 h_row_f x3_5) (fun z_7 => bd (mX6_at p1_cells_f z_7 x2_6) (fun z_8 => mX3_sumFromRight_L21 h_row_f p1_cells_f k21_45 F (x3_5 + (-1)) z_8)))
noncomputable def mX3_sumFromRight (h_row_f : Nat → Int32) (h_length : Int32) (p1_cells_f : Nat → Int32) : Option (Int32) :=
  bd (mX9_get 7 h_row_f (h_length - 1)) (fun z_1 => mX3_sumFromRight_L21 h_row_f p1_cells_f (fun (x3_2 : Int32) (x2_3 : Int32) => some (x2_3)) FU (h_length - 2) z_1)
set_option maxHeartbeats 8000000 in
set_option maxRecDepth 100000 in
theorem kX3_sumFromRight (l : Launch) (D : va_G) (cI cC cT : ClassId) (h h_row h_parts p1 p1_cells : Nat) (h_row_f : Nat → Int32) (h_parts_f : Nat → Int32) (h_length : Int32) (p1_cells_f : Nat → Int32) (p1_size : Int32) (z : Int32) (h0 : mX3_sumFromRight h_row_f h_length p1_cells_f = some z) : Met l yX3_sumFromRight wsX3_sumFromRight ({ frames := 1, cells := 0, slots := 0, locals := 23 } : Room) (va_Pc [.ref h, .ref p1] (rP D cI cC cT [(h, .inr (2, [.ref h_row, .ref h_parts, .int h_length])), (h_row, .inl (cI, 7, .inl h_row_f)), (h_parts, .inl (cI, 448, .inl h_parts_f)), (p1, .inr (5, [.ref p1_cells, .int p1_size])), (p1_cells, .inl (cI, 64, .inl p1_cells_f))])) (rQ (some (.int z))) 0 0 (fun _ => False) := by
  refine Met.ofW (cc := cX3_sumFromRight) (maxL := 4) (ret := (some .int)) (by decide) rfl ?_
  intro p e s m args below meth c s₁ B hml hv
  obtain ⟨rfl, hP, hE⟩ := hv
  have hx := B.exec
  have hb := B.bytes
  have hr := B.returns
  have hts := atoms_spec (ws := wsX3_sumFromRight) B.pre
  have hown : s.vm.findClass RX3 = some m.cls := findClass_of_methodNamed B.named
  have hlocks := B.notSynchronized
  have hK := hE.1
  have hcf : CallFix p m c cX3_sumFromRight 4 s ([.ref h, .ref p1] : List Value).toArray wsX3_sumFromRight RX3 := ⟨hx, hb, hml, hown, hts⟩
  have hP : va_P D vwCl [(h, .inr (2, [.ref h_row, .ref h_parts, .int h_length])), (h_row, .inl (cI, 7, .inl h_row_f)), (h_parts, .inl (cI, 448, .inl h_parts_f)), (p1, .inr (5, [.ref p1_cells, .int p1_size])), (p1_cells, .inl (cI, 64, .inl p1_cells_f))] s.heap := hP
  have hf_11 := hts (.fieldLink RX3 11 "CrookedSums$RowText" "row" "[I") (by decide +kernel)
  have hi_X3 := (show ∀ w ∈ u_ws RX3 TX3 3, w ∈ wsX3_sumFromRight from by decide +kernel)
  have hf_18 := hts (.fieldLink RX3 18 "CrookedSums$RowText" "length" "I") (by decide +kernel)
  have hini_X9 := hts (.initialized RX9) (by decide +kernel)
  have hst_X9_get := hts (.static yX9_get) (by decide +kernel)
  have hl := lv_entry ([.ref h, .ref p1]) (n := 4) (Nat.le_of_ble_eq_true rfl)
  rw [lg_entry_eq]
  generalize (lg_sl ([.ref h, .ref p1]) ++ List.replicate (4 - (lg_sl ([.ref h, .ref p1])).length) Slot.unset).toArray = ls at hl ⊢
  have hl : lv_has ls 4 [(0, .ref h), (1, .ref p1)] := hl
  unfold mX3_sumFromRight at h0
  refine lv_aload_n hx hb dX3_sumFromRight_0 rfl (lv_at hl 0 rfl) ?_
  refine va_get (D := D) (ci := 2) (v := .ref h_row) (C := RX3) (T := TX3) (N := 3) hx hb hts hi_X3 hown hK hP 0 rfl rfl 0 (by decide) hf_11 (fun _ h9 => h9) rfl dX3_sumFromRight_1 ?_
  refine lv_aload_n hx hb dX3_sumFromRight_4 rfl (lv_at hl 0 rfl) ?_
  refine va_get (D := D) (ci := 2) (v := .int h_length) (C := RX3) (T := TX3) (N := 3) hx hb hts hi_X3 hown hK hP 0 rfl rfl 2 (by decide) hf_18 (fun _ h9 => h9) rfl dX3_sumFromRight_5 ?_
  refine lv_iconst (v := 1) hx hb dX3_sumFromRight_8 (by decide) ?_
  refine lv_isub hx hb dX3_sumFromRight_9 ?_
  obtain ⟨z_1, hz, h0⟩ := bd_ok h0
  refine ro_SN (As := [.ref h_row, .int (h_length - 1)]) (rest := []) (wc := [(h_row, .inl (cI, 7, .inl h_row_f))]) hcf (kX9_get l D cI cC cT h_row 7 h_row_f (h_length - 1) z_1 hz) ⟨va_cnB (host := RX9) 2 hts gX3_sumFromRight_X9_get_n52 rfl rfl rfl hE.2.2.2.1 hini_X9 (by decide +kernel) ⟨Nat.le_of_ble_eq_true rfl, Nat.le_of_ble_eq_true rfl⟩, hst_X9_get, trivial⟩ hE (hP.sub [1] rfl) rfl hl.1 rfl (Nat.le_of_ble_eq_true rfl) dX3_sumFromRight_10 ⟨Nat.le_of_ble_eq_true rfl, Nat.le_of_ble_eq_true rfl⟩ ?_
  refine W.eq (g2 := F0 m 13 ls [.int z_1]) rfl ?_
  refine lv_istore_n (lv' := [(2, .int z_1), (0, .ref h), (1, .ref p1)]) hx hb dX3_sumFromRight_13 rfl hl (by decide) rfl (fun ls hl => ?_)
  refine lv_aload_n hx hb dX3_sumFromRight_14 rfl (lv_at hl 1 rfl) ?_
  refine va_get (D := D) (ci := 2) (v := .int h_length) (C := RX3) (T := TX3) (N := 3) hx hb hts hi_X3 hown hK hP 0 rfl rfl 2 (by decide) hf_18 (fun _ h9 => h9) rfl dX3_sumFromRight_15 ?_
  refine lv_iconst (v := 2) hx hb dX3_sumFromRight_18 (by decide) ?_
  refine lv_isub hx hb dX3_sumFromRight_19 ?_
  refine lv_istore_n (lv' := [(3, .int (h_length - 2)), (2, .int z_1), (0, .ref h), (1, .ref p1)]) hx hb dX3_sumFromRight_20 rfl hl (by decide) rfl (fun ls hl => ?_)
  have E_21_45_3 : ∀ (x3_2 : Int32) (x2_3 : Int32) (ls : Array Slot), (some (x2_3)) = some z → lv_has ls 4 [(3, .int x3_2), (2, .int x2_3), (0, .ref h), (1, .ref p1)] → W p l e (headSpec wsX3_sumFromRight ({ frames := 1, cells := 0, slots := 0, locals := 23 } : Room)).room s m (([.ref h, .ref p1] : List Value).toArray) below meth c s.heap [] 0 0 (MQ below (rQ (some (.int z))) (([.ref h, .ref p1] : List Value).toArray) s 0 0 (fun _ => False)) (F0 m 45 ls []) := by
    intro x3_2 x2_3 ls h0 hl
    refine lv_iload_n hx hb dX3_sumFromRight_45 rfl (lv_at hl 1 rfl) ?_
    have e0 := Option.some.inj h0
    subst e0
    exact W.iret (v := x2_3) hx hb hr (fun t ht hW => ⟨rfl, ht⟩) (fun q hq => absurd hq List.not_mem_nil) dX3_sumFromRight_46
  have L_21_8 : ∀ (F21 : Nat) (x3_5 : Int32) (x2_6 : Int32) (ls : Array Slot), mX3_sumFromRight_L21 h_row_f p1_cells_f (fun (x3_2 : Int32) (x2_3 : Int32) => some (x2_3)) F21 x3_5 x2_6 = some z → lv_has ls 4 [(3, .int x3_5), (2, .int x2_6), (0, .ref h), (1, .ref p1)] → W p l e (headSpec wsX3_sumFromRight ({ frames := 1, cells := 0, slots := 0, locals := 23 } : Room)).room s m (([.ref h, .ref p1] : List Value).toArray) below meth c s.heap [] 0 0 (MQ below (rQ (some (.int z))) (([.ref h, .ref p1] : List Value).toArray) s 0 0 (fun _ => False)) (F0 m 21 ls []) := by
    intro F21
    induction F21 with
    | zero => intro x3_5 x2_6 ls h0 hl; cases h0
    | succ F21 ih21 =>
      intro x3_5 x2_6 ls h0 hl
      rw [mX3_sumFromRight_L21] at h0
      refine lv_iload_n hx hb dX3_sumFromRight_21 rfl (lv_at hl 0 rfl) ?_
      refine lv_if_lt (tgt := 45) hx hb dX3_sumFromRight_22 (by decide) (fun c9 => ?_) (fun c9 => ?_)
      · have h0 := it_t c9 h0
        exact E_21_45_3 x3_5 x2_6 ls h0 hl
      · have h0 := it_f c9 h0
        refine lv_aload_n hx hb dX3_sumFromRight_25 rfl (lv_at hl 3 rfl) ?_
        refine lv_aload_n hx hb dX3_sumFromRight_26 rfl (lv_at hl 2 rfl) ?_
        refine va_get (D := D) (ci := 2) (v := .ref h_row) (C := RX3) (T := TX3) (N := 3) hx hb hts hi_X3 hown hK hP 0 rfl rfl 0 (by decide) hf_11 (fun _ h9 => h9) rfl dX3_sumFromRight_27 ?_
        refine lv_iload_n hx hb dX3_sumFromRight_30 rfl (lv_at hl 0 rfl) ?_
        obtain ⟨z_7, hz, h0⟩ := bd_ok h0
        refine ro_SN (As := [.ref h_row, .int x3_5]) (rest := [.ref p1]) (wc := [(h_row, .inl (cI, 7, .inl h_row_f))]) hcf (kX9_get l D cI cC cT h_row 7 h_row_f x3_5 z_7 hz) ⟨va_cnB (host := RX9) 2 hts gX3_sumFromRight_X9_get_n52 rfl rfl rfl hE.2.2.2.1 hini_X9 (by decide +kernel) ⟨Nat.le_of_ble_eq_true rfl, Nat.le_of_ble_eq_true rfl⟩, hst_X9_get, trivial⟩ hE (hP.sub [1] rfl) rfl hl.1 rfl (Nat.le_of_ble_eq_true rfl) dX3_sumFromRight_31 ⟨Nat.le_of_ble_eq_true rfl, Nat.le_of_ble_eq_true rfl⟩ ?_
        refine W.eq (g2 := F0 m 34 ls [.int z_7, .ref p1]) rfl ?_
        refine lv_iload_n hx hb dX3_sumFromRight_34 rfl (lv_at hl 1 rfl) ?_
        obtain ⟨z_8, hz, h0⟩ := bd_ok h0
        refine ro_V (As := [.int z_7, .int x2_6]) (rest := []) (wc := [(p1, .inr (5, [.ref p1_cells, .int p1_size])), (p1_cells, .inl (cI, 64, .inl p1_cells_f))]) hcf (kX6_at l D cI cC cT p1 p1_cells p1_cells_f p1_size z_7 x2_6 z_8 hz) (cwV 2 hts gX3_sumFromRight_X6_at rfl rfl rfl (by decide +kernel) ⟨Nat.le_of_ble_eq_true rfl, Nat.le_of_ble_eq_true rfl⟩) hE (hP.sub [3, 4] rfl) (va_recv hK hP (ci := 5) (q0 := 3) rfl rfl) rfl hl.1 rfl (Nat.le_of_ble_eq_true rfl) dX3_sumFromRight_35 ⟨Nat.le_of_ble_eq_true rfl, Nat.le_of_ble_eq_true rfl⟩ ?_
        refine W.eq (g2 := F0 m 38 ls [.int z_8]) rfl ?_
        refine lv_istore_n (lv' := [(2, .int z_8), (3, .int x3_5), (0, .ref h), (1, .ref p1)]) hx hb dX3_sumFromRight_38 rfl hl (by decide) rfl (fun ls hl => ?_)
        refine lv_iinc (v := (x3_5 + (-1))) (lv' := [(3, .int (x3_5 + (-1))), (2, .int z_8), (0, .ref h), (1, .ref p1)]) hx hb dX3_sumFromRight_39 hl (k := 1) rfl rfl (by decide) rfl (fun ls hl => ?_)
        refine lv_goto (tgt := 21) hx hb dX3_sumFromRight_42 (by decide) ?_
        exact ih21 (x3_5 + (-1)) z_8 ls h0 hl
  exact L_21_8 FU (h_length - 2) z_1 ls h0 hl
noncomputable def mX3_waysByParts (h_row_f : Nat → Int32) (h_parts_f : Nat → Int32) (h_length : Int32) (p1_cells_f : Nat → Int32) (p1_size : Int32) (p2 : Int32) : Option (Int32 × (Nat → Int32)) :=
  bd (mX3_sumParts h_row_f h_parts_f h_length p1_cells_f p1_size) (fun z_1 => bd (mX3_partWays z_1 0 h_length p2) (fun z_2 => some (z_2, z_1)))
set_option maxHeartbeats 8000000 in
set_option maxRecDepth 100000 in
theorem kX3_waysByParts (l : Launch) (D : va_G) (cI cC cT : ClassId) (h h_row h_parts p1 p1_cells : Nat) (h_row_f : Nat → Int32) (h_parts_f : Nat → Int32) (h_length : Int32) (p1_cells_f : Nat → Int32) (p1_size : Int32) (p2 : Int32) (sz : Nat) (z : Int32 × (Nat → Int32)) (h0 : mX3_waysByParts h_row_f h_parts_f h_length p1_cells_f p1_size p2 = some z) : Met l yX3_waysByParts wsX3_waysByParts ({ frames := 5, cells := 0, slots := 0, locals := 121 } : Room) (va_Pc [.ref h, .ref p1, .int p2] (wP D cI cC cT [(h, .inr (2, [.ref h_row, .ref h_parts, .int h_length])), (h_row, .inl (cI, 7, .inl h_row_f)), (h_parts, .inl (cI, 448, .inl h_parts_f)), (p1, .inr (5, [.ref p1_cells, .int p1_size])), (p1_cells, .inl (cI, 64, .inl p1_cells_f))] sz)) (wQ D (some (.int z.1)) (va_A [(h, .inr (2, [.ref h_row, .ref h_parts, .int h_length])), (h_row, .inl (cI, 7, .inl h_row_f)), (h_parts, .inl (cI, 448, .inl h_parts_f)), (p1, .inr (5, [.ref p1_cells, .int p1_size])), (p1_cells, .inl (cI, 64, .inl p1_cells_f))] sz) (fun (u : Unit) => [(h, .inr (2, [.ref h_row, .ref h_parts, .int h_length])), (h_row, .inl (cI, 7, .inl h_row_f)), (h_parts, .inl (cI, 448, .inl z.2)), (p1, .inr (5, [.ref p1_cells, .int p1_size])), (p1_cells, .inl (cI, 64, .inl p1_cells_f))])) 0 0 (va_A [(h, .inr (2, [.ref h_row, .ref h_parts, .int h_length])), (h_row, .inl (cI, 7, .inl h_row_f)), (h_parts, .inl (cI, 448, .inl h_parts_f)), (p1, .inr (5, [.ref p1_cells, .int p1_size])), (p1_cells, .inl (cI, 64, .inl p1_cells_f))] sz) := by
  refine Met.ofW (cc := cX3_waysByParts) (maxL := 3) (ret := (some .int)) (by decide) rfl ?_
  intro p e s m args below meth c s₁ B hml hv
  obtain ⟨rfl, hsz, hP, hE, hD0⟩ := hv
  have hx := B.exec
  have hb := B.bytes
  have hr := B.returns
  have hts := atoms_spec (ws := wsX3_waysByParts) B.pre
  have hown : s.vm.findClass RX3 = some m.cls := findClass_of_methodNamed B.named
  have hlocks := B.notSynchronized
  have hK := hE.1
  have hcf : CallFix p m c cX3_waysByParts 3 s ([.ref h, .ref p1, .int p2] : List Value).toArray wsX3_waysByParts RX3 := ⟨hx, hb, hml, hown, hts⟩
  subst hsz
  have hD := hD0.self (sz := s.heap.size)
  generalize hAe : va_A [(h, .inr (2, [.ref h_row, .ref h_parts, .int h_length])), (h_row, .inl (cI, 7, .inl h_row_f)), (h_parts, .inl (cI, 448, .inl h_parts_f)), (p1, .inr (5, [.ref p1_cells, .int p1_size])), (p1_cells, .inl (cI, 64, .inl p1_cells_f))] s.heap.size = A at hD ⊢
  have hA : ∀ q : Nat, s.heap.size ≤ q → A q := fun q h => by rw [← hAe]; exact Or.inr h
  have hS : va_S A s.heap s.heap [] := va_S.rf
  have hP : va_P D vwCl [(h, .inr (2, [.ref h_row, .ref h_parts, .int h_length])), (h_row, .inl (cI, 7, .inl h_row_f)), (h_parts, .inl (cI, 448, .inl h_parts_f)), (p1, .inr (5, [.ref p1_cells, .int p1_size])), (p1_cells, .inl (cI, 64, .inl p1_cells_f))] s.heap := hP
  have hf_18 := hts (.fieldLink RX3 18 "CrookedSums$RowText" "length" "I") (by decide +kernel)
  have hi_X3 := (show ∀ w ∈ u_ws RX3 TX3 3, w ∈ wsX3_waysByParts from by decide +kernel)
  have hl := lv_entry ([.ref h, .ref p1, .int p2]) (n := 3) (Nat.le_of_ble_eq_true rfl)
  rw [lg_entry_eq]
  generalize (lg_sl ([.ref h, .ref p1, .int p2]) ++ List.replicate (3 - (lg_sl ([.ref h, .ref p1, .int p2])).length) Slot.unset).toArray = ls at hl ⊢
  have hl : lv_has ls 3 [(0, .ref h), (1, .ref p1), (2, .int p2)] := hl
  unfold mX3_waysByParts at h0
  refine lv_aload_n hx hb dX3_waysByParts_0 rfl (lv_at hl 0 rfl) ?_
  refine lv_aload_n hx hb dX3_waysByParts_1 rfl (lv_at hl 1 rfl) ?_
  obtain ⟨z_1, hz, h0⟩ := bd_ok h0
  refine wr_V (As := [.ref p1]) (rest := []) (wc := [(h, .inr (2, [.ref h_row, .ref h_parts, .int h_length])), (h_row, .inl (cI, 7, .inl h_row_f)), (h_parts, .inl (cI, 448, .inl h_parts_f)), (p1, .inr (5, [.ref p1_cells, .int p1_size])), (p1_cells, .inl (cI, 64, .inl p1_cells_f))]) (wr := []) hcf (kX3_sumParts l D cI cC cT h h_row h_parts p1 p1_cells h_row_f h_parts_f h_length p1_cells_f p1_size _ z_1 hz) (cwV 1 hts gX3_waysByParts_X3_sumParts rfl rfl rfl (by decide +kernel) ⟨Nat.le_of_ble_eq_true rfl, Nat.le_of_ble_eq_true rfl⟩) hE hP hD hS hA [0, 1, 2, 3, 4] [] (hP.sub [0, 1, 2, 3, 4] rfl) (hD.sub [0, 1, 2, 3, 4] (by decide) rfl) (va_recv hK hP (ci := 2) (q0 := 0) rfl rfl) rfl rfl (by decide) (by decide) rfl hl.1 rfl (Nat.le_of_ble_eq_true rfl) dX3_waysByParts_2 ⟨Nat.le_of_ble_eq_true rfl, Nat.le_of_ble_eq_true rfl⟩ (fun u H locs hP hD hS => ?_)
  have hP : va_P D vwCl [(h, .inr (2, [.ref h_row, .ref h_parts, .int h_length])), (h_row, .inl (cI, 7, .inl h_row_f)), (h_parts, .inl (cI, 448, .inl z_1)), (p1, .inr (5, [.ref p1_cells, .int p1_size])), (p1_cells, .inl (cI, 64, .inl p1_cells_f))] H := hP
  have hD : va_D A [(h, .inr (2, [.ref h_row, .ref h_parts, .int h_length])), (h_row, .inl (cI, 7, .inl h_row_f)), (h_parts, .inl (cI, 448, .inl z_1)), (p1, .inr (5, [.ref p1_cells, .int p1_size])), (p1_cells, .inl (cI, 64, .inl p1_cells_f))] := hD
  refine W.eq (g2 := F0 m 5 ls []) rfl ?_
  refine lv_aload_n hx hb dX3_waysByParts_5 rfl (lv_at hl 0 rfl) ?_
  refine lv_iconst (v := 0) hx hb dX3_waysByParts_6 (by decide) ?_
  refine lv_aload_n hx hb dX3_waysByParts_7 rfl (lv_at hl 0 rfl) ?_
  refine va_get (D := D) (ci := 2) (v := .int h_length) (C := RX3) (T := TX3) (N := 3) hx hb hts hi_X3 hown hK hP 0 rfl rfl 2 (by decide) hf_18 (fun _ h9 => h9) rfl dX3_waysByParts_8 ?_
  refine lv_iload_n hx hb dX3_waysByParts_11 rfl (lv_at hl 2 rfl) ?_
  obtain ⟨z_2, hz, h0⟩ := bd_ok h0
  refine ro_V (As := [.int 0, .int h_length, .int p2]) (rest := []) (wc := [(h, .inr (2, [.ref h_row, .ref h_parts, .int h_length])), (h_row, .inl (cI, 7, .inl h_row_f)), (h_parts, .inl (cI, 448, .inl z_1))]) hcf (kX3_partWays l D cI cC cT h h_row h_parts h_row_f z_1 h_length 0 h_length p2 z_2 hz) (cwV 3 hts gX3_waysByParts_X3_partWays rfl rfl rfl (by decide +kernel) ⟨Nat.le_of_ble_eq_true rfl, Nat.le_of_ble_eq_true rfl⟩) hE (hP.sub [0, 1, 2] rfl) (va_recv hK hP (ci := 2) (q0 := 0) rfl rfl) rfl hl.1 rfl (Nat.le_of_ble_eq_true rfl) dX3_waysByParts_12 ⟨Nat.le_of_ble_eq_true rfl, Nat.le_of_ble_eq_true rfl⟩ ?_
  refine W.eq (g2 := F0 m 15 ls [.int z_2]) rfl ?_
  have e0 := Option.some.inj h0
  subst e0
  exact W.iret (v := z_2) hx hb hr (fun t ht hW => wr_end () ht hP hD hS) hS.2.2 dX3_waysByParts_15
