noncomputable def mX5_init  : Option ((Nat → Int32) × (Nat → Int32) × (Nat → Int32) × (Nat → Int32) × (Nat → Int32) × (Nat → Int32) × Int32 × Int32 × Int32) :=
  some ((fun _ => 0), (fun _ => 0), (fun _ => 0), (fun _ => 0), (fun _ => 0), (fun _ => 0), 0, 0, 0)
set_option maxHeartbeats 8000000 in
set_option maxRecDepth 100000 in
theorem kX5_init (l : Launch) (D : va_G) (cI cC cT : ClassId) (h : Nat) (sz : Nat) (z : (Nat → Int32) × (Nat → Int32) × (Nat → Int32) × (Nat → Int32) × (Nat → Int32) × (Nat → Int32) × Int32 × Int32 × Int32) (h0 : mX5_init  = some z) : Met l yX5_init wsX5_init ({ frames := 1, cells := 6, slots := 482, locals := 20 } : Room) (va_Pc [.ref h] (wP D cI cC cT [(h, .inr (4, [.null, .null, .null, .null, .null, .null, .int 0, .int 0, .int 0]))] sz)) (wQ D none (va_A [(h, .inr (4, [.null, .null, .null, .null, .null, .null, .int 0, .int 0, .int 0]))] sz) (fun (u : Nat × Nat × Nat × Nat × Nat × Nat) => [(h, .inr (4, [.ref u.1, .ref u.2.1, .ref u.2.2.1, .ref u.2.2.2.1, .ref u.2.2.2.2.1, .ref u.2.2.2.2.2, .int z.2.2.2.2.2.2.1, .int z.2.2.2.2.2.2.2.1, .int z.2.2.2.2.2.2.2.2])), (u.1, .inl (cI, 81, .inl z.1)), (u.2.1, .inl (cI, 81, .inl z.2.1)), (u.2.2.1, .inl (cI, 80, .inl z.2.2.1)), (u.2.2.2.1, .inl (cI, 80, .inl z.2.2.2.1)), (u.2.2.2.2.1, .inl (cI, 80, .inl z.2.2.2.2.1)), (u.2.2.2.2.2, .inl (cI, 80, .inl z.2.2.2.2.2.1))])) 6 482 (va_A [(h, .inr (4, [.null, .null, .null, .null, .null, .null, .int 0, .int 0, .int 0]))] sz) := by
  refine Met.ofW (cc := cX5_init) (maxL := 1) (ret := none) (by decide) rfl ?_
  intro p e s m args below meth c s₁ B hml hv
  obtain ⟨rfl, hsz, hP, hE, hD0⟩ := hv
  have hx := B.exec
  have hb := B.bytes
  have hr := B.returns
  have hts := atoms_spec (ws := wsX5_init) B.pre
  have hown : s.vm.findClass RX5 = some m.cls := findClass_of_methodNamed B.named
  have hlocks := B.notSynchronized
  have hK := hE.1
  have hcf : CallFix p m c cX5_init 1 s ([.ref h] : List Value).toArray wsX5_init RX5 := ⟨hx, hb, hml, hown, hts⟩
  have hin : meth.name = "<init>" := (name_of_methodNamed B.named B.method).1
  subst hsz
  have hD := hD0.self (sz := s.heap.size)
  generalize hAe : va_A [(h, .inr (4, [.null, .null, .null, .null, .null, .null, .int 0, .int 0, .int 0]))] s.heap.size = A at hD ⊢
  have hA : ∀ q : Nat, s.heap.size ≤ q → A q := fun q h => by rw [← hAe]; exact Or.inr h
  have hS : va_S A s.heap s.heap [] := va_S.rf
  have hP : va_P D vwCl [(h, .inr (4, [.null, .null, .null, .null, .null, .null, .int 0, .int 0, .int 0]))] s.heap := hP
  have hf_11 := hts (.fieldLink RX5 11 "CrookedSums$SumText" "soFar" "[I") (by decide +kernel)
  have hi_X5 := (show ∀ w ∈ u_ws RX5 TX5 9, w ∈ wsX5_init from by decide +kernel)
  have hf_15 := hts (.fieldLink RX5 15 "CrookedSums$SumText" "waitingPlus" "[I") (by decide +kernel)
  have hf_18 := hts (.fieldLink RX5 18 "CrookedSums$SumText" "lefts" "[I") (by decide +kernel)
  have hf_21 := hts (.fieldLink RX5 21 "CrookedSums$SumText" "rights" "[I") (by decide +kernel)
  have hf_24 := hts (.fieldLink RX5 24 "CrookedSums$SumText" "totals" "[I") (by decide +kernel)
  have hf_27 := hts (.fieldLink RX5 27 "CrookedSums$SumText" "places" "[I") (by decide +kernel)
  have hl := lv_entry ([.ref h]) (n := 1) (Nat.le_of_ble_eq_true rfl)
  rw [lg_entry_eq]
  generalize (lg_sl ([.ref h]) ++ List.replicate (1 - (lg_sl ([.ref h])).length) Slot.unset).toArray = ls at hl ⊢
  have hl : lv_has ls 1 [(0, .ref h)] := hl
  unfold mX5_init at h0
  refine lv_aload_n hx hb dX5_init_0 rfl (lv_at hl 0 rfl) ?_
  refine W.objInit hx hb hown (hts (.methodLink RX5 3 objectInit) (by decide +kernel)) (hts (.instanceMethod objectInit) (by decide +kernel)) (hts (.code objectInit ⟨#[0xb1]⟩ 1 none) (by decide +kernel)) rfl (by rw [hml]; exact hl.1) rfl dX5_init_1 (Nat.le_of_ble_eq_true rfl) (Nat.le_of_ble_eq_true rfl) ?_
  refine W.eq (g2 := F0 m 4 ls []) rfl ?_
  refine lv_aload_n hx hb dX5_init_4 rfl (lv_at hl 0 rfl) ?_
  refine lv_bipush (v := 81) hx hb dX5_init_5 (by decide) ?_
  refine va_newa (atype := .int) (ty := .int) (N' := 81) (a0 := (81, .inl (fun _ => 0))) hx hb (hts (.arrayClass .int) (by decide +kernel)) rfl hK hP hD hS hA (fun cA => rfl) (by decide) (by decide) (Nat.le_of_ble_eq_true rfl) (Nat.le_of_ble_eq_true rfl) (Nat.le_of_ble_eq_true rfl) dX5_init_7 (fun q_1 cA H hK2 hP hD hS => ?_)
  have ecA := eK_int hK hK2
  subst ecA
  have hP : va_P D vwCl [(h, .inr (4, [.null, .null, .null, .null, .null, .null, .int 0, .int 0, .int 0])), (q_1, .inl (cI, 81, .inl (fun _ => 0)))] H := hP
  have hD : va_D A [(h, .inr (4, [.null, .null, .null, .null, .null, .null, .int 0, .int 0, .int 0])), (q_1, .inl (cI, 81, .inl (fun _ => 0)))] := hD
  refine va_putF (D := D) (ci := 4) (v := .ref q_1) (ty := (.array .int)) (C := RX5) (T := TX5) (N := 9) hx hb hts hi_X5 tyX5 tyX5_ok nmX5 hown hK hP hD hS 0 rfl rfl 0 (by decide) hf_11 (fun _ h9 => h9) rfl hin rfl (by decide +kernel) rfl rfl (Nat.le_of_ble_eq_true rfl) dX5_init_9 (fun H locs hP hD hS => ?_)
  have hP : va_P D vwCl [(h, .inr (4, [.ref q_1, .null, .null, .null, .null, .null, .int 0, .int 0, .int 0])), (q_1, .inl (cI, 81, .inl (fun _ => 0)))] H := hP
  have hD : va_D A [(h, .inr (4, [.ref q_1, .null, .null, .null, .null, .null, .int 0, .int 0, .int 0])), (q_1, .inl (cI, 81, .inl (fun _ => 0)))] := hD
  refine lv_aload_n hx hb dX5_init_12 rfl (lv_at hl 0 rfl) ?_
  refine lv_bipush (v := 81) hx hb dX5_init_13 (by decide) ?_
  refine va_newa (atype := .int) (ty := .int) (N' := 81) (a0 := (81, .inl (fun _ => 0))) hx hb (hts (.arrayClass .int) (by decide +kernel)) rfl hK hP hD hS hA (fun cA => rfl) (by decide) (by decide) (Nat.le_of_ble_eq_true rfl) (Nat.le_of_ble_eq_true rfl) (Nat.le_of_ble_eq_true rfl) dX5_init_15 (fun q_2 cA H hK2 hP hD hS => ?_)
  have ecA := eK_int hK hK2
  subst ecA
  have hP : va_P D vwCl [(h, .inr (4, [.ref q_1, .null, .null, .null, .null, .null, .int 0, .int 0, .int 0])), (q_1, .inl (cI, 81, .inl (fun _ => 0))), (q_2, .inl (cI, 81, .inl (fun _ => 0)))] H := hP
  have hD : va_D A [(h, .inr (4, [.ref q_1, .null, .null, .null, .null, .null, .int 0, .int 0, .int 0])), (q_1, .inl (cI, 81, .inl (fun _ => 0))), (q_2, .inl (cI, 81, .inl (fun _ => 0)))] := hD
  refine va_putF (D := D) (ci := 4) (v := .ref q_2) (ty := (.array .int)) (C := RX5) (T := TX5) (N := 9) hx hb hts hi_X5 tyX5 tyX5_ok nmX5 hown hK hP hD hS 0 rfl rfl 1 (by decide) hf_15 (fun _ h9 => h9) rfl hin rfl (by decide +kernel) rfl rfl (Nat.le_of_ble_eq_true rfl) dX5_init_17 (fun H locs hP hD hS => ?_)
  have hP : va_P D vwCl [(h, .inr (4, [.ref q_1, .ref q_2, .null, .null, .null, .null, .int 0, .int 0, .int 0])), (q_1, .inl (cI, 81, .inl (fun _ => 0))), (q_2, .inl (cI, 81, .inl (fun _ => 0)))] H := hP
  have hD : va_D A [(h, .inr (4, [.ref q_1, .ref q_2, .null, .null, .null, .null, .int 0, .int 0, .int 0])), (q_1, .inl (cI, 81, .inl (fun _ => 0))), (q_2, .inl (cI, 81, .inl (fun _ => 0)))] := hD
  refine lv_aload_n hx hb dX5_init_20 rfl (lv_at hl 0 rfl) ?_
  refine lv_bipush (v := 80) hx hb dX5_init_21 (by decide) ?_
  refine va_newa (atype := .int) (ty := .int) (N' := 80) (a0 := (80, .inl (fun _ => 0))) hx hb (hts (.arrayClass .int) (by decide +kernel)) rfl hK hP hD hS hA (fun cA => rfl) (by decide) (by decide) (Nat.le_of_ble_eq_true rfl) (Nat.le_of_ble_eq_true rfl) (Nat.le_of_ble_eq_true rfl) dX5_init_23 (fun q_3 cA H hK2 hP hD hS => ?_)
  have ecA := eK_int hK hK2
  subst ecA
  have hP : va_P D vwCl [(h, .inr (4, [.ref q_1, .ref q_2, .null, .null, .null, .null, .int 0, .int 0, .int 0])), (q_1, .inl (cI, 81, .inl (fun _ => 0))), (q_2, .inl (cI, 81, .inl (fun _ => 0))), (q_3, .inl (cI, 80, .inl (fun _ => 0)))] H := hP
  have hD : va_D A [(h, .inr (4, [.ref q_1, .ref q_2, .null, .null, .null, .null, .int 0, .int 0, .int 0])), (q_1, .inl (cI, 81, .inl (fun _ => 0))), (q_2, .inl (cI, 81, .inl (fun _ => 0))), (q_3, .inl (cI, 80, .inl (fun _ => 0)))] := hD
  refine va_putF (D := D) (ci := 4) (v := .ref q_3) (ty := (.array .int)) (C := RX5) (T := TX5) (N := 9) hx hb hts hi_X5 tyX5 tyX5_ok nmX5 hown hK hP hD hS 0 rfl rfl 2 (by decide) hf_18 (fun _ h9 => h9) rfl hin rfl (by decide +kernel) rfl rfl (Nat.le_of_ble_eq_true rfl) dX5_init_25 (fun H locs hP hD hS => ?_)
  have hP : va_P D vwCl [(h, .inr (4, [.ref q_1, .ref q_2, .ref q_3, .null, .null, .null, .int 0, .int 0, .int 0])), (q_1, .inl (cI, 81, .inl (fun _ => 0))), (q_2, .inl (cI, 81, .inl (fun _ => 0))), (q_3, .inl (cI, 80, .inl (fun _ => 0)))] H := hP
  have hD : va_D A [(h, .inr (4, [.ref q_1, .ref q_2, .ref q_3, .null, .null, .null, .int 0, .int 0, .int 0])), (q_1, .inl (cI, 81, .inl (fun _ => 0))), (q_2, .inl (cI, 81, .inl (fun _ => 0))), (q_3, .inl (cI, 80, .inl (fun _ => 0)))] := hD
  refine lv_aload_n hx hb dX5_init_28 rfl (lv_at hl 0 rfl) ?_
  refine lv_bipush (v := 80) hx hb dX5_init_29 (by decide) ?_
  refine va_newa (atype := .int) (ty := .int) (N' := 80) (a0 := (80, .inl (fun _ => 0))) hx hb (hts (.arrayClass .int) (by decide +kernel)) rfl hK hP hD hS hA (fun cA => rfl) (by decide) (by decide) (Nat.le_of_ble_eq_true rfl) (Nat.le_of_ble_eq_true rfl) (Nat.le_of_ble_eq_true rfl) dX5_init_31 (fun q_4 cA H hK2 hP hD hS => ?_)
  have ecA := eK_int hK hK2
  subst ecA
  have hP : va_P D vwCl [(h, .inr (4, [.ref q_1, .ref q_2, .ref q_3, .null, .null, .null, .int 0, .int 0, .int 0])), (q_1, .inl (cI, 81, .inl (fun _ => 0))), (q_2, .inl (cI, 81, .inl (fun _ => 0))), (q_3, .inl (cI, 80, .inl (fun _ => 0))), (q_4, .inl (cI, 80, .inl (fun _ => 0)))] H := hP
  have hD : va_D A [(h, .inr (4, [.ref q_1, .ref q_2, .ref q_3, .null, .null, .null, .int 0, .int 0, .int 0])), (q_1, .inl (cI, 81, .inl (fun _ => 0))), (q_2, .inl (cI, 81, .inl (fun _ => 0))), (q_3, .inl (cI, 80, .inl (fun _ => 0))), (q_4, .inl (cI, 80, .inl (fun _ => 0)))] := hD
  refine va_putF (D := D) (ci := 4) (v := .ref q_4) (ty := (.array .int)) (C := RX5) (T := TX5) (N := 9) hx hb hts hi_X5 tyX5 tyX5_ok nmX5 hown hK hP hD hS 0 rfl rfl 3 (by decide) hf_21 (fun _ h9 => h9) rfl hin rfl (by decide +kernel) rfl rfl (Nat.le_of_ble_eq_true rfl) dX5_init_33 (fun H locs hP hD hS => ?_)
  have hP : va_P D vwCl [(h, .inr (4, [.ref q_1, .ref q_2, .ref q_3, .ref q_4, .null, .null, .int 0, .int 0, .int 0])), (q_1, .inl (cI, 81, .inl (fun _ => 0))), (q_2, .inl (cI, 81, .inl (fun _ => 0))), (q_3, .inl (cI, 80, .inl (fun _ => 0))), (q_4, .inl (cI, 80, .inl (fun _ => 0)))] H := hP
  have hD : va_D A [(h, .inr (4, [.ref q_1, .ref q_2, .ref q_3, .ref q_4, .null, .null, .int 0, .int 0, .int 0])), (q_1, .inl (cI, 81, .inl (fun _ => 0))), (q_2, .inl (cI, 81, .inl (fun _ => 0))), (q_3, .inl (cI, 80, .inl (fun _ => 0))), (q_4, .inl (cI, 80, .inl (fun _ => 0)))] := hD
  refine lv_aload_n hx hb dX5_init_36 rfl (lv_at hl 0 rfl) ?_
  refine lv_bipush (v := 80) hx hb dX5_init_37 (by decide) ?_
  refine va_newa (atype := .int) (ty := .int) (N' := 80) (a0 := (80, .inl (fun _ => 0))) hx hb (hts (.arrayClass .int) (by decide +kernel)) rfl hK hP hD hS hA (fun cA => rfl) (by decide) (by decide) (Nat.le_of_ble_eq_true rfl) (Nat.le_of_ble_eq_true rfl) (Nat.le_of_ble_eq_true rfl) dX5_init_39 (fun q_5 cA H hK2 hP hD hS => ?_)
  have ecA := eK_int hK hK2
  subst ecA
  have hP : va_P D vwCl [(h, .inr (4, [.ref q_1, .ref q_2, .ref q_3, .ref q_4, .null, .null, .int 0, .int 0, .int 0])), (q_1, .inl (cI, 81, .inl (fun _ => 0))), (q_2, .inl (cI, 81, .inl (fun _ => 0))), (q_3, .inl (cI, 80, .inl (fun _ => 0))), (q_4, .inl (cI, 80, .inl (fun _ => 0))), (q_5, .inl (cI, 80, .inl (fun _ => 0)))] H := hP
  have hD : va_D A [(h, .inr (4, [.ref q_1, .ref q_2, .ref q_3, .ref q_4, .null, .null, .int 0, .int 0, .int 0])), (q_1, .inl (cI, 81, .inl (fun _ => 0))), (q_2, .inl (cI, 81, .inl (fun _ => 0))), (q_3, .inl (cI, 80, .inl (fun _ => 0))), (q_4, .inl (cI, 80, .inl (fun _ => 0))), (q_5, .inl (cI, 80, .inl (fun _ => 0)))] := hD
  refine va_putF (D := D) (ci := 4) (v := .ref q_5) (ty := (.array .int)) (C := RX5) (T := TX5) (N := 9) hx hb hts hi_X5 tyX5 tyX5_ok nmX5 hown hK hP hD hS 0 rfl rfl 4 (by decide) hf_24 (fun _ h9 => h9) rfl hin rfl (by decide +kernel) rfl rfl (Nat.le_of_ble_eq_true rfl) dX5_init_41 (fun H locs hP hD hS => ?_)
  have hP : va_P D vwCl [(h, .inr (4, [.ref q_1, .ref q_2, .ref q_3, .ref q_4, .ref q_5, .null, .int 0, .int 0, .int 0])), (q_1, .inl (cI, 81, .inl (fun _ => 0))), (q_2, .inl (cI, 81, .inl (fun _ => 0))), (q_3, .inl (cI, 80, .inl (fun _ => 0))), (q_4, .inl (cI, 80, .inl (fun _ => 0))), (q_5, .inl (cI, 80, .inl (fun _ => 0)))] H := hP
  have hD : va_D A [(h, .inr (4, [.ref q_1, .ref q_2, .ref q_3, .ref q_4, .ref q_5, .null, .int 0, .int 0, .int 0])), (q_1, .inl (cI, 81, .inl (fun _ => 0))), (q_2, .inl (cI, 81, .inl (fun _ => 0))), (q_3, .inl (cI, 80, .inl (fun _ => 0))), (q_4, .inl (cI, 80, .inl (fun _ => 0))), (q_5, .inl (cI, 80, .inl (fun _ => 0)))] := hD
  refine lv_aload_n hx hb dX5_init_44 rfl (lv_at hl 0 rfl) ?_
  refine lv_bipush (v := 80) hx hb dX5_init_45 (by decide) ?_
  refine va_newa (atype := .int) (ty := .int) (N' := 80) (a0 := (80, .inl (fun _ => 0))) hx hb (hts (.arrayClass .int) (by decide +kernel)) rfl hK hP hD hS hA (fun cA => rfl) (by decide) (by decide) (Nat.le_of_ble_eq_true rfl) (Nat.le_of_ble_eq_true rfl) (Nat.le_of_ble_eq_true rfl) dX5_init_47 (fun q_6 cA H hK2 hP hD hS => ?_)
  have ecA := eK_int hK hK2
  subst ecA
  have hP : va_P D vwCl [(h, .inr (4, [.ref q_1, .ref q_2, .ref q_3, .ref q_4, .ref q_5, .null, .int 0, .int 0, .int 0])), (q_1, .inl (cI, 81, .inl (fun _ => 0))), (q_2, .inl (cI, 81, .inl (fun _ => 0))), (q_3, .inl (cI, 80, .inl (fun _ => 0))), (q_4, .inl (cI, 80, .inl (fun _ => 0))), (q_5, .inl (cI, 80, .inl (fun _ => 0))), (q_6, .inl (cI, 80, .inl (fun _ => 0)))] H := hP
  have hD : va_D A [(h, .inr (4, [.ref q_1, .ref q_2, .ref q_3, .ref q_4, .ref q_5, .null, .int 0, .int 0, .int 0])), (q_1, .inl (cI, 81, .inl (fun _ => 0))), (q_2, .inl (cI, 81, .inl (fun _ => 0))), (q_3, .inl (cI, 80, .inl (fun _ => 0))), (q_4, .inl (cI, 80, .inl (fun _ => 0))), (q_5, .inl (cI, 80, .inl (fun _ => 0))), (q_6, .inl (cI, 80, .inl (fun _ => 0)))] := hD
  refine va_putF (D := D) (ci := 4) (v := .ref q_6) (ty := (.array .int)) (C := RX5) (T := TX5) (N := 9) hx hb hts hi_X5 tyX5 tyX5_ok nmX5 hown hK hP hD hS 0 rfl rfl 5 (by decide) hf_27 (fun _ h9 => h9) rfl hin rfl (by decide +kernel) rfl rfl (Nat.le_of_ble_eq_true rfl) dX5_init_49 (fun H locs hP hD hS => ?_)
  have hP : va_P D vwCl [(h, .inr (4, [.ref q_1, .ref q_2, .ref q_3, .ref q_4, .ref q_5, .ref q_6, .int 0, .int 0, .int 0])), (q_1, .inl (cI, 81, .inl (fun _ => 0))), (q_2, .inl (cI, 81, .inl (fun _ => 0))), (q_3, .inl (cI, 80, .inl (fun _ => 0))), (q_4, .inl (cI, 80, .inl (fun _ => 0))), (q_5, .inl (cI, 80, .inl (fun _ => 0))), (q_6, .inl (cI, 80, .inl (fun _ => 0)))] H := hP
  have hD : va_D A [(h, .inr (4, [.ref q_1, .ref q_2, .ref q_3, .ref q_4, .ref q_5, .ref q_6, .int 0, .int 0, .int 0])), (q_1, .inl (cI, 81, .inl (fun _ => 0))), (q_2, .inl (cI, 81, .inl (fun _ => 0))), (q_3, .inl (cI, 80, .inl (fun _ => 0))), (q_4, .inl (cI, 80, .inl (fun _ => 0))), (q_5, .inl (cI, 80, .inl (fun _ => 0))), (q_6, .inl (cI, 80, .inl (fun _ => 0)))] := hD
  have e0 := Option.some.inj h0
  subst e0
  refine W.widen (k := 6) (n := 482) (Nat.le_of_ble_eq_true rfl) (Nat.le_of_ble_eq_true rfl) ?_
  exact W.vret hx hb hr (fun t ht hW => wr_end (q_1, q_2, q_3, q_4, q_5, q_6) ht (hP.sub [0, 1, 2, 3, 4, 5, 6] rfl) (hD.sub [0, 1, 2, 3, 4, 5, 6] (by decide) rfl) hS) hS.2.2 dX5_init_52
noncomputable def mX5_join (h_soFar_f : Nat → Int32) (h_waitingPlus_f : Nat → Int32) (h_lefts_f : Nat → Int32) (h_rights_f : Nat → Int32) (h_totals_f : Nat → Int32) (h_places_f : Nat → Int32) (h_depth : Int32) (h_steps : Int32) (p2_cells_f : Nat → Int32) (p1 : Int32) : Option ((Nat → Int32) × (Nat → Int32) × (Nat → Int32) × (Nat → Int32) × (Nat → Int32) × Int32) :=
  bd (mX9_get 81 h_soFar_f h_depth) (fun z_1 => if z_1 = (-1) then (bd (mX9_put 81 h_soFar_f h_depth p1) (fun z_9 => some (z_9, h_lefts_f, h_rights_f, h_totals_f, h_places_f, h_steps))) else (bd (mX6_at p2_cells_f z_1 p1) (fun z_2 => bd (mX9_put 80 h_lefts_f h_steps z_1) (fun z_3 => bd (mX9_put 80 h_rights_f h_steps p1) (fun z_4 => bd (mX9_put 80 h_totals_f h_steps z_2) (fun z_5 => bd (mX9_get 81 h_waitingPlus_f h_depth) (fun z_6 => bd (mX9_put 80 h_places_f h_steps z_6) (fun z_7 => bd (mX9_put 81 h_soFar_f h_depth z_2) (fun z_8 => some (z_8, z_3, z_4, z_5, z_7, (h_steps + 1)))))))))))
set_option maxHeartbeats 8000000 in
set_option maxRecDepth 100000 in
theorem kX5_join (l : Launch) (D : va_G) (cI cC cT : ClassId) (h h_soFar h_waitingPlus h_lefts h_rights h_totals h_places p2 p2_cells : Nat) (h_soFar_f : Nat → Int32) (h_waitingPlus_f : Nat → Int32) (h_lefts_f : Nat → Int32) (h_rights_f : Nat → Int32) (h_totals_f : Nat → Int32) (h_places_f : Nat → Int32) (h_depth : Int32) (h_steps : Int32) (h_wantsThing : Int32) (p2_cells_f : Nat → Int32) (p2_size : Int32) (p1 : Int32) (sz : Nat) (z : (Nat → Int32) × (Nat → Int32) × (Nat → Int32) × (Nat → Int32) × (Nat → Int32) × Int32) (h0 : mX5_join h_soFar_f h_waitingPlus_f h_lefts_f h_rights_f h_totals_f h_places_f h_depth h_steps p2_cells_f p1 = some z) : Met l yX5_join wsX5_join ({ frames := 1, cells := 0, slots := 0, locals := 23 } : Room) (va_Pc [.ref h, .int p1, .ref p2] (wP D cI cC cT [(h, .inr (4, [.ref h_soFar, .ref h_waitingPlus, .ref h_lefts, .ref h_rights, .ref h_totals, .ref h_places, .int h_depth, .int h_steps, .int h_wantsThing])), (h_soFar, .inl (cI, 81, .inl h_soFar_f)), (h_waitingPlus, .inl (cI, 81, .inl h_waitingPlus_f)), (h_lefts, .inl (cI, 80, .inl h_lefts_f)), (h_rights, .inl (cI, 80, .inl h_rights_f)), (h_totals, .inl (cI, 80, .inl h_totals_f)), (h_places, .inl (cI, 80, .inl h_places_f)), (p2, .inr (5, [.ref p2_cells, .int p2_size])), (p2_cells, .inl (cI, 64, .inl p2_cells_f))] sz)) (wQ D none (va_A [(h, .inr (4, [.ref h_soFar, .ref h_waitingPlus, .ref h_lefts, .ref h_rights, .ref h_totals, .ref h_places, .int h_depth, .int h_steps, .int h_wantsThing])), (h_soFar, .inl (cI, 81, .inl h_soFar_f)), (h_waitingPlus, .inl (cI, 81, .inl h_waitingPlus_f)), (h_lefts, .inl (cI, 80, .inl h_lefts_f)), (h_rights, .inl (cI, 80, .inl h_rights_f)), (h_totals, .inl (cI, 80, .inl h_totals_f)), (h_places, .inl (cI, 80, .inl h_places_f)), (p2, .inr (5, [.ref p2_cells, .int p2_size])), (p2_cells, .inl (cI, 64, .inl p2_cells_f))] sz) (fun (u : Unit) => [(h, .inr (4, [.ref h_soFar, .ref h_waitingPlus, .ref h_lefts, .ref h_rights, .ref h_totals, .ref h_places, .int h_depth, .int z.2.2.2.2.2, .int h_wantsThing])), (h_soFar, .inl (cI, 81, .inl z.1)), (h_waitingPlus, .inl (cI, 81, .inl h_waitingPlus_f)), (h_lefts, .inl (cI, 80, .inl z.2.1)), (h_rights, .inl (cI, 80, .inl z.2.2.1)), (h_totals, .inl (cI, 80, .inl z.2.2.2.1)), (h_places, .inl (cI, 80, .inl z.2.2.2.2.1)), (p2, .inr (5, [.ref p2_cells, .int p2_size])), (p2_cells, .inl (cI, 64, .inl p2_cells_f))])) 0 0 (va_A [(h, .inr (4, [.ref h_soFar, .ref h_waitingPlus, .ref h_lefts, .ref h_rights, .ref h_totals, .ref h_places, .int h_depth, .int h_steps, .int h_wantsThing])), (h_soFar, .inl (cI, 81, .inl h_soFar_f)), (h_waitingPlus, .inl (cI, 81, .inl h_waitingPlus_f)), (h_lefts, .inl (cI, 80, .inl h_lefts_f)), (h_rights, .inl (cI, 80, .inl h_rights_f)), (h_totals, .inl (cI, 80, .inl h_totals_f)), (h_places, .inl (cI, 80, .inl h_places_f)), (p2, .inr (5, [.ref p2_cells, .int p2_size])), (p2_cells, .inl (cI, 64, .inl p2_cells_f))] sz) := by
  refine Met.ofW (cc := cX5_join) (maxL := 5) (ret := none) (by decide) rfl ?_
  intro p e s m args below meth c s₁ B hml hv
  obtain ⟨rfl, hsz, hP, hE, hD0⟩ := hv
  have hx := B.exec
  have hb := B.bytes
  have hr := B.returns
  have hts := atoms_spec (ws := wsX5_join) B.pre
  have hown : s.vm.findClass RX5 = some m.cls := findClass_of_methodNamed B.named
  have hlocks := B.notSynchronized
  have hK := hE.1
  have hcf : CallFix p m c cX5_join 5 s ([.ref h, .int p1, .ref p2] : List Value).toArray wsX5_join RX5 := ⟨hx, hb, hml, hown, hts⟩
  subst hsz
  have hD := hD0.self (sz := s.heap.size)
  generalize hAe : va_A [(h, .inr (4, [.ref h_soFar, .ref h_waitingPlus, .ref h_lefts, .ref h_rights, .ref h_totals, .ref h_places, .int h_depth, .int h_steps, .int h_wantsThing])), (h_soFar, .inl (cI, 81, .inl h_soFar_f)), (h_waitingPlus, .inl (cI, 81, .inl h_waitingPlus_f)), (h_lefts, .inl (cI, 80, .inl h_lefts_f)), (h_rights, .inl (cI, 80, .inl h_rights_f)), (h_totals, .inl (cI, 80, .inl h_totals_f)), (h_places, .inl (cI, 80, .inl h_places_f)), (p2, .inr (5, [.ref p2_cells, .int p2_size])), (p2_cells, .inl (cI, 64, .inl p2_cells_f))] s.heap.size = A at hD ⊢
  have hA : ∀ q : Nat, s.heap.size ≤ q → A q := fun q h => by rw [← hAe]; exact Or.inr h
  have hS : va_S A s.heap s.heap [] := va_S.rf
  have hP : va_P D vwCl [(h, .inr (4, [.ref h_soFar, .ref h_waitingPlus, .ref h_lefts, .ref h_rights, .ref h_totals, .ref h_places, .int h_depth, .int h_steps, .int h_wantsThing])), (h_soFar, .inl (cI, 81, .inl h_soFar_f)), (h_waitingPlus, .inl (cI, 81, .inl h_waitingPlus_f)), (h_lefts, .inl (cI, 80, .inl h_lefts_f)), (h_rights, .inl (cI, 80, .inl h_rights_f)), (h_totals, .inl (cI, 80, .inl h_totals_f)), (h_places, .inl (cI, 80, .inl h_places_f)), (p2, .inr (5, [.ref p2_cells, .int p2_size])), (p2_cells, .inl (cI, 64, .inl p2_cells_f))] s.heap := hP
  have hf_11 := hts (.fieldLink RX5 11 "CrookedSums$SumText" "soFar" "[I") (by decide +kernel)
  have hi_X5 := (show ∀ w ∈ u_ws RX5 TX5 9, w ∈ wsX5_join from by decide +kernel)
  have hf_30 := hts (.fieldLink RX5 30 "CrookedSums$SumText" "depth" "I") (by decide +kernel)
  have hini_X9 := hts (.initialized RX9) (by decide +kernel)
  have hst_X9_get := hts (.static yX9_get) (by decide +kernel)
  have hf_18 := hts (.fieldLink RX5 18 "CrookedSums$SumText" "lefts" "[I") (by decide +kernel)
  have hf_34 := hts (.fieldLink RX5 34 "CrookedSums$SumText" "steps" "I") (by decide +kernel)
  have hst_X9_put := hts (.static yX9_put) (by decide +kernel)
  have hf_21 := hts (.fieldLink RX5 21 "CrookedSums$SumText" "rights" "[I") (by decide +kernel)
  have hf_24 := hts (.fieldLink RX5 24 "CrookedSums$SumText" "totals" "[I") (by decide +kernel)
  have hf_27 := hts (.fieldLink RX5 27 "CrookedSums$SumText" "places" "[I") (by decide +kernel)
  have hf_15 := hts (.fieldLink RX5 15 "CrookedSums$SumText" "waitingPlus" "[I") (by decide +kernel)
  have hl := lv_entry ([.ref h, .int p1, .ref p2]) (n := 5) (Nat.le_of_ble_eq_true rfl)
  rw [lg_entry_eq]
  generalize (lg_sl ([.ref h, .int p1, .ref p2]) ++ List.replicate (5 - (lg_sl ([.ref h, .int p1, .ref p2])).length) Slot.unset).toArray = ls at hl ⊢
  have hl : lv_has ls 5 [(0, .ref h), (1, .int p1), (2, .ref p2)] := hl
  unfold mX5_join at h0
  refine lv_aload_n hx hb dX5_join_0 rfl (lv_at hl 0 rfl) ?_
  refine va_get (D := D) (ci := 4) (v := .ref h_soFar) (C := RX5) (T := TX5) (N := 9) hx hb hts hi_X5 hown hK hP 0 rfl rfl 0 (by decide) hf_11 (fun _ h9 => h9) rfl dX5_join_1 ?_
  refine lv_aload_n hx hb dX5_join_4 rfl (lv_at hl 0 rfl) ?_
  refine va_get (D := D) (ci := 4) (v := .int h_depth) (C := RX5) (T := TX5) (N := 9) hx hb hts hi_X5 hown hK hP 0 rfl rfl 6 (by decide) hf_30 (fun _ h9 => h9) rfl dX5_join_5 ?_
  obtain ⟨z_1, hz, h0⟩ := bd_ok h0
  refine ro_SN (As := [.ref h_soFar, .int h_depth]) (rest := []) (wc := [(h_soFar, .inl (cI, 81, .inl h_soFar_f))]) hcf (kX9_get l D cI cC cT h_soFar 81 h_soFar_f h_depth z_1 hz) ⟨va_cnB (host := RX9) 2 hts gX5_join_X9_get_n58 rfl rfl rfl hE.2.2.2.2.2.1 hini_X9 (by decide +kernel) ⟨Nat.le_of_ble_eq_true rfl, Nat.le_of_ble_eq_true rfl⟩, hst_X9_get, trivial⟩ hE (hP.sub [1] rfl) rfl hl.1 rfl (Nat.le_of_ble_eq_true rfl) dX5_join_8 ⟨Nat.le_of_ble_eq_true rfl, Nat.le_of_ble_eq_true rfl⟩ ?_
  refine W.eq (g2 := F0 m 11 ls [.int z_1]) rfl ?_
  refine lv_istore_n (lv' := [(3, .int z_1), (0, .ref h), (1, .int p1), (2, .ref p2)]) hx hb dX5_join_11 rfl hl (by decide) rfl (fun ls hl => ?_)
  refine lv_iload_n hx hb dX5_join_12 rfl (lv_at hl 0 rfl) ?_
  refine lv_iconst (v := (-1)) hx hb dX5_join_13 (by decide) ?_
  refine lv_icmp_ne (tgt := 30) hx hb dX5_join_14 (by decide) (fun c9 => ?_) (fun c9 => ?_)
  · have h0 := it_f c9 h0
    refine lv_aload_n hx hb dX5_join_30 rfl (lv_at hl 3 rfl) ?_
    refine lv_iload_n hx hb dX5_join_31 rfl (lv_at hl 0 rfl) ?_
    refine lv_iload_n hx hb dX5_join_32 rfl (lv_at hl 2 rfl) ?_
    obtain ⟨z_2, hz, h0⟩ := bd_ok h0
    refine ro_V (As := [.int z_1, .int p1]) (rest := []) (wc := [(p2, .inr (5, [.ref p2_cells, .int p2_size])), (p2_cells, .inl (cI, 64, .inl p2_cells_f))]) hcf (kX6_at l D cI cC cT p2 p2_cells p2_cells_f p2_size z_1 p1 z_2 hz) (cwV 2 hts gX5_join_X6_at rfl rfl rfl (by decide +kernel) ⟨Nat.le_of_ble_eq_true rfl, Nat.le_of_ble_eq_true rfl⟩) hE (hP.sub [7, 8] rfl) (va_recv hK hP (ci := 5) (q0 := 7) rfl rfl) rfl hl.1 rfl (Nat.le_of_ble_eq_true rfl) dX5_join_33 ⟨Nat.le_of_ble_eq_true rfl, Nat.le_of_ble_eq_true rfl⟩ ?_
    refine W.eq (g2 := F0 m 36 ls [.int z_2]) rfl ?_
    refine lv_istore (lv' := [(4, .int z_2), (3, .int z_1), (0, .ref h), (1, .int p1), (2, .ref p2)]) hx hb dX5_join_36 hl (by decide) rfl (fun ls hl => ?_)
    refine lv_aload_n hx hb dX5_join_38 rfl (lv_at hl 2 rfl) ?_
    refine va_get (D := D) (ci := 4) (v := .ref h_lefts) (C := RX5) (T := TX5) (N := 9) hx hb hts hi_X5 hown hK hP 0 rfl rfl 2 (by decide) hf_18 (fun _ h9 => h9) rfl dX5_join_39 ?_
    refine lv_aload_n hx hb dX5_join_42 rfl (lv_at hl 2 rfl) ?_
    refine va_get (D := D) (ci := 4) (v := .int h_steps) (C := RX5) (T := TX5) (N := 9) hx hb hts hi_X5 hown hK hP 0 rfl rfl 7 (by decide) hf_34 (fun _ h9 => h9) rfl dX5_join_43 ?_
    refine lv_iload_n hx hb dX5_join_46 rfl (lv_at hl 1 rfl) ?_
    obtain ⟨z_3, hz, h0⟩ := bd_ok h0
    refine wr_SN (As := [.ref h_lefts, .int h_steps, .int z_1]) (rest := []) (wc := [(h_lefts, .inl (cI, 80, .inl h_lefts_f))]) (wr := [(h, .inr (4, [.ref h_soFar, .ref h_waitingPlus, .ref h_lefts, .ref h_rights, .ref h_totals, .ref h_places, .int h_depth, .int h_steps, .int h_wantsThing])), (h_soFar, .inl (cI, 81, .inl h_soFar_f)), (h_waitingPlus, .inl (cI, 81, .inl h_waitingPlus_f)), (h_rights, .inl (cI, 80, .inl h_rights_f)), (h_totals, .inl (cI, 80, .inl h_totals_f)), (h_places, .inl (cI, 80, .inl h_places_f)), (p2, .inr (5, [.ref p2_cells, .int p2_size])), (p2_cells, .inl (cI, 64, .inl p2_cells_f))]) hcf (kX9_put l D cI cC cT h_lefts 80 h_lefts_f h_steps z_1 _ z_3 hz) ⟨va_cnB (host := RX9) 3 hts gX5_join_X9_put_n41 rfl rfl rfl hE.2.2.2.2.1 hini_X9 (by decide +kernel) ⟨Nat.le_of_ble_eq_true rfl, Nat.le_of_ble_eq_true rfl⟩, hst_X9_put, trivial⟩ hE hP hD hS hA [3] [0, 1, 2, 4, 5, 6, 7, 8] (hP.sub [3] rfl) (hD.sub [3] (by decide) rfl) rfl rfl (by decide) (by decide) rfl hl.1 rfl (Nat.le_of_ble_eq_true rfl) dX5_join_47 ⟨Nat.le_of_ble_eq_true rfl, Nat.le_of_ble_eq_true rfl⟩ (fun u H locs hP hD hS => ?_)
    have hP : va_P D vwCl [(h, .inr (4, [.ref h_soFar, .ref h_waitingPlus, .ref h_lefts, .ref h_rights, .ref h_totals, .ref h_places, .int h_depth, .int h_steps, .int h_wantsThing])), (h_soFar, .inl (cI, 81, .inl h_soFar_f)), (h_waitingPlus, .inl (cI, 81, .inl h_waitingPlus_f)), (h_rights, .inl (cI, 80, .inl h_rights_f)), (h_totals, .inl (cI, 80, .inl h_totals_f)), (h_places, .inl (cI, 80, .inl h_places_f)), (p2, .inr (5, [.ref p2_cells, .int p2_size])), (p2_cells, .inl (cI, 64, .inl p2_cells_f)), (h_lefts, .inl (cI, 80, .inl z_3))] H := hP
    have hD : va_D A [(h, .inr (4, [.ref h_soFar, .ref h_waitingPlus, .ref h_lefts, .ref h_rights, .ref h_totals, .ref h_places, .int h_depth, .int h_steps, .int h_wantsThing])), (h_soFar, .inl (cI, 81, .inl h_soFar_f)), (h_waitingPlus, .inl (cI, 81, .inl h_waitingPlus_f)), (h_rights, .inl (cI, 80, .inl h_rights_f)), (h_totals, .inl (cI, 80, .inl h_totals_f)), (h_places, .inl (cI, 80, .inl h_places_f)), (p2, .inr (5, [.ref p2_cells, .int p2_size])), (p2_cells, .inl (cI, 64, .inl p2_cells_f)), (h_lefts, .inl (cI, 80, .inl z_3))] := hD
    refine W.eq (g2 := F0 m 50 ls []) rfl ?_
    refine lv_aload_n hx hb dX5_join_50 rfl (lv_at hl 2 rfl) ?_
    refine va_get (D := D) (ci := 4) (v := .ref h_rights) (C := RX5) (T := TX5) (N := 9) hx hb hts hi_X5 hown hK hP 0 rfl rfl 3 (by decide) hf_21 (fun _ h9 => h9) rfl dX5_join_51 ?_
    refine lv_aload_n hx hb dX5_join_54 rfl (lv_at hl 2 rfl) ?_
    refine va_get (D := D) (ci := 4) (v := .int h_steps) (C := RX5) (T := TX5) (N := 9) hx hb hts hi_X5 hown hK hP 0 rfl rfl 7 (by decide) hf_34 (fun _ h9 => h9) rfl dX5_join_55 ?_
    refine lv_iload_n hx hb dX5_join_58 rfl (lv_at hl 3 rfl) ?_
    obtain ⟨z_4, hz, h0⟩ := bd_ok h0
    refine wr_SN (As := [.ref h_rights, .int h_steps, .int p1]) (rest := []) (wc := [(h_rights, .inl (cI, 80, .inl h_rights_f))]) (wr := [(h, .inr (4, [.ref h_soFar, .ref h_waitingPlus, .ref h_lefts, .ref h_rights, .ref h_totals, .ref h_places, .int h_depth, .int h_steps, .int h_wantsThing])), (h_soFar, .inl (cI, 81, .inl h_soFar_f)), (h_waitingPlus, .inl (cI, 81, .inl h_waitingPlus_f)), (h_totals, .inl (cI, 80, .inl h_totals_f)), (h_places, .inl (cI, 80, .inl h_places_f)), (p2, .inr (5, [.ref p2_cells, .int p2_size])), (p2_cells, .inl (cI, 64, .inl p2_cells_f)), (h_lefts, .inl (cI, 80, .inl z_3))]) hcf (kX9_put l D cI cC cT h_rights 80 h_rights_f h_steps p1 _ z_4 hz) ⟨va_cnB (host := RX9) 3 hts gX5_join_X9_put_n41 rfl rfl rfl hE.2.2.2.2.1 hini_X9 (by decide +kernel) ⟨Nat.le_of_ble_eq_true rfl, Nat.le_of_ble_eq_true rfl⟩, hst_X9_put, trivial⟩ hE hP hD hS hA [3] [0, 1, 2, 4, 5, 6, 7, 8] (hP.sub [3] rfl) (hD.sub [3] (by decide) rfl) rfl rfl (by decide) (by decide) rfl hl.1 rfl (Nat.le_of_ble_eq_true rfl) dX5_join_59 ⟨Nat.le_of_ble_eq_true rfl, Nat.le_of_ble_eq_true rfl⟩ (fun u H locs hP hD hS => ?_)
    have hP : va_P D vwCl [(h, .inr (4, [.ref h_soFar, .ref h_waitingPlus, .ref h_lefts, .ref h_rights, .ref h_totals, .ref h_places, .int h_depth, .int h_steps, .int h_wantsThing])), (h_soFar, .inl (cI, 81, .inl h_soFar_f)), (h_waitingPlus, .inl (cI, 81, .inl h_waitingPlus_f)), (h_totals, .inl (cI, 80, .inl h_totals_f)), (h_places, .inl (cI, 80, .inl h_places_f)), (p2, .inr (5, [.ref p2_cells, .int p2_size])), (p2_cells, .inl (cI, 64, .inl p2_cells_f)), (h_lefts, .inl (cI, 80, .inl z_3)), (h_rights, .inl (cI, 80, .inl z_4))] H := hP
    have hD : va_D A [(h, .inr (4, [.ref h_soFar, .ref h_waitingPlus, .ref h_lefts, .ref h_rights, .ref h_totals, .ref h_places, .int h_depth, .int h_steps, .int h_wantsThing])), (h_soFar, .inl (cI, 81, .inl h_soFar_f)), (h_waitingPlus, .inl (cI, 81, .inl h_waitingPlus_f)), (h_totals, .inl (cI, 80, .inl h_totals_f)), (h_places, .inl (cI, 80, .inl h_places_f)), (p2, .inr (5, [.ref p2_cells, .int p2_size])), (p2_cells, .inl (cI, 64, .inl p2_cells_f)), (h_lefts, .inl (cI, 80, .inl z_3)), (h_rights, .inl (cI, 80, .inl z_4))] := hD
    refine W.eq (g2 := F0 m 62 ls []) rfl ?_
    refine lv_aload_n hx hb dX5_join_62 rfl (lv_at hl 2 rfl) ?_
    refine va_get (D := D) (ci := 4) (v := .ref h_totals) (C := RX5) (T := TX5) (N := 9) hx hb hts hi_X5 hown hK hP 0 rfl rfl 4 (by decide) hf_24 (fun _ h9 => h9) rfl dX5_join_63 ?_
    refine lv_aload_n hx hb dX5_join_66 rfl (lv_at hl 2 rfl) ?_
    refine va_get (D := D) (ci := 4) (v := .int h_steps) (C := RX5) (T := TX5) (N := 9) hx hb hts hi_X5 hown hK hP 0 rfl rfl 7 (by decide) hf_34 (fun _ h9 => h9) rfl dX5_join_67 ?_
    refine lv_iload hx hb dX5_join_70 (lv_at hl 0 rfl) ?_
    obtain ⟨z_5, hz, h0⟩ := bd_ok h0
    refine wr_SN (As := [.ref h_totals, .int h_steps, .int z_2]) (rest := []) (wc := [(h_totals, .inl (cI, 80, .inl h_totals_f))]) (wr := [(h, .inr (4, [.ref h_soFar, .ref h_waitingPlus, .ref h_lefts, .ref h_rights, .ref h_totals, .ref h_places, .int h_depth, .int h_steps, .int h_wantsThing])), (h_soFar, .inl (cI, 81, .inl h_soFar_f)), (h_waitingPlus, .inl (cI, 81, .inl h_waitingPlus_f)), (h_places, .inl (cI, 80, .inl h_places_f)), (p2, .inr (5, [.ref p2_cells, .int p2_size])), (p2_cells, .inl (cI, 64, .inl p2_cells_f)), (h_lefts, .inl (cI, 80, .inl z_3)), (h_rights, .inl (cI, 80, .inl z_4))]) hcf (kX9_put l D cI cC cT h_totals 80 h_totals_f h_steps z_2 _ z_5 hz) ⟨va_cnB (host := RX9) 3 hts gX5_join_X9_put_n41 rfl rfl rfl hE.2.2.2.2.1 hini_X9 (by decide +kernel) ⟨Nat.le_of_ble_eq_true rfl, Nat.le_of_ble_eq_true rfl⟩, hst_X9_put, trivial⟩ hE hP hD hS hA [3] [0, 1, 2, 4, 5, 6, 7, 8] (hP.sub [3] rfl) (hD.sub [3] (by decide) rfl) rfl rfl (by decide) (by decide) rfl hl.1 rfl (Nat.le_of_ble_eq_true rfl) dX5_join_72 ⟨Nat.le_of_ble_eq_true rfl, Nat.le_of_ble_eq_true rfl⟩ (fun u H locs hP hD hS => ?_)
    have hP : va_P D vwCl [(h, .inr (4, [.ref h_soFar, .ref h_waitingPlus, .ref h_lefts, .ref h_rights, .ref h_totals, .ref h_places, .int h_depth, .int h_steps, .int h_wantsThing])), (h_soFar, .inl (cI, 81, .inl h_soFar_f)), (h_waitingPlus, .inl (cI, 81, .inl h_waitingPlus_f)), (h_places, .inl (cI, 80, .inl h_places_f)), (p2, .inr (5, [.ref p2_cells, .int p2_size])), (p2_cells, .inl (cI, 64, .inl p2_cells_f)), (h_lefts, .inl (cI, 80, .inl z_3)), (h_rights, .inl (cI, 80, .inl z_4)), (h_totals, .inl (cI, 80, .inl z_5))] H := hP
    have hD : va_D A [(h, .inr (4, [.ref h_soFar, .ref h_waitingPlus, .ref h_lefts, .ref h_rights, .ref h_totals, .ref h_places, .int h_depth, .int h_steps, .int h_wantsThing])), (h_soFar, .inl (cI, 81, .inl h_soFar_f)), (h_waitingPlus, .inl (cI, 81, .inl h_waitingPlus_f)), (h_places, .inl (cI, 80, .inl h_places_f)), (p2, .inr (5, [.ref p2_cells, .int p2_size])), (p2_cells, .inl (cI, 64, .inl p2_cells_f)), (h_lefts, .inl (cI, 80, .inl z_3)), (h_rights, .inl (cI, 80, .inl z_4)), (h_totals, .inl (cI, 80, .inl z_5))] := hD
    refine W.eq (g2 := F0 m 75 ls []) rfl ?_
    refine lv_aload_n hx hb dX5_join_75 rfl (lv_at hl 2 rfl) ?_
    refine va_get (D := D) (ci := 4) (v := .ref h_places) (C := RX5) (T := TX5) (N := 9) hx hb hts hi_X5 hown hK hP 0 rfl rfl 5 (by decide) hf_27 (fun _ h9 => h9) rfl dX5_join_76 ?_
    refine lv_aload_n hx hb dX5_join_79 rfl (lv_at hl 2 rfl) ?_
    refine va_get (D := D) (ci := 4) (v := .int h_steps) (C := RX5) (T := TX5) (N := 9) hx hb hts hi_X5 hown hK hP 0 rfl rfl 7 (by decide) hf_34 (fun _ h9 => h9) rfl dX5_join_80 ?_
    refine lv_aload_n hx hb dX5_join_83 rfl (lv_at hl 2 rfl) ?_
    refine va_get (D := D) (ci := 4) (v := .ref h_waitingPlus) (C := RX5) (T := TX5) (N := 9) hx hb hts hi_X5 hown hK hP 0 rfl rfl 1 (by decide) hf_15 (fun _ h9 => h9) rfl dX5_join_84 ?_
    refine lv_aload_n hx hb dX5_join_87 rfl (lv_at hl 2 rfl) ?_
    refine va_get (D := D) (ci := 4) (v := .int h_depth) (C := RX5) (T := TX5) (N := 9) hx hb hts hi_X5 hown hK hP 0 rfl rfl 6 (by decide) hf_30 (fun _ h9 => h9) rfl dX5_join_88 ?_
    obtain ⟨z_6, hz, h0⟩ := bd_ok h0
    refine ro_SN (As := [.ref h_waitingPlus, .int h_depth]) (rest := [.int h_steps, .ref h_places]) (wc := [(h_waitingPlus, .inl (cI, 81, .inl h_waitingPlus_f))]) hcf (kX9_get l D cI cC cT h_waitingPlus 81 h_waitingPlus_f h_depth z_6 hz) ⟨va_cnB (host := RX9) 2 hts gX5_join_X9_get_n58 rfl rfl rfl hE.2.2.2.2.2.1 hini_X9 (by decide +kernel) ⟨Nat.le_of_ble_eq_true rfl, Nat.le_of_ble_eq_true rfl⟩, hst_X9_get, trivial⟩ hE (hP.sub [2] rfl) rfl hl.1 rfl (Nat.le_of_ble_eq_true rfl) dX5_join_91 ⟨Nat.le_of_ble_eq_true rfl, Nat.le_of_ble_eq_true rfl⟩ ?_
    refine W.eq (g2 := F0 m 94 ls [.int z_6, .int h_steps, .ref h_places]) rfl ?_
    obtain ⟨z_7, hz, h0⟩ := bd_ok h0
    refine wr_SN (As := [.ref h_places, .int h_steps, .int z_6]) (rest := []) (wc := [(h_places, .inl (cI, 80, .inl h_places_f))]) (wr := [(h, .inr (4, [.ref h_soFar, .ref h_waitingPlus, .ref h_lefts, .ref h_rights, .ref h_totals, .ref h_places, .int h_depth, .int h_steps, .int h_wantsThing])), (h_soFar, .inl (cI, 81, .inl h_soFar_f)), (h_waitingPlus, .inl (cI, 81, .inl h_waitingPlus_f)), (p2, .inr (5, [.ref p2_cells, .int p2_size])), (p2_cells, .inl (cI, 64, .inl p2_cells_f)), (h_lefts, .inl (cI, 80, .inl z_3)), (h_rights, .inl (cI, 80, .inl z_4)), (h_totals, .inl (cI, 80, .inl z_5))]) hcf (kX9_put l D cI cC cT h_places 80 h_places_f h_steps z_6 _ z_7 hz) ⟨va_cnB (host := RX9) 3 hts gX5_join_X9_put_n41 rfl rfl rfl hE.2.2.2.2.1 hini_X9 (by decide +kernel) ⟨Nat.le_of_ble_eq_true rfl, Nat.le_of_ble_eq_true rfl⟩, hst_X9_put, trivial⟩ hE hP hD hS hA [3] [0, 1, 2, 4, 5, 6, 7, 8] (hP.sub [3] rfl) (hD.sub [3] (by decide) rfl) rfl rfl (by decide) (by decide) rfl hl.1 rfl (Nat.le_of_ble_eq_true rfl) dX5_join_94 ⟨Nat.le_of_ble_eq_true rfl, Nat.le_of_ble_eq_true rfl⟩ (fun u H locs hP hD hS => ?_)
    have hP : va_P D vwCl [(h, .inr (4, [.ref h_soFar, .ref h_waitingPlus, .ref h_lefts, .ref h_rights, .ref h_totals, .ref h_places, .int h_depth, .int h_steps, .int h_wantsThing])), (h_soFar, .inl (cI, 81, .inl h_soFar_f)), (h_waitingPlus, .inl (cI, 81, .inl h_waitingPlus_f)), (p2, .inr (5, [.ref p2_cells, .int p2_size])), (p2_cells, .inl (cI, 64, .inl p2_cells_f)), (h_lefts, .inl (cI, 80, .inl z_3)), (h_rights, .inl (cI, 80, .inl z_4)), (h_totals, .inl (cI, 80, .inl z_5)), (h_places, .inl (cI, 80, .inl z_7))] H := hP
    have hD : va_D A [(h, .inr (4, [.ref h_soFar, .ref h_waitingPlus, .ref h_lefts, .ref h_rights, .ref h_totals, .ref h_places, .int h_depth, .int h_steps, .int h_wantsThing])), (h_soFar, .inl (cI, 81, .inl h_soFar_f)), (h_waitingPlus, .inl (cI, 81, .inl h_waitingPlus_f)), (p2, .inr (5, [.ref p2_cells, .int p2_size])), (p2_cells, .inl (cI, 64, .inl p2_cells_f)), (h_lefts, .inl (cI, 80, .inl z_3)), (h_rights, .inl (cI, 80, .inl z_4)), (h_totals, .inl (cI, 80, .inl z_5)), (h_places, .inl (cI, 80, .inl z_7))] := hD
    refine W.eq (g2 := F0 m 97 ls []) rfl ?_
    refine lv_aload_n hx hb dX5_join_97 rfl (lv_at hl 2 rfl) ?_
    refine va_get (D := D) (ci := 4) (v := .ref h_soFar) (C := RX5) (T := TX5) (N := 9) hx hb hts hi_X5 hown hK hP 0 rfl rfl 0 (by decide) hf_11 (fun _ h9 => h9) rfl dX5_join_98 ?_
    refine lv_aload_n hx hb dX5_join_101 rfl (lv_at hl 2 rfl) ?_
    refine va_get (D := D) (ci := 4) (v := .int h_depth) (C := RX5) (T := TX5) (N := 9) hx hb hts hi_X5 hown hK hP 0 rfl rfl 6 (by decide) hf_30 (fun _ h9 => h9) rfl dX5_join_102 ?_
    refine lv_iload hx hb dX5_join_105 (lv_at hl 0 rfl) ?_
    obtain ⟨z_8, hz, h0⟩ := bd_ok h0
    refine wr_SN (As := [.ref h_soFar, .int h_depth, .int z_2]) (rest := []) (wc := [(h_soFar, .inl (cI, 81, .inl h_soFar_f))]) (wr := [(h, .inr (4, [.ref h_soFar, .ref h_waitingPlus, .ref h_lefts, .ref h_rights, .ref h_totals, .ref h_places, .int h_depth, .int h_steps, .int h_wantsThing])), (h_waitingPlus, .inl (cI, 81, .inl h_waitingPlus_f)), (p2, .inr (5, [.ref p2_cells, .int p2_size])), (p2_cells, .inl (cI, 64, .inl p2_cells_f)), (h_lefts, .inl (cI, 80, .inl z_3)), (h_rights, .inl (cI, 80, .inl z_4)), (h_totals, .inl (cI, 80, .inl z_5)), (h_places, .inl (cI, 80, .inl z_7))]) hcf (kX9_put l D cI cC cT h_soFar 81 h_soFar_f h_depth z_2 _ z_8 hz) ⟨va_cnB (host := RX9) 3 hts gX5_join_X9_put_n41 rfl rfl rfl hE.2.2.2.2.1 hini_X9 (by decide +kernel) ⟨Nat.le_of_ble_eq_true rfl, Nat.le_of_ble_eq_true rfl⟩, hst_X9_put, trivial⟩ hE hP hD hS hA [1] [0, 2, 3, 4, 5, 6, 7, 8] (hP.sub [1] rfl) (hD.sub [1] (by decide) rfl) rfl rfl (by decide) (by decide) rfl hl.1 rfl (Nat.le_of_ble_eq_true rfl) dX5_join_107 ⟨Nat.le_of_ble_eq_true rfl, Nat.le_of_ble_eq_true rfl⟩ (fun u H locs hP hD hS => ?_)
    have hP : va_P D vwCl [(h, .inr (4, [.ref h_soFar, .ref h_waitingPlus, .ref h_lefts, .ref h_rights, .ref h_totals, .ref h_places, .int h_depth, .int h_steps, .int h_wantsThing])), (h_waitingPlus, .inl (cI, 81, .inl h_waitingPlus_f)), (p2, .inr (5, [.ref p2_cells, .int p2_size])), (p2_cells, .inl (cI, 64, .inl p2_cells_f)), (h_lefts, .inl (cI, 80, .inl z_3)), (h_rights, .inl (cI, 80, .inl z_4)), (h_totals, .inl (cI, 80, .inl z_5)), (h_places, .inl (cI, 80, .inl z_7)), (h_soFar, .inl (cI, 81, .inl z_8))] H := hP
    have hD : va_D A [(h, .inr (4, [.ref h_soFar, .ref h_waitingPlus, .ref h_lefts, .ref h_rights, .ref h_totals, .ref h_places, .int h_depth, .int h_steps, .int h_wantsThing])), (h_waitingPlus, .inl (cI, 81, .inl h_waitingPlus_f)), (p2, .inr (5, [.ref p2_cells, .int p2_size])), (p2_cells, .inl (cI, 64, .inl p2_cells_f)), (h_lefts, .inl (cI, 80, .inl z_3)), (h_rights, .inl (cI, 80, .inl z_4)), (h_totals, .inl (cI, 80, .inl z_5)), (h_places, .inl (cI, 80, .inl z_7)), (h_soFar, .inl (cI, 81, .inl z_8))] := hD
    refine W.eq (g2 := F0 m 110 ls []) rfl ?_
    refine lv_aload_n hx hb dX5_join_110 rfl (lv_at hl 2 rfl) ?_
    refine lv_dup hx hb dX5_join_111 rfl ?_
    refine va_get (D := D) (ci := 4) (v := .int h_steps) (C := RX5) (T := TX5) (N := 9) hx hb hts hi_X5 hown hK hP 0 rfl rfl 7 (by decide) hf_34 (fun _ h9 => h9) rfl dX5_join_112 ?_
    refine lv_iconst (v := 1) hx hb dX5_join_115 (by decide) ?_
    refine lv_iadd hx hb dX5_join_116 ?_
    refine va_put (D := D) (ci := 4) (v := .int (h_steps + 1)) (ty := .int) (C := RX5) (T := TX5) (N := 9) hx hb hts hi_X5 tyX5 tyX5_ok nmX5 hown hK hP hD hS 0 rfl rfl 7 (by decide) hf_34 (fun _ h9 => h9) rfl (by decide +kernel) rfl rfl (Nat.le_of_ble_eq_true rfl) dX5_join_117 (fun H locs hP hD hS => ?_)
    have hP : va_P D vwCl [(h, .inr (4, [.ref h_soFar, .ref h_waitingPlus, .ref h_lefts, .ref h_rights, .ref h_totals, .ref h_places, .int h_depth, .int (h_steps + 1), .int h_wantsThing])), (h_waitingPlus, .inl (cI, 81, .inl h_waitingPlus_f)), (p2, .inr (5, [.ref p2_cells, .int p2_size])), (p2_cells, .inl (cI, 64, .inl p2_cells_f)), (h_lefts, .inl (cI, 80, .inl z_3)), (h_rights, .inl (cI, 80, .inl z_4)), (h_totals, .inl (cI, 80, .inl z_5)), (h_places, .inl (cI, 80, .inl z_7)), (h_soFar, .inl (cI, 81, .inl z_8))] H := hP
    have hD : va_D A [(h, .inr (4, [.ref h_soFar, .ref h_waitingPlus, .ref h_lefts, .ref h_rights, .ref h_totals, .ref h_places, .int h_depth, .int (h_steps + 1), .int h_wantsThing])), (h_waitingPlus, .inl (cI, 81, .inl h_waitingPlus_f)), (p2, .inr (5, [.ref p2_cells, .int p2_size])), (p2_cells, .inl (cI, 64, .inl p2_cells_f)), (h_lefts, .inl (cI, 80, .inl z_3)), (h_rights, .inl (cI, 80, .inl z_4)), (h_totals, .inl (cI, 80, .inl z_5)), (h_places, .inl (cI, 80, .inl z_7)), (h_soFar, .inl (cI, 81, .inl z_8))] := hD
    have e0 := Option.some.inj h0
    subst e0
    exact W.vret hx hb hr (fun t ht hW => wr_end () ht (hP.sub [0, 8, 1, 4, 5, 6, 7, 2, 3] rfl) (hD.sub [0, 8, 1, 4, 5, 6, 7, 2, 3] (by decide) rfl) hS) hS.2.2 dX5_join_120
  · have h0 := it_t c9 h0
    refine lv_aload_n hx hb dX5_join_17 rfl (lv_at hl 1 rfl) ?_
    refine va_get (D := D) (ci := 4) (v := .ref h_soFar) (C := RX5) (T := TX5) (N := 9) hx hb hts hi_X5 hown hK hP 0 rfl rfl 0 (by decide) hf_11 (fun _ h9 => h9) rfl dX5_join_18 ?_
    refine lv_aload_n hx hb dX5_join_21 rfl (lv_at hl 1 rfl) ?_
    refine va_get (D := D) (ci := 4) (v := .int h_depth) (C := RX5) (T := TX5) (N := 9) hx hb hts hi_X5 hown hK hP 0 rfl rfl 6 (by decide) hf_30 (fun _ h9 => h9) rfl dX5_join_22 ?_
    refine lv_iload_n hx hb dX5_join_25 rfl (lv_at hl 2 rfl) ?_
    obtain ⟨z_9, hz, h0⟩ := bd_ok h0
    refine wr_SN (As := [.ref h_soFar, .int h_depth, .int p1]) (rest := []) (wc := [(h_soFar, .inl (cI, 81, .inl h_soFar_f))]) (wr := [(h, .inr (4, [.ref h_soFar, .ref h_waitingPlus, .ref h_lefts, .ref h_rights, .ref h_totals, .ref h_places, .int h_depth, .int h_steps, .int h_wantsThing])), (h_waitingPlus, .inl (cI, 81, .inl h_waitingPlus_f)), (h_lefts, .inl (cI, 80, .inl h_lefts_f)), (h_rights, .inl (cI, 80, .inl h_rights_f)), (h_totals, .inl (cI, 80, .inl h_totals_f)), (h_places, .inl (cI, 80, .inl h_places_f)), (p2, .inr (5, [.ref p2_cells, .int p2_size])), (p2_cells, .inl (cI, 64, .inl p2_cells_f))]) hcf (kX9_put l D cI cC cT h_soFar 81 h_soFar_f h_depth p1 _ z_9 hz) ⟨va_cnB (host := RX9) 3 hts gX5_join_X9_put_n41 rfl rfl rfl hE.2.2.2.2.1 hini_X9 (by decide +kernel) ⟨Nat.le_of_ble_eq_true rfl, Nat.le_of_ble_eq_true rfl⟩, hst_X9_put, trivial⟩ hE hP hD hS hA [1] [0, 2, 3, 4, 5, 6, 7, 8] (hP.sub [1] rfl) (hD.sub [1] (by decide) rfl) rfl rfl (by decide) (by decide) rfl hl.1 rfl (Nat.le_of_ble_eq_true rfl) dX5_join_26 ⟨Nat.le_of_ble_eq_true rfl, Nat.le_of_ble_eq_true rfl⟩ (fun u H locs hP hD hS => ?_)
    have hP : va_P D vwCl [(h, .inr (4, [.ref h_soFar, .ref h_waitingPlus, .ref h_lefts, .ref h_rights, .ref h_totals, .ref h_places, .int h_depth, .int h_steps, .int h_wantsThing])), (h_waitingPlus, .inl (cI, 81, .inl h_waitingPlus_f)), (h_lefts, .inl (cI, 80, .inl h_lefts_f)), (h_rights, .inl (cI, 80, .inl h_rights_f)), (h_totals, .inl (cI, 80, .inl h_totals_f)), (h_places, .inl (cI, 80, .inl h_places_f)), (p2, .inr (5, [.ref p2_cells, .int p2_size])), (p2_cells, .inl (cI, 64, .inl p2_cells_f)), (h_soFar, .inl (cI, 81, .inl z_9))] H := hP
    have hD : va_D A [(h, .inr (4, [.ref h_soFar, .ref h_waitingPlus, .ref h_lefts, .ref h_rights, .ref h_totals, .ref h_places, .int h_depth, .int h_steps, .int h_wantsThing])), (h_waitingPlus, .inl (cI, 81, .inl h_waitingPlus_f)), (h_lefts, .inl (cI, 80, .inl h_lefts_f)), (h_rights, .inl (cI, 80, .inl h_rights_f)), (h_totals, .inl (cI, 80, .inl h_totals_f)), (h_places, .inl (cI, 80, .inl h_places_f)), (p2, .inr (5, [.ref p2_cells, .int p2_size])), (p2_cells, .inl (cI, 64, .inl p2_cells_f)), (h_soFar, .inl (cI, 81, .inl z_9))] := hD
    refine W.eq (g2 := F0 m 29 ls []) rfl ?_
    have e0 := Option.some.inj h0
    subst e0
    exact W.vret hx hb hr (fun t ht hW => wr_end () ht (hP.sub [0, 8, 1, 2, 3, 4, 5, 6, 7] rfl) (hD.sub [0, 8, 1, 2, 3, 4, 5, 6, 7] (by decide) rfl) hS) hS.2.2 dX5_join_29
noncomputable def mX5_takeThing (h_soFar_f : Nat → Int32) (h_waitingPlus_f : Nat → Int32) (h_lefts_f : Nat → Int32) (h_rights_f : Nat → Int32) (h_totals_f : Nat → Int32) (h_places_f : Nat → Int32) (h_depth : Int32) (h_steps : Int32) (h_wantsThing : Int32) (p1_signs_f : Nat → Int32) (p1_length : Int32) (p3_cells_f : Nat → Int32) (p3_size : Int32) (p2 : Int32) : Option (Int32 × (Nat → Int32) × (Nat → Int32) × (Nat → Int32) × (Nat → Int32) × (Nat → Int32) × Int32 × Int32 × Int32) :=
  bd (mX1_signAt p1_signs_f p1_length p2) (fun z_1 => if z_1 = 40 then (bd (mX9_put 81 h_soFar_f (h_depth + 1) (-1)) (fun z_5 => some (1, z_5, h_lefts_f, h_rights_f, h_totals_f, h_places_f, (h_depth + 1), h_steps, h_wantsThing))) else (bd (mX1_digitAt p1_signs_f p1_length p2) (fun z_2 => bd (mX6_has p3_size z_2) (fun z_3 => if z_3 = 0 then (some (0, h_soFar_f, h_lefts_f, h_rights_f, h_totals_f, h_places_f, h_depth, h_steps, h_wantsThing)) else (bd (mX5_join h_soFar_f h_waitingPlus_f h_lefts_f h_rights_f h_totals_f h_places_f h_depth h_steps p3_cells_f z_2) (fun z_4 => some (1, z_4.1, z_4.2.1, z_4.2.2.1, z_4.2.2.2.1, z_4.2.2.2.2.1, h_depth, z_4.2.2.2.2.2, 0)))))))
set_option maxHeartbeats 8000000 in
set_option maxRecDepth 100000 in
theorem kX5_takeThing (l : Launch) (D : va_G) (cI cC cT : ClassId) (h h_soFar h_waitingPlus h_lefts h_rights h_totals h_places p1 p1_signs p3 p3_cells : Nat) (h_soFar_f : Nat → Int32) (h_waitingPlus_f : Nat → Int32) (h_lefts_f : Nat → Int32) (h_rights_f : Nat → Int32) (h_totals_f : Nat → Int32) (h_places_f : Nat → Int32) (h_depth : Int32) (h_steps : Int32) (h_wantsThing : Int32) (p1_signs_f : Nat → Int32) (p1_length : Int32) (p3_cells_f : Nat → Int32) (p3_size : Int32) (p2 : Int32) (sz : Nat) (z : Int32 × (Nat → Int32) × (Nat → Int32) × (Nat → Int32) × (Nat → Int32) × (Nat → Int32) × Int32 × Int32 × Int32) (h0 : mX5_takeThing h_soFar_f h_waitingPlus_f h_lefts_f h_rights_f h_totals_f h_places_f h_depth h_steps h_wantsThing p1_signs_f p1_length p3_cells_f p3_size p2 = some z) : Met l yX5_takeThing wsX5_takeThing ({ frames := 2, cells := 0, slots := 0, locals := 47 } : Room) (va_Pc [.ref h, .ref p1, .int p2, .ref p3] (wP D cI cC cT [(h, .inr (4, [.ref h_soFar, .ref h_waitingPlus, .ref h_lefts, .ref h_rights, .ref h_totals, .ref h_places, .int h_depth, .int h_steps, .int h_wantsThing])), (h_soFar, .inl (cI, 81, .inl h_soFar_f)), (h_waitingPlus, .inl (cI, 81, .inl h_waitingPlus_f)), (h_lefts, .inl (cI, 80, .inl h_lefts_f)), (h_rights, .inl (cI, 80, .inl h_rights_f)), (h_totals, .inl (cI, 80, .inl h_totals_f)), (h_places, .inl (cI, 80, .inl h_places_f)), (p1, .inr (1, [.ref p1_signs, .int p1_length])), (p1_signs, .inl (cC, 80, .inl p1_signs_f)), (p3, .inr (5, [.ref p3_cells, .int p3_size])), (p3_cells, .inl (cI, 64, .inl p3_cells_f))] sz)) (wQ D (some (.int z.1)) (va_A [(h, .inr (4, [.ref h_soFar, .ref h_waitingPlus, .ref h_lefts, .ref h_rights, .ref h_totals, .ref h_places, .int h_depth, .int h_steps, .int h_wantsThing])), (h_soFar, .inl (cI, 81, .inl h_soFar_f)), (h_waitingPlus, .inl (cI, 81, .inl h_waitingPlus_f)), (h_lefts, .inl (cI, 80, .inl h_lefts_f)), (h_rights, .inl (cI, 80, .inl h_rights_f)), (h_totals, .inl (cI, 80, .inl h_totals_f)), (h_places, .inl (cI, 80, .inl h_places_f)), (p1, .inr (1, [.ref p1_signs, .int p1_length])), (p1_signs, .inl (cC, 80, .inl p1_signs_f)), (p3, .inr (5, [.ref p3_cells, .int p3_size])), (p3_cells, .inl (cI, 64, .inl p3_cells_f))] sz) (fun (u : Unit) => [(h, .inr (4, [.ref h_soFar, .ref h_waitingPlus, .ref h_lefts, .ref h_rights, .ref h_totals, .ref h_places, .int z.2.2.2.2.2.2.1, .int z.2.2.2.2.2.2.2.1, .int z.2.2.2.2.2.2.2.2])), (h_soFar, .inl (cI, 81, .inl z.2.1)), (h_waitingPlus, .inl (cI, 81, .inl h_waitingPlus_f)), (h_lefts, .inl (cI, 80, .inl z.2.2.1)), (h_rights, .inl (cI, 80, .inl z.2.2.2.1)), (h_totals, .inl (cI, 80, .inl z.2.2.2.2.1)), (h_places, .inl (cI, 80, .inl z.2.2.2.2.2.1)), (p1, .inr (1, [.ref p1_signs, .int p1_length])), (p1_signs, .inl (cC, 80, .inl p1_signs_f)), (p3, .inr (5, [.ref p3_cells, .int p3_size])), (p3_cells, .inl (cI, 64, .inl p3_cells_f))])) 0 0 (va_A [(h, .inr (4, [.ref h_soFar, .ref h_waitingPlus, .ref h_lefts, .ref h_rights, .ref h_totals, .ref h_places, .int h_depth, .int h_steps, .int h_wantsThing])), (h_soFar, .inl (cI, 81, .inl h_soFar_f)), (h_waitingPlus, .inl (cI, 81, .inl h_waitingPlus_f)), (h_lefts, .inl (cI, 80, .inl h_lefts_f)), (h_rights, .inl (cI, 80, .inl h_rights_f)), (h_totals, .inl (cI, 80, .inl h_totals_f)), (h_places, .inl (cI, 80, .inl h_places_f)), (p1, .inr (1, [.ref p1_signs, .int p1_length])), (p1_signs, .inl (cC, 80, .inl p1_signs_f)), (p3, .inr (5, [.ref p3_cells, .int p3_size])), (p3_cells, .inl (cI, 64, .inl p3_cells_f))] sz) := by
  refine Met.ofW (cc := cX5_takeThing) (maxL := 5) (ret := (some .boolean)) (by decide) rfl ?_
  intro p e s m args below meth c s₁ B hml hv
  obtain ⟨rfl, hsz, hP, hE, hD0⟩ := hv
  have hx := B.exec
  have hb := B.bytes
  have hr := B.returns
  have hts := atoms_spec (ws := wsX5_takeThing) B.pre
  have hown : s.vm.findClass RX5 = some m.cls := findClass_of_methodNamed B.named
  have hlocks := B.notSynchronized
  have hK := hE.1
  have hcf : CallFix p m c cX5_takeThing 5 s ([.ref h, .ref p1, .int p2, .ref p3] : List Value).toArray wsX5_takeThing RX5 := ⟨hx, hb, hml, hown, hts⟩
  subst hsz
  have hD := hD0.self (sz := s.heap.size)
  generalize hAe : va_A [(h, .inr (4, [.ref h_soFar, .ref h_waitingPlus, .ref h_lefts, .ref h_rights, .ref h_totals, .ref h_places, .int h_depth, .int h_steps, .int h_wantsThing])), (h_soFar, .inl (cI, 81, .inl h_soFar_f)), (h_waitingPlus, .inl (cI, 81, .inl h_waitingPlus_f)), (h_lefts, .inl (cI, 80, .inl h_lefts_f)), (h_rights, .inl (cI, 80, .inl h_rights_f)), (h_totals, .inl (cI, 80, .inl h_totals_f)), (h_places, .inl (cI, 80, .inl h_places_f)), (p1, .inr (1, [.ref p1_signs, .int p1_length])), (p1_signs, .inl (cC, 80, .inl p1_signs_f)), (p3, .inr (5, [.ref p3_cells, .int p3_size])), (p3_cells, .inl (cI, 64, .inl p3_cells_f))] s.heap.size = A at hD ⊢
  have hA : ∀ q : Nat, s.heap.size ≤ q → A q := fun q h => by rw [← hAe]; exact Or.inr h
  have hS : va_S A s.heap s.heap [] := va_S.rf
  have hP : va_P D vwCl [(h, .inr (4, [.ref h_soFar, .ref h_waitingPlus, .ref h_lefts, .ref h_rights, .ref h_totals, .ref h_places, .int h_depth, .int h_steps, .int h_wantsThing])), (h_soFar, .inl (cI, 81, .inl h_soFar_f)), (h_waitingPlus, .inl (cI, 81, .inl h_waitingPlus_f)), (h_lefts, .inl (cI, 80, .inl h_lefts_f)), (h_rights, .inl (cI, 80, .inl h_rights_f)), (h_totals, .inl (cI, 80, .inl h_totals_f)), (h_places, .inl (cI, 80, .inl h_places_f)), (p1, .inr (1, [.ref p1_signs, .int p1_length])), (p1_signs, .inl (cC, 80, .inl p1_signs_f)), (p3, .inr (5, [.ref p3_cells, .int p3_size])), (p3_cells, .inl (cI, 64, .inl p3_cells_f))] s.heap := hP
  have hf_37 := hts (.fieldLink RX5 37 "CrookedSums$SumText" "wantsThing" "Z") (by decide +kernel)
  have hi_X5 := (show ∀ w ∈ u_ws RX5 TX5 9, w ∈ wsX5_takeThing from by decide +kernel)
  have hf_30 := hts (.fieldLink RX5 30 "CrookedSums$SumText" "depth" "I") (by decide +kernel)
  have hf_11 := hts (.fieldLink RX5 11 "CrookedSums$SumText" "soFar" "[I") (by decide +kernel)
  have hini_X9 := hts (.initialized RX9) (by decide +kernel)
  have hst_X9_put := hts (.static yX9_put) (by decide +kernel)
  have hl := lv_entry ([.ref h, .ref p1, .int p2, .ref p3]) (n := 5) (Nat.le_of_ble_eq_true rfl)
  rw [lg_entry_eq]
  generalize (lg_sl ([.ref h, .ref p1, .int p2, .ref p3]) ++ List.replicate (5 - (lg_sl ([.ref h, .ref p1, .int p2, .ref p3])).length) Slot.unset).toArray = ls at hl ⊢
  have hl : lv_has ls 5 [(0, .ref h), (1, .ref p1), (2, .int p2), (3, .ref p3)] := hl
  unfold mX5_takeThing at h0
  refine lv_aload_n hx hb dX5_takeThing_0 rfl (lv_at hl 1 rfl) ?_
  refine lv_iload_n hx hb dX5_takeThing_1 rfl (lv_at hl 2 rfl) ?_
  obtain ⟨z_1, hz, h0⟩ := bd_ok h0
  refine ro_V (As := [.int p2]) (rest := []) (wc := [(p1, .inr (1, [.ref p1_signs, .int p1_length])), (p1_signs, .inl (cC, 80, .inl p1_signs_f))]) hcf (kX1_signAt l D cI cC cT p1 p1_signs p1_signs_f p1_length p2 z_1 hz) (cwV 1 hts gX5_takeThing_X1_signAt rfl rfl rfl (by decide +kernel) ⟨Nat.le_of_ble_eq_true rfl, Nat.le_of_ble_eq_true rfl⟩) hE (hP.sub [7, 8] rfl) (va_recv hK hP (ci := 1) (q0 := 7) rfl rfl) rfl hl.1 rfl (Nat.le_of_ble_eq_true rfl) dX5_takeThing_2 ⟨Nat.le_of_ble_eq_true rfl, Nat.le_of_ble_eq_true rfl⟩ ?_
  refine W.eq (g2 := F0 m 5 ls [.int z_1]) rfl ?_
  refine lv_bipush (v := 40) hx hb dX5_takeThing_5 (by decide) ?_
  refine lv_icmp_ne (tgt := 34) hx hb dX5_takeThing_7 (by decide) (fun c9 => ?_) (fun c9 => ?_)
  · have h0 := it_f c9 h0
    refine lv_aload_n hx hb dX5_takeThing_34 rfl (lv_at hl 1 rfl) ?_
    refine lv_iload_n hx hb dX5_takeThing_35 rfl (lv_at hl 2 rfl) ?_
    obtain ⟨z_2, hz, h0⟩ := bd_ok h0
    refine ro_V (As := [.int p2]) (rest := []) (wc := [(p1, .inr (1, [.ref p1_signs, .int p1_length])), (p1_signs, .inl (cC, 80, .inl p1_signs_f))]) hcf (kX1_digitAt l D cI cC cT p1 p1_signs p1_signs_f p1_length p2 z_2 hz) (cwV 1 hts gX5_takeThing_X1_digitAt rfl rfl rfl (by decide +kernel) ⟨Nat.le_of_ble_eq_true rfl, Nat.le_of_ble_eq_true rfl⟩) hE (hP.sub [7, 8] rfl) (va_recv hK hP (ci := 1) (q0 := 7) rfl rfl) rfl hl.1 rfl (Nat.le_of_ble_eq_true rfl) dX5_takeThing_36 ⟨Nat.le_of_ble_eq_true rfl, Nat.le_of_ble_eq_true rfl⟩ ?_
    refine W.eq (g2 := F0 m 39 ls [.int z_2]) rfl ?_
    refine lv_istore (lv' := [(4, .int z_2), (0, .ref h), (1, .ref p1), (2, .int p2), (3, .ref p3)]) hx hb dX5_takeThing_39 hl (by decide) rfl (fun ls hl => ?_)
    refine lv_aload_n hx hb dX5_takeThing_41 rfl (lv_at hl 4 rfl) ?_
    refine lv_iload hx hb dX5_takeThing_42 (lv_at hl 0 rfl) ?_
    obtain ⟨z_3, hz, h0⟩ := bd_ok h0
    refine ro_V (As := [.int z_2]) (rest := []) (wc := [(p3, .inr (5, [.ref p3_cells, .int p3_size])), (p3_cells, .inl (cI, 64, .inl p3_cells_f))]) hcf (kX6_has l D cI cC cT p3 p3_cells p3_cells_f p3_size z_2 z_3 hz) (cwV 1 hts gX5_takeThing_X6_has rfl rfl rfl (by decide +kernel) ⟨Nat.le_of_ble_eq_true rfl, Nat.le_of_ble_eq_true rfl⟩) hE (hP.sub [9, 10] rfl) (va_recv hK hP (ci := 5) (q0 := 9) rfl rfl) rfl hl.1 rfl (Nat.le_of_ble_eq_true rfl) dX5_takeThing_44 ⟨Nat.le_of_ble_eq_true rfl, Nat.le_of_ble_eq_true rfl⟩ ?_
    refine W.eq (g2 := F0 m 47 ls [.int z_3]) rfl ?_
    refine lv_if_ne (tgt := 52) hx hb dX5_takeThing_47 (by decide) (fun c9 => ?_) (fun c9 => ?_)
    · have h0 := it_f c9 h0
      refine lv_aload_n hx hb dX5_takeThing_52 rfl (lv_at hl 1 rfl) ?_
      refine lv_iload hx hb dX5_takeThing_53 (lv_at hl 0 rfl) ?_
      refine lv_aload_n hx hb dX5_takeThing_55 rfl (lv_at hl 4 rfl) ?_
      obtain ⟨z_4, hz, h0⟩ := bd_ok h0
      refine wr_V (As := [.int z_2, .ref p3]) (rest := []) (wc := [(h, .inr (4, [.ref h_soFar, .ref h_waitingPlus, .ref h_lefts, .ref h_rights, .ref h_totals, .ref h_places, .int h_depth, .int h_steps, .int h_wantsThing])), (h_soFar, .inl (cI, 81, .inl h_soFar_f)), (h_waitingPlus, .inl (cI, 81, .inl h_waitingPlus_f)), (h_lefts, .inl (cI, 80, .inl h_lefts_f)), (h_rights, .inl (cI, 80, .inl h_rights_f)), (h_totals, .inl (cI, 80, .inl h_totals_f)), (h_places, .inl (cI, 80, .inl h_places_f)), (p3, .inr (5, [.ref p3_cells, .int p3_size])), (p3_cells, .inl (cI, 64, .inl p3_cells_f))]) (wr := [(p1, .inr (1, [.ref p1_signs, .int p1_length])), (p1_signs, .inl (cC, 80, .inl p1_signs_f))]) hcf (kX5_join l D cI cC cT h h_soFar h_waitingPlus h_lefts h_rights h_totals h_places p3 p3_cells h_soFar_f h_waitingPlus_f h_lefts_f h_rights_f h_totals_f h_places_f h_depth h_steps h_wantsThing p3_cells_f p3_size z_2 _ z_4 hz) (cwV 2 hts gX5_takeThing_X5_join rfl rfl rfl (by decide +kernel) ⟨Nat.le_of_ble_eq_true rfl, Nat.le_of_ble_eq_true rfl⟩) hE hP hD hS hA [0, 1, 2, 3, 4, 5, 6, 9, 10] [7, 8] (hP.sub [0, 1, 2, 3, 4, 5, 6, 9, 10] rfl) (hD.sub [0, 1, 2, 3, 4, 5, 6, 9, 10] (by decide) rfl) (va_recv hK hP (ci := 4) (q0 := 0) rfl rfl) rfl rfl (by decide) (by decide) rfl hl.1 rfl (Nat.le_of_ble_eq_true rfl) dX5_takeThing_56 ⟨Nat.le_of_ble_eq_true rfl, Nat.le_of_ble_eq_true rfl⟩ (fun u H locs hP hD hS => ?_)
      have hP : va_P D vwCl [(p1, .inr (1, [.ref p1_signs, .int p1_length])), (p1_signs, .inl (cC, 80, .inl p1_signs_f)), (h, .inr (4, [.ref h_soFar, .ref h_waitingPlus, .ref h_lefts, .ref h_rights, .ref h_totals, .ref h_places, .int h_depth, .int z_4.2.2.2.2.2, .int h_wantsThing])), (h_soFar, .inl (cI, 81, .inl z_4.1)), (h_waitingPlus, .inl (cI, 81, .inl h_waitingPlus_f)), (h_lefts, .inl (cI, 80, .inl z_4.2.1)), (h_rights, .inl (cI, 80, .inl z_4.2.2.1)), (h_totals, .inl (cI, 80, .inl z_4.2.2.2.1)), (h_places, .inl (cI, 80, .inl z_4.2.2.2.2.1)), (p3, .inr (5, [.ref p3_cells, .int p3_size])), (p3_cells, .inl (cI, 64, .inl p3_cells_f))] H := hP
      have hD : va_D A [(p1, .inr (1, [.ref p1_signs, .int p1_length])), (p1_signs, .inl (cC, 80, .inl p1_signs_f)), (h, .inr (4, [.ref h_soFar, .ref h_waitingPlus, .ref h_lefts, .ref h_rights, .ref h_totals, .ref h_places, .int h_depth, .int z_4.2.2.2.2.2, .int h_wantsThing])), (h_soFar, .inl (cI, 81, .inl z_4.1)), (h_waitingPlus, .inl (cI, 81, .inl h_waitingPlus_f)), (h_lefts, .inl (cI, 80, .inl z_4.2.1)), (h_rights, .inl (cI, 80, .inl z_4.2.2.1)), (h_totals, .inl (cI, 80, .inl z_4.2.2.2.1)), (h_places, .inl (cI, 80, .inl z_4.2.2.2.2.1)), (p3, .inr (5, [.ref p3_cells, .int p3_size])), (p3_cells, .inl (cI, 64, .inl p3_cells_f))] := hD
      refine W.eq (g2 := F0 m 59 ls []) rfl ?_
      refine lv_aload_n hx hb dX5_takeThing_59 rfl (lv_at hl 1 rfl) ?_
      refine lv_iconst (v := 0) hx hb dX5_takeThing_60 (by decide) ?_
      refine va_put (D := D) (ci := 4) (v := .int 0) (ty := .boolean) (C := RX5) (T := TX5) (N := 9) hx hb hts hi_X5 tyX5 tyX5_ok nmX5 hown hK hP hD hS 2 rfl rfl 8 (by decide) hf_37 (fun _ h9 => h9) rfl (by decide +kernel) rfl rfl (Nat.le_of_ble_eq_true rfl) dX5_takeThing_61 (fun H locs hP hD hS => ?_)
      have hP : va_P D vwCl [(p1, .inr (1, [.ref p1_signs, .int p1_length])), (p1_signs, .inl (cC, 80, .inl p1_signs_f)), (h, .inr (4, [.ref h_soFar, .ref h_waitingPlus, .ref h_lefts, .ref h_rights, .ref h_totals, .ref h_places, .int h_depth, .int z_4.2.2.2.2.2, .int 0])), (h_soFar, .inl (cI, 81, .inl z_4.1)), (h_waitingPlus, .inl (cI, 81, .inl h_waitingPlus_f)), (h_lefts, .inl (cI, 80, .inl z_4.2.1)), (h_rights, .inl (cI, 80, .inl z_4.2.2.1)), (h_totals, .inl (cI, 80, .inl z_4.2.2.2.1)), (h_places, .inl (cI, 80, .inl z_4.2.2.2.2.1)), (p3, .inr (5, [.ref p3_cells, .int p3_size])), (p3_cells, .inl (cI, 64, .inl p3_cells_f))] H := hP
      have hD : va_D A [(p1, .inr (1, [.ref p1_signs, .int p1_length])), (p1_signs, .inl (cC, 80, .inl p1_signs_f)), (h, .inr (4, [.ref h_soFar, .ref h_waitingPlus, .ref h_lefts, .ref h_rights, .ref h_totals, .ref h_places, .int h_depth, .int z_4.2.2.2.2.2, .int 0])), (h_soFar, .inl (cI, 81, .inl z_4.1)), (h_waitingPlus, .inl (cI, 81, .inl h_waitingPlus_f)), (h_lefts, .inl (cI, 80, .inl z_4.2.1)), (h_rights, .inl (cI, 80, .inl z_4.2.2.1)), (h_totals, .inl (cI, 80, .inl z_4.2.2.2.1)), (h_places, .inl (cI, 80, .inl z_4.2.2.2.2.1)), (p3, .inr (5, [.ref p3_cells, .int p3_size])), (p3_cells, .inl (cI, 64, .inl p3_cells_f))] := hD
      refine lv_iconst (v := 1) hx hb dX5_takeThing_64 (by decide) ?_
      have e0 := Option.some.inj h0
      subst e0
      exact W.zret (ty := .boolean) (v := 1) hx hb hr rfl (fun t ht hW => wr_end () ht (hP.sub [2, 3, 4, 5, 6, 7, 8, 0, 1, 9, 10] rfl) (hD.sub [2, 3, 4, 5, 6, 7, 8, 0, 1, 9, 10] (by decide) rfl) hS) hS.2.2 dX5_takeThing_65
    · have h0 := it_t c9 h0
      refine lv_iconst (v := 0) hx hb dX5_takeThing_50 (by decide) ?_
      have e0 := Option.some.inj h0
      subst e0
      exact W.zret (ty := .boolean) (v := 0) hx hb hr rfl (fun t ht hW => wr_end () ht hP hD hS) hS.2.2 dX5_takeThing_51
  · have h0 := it_t c9 h0
    refine lv_aload_n hx hb dX5_takeThing_10 rfl (lv_at hl 0 rfl) ?_
    refine lv_dup hx hb dX5_takeThing_11 rfl ?_
    refine va_get (D := D) (ci := 4) (v := .int h_depth) (C := RX5) (T := TX5) (N := 9) hx hb hts hi_X5 hown hK hP 0 rfl rfl 6 (by decide) hf_30 (fun _ h9 => h9) rfl dX5_takeThing_12 ?_
    refine lv_iconst (v := 1) hx hb dX5_takeThing_15 (by decide) ?_
    refine lv_iadd hx hb dX5_takeThing_16 ?_
    refine va_put (D := D) (ci := 4) (v := .int (h_depth + 1)) (ty := .int) (C := RX5) (T := TX5) (N := 9) hx hb hts hi_X5 tyX5 tyX5_ok nmX5 hown hK hP hD hS 0 rfl rfl 6 (by decide) hf_30 (fun _ h9 => h9) rfl (by decide +kernel) rfl rfl (Nat.le_of_ble_eq_true rfl) dX5_takeThing_17 (fun H locs hP hD hS => ?_)
    have hP : va_P D vwCl [(h, .inr (4, [.ref h_soFar, .ref h_waitingPlus, .ref h_lefts, .ref h_rights, .ref h_totals, .ref h_places, .int (h_depth + 1), .int h_steps, .int h_wantsThing])), (h_soFar, .inl (cI, 81, .inl h_soFar_f)), (h_waitingPlus, .inl (cI, 81, .inl h_waitingPlus_f)), (h_lefts, .inl (cI, 80, .inl h_lefts_f)), (h_rights, .inl (cI, 80, .inl h_rights_f)), (h_totals, .inl (cI, 80, .inl h_totals_f)), (h_places, .inl (cI, 80, .inl h_places_f)), (p1, .inr (1, [.ref p1_signs, .int p1_length])), (p1_signs, .inl (cC, 80, .inl p1_signs_f)), (p3, .inr (5, [.ref p3_cells, .int p3_size])), (p3_cells, .inl (cI, 64, .inl p3_cells_f))] H := hP
    have hD : va_D A [(h, .inr (4, [.ref h_soFar, .ref h_waitingPlus, .ref h_lefts, .ref h_rights, .ref h_totals, .ref h_places, .int (h_depth + 1), .int h_steps, .int h_wantsThing])), (h_soFar, .inl (cI, 81, .inl h_soFar_f)), (h_waitingPlus, .inl (cI, 81, .inl h_waitingPlus_f)), (h_lefts, .inl (cI, 80, .inl h_lefts_f)), (h_rights, .inl (cI, 80, .inl h_rights_f)), (h_totals, .inl (cI, 80, .inl h_totals_f)), (h_places, .inl (cI, 80, .inl h_places_f)), (p1, .inr (1, [.ref p1_signs, .int p1_length])), (p1_signs, .inl (cC, 80, .inl p1_signs_f)), (p3, .inr (5, [.ref p3_cells, .int p3_size])), (p3_cells, .inl (cI, 64, .inl p3_cells_f))] := hD
    refine lv_aload_n hx hb dX5_takeThing_20 rfl (lv_at hl 0 rfl) ?_
    refine va_get (D := D) (ci := 4) (v := .ref h_soFar) (C := RX5) (T := TX5) (N := 9) hx hb hts hi_X5 hown hK hP 0 rfl rfl 0 (by decide) hf_11 (fun _ h9 => h9) rfl dX5_takeThing_21 ?_
    refine lv_aload_n hx hb dX5_takeThing_24 rfl (lv_at hl 0 rfl) ?_
    refine va_get (D := D) (ci := 4) (v := .int (h_depth + 1)) (C := RX5) (T := TX5) (N := 9) hx hb hts hi_X5 hown hK hP 0 rfl rfl 6 (by decide) hf_30 (fun _ h9 => h9) rfl dX5_takeThing_25 ?_
    refine lv_iconst (v := (-1)) hx hb dX5_takeThing_28 (by decide) ?_
    obtain ⟨z_5, hz, h0⟩ := bd_ok h0
    refine wr_SN (As := [.ref h_soFar, .int (h_depth + 1), .int (-1)]) (rest := []) (wc := [(h_soFar, .inl (cI, 81, .inl h_soFar_f))]) (wr := [(h, .inr (4, [.ref h_soFar, .ref h_waitingPlus, .ref h_lefts, .ref h_rights, .ref h_totals, .ref h_places, .int (h_depth + 1), .int h_steps, .int h_wantsThing])), (h_waitingPlus, .inl (cI, 81, .inl h_waitingPlus_f)), (h_lefts, .inl (cI, 80, .inl h_lefts_f)), (h_rights, .inl (cI, 80, .inl h_rights_f)), (h_totals, .inl (cI, 80, .inl h_totals_f)), (h_places, .inl (cI, 80, .inl h_places_f)), (p1, .inr (1, [.ref p1_signs, .int p1_length])), (p1_signs, .inl (cC, 80, .inl p1_signs_f)), (p3, .inr (5, [.ref p3_cells, .int p3_size])), (p3_cells, .inl (cI, 64, .inl p3_cells_f))]) hcf (kX9_put l D cI cC cT h_soFar 81 h_soFar_f (h_depth + 1) (-1) _ z_5 hz) ⟨va_cnB (host := RX9) 3 hts gX5_takeThing_X9_put_n41 rfl rfl rfl hE.2.2.2.2.1 hini_X9 (by decide +kernel) ⟨Nat.le_of_ble_eq_true rfl, Nat.le_of_ble_eq_true rfl⟩, hst_X9_put, trivial⟩ hE hP hD hS hA [1] [0, 2, 3, 4, 5, 6, 7, 8, 9, 10] (hP.sub [1] rfl) (hD.sub [1] (by decide) rfl) rfl rfl (by decide) (by decide) rfl hl.1 rfl (Nat.le_of_ble_eq_true rfl) dX5_takeThing_29 ⟨Nat.le_of_ble_eq_true rfl, Nat.le_of_ble_eq_true rfl⟩ (fun u H locs hP hD hS => ?_)
    have hP : va_P D vwCl [(h, .inr (4, [.ref h_soFar, .ref h_waitingPlus, .ref h_lefts, .ref h_rights, .ref h_totals, .ref h_places, .int (h_depth + 1), .int h_steps, .int h_wantsThing])), (h_waitingPlus, .inl (cI, 81, .inl h_waitingPlus_f)), (h_lefts, .inl (cI, 80, .inl h_lefts_f)), (h_rights, .inl (cI, 80, .inl h_rights_f)), (h_totals, .inl (cI, 80, .inl h_totals_f)), (h_places, .inl (cI, 80, .inl h_places_f)), (p1, .inr (1, [.ref p1_signs, .int p1_length])), (p1_signs, .inl (cC, 80, .inl p1_signs_f)), (p3, .inr (5, [.ref p3_cells, .int p3_size])), (p3_cells, .inl (cI, 64, .inl p3_cells_f)), (h_soFar, .inl (cI, 81, .inl z_5))] H := hP
    have hD : va_D A [(h, .inr (4, [.ref h_soFar, .ref h_waitingPlus, .ref h_lefts, .ref h_rights, .ref h_totals, .ref h_places, .int (h_depth + 1), .int h_steps, .int h_wantsThing])), (h_waitingPlus, .inl (cI, 81, .inl h_waitingPlus_f)), (h_lefts, .inl (cI, 80, .inl h_lefts_f)), (h_rights, .inl (cI, 80, .inl h_rights_f)), (h_totals, .inl (cI, 80, .inl h_totals_f)), (h_places, .inl (cI, 80, .inl h_places_f)), (p1, .inr (1, [.ref p1_signs, .int p1_length])), (p1_signs, .inl (cC, 80, .inl p1_signs_f)), (p3, .inr (5, [.ref p3_cells, .int p3_size])), (p3_cells, .inl (cI, 64, .inl p3_cells_f)), (h_soFar, .inl (cI, 81, .inl z_5))] := hD
    refine W.eq (g2 := F0 m 32 ls []) rfl ?_
    refine lv_iconst (v := 1) hx hb dX5_takeThing_32 (by decide) ?_
    have e0 := Option.some.inj h0
    subst e0
    exact W.zret (ty := .boolean) (v := 1) hx hb hr rfl (fun t ht hW => wr_end () ht (hP.sub [0, 10, 1, 2, 3, 4, 5, 6, 7, 8, 9] rfl) (hD.sub [0, 10, 1, 2, 3, 4, 5, 6, 7, 8, 9] (by decide) rfl) hS) hS.2.2 dX5_takeThing_33
noncomputable def mX5_takeJoint (h_soFar_f : Nat → Int32) (h_waitingPlus_f : Nat → Int32) (h_lefts_f : Nat → Int32) (h_rights_f : Nat → Int32) (h_totals_f : Nat → Int32) (h_places_f : Nat → Int32) (h_depth : Int32) (h_steps : Int32) (h_wantsThing : Int32) (p1_signs_f : Nat → Int32) (p1_length : Int32) (p3_cells_f : Nat → Int32) (p2 : Int32) : Option (Int32 × (Nat → Int32) × (Nat → Int32) × (Nat → Int32) × (Nat → Int32) × (Nat → Int32) × (Nat → Int32) × Int32 × Int32 × Int32) :=
  bd (mX1_signAt p1_signs_f p1_length p2) (fun z_1 => if z_1 = 43 then (bd (mX9_put 81 h_waitingPlus_f h_depth p2) (fun z_4 => some (1, h_soFar_f, z_4, h_lefts_f, h_rights_f, h_totals_f, h_places_f, h_depth, h_steps, 1))) else (if z_1 = 41 then (if (0 : Int32) < h_depth then (bd (mX9_get 81 h_soFar_f h_depth) (fun z_2 => bd (mX5_join h_soFar_f h_waitingPlus_f h_lefts_f h_rights_f h_totals_f h_places_f (h_depth - 1) h_steps p3_cells_f z_2) (fun z_3 => some (1, z_3.1, h_waitingPlus_f, z_3.2.1, z_3.2.2.1, z_3.2.2.2.1, z_3.2.2.2.2.1, (h_depth - 1), z_3.2.2.2.2.2, h_wantsThing)))) else (some (0, h_soFar_f, h_waitingPlus_f, h_lefts_f, h_rights_f, h_totals_f, h_places_f, h_depth, h_steps, h_wantsThing))) else (some (0, h_soFar_f, h_waitingPlus_f, h_lefts_f, h_rights_f, h_totals_f, h_places_f, h_depth, h_steps, h_wantsThing))))
set_option maxHeartbeats 8000000 in
set_option maxRecDepth 100000 in
theorem kX5_takeJoint (l : Launch) (D : va_G) (cI cC cT : ClassId) (h h_soFar h_waitingPlus h_lefts h_rights h_totals h_places p1 p1_signs p3 p3_cells : Nat) (h_soFar_f : Nat → Int32) (h_waitingPlus_f : Nat → Int32) (h_lefts_f : Nat → Int32) (h_rights_f : Nat → Int32) (h_totals_f : Nat → Int32) (h_places_f : Nat → Int32) (h_depth : Int32) (h_steps : Int32) (h_wantsThing : Int32) (p1_signs_f : Nat → Int32) (p1_length : Int32) (p3_cells_f : Nat → Int32) (p3_size : Int32) (p2 : Int32) (sz : Nat) (z : Int32 × (Nat → Int32) × (Nat → Int32) × (Nat → Int32) × (Nat → Int32) × (Nat → Int32) × (Nat → Int32) × Int32 × Int32 × Int32) (h0 : mX5_takeJoint h_soFar_f h_waitingPlus_f h_lefts_f h_rights_f h_totals_f h_places_f h_depth h_steps h_wantsThing p1_signs_f p1_length p3_cells_f p2 = some z) : Met l yX5_takeJoint wsX5_takeJoint ({ frames := 2, cells := 0, slots := 0, locals := 47 } : Room) (va_Pc [.ref h, .ref p1, .int p2, .ref p3] (wP D cI cC cT [(h, .inr (4, [.ref h_soFar, .ref h_waitingPlus, .ref h_lefts, .ref h_rights, .ref h_totals, .ref h_places, .int h_depth, .int h_steps, .int h_wantsThing])), (h_soFar, .inl (cI, 81, .inl h_soFar_f)), (h_waitingPlus, .inl (cI, 81, .inl h_waitingPlus_f)), (h_lefts, .inl (cI, 80, .inl h_lefts_f)), (h_rights, .inl (cI, 80, .inl h_rights_f)), (h_totals, .inl (cI, 80, .inl h_totals_f)), (h_places, .inl (cI, 80, .inl h_places_f)), (p1, .inr (1, [.ref p1_signs, .int p1_length])), (p1_signs, .inl (cC, 80, .inl p1_signs_f)), (p3, .inr (5, [.ref p3_cells, .int p3_size])), (p3_cells, .inl (cI, 64, .inl p3_cells_f))] sz)) (wQ D (some (.int z.1)) (va_A [(h, .inr (4, [.ref h_soFar, .ref h_waitingPlus, .ref h_lefts, .ref h_rights, .ref h_totals, .ref h_places, .int h_depth, .int h_steps, .int h_wantsThing])), (h_soFar, .inl (cI, 81, .inl h_soFar_f)), (h_waitingPlus, .inl (cI, 81, .inl h_waitingPlus_f)), (h_lefts, .inl (cI, 80, .inl h_lefts_f)), (h_rights, .inl (cI, 80, .inl h_rights_f)), (h_totals, .inl (cI, 80, .inl h_totals_f)), (h_places, .inl (cI, 80, .inl h_places_f)), (p1, .inr (1, [.ref p1_signs, .int p1_length])), (p1_signs, .inl (cC, 80, .inl p1_signs_f)), (p3, .inr (5, [.ref p3_cells, .int p3_size])), (p3_cells, .inl (cI, 64, .inl p3_cells_f))] sz) (fun (u : Unit) => [(h, .inr (4, [.ref h_soFar, .ref h_waitingPlus, .ref h_lefts, .ref h_rights, .ref h_totals, .ref h_places, .int z.2.2.2.2.2.2.2.1, .int z.2.2.2.2.2.2.2.2.1, .int z.2.2.2.2.2.2.2.2.2])), (h_soFar, .inl (cI, 81, .inl z.2.1)), (h_waitingPlus, .inl (cI, 81, .inl z.2.2.1)), (h_lefts, .inl (cI, 80, .inl z.2.2.2.1)), (h_rights, .inl (cI, 80, .inl z.2.2.2.2.1)), (h_totals, .inl (cI, 80, .inl z.2.2.2.2.2.1)), (h_places, .inl (cI, 80, .inl z.2.2.2.2.2.2.1)), (p1, .inr (1, [.ref p1_signs, .int p1_length])), (p1_signs, .inl (cC, 80, .inl p1_signs_f)), (p3, .inr (5, [.ref p3_cells, .int p3_size])), (p3_cells, .inl (cI, 64, .inl p3_cells_f))])) 0 0 (va_A [(h, .inr (4, [.ref h_soFar, .ref h_waitingPlus, .ref h_lefts, .ref h_rights, .ref h_totals, .ref h_places, .int h_depth, .int h_steps, .int h_wantsThing])), (h_soFar, .inl (cI, 81, .inl h_soFar_f)), (h_waitingPlus, .inl (cI, 81, .inl h_waitingPlus_f)), (h_lefts, .inl (cI, 80, .inl h_lefts_f)), (h_rights, .inl (cI, 80, .inl h_rights_f)), (h_totals, .inl (cI, 80, .inl h_totals_f)), (h_places, .inl (cI, 80, .inl h_places_f)), (p1, .inr (1, [.ref p1_signs, .int p1_length])), (p1_signs, .inl (cC, 80, .inl p1_signs_f)), (p3, .inr (5, [.ref p3_cells, .int p3_size])), (p3_cells, .inl (cI, 64, .inl p3_cells_f))] sz) := by
  refine Met.ofW (cc := cX5_takeJoint) (maxL := 6) (ret := (some .boolean)) (by decide) rfl ?_
  intro p e s m args below meth c s₁ B hml hv
  obtain ⟨rfl, hsz, hP, hE, hD0⟩ := hv
  have hx := B.exec
  have hb := B.bytes
  have hr := B.returns
  have hts := atoms_spec (ws := wsX5_takeJoint) B.pre
  have hown : s.vm.findClass RX5 = some m.cls := findClass_of_methodNamed B.named
  have hlocks := B.notSynchronized
  have hK := hE.1
  have hcf : CallFix p m c cX5_takeJoint 6 s ([.ref h, .ref p1, .int p2, .ref p3] : List Value).toArray wsX5_takeJoint RX5 := ⟨hx, hb, hml, hown, hts⟩
  subst hsz
  have hD := hD0.self (sz := s.heap.size)
  generalize hAe : va_A [(h, .inr (4, [.ref h_soFar, .ref h_waitingPlus, .ref h_lefts, .ref h_rights, .ref h_totals, .ref h_places, .int h_depth, .int h_steps, .int h_wantsThing])), (h_soFar, .inl (cI, 81, .inl h_soFar_f)), (h_waitingPlus, .inl (cI, 81, .inl h_waitingPlus_f)), (h_lefts, .inl (cI, 80, .inl h_lefts_f)), (h_rights, .inl (cI, 80, .inl h_rights_f)), (h_totals, .inl (cI, 80, .inl h_totals_f)), (h_places, .inl (cI, 80, .inl h_places_f)), (p1, .inr (1, [.ref p1_signs, .int p1_length])), (p1_signs, .inl (cC, 80, .inl p1_signs_f)), (p3, .inr (5, [.ref p3_cells, .int p3_size])), (p3_cells, .inl (cI, 64, .inl p3_cells_f))] s.heap.size = A at hD ⊢
  have hA : ∀ q : Nat, s.heap.size ≤ q → A q := fun q h => by rw [← hAe]; exact Or.inr h
  have hS : va_S A s.heap s.heap [] := va_S.rf
  have hP : va_P D vwCl [(h, .inr (4, [.ref h_soFar, .ref h_waitingPlus, .ref h_lefts, .ref h_rights, .ref h_totals, .ref h_places, .int h_depth, .int h_steps, .int h_wantsThing])), (h_soFar, .inl (cI, 81, .inl h_soFar_f)), (h_waitingPlus, .inl (cI, 81, .inl h_waitingPlus_f)), (h_lefts, .inl (cI, 80, .inl h_lefts_f)), (h_rights, .inl (cI, 80, .inl h_rights_f)), (h_totals, .inl (cI, 80, .inl h_totals_f)), (h_places, .inl (cI, 80, .inl h_places_f)), (p1, .inr (1, [.ref p1_signs, .int p1_length])), (p1_signs, .inl (cC, 80, .inl p1_signs_f)), (p3, .inr (5, [.ref p3_cells, .int p3_size])), (p3_cells, .inl (cI, 64, .inl p3_cells_f))] s.heap := hP
  have hf_30 := hts (.fieldLink RX5 30 "CrookedSums$SumText" "depth" "I") (by decide +kernel)
  have hi_X5 := (show ∀ w ∈ u_ws RX5 TX5 9, w ∈ wsX5_takeJoint from by decide +kernel)
  have hf_11 := hts (.fieldLink RX5 11 "CrookedSums$SumText" "soFar" "[I") (by decide +kernel)
  have hini_X9 := hts (.initialized RX9) (by decide +kernel)
  have hst_X9_get := hts (.static yX9_get) (by decide +kernel)
  have hf_15 := hts (.fieldLink RX5 15 "CrookedSums$SumText" "waitingPlus" "[I") (by decide +kernel)
  have hst_X9_put := hts (.static yX9_put) (by decide +kernel)
  have hf_37 := hts (.fieldLink RX5 37 "CrookedSums$SumText" "wantsThing" "Z") (by decide +kernel)
  have hl := lv_entry ([.ref h, .ref p1, .int p2, .ref p3]) (n := 6) (Nat.le_of_ble_eq_true rfl)
  rw [lg_entry_eq]
  generalize (lg_sl ([.ref h, .ref p1, .int p2, .ref p3]) ++ List.replicate (6 - (lg_sl ([.ref h, .ref p1, .int p2, .ref p3])).length) Slot.unset).toArray = ls at hl ⊢
  have hl : lv_has ls 6 [(0, .ref h), (1, .ref p1), (2, .int p2), (3, .ref p3)] := hl
  unfold mX5_takeJoint at h0
  refine lv_aload_n hx hb dX5_takeJoint_0 rfl (lv_at hl 1 rfl) ?_
  refine lv_iload_n hx hb dX5_takeJoint_1 rfl (lv_at hl 2 rfl) ?_
  obtain ⟨z_1, hz, h0⟩ := bd_ok h0
  refine ro_V (As := [.int p2]) (rest := []) (wc := [(p1, .inr (1, [.ref p1_signs, .int p1_length])), (p1_signs, .inl (cC, 80, .inl p1_signs_f))]) hcf (kX1_signAt l D cI cC cT p1 p1_signs p1_signs_f p1_length p2 z_1 hz) (cwV 1 hts gX5_takeJoint_X1_signAt rfl rfl rfl (by decide +kernel) ⟨Nat.le_of_ble_eq_true rfl, Nat.le_of_ble_eq_true rfl⟩) hE (hP.sub [7, 8] rfl) (va_recv hK hP (ci := 1) (q0 := 7) rfl rfl) rfl hl.1 rfl (Nat.le_of_ble_eq_true rfl) dX5_takeJoint_2 ⟨Nat.le_of_ble_eq_true rfl, Nat.le_of_ble_eq_true rfl⟩ ?_
  refine W.eq (g2 := F0 m 5 ls [.int z_1]) rfl ?_
  refine lv_istore (lv' := [(4, .int z_1), (0, .ref h), (1, .ref p1), (2, .int p2), (3, .ref p3)]) hx hb dX5_takeJoint_5 hl (by decide) rfl (fun ls hl => ?_)
  refine lv_iload hx hb dX5_takeJoint_7 (lv_at hl 0 rfl) ?_
  refine lv_bipush (v := 43) hx hb dX5_takeJoint_9 (by decide) ?_
  refine lv_icmp_ne (tgt := 33) hx hb dX5_takeJoint_11 (by decide) (fun c9 => ?_) (fun c9 => ?_)
  · have h0 := it_f c9 h0
    refine lv_iload hx hb dX5_takeJoint_33 (lv_at hl 0 rfl) ?_
    refine lv_bipush (v := 41) hx hb dX5_takeJoint_35 (by decide) ?_
    refine lv_icmp_ne (tgt := 47) hx hb dX5_takeJoint_37 (by decide) (fun c9 => ?_) (fun c9 => ?_)
    · have h0 := it_f c9 h0
      refine lv_iconst (v := 0) hx hb dX5_takeJoint_47 (by decide) ?_
      have e0 := Option.some.inj h0
      subst e0
      exact W.zret (ty := .boolean) (v := 0) hx hb hr rfl (fun t ht hW => wr_end () ht hP hD hS) hS.2.2 dX5_takeJoint_48
    · have h0 := it_t c9 h0
      refine lv_aload_n hx hb dX5_takeJoint_40 rfl (lv_at hl 1 rfl) ?_
      refine va_get (D := D) (ci := 4) (v := .int h_depth) (C := RX5) (T := TX5) (N := 9) hx hb hts hi_X5 hown hK hP 0 rfl rfl 6 (by decide) hf_30 (fun _ h9 => h9) rfl dX5_takeJoint_41 ?_
      refine lv_if_gt (tgt := 49) hx hb dX5_takeJoint_44 (by decide) (fun c9 => ?_) (fun c9 => ?_)
      · have h0 := it_t c9 h0
        refine lv_aload_n hx hb dX5_takeJoint_49 rfl (lv_at hl 1 rfl) ?_
        refine va_get (D := D) (ci := 4) (v := .ref h_soFar) (C := RX5) (T := TX5) (N := 9) hx hb hts hi_X5 hown hK hP 0 rfl rfl 0 (by decide) hf_11 (fun _ h9 => h9) rfl dX5_takeJoint_50 ?_
        refine lv_aload_n hx hb dX5_takeJoint_53 rfl (lv_at hl 1 rfl) ?_
        refine va_get (D := D) (ci := 4) (v := .int h_depth) (C := RX5) (T := TX5) (N := 9) hx hb hts hi_X5 hown hK hP 0 rfl rfl 6 (by decide) hf_30 (fun _ h9 => h9) rfl dX5_takeJoint_54 ?_
        obtain ⟨z_2, hz, h0⟩ := bd_ok h0
        refine ro_SN (As := [.ref h_soFar, .int h_depth]) (rest := []) (wc := [(h_soFar, .inl (cI, 81, .inl h_soFar_f))]) hcf (kX9_get l D cI cC cT h_soFar 81 h_soFar_f h_depth z_2 hz) ⟨va_cnB (host := RX9) 2 hts gX5_takeJoint_X9_get_n58 rfl rfl rfl hE.2.2.2.2.2.1 hini_X9 (by decide +kernel) ⟨Nat.le_of_ble_eq_true rfl, Nat.le_of_ble_eq_true rfl⟩, hst_X9_get, trivial⟩ hE (hP.sub [1] rfl) rfl hl.1 rfl (Nat.le_of_ble_eq_true rfl) dX5_takeJoint_57 ⟨Nat.le_of_ble_eq_true rfl, Nat.le_of_ble_eq_true rfl⟩ ?_
        refine W.eq (g2 := F0 m 60 ls [.int z_2]) rfl ?_
        refine lv_istore (lv' := [(5, .int z_2), (4, .int z_1), (0, .ref h), (1, .ref p1), (2, .int p2), (3, .ref p3)]) hx hb dX5_takeJoint_60 hl (by decide) rfl (fun ls hl => ?_)
        refine lv_aload_n hx hb dX5_takeJoint_62 rfl (lv_at hl 2 rfl) ?_
        refine lv_dup hx hb dX5_takeJoint_63 rfl ?_
        refine va_get (D := D) (ci := 4) (v := .int h_depth) (C := RX5) (T := TX5) (N := 9) hx hb hts hi_X5 hown hK hP 0 rfl rfl 6 (by decide) hf_30 (fun _ h9 => h9) rfl dX5_takeJoint_64 ?_
        refine lv_iconst (v := 1) hx hb dX5_takeJoint_67 (by decide) ?_
        refine lv_isub hx hb dX5_takeJoint_68 ?_
        refine va_put (D := D) (ci := 4) (v := .int (h_depth - 1)) (ty := .int) (C := RX5) (T := TX5) (N := 9) hx hb hts hi_X5 tyX5 tyX5_ok nmX5 hown hK hP hD hS 0 rfl rfl 6 (by decide) hf_30 (fun _ h9 => h9) rfl (by decide +kernel) rfl rfl (Nat.le_of_ble_eq_true rfl) dX5_takeJoint_69 (fun H locs hP hD hS => ?_)
        have hP : va_P D vwCl [(h, .inr (4, [.ref h_soFar, .ref h_waitingPlus, .ref h_lefts, .ref h_rights, .ref h_totals, .ref h_places, .int (h_depth - 1), .int h_steps, .int h_wantsThing])), (h_soFar, .inl (cI, 81, .inl h_soFar_f)), (h_waitingPlus, .inl (cI, 81, .inl h_waitingPlus_f)), (h_lefts, .inl (cI, 80, .inl h_lefts_f)), (h_rights, .inl (cI, 80, .inl h_rights_f)), (h_totals, .inl (cI, 80, .inl h_totals_f)), (h_places, .inl (cI, 80, .inl h_places_f)), (p1, .inr (1, [.ref p1_signs, .int p1_length])), (p1_signs, .inl (cC, 80, .inl p1_signs_f)), (p3, .inr (5, [.ref p3_cells, .int p3_size])), (p3_cells, .inl (cI, 64, .inl p3_cells_f))] H := hP
        have hD : va_D A [(h, .inr (4, [.ref h_soFar, .ref h_waitingPlus, .ref h_lefts, .ref h_rights, .ref h_totals, .ref h_places, .int (h_depth - 1), .int h_steps, .int h_wantsThing])), (h_soFar, .inl (cI, 81, .inl h_soFar_f)), (h_waitingPlus, .inl (cI, 81, .inl h_waitingPlus_f)), (h_lefts, .inl (cI, 80, .inl h_lefts_f)), (h_rights, .inl (cI, 80, .inl h_rights_f)), (h_totals, .inl (cI, 80, .inl h_totals_f)), (h_places, .inl (cI, 80, .inl h_places_f)), (p1, .inr (1, [.ref p1_signs, .int p1_length])), (p1_signs, .inl (cC, 80, .inl p1_signs_f)), (p3, .inr (5, [.ref p3_cells, .int p3_size])), (p3_cells, .inl (cI, 64, .inl p3_cells_f))] := hD
        refine lv_aload_n hx hb dX5_takeJoint_72 rfl (lv_at hl 2 rfl) ?_
        refine lv_iload hx hb dX5_takeJoint_73 (lv_at hl 0 rfl) ?_
        refine lv_aload_n hx hb dX5_takeJoint_75 rfl (lv_at hl 5 rfl) ?_
        obtain ⟨z_3, hz, h0⟩ := bd_ok h0
        refine wr_V (As := [.int z_2, .ref p3]) (rest := []) (wc := [(h, .inr (4, [.ref h_soFar, .ref h_waitingPlus, .ref h_lefts, .ref h_rights, .ref h_totals, .ref h_places, .int (h_depth - 1), .int h_steps, .int h_wantsThing])), (h_soFar, .inl (cI, 81, .inl h_soFar_f)), (h_waitingPlus, .inl (cI, 81, .inl h_waitingPlus_f)), (h_lefts, .inl (cI, 80, .inl h_lefts_f)), (h_rights, .inl (cI, 80, .inl h_rights_f)), (h_totals, .inl (cI, 80, .inl h_totals_f)), (h_places, .inl (cI, 80, .inl h_places_f)), (p3, .inr (5, [.ref p3_cells, .int p3_size])), (p3_cells, .inl (cI, 64, .inl p3_cells_f))]) (wr := [(p1, .inr (1, [.ref p1_signs, .int p1_length])), (p1_signs, .inl (cC, 80, .inl p1_signs_f))]) hcf (kX5_join l D cI cC cT h h_soFar h_waitingPlus h_lefts h_rights h_totals h_places p3 p3_cells h_soFar_f h_waitingPlus_f h_lefts_f h_rights_f h_totals_f h_places_f (h_depth - 1) h_steps h_wantsThing p3_cells_f p3_size z_2 _ z_3 hz) (cwV 2 hts gX5_takeJoint_X5_join rfl rfl rfl (by decide +kernel) ⟨Nat.le_of_ble_eq_true rfl, Nat.le_of_ble_eq_true rfl⟩) hE hP hD hS hA [0, 1, 2, 3, 4, 5, 6, 9, 10] [7, 8] (hP.sub [0, 1, 2, 3, 4, 5, 6, 9, 10] rfl) (hD.sub [0, 1, 2, 3, 4, 5, 6, 9, 10] (by decide) rfl) (va_recv hK hP (ci := 4) (q0 := 0) rfl rfl) rfl rfl (by decide) (by decide) rfl hl.1 rfl (Nat.le_of_ble_eq_true rfl) dX5_takeJoint_76 ⟨Nat.le_of_ble_eq_true rfl, Nat.le_of_ble_eq_true rfl⟩ (fun u H locs hP hD hS => ?_)
        have hP : va_P D vwCl [(p1, .inr (1, [.ref p1_signs, .int p1_length])), (p1_signs, .inl (cC, 80, .inl p1_signs_f)), (h, .inr (4, [.ref h_soFar, .ref h_waitingPlus, .ref h_lefts, .ref h_rights, .ref h_totals, .ref h_places, .int (h_depth - 1), .int z_3.2.2.2.2.2, .int h_wantsThing])), (h_soFar, .inl (cI, 81, .inl z_3.1)), (h_waitingPlus, .inl (cI, 81, .inl h_waitingPlus_f)), (h_lefts, .inl (cI, 80, .inl z_3.2.1)), (h_rights, .inl (cI, 80, .inl z_3.2.2.1)), (h_totals, .inl (cI, 80, .inl z_3.2.2.2.1)), (h_places, .inl (cI, 80, .inl z_3.2.2.2.2.1)), (p3, .inr (5, [.ref p3_cells, .int p3_size])), (p3_cells, .inl (cI, 64, .inl p3_cells_f))] H := hP
        have hD : va_D A [(p1, .inr (1, [.ref p1_signs, .int p1_length])), (p1_signs, .inl (cC, 80, .inl p1_signs_f)), (h, .inr (4, [.ref h_soFar, .ref h_waitingPlus, .ref h_lefts, .ref h_rights, .ref h_totals, .ref h_places, .int (h_depth - 1), .int z_3.2.2.2.2.2, .int h_wantsThing])), (h_soFar, .inl (cI, 81, .inl z_3.1)), (h_waitingPlus, .inl (cI, 81, .inl h_waitingPlus_f)), (h_lefts, .inl (cI, 80, .inl z_3.2.1)), (h_rights, .inl (cI, 80, .inl z_3.2.2.1)), (h_totals, .inl (cI, 80, .inl z_3.2.2.2.1)), (h_places, .inl (cI, 80, .inl z_3.2.2.2.2.1)), (p3, .inr (5, [.ref p3_cells, .int p3_size])), (p3_cells, .inl (cI, 64, .inl p3_cells_f))] := hD
        refine W.eq (g2 := F0 m 79 ls []) rfl ?_
        refine lv_iconst (v := 1) hx hb dX5_takeJoint_79 (by decide) ?_
        have e0 := Option.some.inj h0
        subst e0
        exact W.zret (ty := .boolean) (v := 1) hx hb hr rfl (fun t ht hW => wr_end () ht (hP.sub [2, 3, 4, 5, 6, 7, 8, 0, 1, 9, 10] rfl) (hD.sub [2, 3, 4, 5, 6, 7, 8, 0, 1, 9, 10] (by decide) rfl) hS) hS.2.2 dX5_takeJoint_80
      · have h0 := it_f c9 h0
        refine lv_iconst (v := 0) hx hb dX5_takeJoint_47 (by decide) ?_
        have e0 := Option.some.inj h0
        subst e0
        exact W.zret (ty := .boolean) (v := 0) hx hb hr rfl (fun t ht hW => wr_end () ht hP hD hS) hS.2.2 dX5_takeJoint_48
  · have h0 := it_t c9 h0
    refine lv_aload_n hx hb dX5_takeJoint_14 rfl (lv_at hl 1 rfl) ?_
    refine va_get (D := D) (ci := 4) (v := .ref h_waitingPlus) (C := RX5) (T := TX5) (N := 9) hx hb hts hi_X5 hown hK hP 0 rfl rfl 1 (by decide) hf_15 (fun _ h9 => h9) rfl dX5_takeJoint_15 ?_
    refine lv_aload_n hx hb dX5_takeJoint_18 rfl (lv_at hl 1 rfl) ?_
    refine va_get (D := D) (ci := 4) (v := .int h_depth) (C := RX5) (T := TX5) (N := 9) hx hb hts hi_X5 hown hK hP 0 rfl rfl 6 (by decide) hf_30 (fun _ h9 => h9) rfl dX5_takeJoint_19 ?_
    refine lv_iload_n hx hb dX5_takeJoint_22 rfl (lv_at hl 3 rfl) ?_
    obtain ⟨z_4, hz, h0⟩ := bd_ok h0
    refine wr_SN (As := [.ref h_waitingPlus, .int h_depth, .int p2]) (rest := []) (wc := [(h_waitingPlus, .inl (cI, 81, .inl h_waitingPlus_f))]) (wr := [(h, .inr (4, [.ref h_soFar, .ref h_waitingPlus, .ref h_lefts, .ref h_rights, .ref h_totals, .ref h_places, .int h_depth, .int h_steps, .int h_wantsThing])), (h_soFar, .inl (cI, 81, .inl h_soFar_f)), (h_lefts, .inl (cI, 80, .inl h_lefts_f)), (h_rights, .inl (cI, 80, .inl h_rights_f)), (h_totals, .inl (cI, 80, .inl h_totals_f)), (h_places, .inl (cI, 80, .inl h_places_f)), (p1, .inr (1, [.ref p1_signs, .int p1_length])), (p1_signs, .inl (cC, 80, .inl p1_signs_f)), (p3, .inr (5, [.ref p3_cells, .int p3_size])), (p3_cells, .inl (cI, 64, .inl p3_cells_f))]) hcf (kX9_put l D cI cC cT h_waitingPlus 81 h_waitingPlus_f h_depth p2 _ z_4 hz) ⟨va_cnB (host := RX9) 3 hts gX5_takeJoint_X9_put_n41 rfl rfl rfl hE.2.2.2.2.1 hini_X9 (by decide +kernel) ⟨Nat.le_of_ble_eq_true rfl, Nat.le_of_ble_eq_true rfl⟩, hst_X9_put, trivial⟩ hE hP hD hS hA [2] [0, 1, 3, 4, 5, 6, 7, 8, 9, 10] (hP.sub [2] rfl) (hD.sub [2] (by decide) rfl) rfl rfl (by decide) (by decide) rfl hl.1 rfl (Nat.le_of_ble_eq_true rfl) dX5_takeJoint_23 ⟨Nat.le_of_ble_eq_true rfl, Nat.le_of_ble_eq_true rfl⟩ (fun u H locs hP hD hS => ?_)
    have hP : va_P D vwCl [(h, .inr (4, [.ref h_soFar, .ref h_waitingPlus, .ref h_lefts, .ref h_rights, .ref h_totals, .ref h_places, .int h_depth, .int h_steps, .int h_wantsThing])), (h_soFar, .inl (cI, 81, .inl h_soFar_f)), (h_lefts, .inl (cI, 80, .inl h_lefts_f)), (h_rights, .inl (cI, 80, .inl h_rights_f)), (h_totals, .inl (cI, 80, .inl h_totals_f)), (h_places, .inl (cI, 80, .inl h_places_f)), (p1, .inr (1, [.ref p1_signs, .int p1_length])), (p1_signs, .inl (cC, 80, .inl p1_signs_f)), (p3, .inr (5, [.ref p3_cells, .int p3_size])), (p3_cells, .inl (cI, 64, .inl p3_cells_f)), (h_waitingPlus, .inl (cI, 81, .inl z_4))] H := hP
    have hD : va_D A [(h, .inr (4, [.ref h_soFar, .ref h_waitingPlus, .ref h_lefts, .ref h_rights, .ref h_totals, .ref h_places, .int h_depth, .int h_steps, .int h_wantsThing])), (h_soFar, .inl (cI, 81, .inl h_soFar_f)), (h_lefts, .inl (cI, 80, .inl h_lefts_f)), (h_rights, .inl (cI, 80, .inl h_rights_f)), (h_totals, .inl (cI, 80, .inl h_totals_f)), (h_places, .inl (cI, 80, .inl h_places_f)), (p1, .inr (1, [.ref p1_signs, .int p1_length])), (p1_signs, .inl (cC, 80, .inl p1_signs_f)), (p3, .inr (5, [.ref p3_cells, .int p3_size])), (p3_cells, .inl (cI, 64, .inl p3_cells_f)), (h_waitingPlus, .inl (cI, 81, .inl z_4))] := hD
    refine W.eq (g2 := F0 m 26 ls []) rfl ?_
    refine lv_aload_n hx hb dX5_takeJoint_26 rfl (lv_at hl 1 rfl) ?_
    refine lv_iconst (v := 1) hx hb dX5_takeJoint_27 (by decide) ?_
    refine va_put (D := D) (ci := 4) (v := .int 1) (ty := .boolean) (C := RX5) (T := TX5) (N := 9) hx hb hts hi_X5 tyX5 tyX5_ok nmX5 hown hK hP hD hS 0 rfl rfl 8 (by decide) hf_37 (fun _ h9 => h9) rfl (by decide +kernel) rfl rfl (Nat.le_of_ble_eq_true rfl) dX5_takeJoint_28 (fun H locs hP hD hS => ?_)
    have hP : va_P D vwCl [(h, .inr (4, [.ref h_soFar, .ref h_waitingPlus, .ref h_lefts, .ref h_rights, .ref h_totals, .ref h_places, .int h_depth, .int h_steps, .int 1])), (h_soFar, .inl (cI, 81, .inl h_soFar_f)), (h_lefts, .inl (cI, 80, .inl h_lefts_f)), (h_rights, .inl (cI, 80, .inl h_rights_f)), (h_totals, .inl (cI, 80, .inl h_totals_f)), (h_places, .inl (cI, 80, .inl h_places_f)), (p1, .inr (1, [.ref p1_signs, .int p1_length])), (p1_signs, .inl (cC, 80, .inl p1_signs_f)), (p3, .inr (5, [.ref p3_cells, .int p3_size])), (p3_cells, .inl (cI, 64, .inl p3_cells_f)), (h_waitingPlus, .inl (cI, 81, .inl z_4))] H := hP
    have hD : va_D A [(h, .inr (4, [.ref h_soFar, .ref h_waitingPlus, .ref h_lefts, .ref h_rights, .ref h_totals, .ref h_places, .int h_depth, .int h_steps, .int 1])), (h_soFar, .inl (cI, 81, .inl h_soFar_f)), (h_lefts, .inl (cI, 80, .inl h_lefts_f)), (h_rights, .inl (cI, 80, .inl h_rights_f)), (h_totals, .inl (cI, 80, .inl h_totals_f)), (h_places, .inl (cI, 80, .inl h_places_f)), (p1, .inr (1, [.ref p1_signs, .int p1_length])), (p1_signs, .inl (cC, 80, .inl p1_signs_f)), (p3, .inr (5, [.ref p3_cells, .int p3_size])), (p3_cells, .inl (cI, 64, .inl p3_cells_f)), (h_waitingPlus, .inl (cI, 81, .inl z_4))] := hD
    refine lv_iconst (v := 1) hx hb dX5_takeJoint_31 (by decide) ?_
    have e0 := Option.some.inj h0
    subst e0
    exact W.zret (ty := .boolean) (v := 1) hx hb hr rfl (fun t ht hW => wr_end () ht (hP.sub [0, 1, 10, 2, 3, 4, 5, 6, 7, 8, 9] rfl) (hD.sub [0, 1, 10, 2, 3, 4, 5, 6, 7, 8, 9] (by decide) rfl) hS) hS.2.2 dX5_takeJoint_32
noncomputable def mX5_readFrom_L26 (p1_signs_f : Nat → Int32) (p1_length : Int32) (p2_cells_f : Nat → Int32) (p2_size : Int32) (k26_73 : Int32 → Int32 → Int32 → Int32 → (Nat → Int32) → (Nat → Int32) → (Nat → Int32) → (Nat → Int32) → (Nat → Int32) → (Nat → Int32) → Option (Int32 × (Nat → Int32) × (Nat → Int32) × (Nat → Int32) × (Nat → Int32) × (Nat → Int32) × (Nat → Int32) × Int32 × Int32 × Int32)) : Nat → Int32 → Int32 → Int32 → Int32 → (Nat → Int32) → (Nat → Int32) → (Nat → Int32) → (Nat → Int32) → (Nat → Int32) → (Nat → Int32) → Option (Int32 × (Nat → Int32) × (Nat → Int32) × (Nat → Int32) × (Nat → Int32) × (Nat → Int32) × (Nat → Int32) × Int32 × Int32 × Int32)
  | 0, _, _, _, _, _, _, _, _, _, _ => none
  | F + 1, x3_15, y_16, y_17, y_18, f_19, f_20, f_21, f_22, f_23, f_24 => bd (mX1_length p1_length) (fun z_25 => if z_25 ≤ x3_15 then (k26_73 x3_15 y_16 y_17 y_18 f_19 f_20 f_21 f_22 f_23 f_24) else (if y_18 = 0 then (bd (mX5_takeJoint f_23 f_24 f_19 f_20 f_21 f_22 y_16 y_17 y_18 p1_signs_f p1_length p2_cells_f x3_15) (fun z_26 => if z_26.1 = 0 then (some (x3_15, z_26.2.1, z_26.2.2.1, z_26.2.2.2.1, z_26.2.2.2.2.1, z_26.2.2.2.2.2.1, z_26.2.2.2.2.2.2.1, z_26.2.2.2.2.2.2.2.1, z_26.2.2.2.2.2.2.2.2.1, z_26.2.2.2.2.2.2.2.2.2)) else (mX5_readFrom_L26 p1_signs_f p1_length p2_cells_f p2_size k26_73 F (x3_15 + 1) z_26.2.2.2.2.2.2.2.1 z_26.2.2.2.2.2.2.2.2.1 z_26.2.2.2.2.2.2.2.2.2 z_26.2.2.2.1 z_26.2.2.2.2.1 z_26.2.2.2.2.2.1 z_26.2.2.2.2.2.2.1 z_26.2.1 z_26.2.2.1))) else (bd (mX5_takeThing f_23 f_24 f_19 f_20 f_21 f_22 y_16 y_17 y_18 p1_signs_f p1_length p2_cells_f p2_size x3_15) (fun z_27 => if z_27.1 = 0 then (some (x3_15, z_27.2.1, f_24, z_27.2.2.1, z_27.2.2.2.1, z_27.2.2.2.2.1, z_27.2.2.2.2.2.1, z_27.2.2.2.2.2.2.1, z_27.2.2.2.2.2.2.2.1, z_27.2.2.2.2.2.2.2.2)) else (mX5_readFrom_L26 p1_signs_f p1_length p2_cells_f p2_size k26_73 F (x3_15 + 1) z_27.2.2.2.2.2.2.1 z_27.2.2.2.2.2.2.2.1 z_27.2.2.2.2.2.2.2.2 z_27.2.2.1 z_27.2.2.2.1 z_27.2.2.2.2.1 z_27.2.2.2.2.2.1 z_27.2.1 f_24)))))
noncomputable def mX5_readFrom (h_soFar_f : Nat → Int32) (h_waitingPlus_f : Nat → Int32) (h_lefts_f : Nat → Int32) (h_rights_f : Nat → Int32) (h_totals_f : Nat → Int32) (h_places_f : Nat → Int32) (p1_signs_f : Nat → Int32) (p1_length : Int32) (p2_cells_f : Nat → Int32) (p2_size : Int32) : Option (Int32 × (Nat → Int32) × (Nat → Int32) × (Nat → Int32) × (Nat → Int32) × (Nat → Int32) × (Nat → Int32) × Int32 × Int32 × Int32) :=
  bd (mX9_put 81 h_soFar_f 0 (-1)) (fun z_1 => mX5_readFrom_L26 p1_signs_f p1_length p2_cells_f p2_size (fun (x3_2 : Int32) (y_3 : Int32) (y_4 : Int32) (y_5 : Int32) (f_6 : Nat → Int32) (f_7 : Nat → Int32) (f_8 : Nat → Int32) (f_9 : Nat → Int32) (f_10 : Nat → Int32) (f_11 : Nat → Int32) => if y_5 = 0 then (if y_3 ≤ 0 then (some ((-4), f_10, f_11, f_6, f_7, f_8, f_9, y_3, y_4, y_5)) else (bd (mX1_length p1_length) (fun z_13 => some (z_13, f_10, f_11, f_6, f_7, f_8, f_9, y_3, y_4, y_5)))) else (bd (mX1_length p1_length) (fun z_12 => some (z_12, f_10, f_11, f_6, f_7, f_8, f_9, y_3, y_4, y_5)))) FU 0 0 0 1 h_lefts_f h_rights_f h_totals_f h_places_f z_1 h_waitingPlus_f)
set_option maxHeartbeats 8000000 in
set_option maxRecDepth 100000 in
theorem kX5_readFrom (l : Launch) (D : va_G) (cI cC cT : ClassId) (h h_soFar h_waitingPlus h_lefts h_rights h_totals h_places p1 p1_signs p2 p2_cells : Nat) (h_soFar_f : Nat → Int32) (h_waitingPlus_f : Nat → Int32) (h_lefts_f : Nat → Int32) (h_rights_f : Nat → Int32) (h_totals_f : Nat → Int32) (h_places_f : Nat → Int32) (h_depth : Int32) (h_steps : Int32) (h_wantsThing : Int32) (p1_signs_f : Nat → Int32) (p1_length : Int32) (p2_cells_f : Nat → Int32) (p2_size : Int32) (sz : Nat) (z : Int32 × (Nat → Int32) × (Nat → Int32) × (Nat → Int32) × (Nat → Int32) × (Nat → Int32) × (Nat → Int32) × Int32 × Int32 × Int32) (h0 : mX5_readFrom h_soFar_f h_waitingPlus_f h_lefts_f h_rights_f h_totals_f h_places_f p1_signs_f p1_length p2_cells_f p2_size = some z) : Met l yX5_readFrom wsX5_readFrom ({ frames := 3, cells := 0, slots := 0, locals := 72 } : Room) (va_Pc [.ref h, .ref p1, .ref p2] (wP D cI cC cT [(h, .inr (4, [.ref h_soFar, .ref h_waitingPlus, .ref h_lefts, .ref h_rights, .ref h_totals, .ref h_places, .int h_depth, .int h_steps, .int h_wantsThing])), (h_soFar, .inl (cI, 81, .inl h_soFar_f)), (h_waitingPlus, .inl (cI, 81, .inl h_waitingPlus_f)), (h_lefts, .inl (cI, 80, .inl h_lefts_f)), (h_rights, .inl (cI, 80, .inl h_rights_f)), (h_totals, .inl (cI, 80, .inl h_totals_f)), (h_places, .inl (cI, 80, .inl h_places_f)), (p1, .inr (1, [.ref p1_signs, .int p1_length])), (p1_signs, .inl (cC, 80, .inl p1_signs_f)), (p2, .inr (5, [.ref p2_cells, .int p2_size])), (p2_cells, .inl (cI, 64, .inl p2_cells_f))] sz)) (wQ D (some (.int z.1)) (va_A [(h, .inr (4, [.ref h_soFar, .ref h_waitingPlus, .ref h_lefts, .ref h_rights, .ref h_totals, .ref h_places, .int h_depth, .int h_steps, .int h_wantsThing])), (h_soFar, .inl (cI, 81, .inl h_soFar_f)), (h_waitingPlus, .inl (cI, 81, .inl h_waitingPlus_f)), (h_lefts, .inl (cI, 80, .inl h_lefts_f)), (h_rights, .inl (cI, 80, .inl h_rights_f)), (h_totals, .inl (cI, 80, .inl h_totals_f)), (h_places, .inl (cI, 80, .inl h_places_f)), (p1, .inr (1, [.ref p1_signs, .int p1_length])), (p1_signs, .inl (cC, 80, .inl p1_signs_f)), (p2, .inr (5, [.ref p2_cells, .int p2_size])), (p2_cells, .inl (cI, 64, .inl p2_cells_f))] sz) (fun (u : Unit) => [(h, .inr (4, [.ref h_soFar, .ref h_waitingPlus, .ref h_lefts, .ref h_rights, .ref h_totals, .ref h_places, .int z.2.2.2.2.2.2.2.1, .int z.2.2.2.2.2.2.2.2.1, .int z.2.2.2.2.2.2.2.2.2])), (h_soFar, .inl (cI, 81, .inl z.2.1)), (h_waitingPlus, .inl (cI, 81, .inl z.2.2.1)), (h_lefts, .inl (cI, 80, .inl z.2.2.2.1)), (h_rights, .inl (cI, 80, .inl z.2.2.2.2.1)), (h_totals, .inl (cI, 80, .inl z.2.2.2.2.2.1)), (h_places, .inl (cI, 80, .inl z.2.2.2.2.2.2.1)), (p1, .inr (1, [.ref p1_signs, .int p1_length])), (p1_signs, .inl (cC, 80, .inl p1_signs_f)), (p2, .inr (5, [.ref p2_cells, .int p2_size])), (p2_cells, .inl (cI, 64, .inl p2_cells_f))])) 0 0 (va_A [(h, .inr (4, [.ref h_soFar, .ref h_waitingPlus, .ref h_lefts, .ref h_rights, .ref h_totals, .ref h_places, .int h_depth, .int h_steps, .int h_wantsThing])), (h_soFar, .inl (cI, 81, .inl h_soFar_f)), (h_waitingPlus, .inl (cI, 81, .inl h_waitingPlus_f)), (h_lefts, .inl (cI, 80, .inl h_lefts_f)), (h_rights, .inl (cI, 80, .inl h_rights_f)), (h_totals, .inl (cI, 80, .inl h_totals_f)), (h_places, .inl (cI, 80, .inl h_places_f)), (p1, .inr (1, [.ref p1_signs, .int p1_length])), (p1_signs, .inl (cC, 80, .inl p1_signs_f)), (p2, .inr (5, [.ref p2_cells, .int p2_size])), (p2_cells, .inl (cI, 64, .inl p2_cells_f))] sz) := by
  refine Met.ofW (cc := cX5_readFrom) (maxL := 5) (ret := (some .int)) (by decide) rfl ?_
  intro p e s m args below meth c s₁ B hml hv
  obtain ⟨rfl, hsz, hP, hE, hD0⟩ := hv
  have hx := B.exec
  have hb := B.bytes
  have hr := B.returns
  have hts := atoms_spec (ws := wsX5_readFrom) B.pre
  have hown : s.vm.findClass RX5 = some m.cls := findClass_of_methodNamed B.named
  have hlocks := B.notSynchronized
  have hK := hE.1
  have hcf : CallFix p m c cX5_readFrom 5 s ([.ref h, .ref p1, .ref p2] : List Value).toArray wsX5_readFrom RX5 := ⟨hx, hb, hml, hown, hts⟩
  subst hsz
  have hD := hD0.self (sz := s.heap.size)
  generalize hAe : va_A [(h, .inr (4, [.ref h_soFar, .ref h_waitingPlus, .ref h_lefts, .ref h_rights, .ref h_totals, .ref h_places, .int h_depth, .int h_steps, .int h_wantsThing])), (h_soFar, .inl (cI, 81, .inl h_soFar_f)), (h_waitingPlus, .inl (cI, 81, .inl h_waitingPlus_f)), (h_lefts, .inl (cI, 80, .inl h_lefts_f)), (h_rights, .inl (cI, 80, .inl h_rights_f)), (h_totals, .inl (cI, 80, .inl h_totals_f)), (h_places, .inl (cI, 80, .inl h_places_f)), (p1, .inr (1, [.ref p1_signs, .int p1_length])), (p1_signs, .inl (cC, 80, .inl p1_signs_f)), (p2, .inr (5, [.ref p2_cells, .int p2_size])), (p2_cells, .inl (cI, 64, .inl p2_cells_f))] s.heap.size = A at hD ⊢
  have hA : ∀ q : Nat, s.heap.size ≤ q → A q := fun q h => by rw [← hAe]; exact Or.inr h
  have hS : va_S A s.heap s.heap [] := va_S.rf
  have hP : va_P D vwCl [(h, .inr (4, [.ref h_soFar, .ref h_waitingPlus, .ref h_lefts, .ref h_rights, .ref h_totals, .ref h_places, .int h_depth, .int h_steps, .int h_wantsThing])), (h_soFar, .inl (cI, 81, .inl h_soFar_f)), (h_waitingPlus, .inl (cI, 81, .inl h_waitingPlus_f)), (h_lefts, .inl (cI, 80, .inl h_lefts_f)), (h_rights, .inl (cI, 80, .inl h_rights_f)), (h_totals, .inl (cI, 80, .inl h_totals_f)), (h_places, .inl (cI, 80, .inl h_places_f)), (p1, .inr (1, [.ref p1_signs, .int p1_length])), (p1_signs, .inl (cC, 80, .inl p1_signs_f)), (p2, .inr (5, [.ref p2_cells, .int p2_size])), (p2_cells, .inl (cI, 64, .inl p2_cells_f))] s.heap := hP
  have hf_30 := hts (.fieldLink RX5 30 "CrookedSums$SumText" "depth" "I") (by decide +kernel)
  have hi_X5 := (show ∀ w ∈ u_ws RX5 TX5 9, w ∈ wsX5_readFrom from by decide +kernel)
  have hf_34 := hts (.fieldLink RX5 34 "CrookedSums$SumText" "steps" "I") (by decide +kernel)
  have hf_37 := hts (.fieldLink RX5 37 "CrookedSums$SumText" "wantsThing" "Z") (by decide +kernel)
  have hf_11 := hts (.fieldLink RX5 11 "CrookedSums$SumText" "soFar" "[I") (by decide +kernel)
  have hini_X9 := hts (.initialized RX9) (by decide +kernel)
  have hst_X9_put := hts (.static yX9_put) (by decide +kernel)
  have hl := lv_entry ([.ref h, .ref p1, .ref p2]) (n := 5) (Nat.le_of_ble_eq_true rfl)
  rw [lg_entry_eq]
  generalize (lg_sl ([.ref h, .ref p1, .ref p2]) ++ List.replicate (5 - (lg_sl ([.ref h, .ref p1, .ref p2])).length) Slot.unset).toArray = ls at hl ⊢
  have hl : lv_has ls 5 [(0, .ref h), (1, .ref p1), (2, .ref p2)] := hl
  unfold mX5_readFrom at h0
  refine lv_aload_n hx hb dX5_readFrom_0 rfl (lv_at hl 0 rfl) ?_
  refine lv_iconst (v := 0) hx hb dX5_readFrom_1 (by decide) ?_
  refine va_put (D := D) (ci := 4) (v := .int 0) (ty := .int) (C := RX5) (T := TX5) (N := 9) hx hb hts hi_X5 tyX5 tyX5_ok nmX5 hown hK hP hD hS 0 rfl rfl 6 (by decide) hf_30 (fun _ h9 => h9) rfl (by decide +kernel) rfl rfl (Nat.le_of_ble_eq_true rfl) dX5_readFrom_2 (fun H locs hP hD hS => ?_)
  have hP : va_P D vwCl [(h, .inr (4, [.ref h_soFar, .ref h_waitingPlus, .ref h_lefts, .ref h_rights, .ref h_totals, .ref h_places, .int 0, .int h_steps, .int h_wantsThing])), (h_soFar, .inl (cI, 81, .inl h_soFar_f)), (h_waitingPlus, .inl (cI, 81, .inl h_waitingPlus_f)), (h_lefts, .inl (cI, 80, .inl h_lefts_f)), (h_rights, .inl (cI, 80, .inl h_rights_f)), (h_totals, .inl (cI, 80, .inl h_totals_f)), (h_places, .inl (cI, 80, .inl h_places_f)), (p1, .inr (1, [.ref p1_signs, .int p1_length])), (p1_signs, .inl (cC, 80, .inl p1_signs_f)), (p2, .inr (5, [.ref p2_cells, .int p2_size])), (p2_cells, .inl (cI, 64, .inl p2_cells_f))] H := hP
  have hD : va_D A [(h, .inr (4, [.ref h_soFar, .ref h_waitingPlus, .ref h_lefts, .ref h_rights, .ref h_totals, .ref h_places, .int 0, .int h_steps, .int h_wantsThing])), (h_soFar, .inl (cI, 81, .inl h_soFar_f)), (h_waitingPlus, .inl (cI, 81, .inl h_waitingPlus_f)), (h_lefts, .inl (cI, 80, .inl h_lefts_f)), (h_rights, .inl (cI, 80, .inl h_rights_f)), (h_totals, .inl (cI, 80, .inl h_totals_f)), (h_places, .inl (cI, 80, .inl h_places_f)), (p1, .inr (1, [.ref p1_signs, .int p1_length])), (p1_signs, .inl (cC, 80, .inl p1_signs_f)), (p2, .inr (5, [.ref p2_cells, .int p2_size])), (p2_cells, .inl (cI, 64, .inl p2_cells_f))] := hD
  refine lv_aload_n hx hb dX5_readFrom_5 rfl (lv_at hl 0 rfl) ?_
  refine lv_iconst (v := 0) hx hb dX5_readFrom_6 (by decide) ?_
  refine va_put (D := D) (ci := 4) (v := .int 0) (ty := .int) (C := RX5) (T := TX5) (N := 9) hx hb hts hi_X5 tyX5 tyX5_ok nmX5 hown hK hP hD hS 0 rfl rfl 7 (by decide) hf_34 (fun _ h9 => h9) rfl (by decide +kernel) rfl rfl (Nat.le_of_ble_eq_true rfl) dX5_readFrom_7 (fun H locs hP hD hS => ?_)
  have hP : va_P D vwCl [(h, .inr (4, [.ref h_soFar, .ref h_waitingPlus, .ref h_lefts, .ref h_rights, .ref h_totals, .ref h_places, .int 0, .int 0, .int h_wantsThing])), (h_soFar, .inl (cI, 81, .inl h_soFar_f)), (h_waitingPlus, .inl (cI, 81, .inl h_waitingPlus_f)), (h_lefts, .inl (cI, 80, .inl h_lefts_f)), (h_rights, .inl (cI, 80, .inl h_rights_f)), (h_totals, .inl (cI, 80, .inl h_totals_f)), (h_places, .inl (cI, 80, .inl h_places_f)), (p1, .inr (1, [.ref p1_signs, .int p1_length])), (p1_signs, .inl (cC, 80, .inl p1_signs_f)), (p2, .inr (5, [.ref p2_cells, .int p2_size])), (p2_cells, .inl (cI, 64, .inl p2_cells_f))] H := hP
  have hD : va_D A [(h, .inr (4, [.ref h_soFar, .ref h_waitingPlus, .ref h_lefts, .ref h_rights, .ref h_totals, .ref h_places, .int 0, .int 0, .int h_wantsThing])), (h_soFar, .inl (cI, 81, .inl h_soFar_f)), (h_waitingPlus, .inl (cI, 81, .inl h_waitingPlus_f)), (h_lefts, .inl (cI, 80, .inl h_lefts_f)), (h_rights, .inl (cI, 80, .inl h_rights_f)), (h_totals, .inl (cI, 80, .inl h_totals_f)), (h_places, .inl (cI, 80, .inl h_places_f)), (p1, .inr (1, [.ref p1_signs, .int p1_length])), (p1_signs, .inl (cC, 80, .inl p1_signs_f)), (p2, .inr (5, [.ref p2_cells, .int p2_size])), (p2_cells, .inl (cI, 64, .inl p2_cells_f))] := hD
  refine lv_aload_n hx hb dX5_readFrom_10 rfl (lv_at hl 0 rfl) ?_
  refine lv_iconst (v := 1) hx hb dX5_readFrom_11 (by decide) ?_
  refine va_put (D := D) (ci := 4) (v := .int 1) (ty := .boolean) (C := RX5) (T := TX5) (N := 9) hx hb hts hi_X5 tyX5 tyX5_ok nmX5 hown hK hP hD hS 0 rfl rfl 8 (by decide) hf_37 (fun _ h9 => h9) rfl (by decide +kernel) rfl rfl (Nat.le_of_ble_eq_true rfl) dX5_readFrom_12 (fun H locs hP hD hS => ?_)
  have hP : va_P D vwCl [(h, .inr (4, [.ref h_soFar, .ref h_waitingPlus, .ref h_lefts, .ref h_rights, .ref h_totals, .ref h_places, .int 0, .int 0, .int 1])), (h_soFar, .inl (cI, 81, .inl h_soFar_f)), (h_waitingPlus, .inl (cI, 81, .inl h_waitingPlus_f)), (h_lefts, .inl (cI, 80, .inl h_lefts_f)), (h_rights, .inl (cI, 80, .inl h_rights_f)), (h_totals, .inl (cI, 80, .inl h_totals_f)), (h_places, .inl (cI, 80, .inl h_places_f)), (p1, .inr (1, [.ref p1_signs, .int p1_length])), (p1_signs, .inl (cC, 80, .inl p1_signs_f)), (p2, .inr (5, [.ref p2_cells, .int p2_size])), (p2_cells, .inl (cI, 64, .inl p2_cells_f))] H := hP
  have hD : va_D A [(h, .inr (4, [.ref h_soFar, .ref h_waitingPlus, .ref h_lefts, .ref h_rights, .ref h_totals, .ref h_places, .int 0, .int 0, .int 1])), (h_soFar, .inl (cI, 81, .inl h_soFar_f)), (h_waitingPlus, .inl (cI, 81, .inl h_waitingPlus_f)), (h_lefts, .inl (cI, 80, .inl h_lefts_f)), (h_rights, .inl (cI, 80, .inl h_rights_f)), (h_totals, .inl (cI, 80, .inl h_totals_f)), (h_places, .inl (cI, 80, .inl h_places_f)), (p1, .inr (1, [.ref p1_signs, .int p1_length])), (p1_signs, .inl (cC, 80, .inl p1_signs_f)), (p2, .inr (5, [.ref p2_cells, .int p2_size])), (p2_cells, .inl (cI, 64, .inl p2_cells_f))] := hD
  refine lv_aload_n hx hb dX5_readFrom_15 rfl (lv_at hl 0 rfl) ?_
  refine va_get (D := D) (ci := 4) (v := .ref h_soFar) (C := RX5) (T := TX5) (N := 9) hx hb hts hi_X5 hown hK hP 0 rfl rfl 0 (by decide) hf_11 (fun _ h9 => h9) rfl dX5_readFrom_16 ?_
  refine lv_iconst (v := 0) hx hb dX5_readFrom_19 (by decide) ?_
  refine lv_iconst (v := (-1)) hx hb dX5_readFrom_20 (by decide) ?_
  obtain ⟨z_1, hz, h0⟩ := bd_ok h0
  refine wr_SN (As := [.ref h_soFar, .int 0, .int (-1)]) (rest := []) (wc := [(h_soFar, .inl (cI, 81, .inl h_soFar_f))]) (wr := [(h, .inr (4, [.ref h_soFar, .ref h_waitingPlus, .ref h_lefts, .ref h_rights, .ref h_totals, .ref h_places, .int 0, .int 0, .int 1])), (h_waitingPlus, .inl (cI, 81, .inl h_waitingPlus_f)), (h_lefts, .inl (cI, 80, .inl h_lefts_f)), (h_rights, .inl (cI, 80, .inl h_rights_f)), (h_totals, .inl (cI, 80, .inl h_totals_f)), (h_places, .inl (cI, 80, .inl h_places_f)), (p1, .inr (1, [.ref p1_signs, .int p1_length])), (p1_signs, .inl (cC, 80, .inl p1_signs_f)), (p2, .inr (5, [.ref p2_cells, .int p2_size])), (p2_cells, .inl (cI, 64, .inl p2_cells_f))]) hcf (kX9_put l D cI cC cT h_soFar 81 h_soFar_f 0 (-1) _ z_1 hz) ⟨va_cnB (host := RX9) 3 hts gX5_readFrom_X9_put_n41 rfl rfl rfl hE.2.2.2.2.1 hini_X9 (by decide +kernel) ⟨Nat.le_of_ble_eq_true rfl, Nat.le_of_ble_eq_true rfl⟩, hst_X9_put, trivial⟩ hE hP hD hS hA [1] [0, 2, 3, 4, 5, 6, 7, 8, 9, 10] (hP.sub [1] rfl) (hD.sub [1] (by decide) rfl) rfl rfl (by decide) (by decide) rfl hl.1 rfl (Nat.le_of_ble_eq_true rfl) dX5_readFrom_21 ⟨Nat.le_of_ble_eq_true rfl, Nat.le_of_ble_eq_true rfl⟩ (fun u H locs hP hD hS => ?_)
  have hP : va_P D vwCl [(h, .inr (4, [.ref h_soFar, .ref h_waitingPlus, .ref h_lefts, .ref h_rights, .ref h_totals, .ref h_places, .int 0, .int 0, .int 1])), (h_waitingPlus, .inl (cI, 81, .inl h_waitingPlus_f)), (h_lefts, .inl (cI, 80, .inl h_lefts_f)), (h_rights, .inl (cI, 80, .inl h_rights_f)), (h_totals, .inl (cI, 80, .inl h_totals_f)), (h_places, .inl (cI, 80, .inl h_places_f)), (p1, .inr (1, [.ref p1_signs, .int p1_length])), (p1_signs, .inl (cC, 80, .inl p1_signs_f)), (p2, .inr (5, [.ref p2_cells, .int p2_size])), (p2_cells, .inl (cI, 64, .inl p2_cells_f)), (h_soFar, .inl (cI, 81, .inl z_1))] H := hP
  have hD : va_D A [(h, .inr (4, [.ref h_soFar, .ref h_waitingPlus, .ref h_lefts, .ref h_rights, .ref h_totals, .ref h_places, .int 0, .int 0, .int 1])), (h_waitingPlus, .inl (cI, 81, .inl h_waitingPlus_f)), (h_lefts, .inl (cI, 80, .inl h_lefts_f)), (h_rights, .inl (cI, 80, .inl h_rights_f)), (h_totals, .inl (cI, 80, .inl h_totals_f)), (h_places, .inl (cI, 80, .inl h_places_f)), (p1, .inr (1, [.ref p1_signs, .int p1_length])), (p1_signs, .inl (cC, 80, .inl p1_signs_f)), (p2, .inr (5, [.ref p2_cells, .int p2_size])), (p2_cells, .inl (cI, 64, .inl p2_cells_f)), (h_soFar, .inl (cI, 81, .inl z_1))] := hD
  refine W.eq (g2 := F0 m 24 ls []) rfl ?_
  refine lv_iconst (v := 0) hx hb dX5_readFrom_24 (by decide) ?_
  refine lv_istore_n (lv' := [(3, .int 0), (0, .ref h), (1, .ref p1), (2, .ref p2)]) hx hb dX5_readFrom_25 rfl hl (by decide) rfl (fun ls hl => ?_)
  have E_26_73_13 : ∀ (x3_2 : Int32) (y_3 : Int32) (y_4 : Int32) (y_5 : Int32) (f_6 : Nat → Int32) (f_7 : Nat → Int32) (f_8 : Nat → Int32) (f_9 : Nat → Int32) (f_10 : Nat → Int32) (f_11 : Nat → Int32) (H : Heap) (locs : List Loc) (ls : Array Slot), (if y_5 = 0 then (if y_3 ≤ 0 then (some ((-4), f_10, f_11, f_6, f_7, f_8, f_9, y_3, y_4, y_5)) else (bd (mX1_length p1_length) (fun z_13 => some (z_13, f_10, f_11, f_6, f_7, f_8, f_9, y_3, y_4, y_5)))) else (bd (mX1_length p1_length) (fun z_12 => some (z_12, f_10, f_11, f_6, f_7, f_8, f_9, y_3, y_4, y_5)))) = some z → va_P D vwCl [(h, .inr (4, [.ref h_soFar, .ref h_waitingPlus, .ref h_lefts, .ref h_rights, .ref h_totals, .ref h_places, .int y_3, .int y_4, .int y_5])), (h_waitingPlus, .inl (cI, 81, .inl f_11)), (h_lefts, .inl (cI, 80, .inl f_6)), (h_rights, .inl (cI, 80, .inl f_7)), (h_totals, .inl (cI, 80, .inl f_8)), (h_places, .inl (cI, 80, .inl f_9)), (p1, .inr (1, [.ref p1_signs, .int p1_length])), (p1_signs, .inl (cC, 80, .inl p1_signs_f)), (p2, .inr (5, [.ref p2_cells, .int p2_size])), (p2_cells, .inl (cI, 64, .inl p2_cells_f)), (h_soFar, .inl (cI, 81, .inl f_10))] H → va_D A [(h, .inr (4, [.ref h_soFar, .ref h_waitingPlus, .ref h_lefts, .ref h_rights, .ref h_totals, .ref h_places, .int y_3, .int y_4, .int y_5])), (h_waitingPlus, .inl (cI, 81, .inl f_11)), (h_lefts, .inl (cI, 80, .inl f_6)), (h_rights, .inl (cI, 80, .inl f_7)), (h_totals, .inl (cI, 80, .inl f_8)), (h_places, .inl (cI, 80, .inl f_9)), (p1, .inr (1, [.ref p1_signs, .int p1_length])), (p1_signs, .inl (cC, 80, .inl p1_signs_f)), (p2, .inr (5, [.ref p2_cells, .int p2_size])), (p2_cells, .inl (cI, 64, .inl p2_cells_f)), (h_soFar, .inl (cI, 81, .inl f_10))] → va_S A s.heap H locs → lv_has ls 5 [(3, .int x3_2), (0, .ref h), (1, .ref p1), (2, .ref p2)] → W p l e (headSpec wsX5_readFrom ({ frames := 3, cells := 0, slots := 0, locals := 72 } : Room)).room s m (([.ref h, .ref p1, .ref p2] : List Value).toArray) below meth c H locs 0 0 (MQ below (wQ D (some (.int z.1)) A (fun (u : Unit) => [(h, .inr (4, [.ref h_soFar, .ref h_waitingPlus, .ref h_lefts, .ref h_rights, .ref h_totals, .ref h_places, .int z.2.2.2.2.2.2.2.1, .int z.2.2.2.2.2.2.2.2.1, .int z.2.2.2.2.2.2.2.2.2])), (h_soFar, .inl (cI, 81, .inl z.2.1)), (h_waitingPlus, .inl (cI, 81, .inl z.2.2.1)), (h_lefts, .inl (cI, 80, .inl z.2.2.2.1)), (h_rights, .inl (cI, 80, .inl z.2.2.2.2.1)), (h_totals, .inl (cI, 80, .inl z.2.2.2.2.2.1)), (h_places, .inl (cI, 80, .inl z.2.2.2.2.2.2.1)), (p1, .inr (1, [.ref p1_signs, .int p1_length])), (p1_signs, .inl (cC, 80, .inl p1_signs_f)), (p2, .inr (5, [.ref p2_cells, .int p2_size])), (p2_cells, .inl (cI, 64, .inl p2_cells_f))])) (([.ref h, .ref p1, .ref p2] : List Value).toArray) s 0 0 A) (F0 m 73 ls []) := by
    intro x3_2 y_3 y_4 y_5 f_6 f_7 f_8 f_9 f_10 f_11 H locs ls h0 hP hD hS hl
    refine lv_aload_n hx hb dX5_readFrom_73 rfl (lv_at hl 1 rfl) ?_
    refine va_get (D := D) (ci := 4) (v := .int y_5) (C := RX5) (T := TX5) (N := 9) hx hb hts hi_X5 hown hK hP 0 rfl rfl 8 (by decide) hf_37 (fun _ h9 => h9) rfl dX5_readFrom_74 ?_
    refine lv_if_ne (tgt := 87) hx hb dX5_readFrom_77 (by decide) (fun c9 => ?_) (fun c9 => ?_)
    · have h0 := it_f c9 h0
      refine lv_aload_n hx hb dX5_readFrom_87 rfl (lv_at hl 2 rfl) ?_
      obtain ⟨z_12, hz, h0⟩ := bd_ok h0
      refine ro_V (As := []) (rest := []) (wc := [(p1, .inr (1, [.ref p1_signs, .int p1_length])), (p1_signs, .inl (cC, 80, .inl p1_signs_f))]) hcf (kX1_length l D cI cC cT p1 p1_signs p1_signs_f p1_length z_12 hz) (cwV 0 hts gX5_readFrom_X1_length rfl rfl rfl (by decide +kernel) ⟨Nat.le_of_ble_eq_true rfl, Nat.le_of_ble_eq_true rfl⟩) hE (hP.sub [6, 7] rfl) (va_recv hK hP (ci := 1) (q0 := 6) rfl rfl) rfl hl.1 rfl (Nat.le_of_ble_eq_true rfl) dX5_readFrom_88 ⟨Nat.le_of_ble_eq_true rfl, Nat.le_of_ble_eq_true rfl⟩ ?_
      refine W.eq (g2 := F0 m 91 ls [.int z_12]) rfl ?_
      refine lv_goto (tgt := 96) hx hb dX5_readFrom_91 (by decide) ?_
      have e0 := Option.some.inj h0
      subst e0
      exact W.iret (v := z_12) hx hb hr (fun t ht hW => wr_end () ht (hP.sub [0, 10, 1, 2, 3, 4, 5, 6, 7, 8, 9] rfl) (hD.sub [0, 10, 1, 2, 3, 4, 5, 6, 7, 8, 9] (by decide) rfl) hS) hS.2.2 dX5_readFrom_96
    · have h0 := it_t c9 h0
      refine lv_aload_n hx hb dX5_readFrom_80 rfl (lv_at hl 1 rfl) ?_
      refine va_get (D := D) (ci := 4) (v := .int y_3) (C := RX5) (T := TX5) (N := 9) hx hb hts hi_X5 hown hK hP 0 rfl rfl 6 (by decide) hf_30 (fun _ h9 => h9) rfl dX5_readFrom_81 ?_
      refine lv_if_le (tgt := 94) hx hb dX5_readFrom_84 (by decide) (fun c9 => ?_) (fun c9 => ?_)
      · have h0 := it_t c9 h0
        refine lv_bipush (v := (-4)) hx hb dX5_readFrom_94 (by decide) ?_
        have e0 := Option.some.inj h0
        subst e0
        exact W.iret (v := (-4)) hx hb hr (fun t ht hW => wr_end () ht (hP.sub [0, 10, 1, 2, 3, 4, 5, 6, 7, 8, 9] rfl) (hD.sub [0, 10, 1, 2, 3, 4, 5, 6, 7, 8, 9] (by decide) rfl) hS) hS.2.2 dX5_readFrom_96
      · have h0 := it_f c9 h0
        refine lv_aload_n hx hb dX5_readFrom_87 rfl (lv_at hl 2 rfl) ?_
        obtain ⟨z_13, hz, h0⟩ := bd_ok h0
        refine ro_V (As := []) (rest := []) (wc := [(p1, .inr (1, [.ref p1_signs, .int p1_length])), (p1_signs, .inl (cC, 80, .inl p1_signs_f))]) hcf (kX1_length l D cI cC cT p1 p1_signs p1_signs_f p1_length z_13 hz) (cwV 0 hts gX5_readFrom_X1_length rfl rfl rfl (by decide +kernel) ⟨Nat.le_of_ble_eq_true rfl, Nat.le_of_ble_eq_true rfl⟩) hE (hP.sub [6, 7] rfl) (va_recv hK hP (ci := 1) (q0 := 6) rfl rfl) rfl hl.1 rfl (Nat.le_of_ble_eq_true rfl) dX5_readFrom_88 ⟨Nat.le_of_ble_eq_true rfl, Nat.le_of_ble_eq_true rfl⟩ ?_
        refine W.eq (g2 := F0 m 91 ls [.int z_13]) rfl ?_
        refine lv_goto (tgt := 96) hx hb dX5_readFrom_91 (by decide) ?_
        have e0 := Option.some.inj h0
        subst e0
        exact W.iret (v := z_13) hx hb hr (fun t ht hW => wr_end () ht (hP.sub [0, 10, 1, 2, 3, 4, 5, 6, 7, 8, 9] rfl) (hD.sub [0, 10, 1, 2, 3, 4, 5, 6, 7, 8, 9] (by decide) rfl) hS) hS.2.2 dX5_readFrom_96
  have L_26_27 : ∀ (F26 : Nat) (x3_15 : Int32) (y_16 : Int32) (y_17 : Int32) (y_18 : Int32) (f_19 : Nat → Int32) (f_20 : Nat → Int32) (f_21 : Nat → Int32) (f_22 : Nat → Int32) (f_23 : Nat → Int32) (f_24 : Nat → Int32) (H : Heap) (locs : List Loc) (ls : Array Slot), mX5_readFrom_L26 p1_signs_f p1_length p2_cells_f p2_size (fun (x3_2 : Int32) (y_3 : Int32) (y_4 : Int32) (y_5 : Int32) (f_6 : Nat → Int32) (f_7 : Nat → Int32) (f_8 : Nat → Int32) (f_9 : Nat → Int32) (f_10 : Nat → Int32) (f_11 : Nat → Int32) => if y_5 = 0 then (if y_3 ≤ 0 then (some ((-4), f_10, f_11, f_6, f_7, f_8, f_9, y_3, y_4, y_5)) else (bd (mX1_length p1_length) (fun z_13 => some (z_13, f_10, f_11, f_6, f_7, f_8, f_9, y_3, y_4, y_5)))) else (bd (mX1_length p1_length) (fun z_12 => some (z_12, f_10, f_11, f_6, f_7, f_8, f_9, y_3, y_4, y_5)))) F26 x3_15 y_16 y_17 y_18 f_19 f_20 f_21 f_22 f_23 f_24 = some z → va_P D vwCl [(h, .inr (4, [.ref h_soFar, .ref h_waitingPlus, .ref h_lefts, .ref h_rights, .ref h_totals, .ref h_places, .int y_16, .int y_17, .int y_18])), (h_waitingPlus, .inl (cI, 81, .inl f_24)), (h_lefts, .inl (cI, 80, .inl f_19)), (h_rights, .inl (cI, 80, .inl f_20)), (h_totals, .inl (cI, 80, .inl f_21)), (h_places, .inl (cI, 80, .inl f_22)), (p1, .inr (1, [.ref p1_signs, .int p1_length])), (p1_signs, .inl (cC, 80, .inl p1_signs_f)), (p2, .inr (5, [.ref p2_cells, .int p2_size])), (p2_cells, .inl (cI, 64, .inl p2_cells_f)), (h_soFar, .inl (cI, 81, .inl f_23))] H → va_D A [(h, .inr (4, [.ref h_soFar, .ref h_waitingPlus, .ref h_lefts, .ref h_rights, .ref h_totals, .ref h_places, .int y_16, .int y_17, .int y_18])), (h_waitingPlus, .inl (cI, 81, .inl f_24)), (h_lefts, .inl (cI, 80, .inl f_19)), (h_rights, .inl (cI, 80, .inl f_20)), (h_totals, .inl (cI, 80, .inl f_21)), (h_places, .inl (cI, 80, .inl f_22)), (p1, .inr (1, [.ref p1_signs, .int p1_length])), (p1_signs, .inl (cC, 80, .inl p1_signs_f)), (p2, .inr (5, [.ref p2_cells, .int p2_size])), (p2_cells, .inl (cI, 64, .inl p2_cells_f)), (h_soFar, .inl (cI, 81, .inl f_23))] → va_S A s.heap H locs → lv_has ls 5 [(3, .int x3_15), (0, .ref h), (1, .ref p1), (2, .ref p2)] → W p l e (headSpec wsX5_readFrom ({ frames := 3, cells := 0, slots := 0, locals := 72 } : Room)).room s m (([.ref h, .ref p1, .ref p2] : List Value).toArray) below meth c H locs 0 0 (MQ below (wQ D (some (.int z.1)) A (fun (u : Unit) => [(h, .inr (4, [.ref h_soFar, .ref h_waitingPlus, .ref h_lefts, .ref h_rights, .ref h_totals, .ref h_places, .int z.2.2.2.2.2.2.2.1, .int z.2.2.2.2.2.2.2.2.1, .int z.2.2.2.2.2.2.2.2.2])), (h_soFar, .inl (cI, 81, .inl z.2.1)), (h_waitingPlus, .inl (cI, 81, .inl z.2.2.1)), (h_lefts, .inl (cI, 80, .inl z.2.2.2.1)), (h_rights, .inl (cI, 80, .inl z.2.2.2.2.1)), (h_totals, .inl (cI, 80, .inl z.2.2.2.2.2.1)), (h_places, .inl (cI, 80, .inl z.2.2.2.2.2.2.1)), (p1, .inr (1, [.ref p1_signs, .int p1_length])), (p1_signs, .inl (cC, 80, .inl p1_signs_f)), (p2, .inr (5, [.ref p2_cells, .int p2_size])), (p2_cells, .inl (cI, 64, .inl p2_cells_f))])) (([.ref h, .ref p1, .ref p2] : List Value).toArray) s 0 0 A) (F0 m 26 ls []) := by
    intro F26
    induction F26 with
    | zero => intro x3_15 y_16 y_17 y_18 f_19 f_20 f_21 f_22 f_23 f_24 H locs ls h0 hP hD hS hl; cases h0
    | succ F26 ih26 =>
      intro x3_15 y_16 y_17 y_18 f_19 f_20 f_21 f_22 f_23 f_24 H locs ls h0 hP hD hS hl
      rw [mX5_readFrom_L26] at h0
      refine lv_iload_n hx hb dX5_readFrom_26 rfl (lv_at hl 0 rfl) ?_
      refine lv_aload_n hx hb dX5_readFrom_27 rfl (lv_at hl 2 rfl) ?_
      obtain ⟨z_25, hz, h0⟩ := bd_ok h0
      refine ro_V (As := []) (rest := [.int x3_15]) (wc := [(p1, .inr (1, [.ref p1_signs, .int p1_length])), (p1_signs, .inl (cC, 80, .inl p1_signs_f))]) hcf (kX1_length l D cI cC cT p1 p1_signs p1_signs_f p1_length z_25 hz) (cwV 0 hts gX5_readFrom_X1_length rfl rfl rfl (by decide +kernel) ⟨Nat.le_of_ble_eq_true rfl, Nat.le_of_ble_eq_true rfl⟩) hE (hP.sub [6, 7] rfl) (va_recv hK hP (ci := 1) (q0 := 6) rfl rfl) rfl hl.1 rfl (Nat.le_of_ble_eq_true rfl) dX5_readFrom_28 ⟨Nat.le_of_ble_eq_true rfl, Nat.le_of_ble_eq_true rfl⟩ ?_
      refine W.eq (g2 := F0 m 31 ls [.int z_25, .int x3_15]) rfl ?_
      refine lv_icmp_ge (tgt := 73) hx hb dX5_readFrom_31 (by decide) (fun c9 => ?_) (fun c9 => ?_)
      · have h0 := it_t c9 h0
        exact E_26_73_13 x3_15 y_16 y_17 y_18 f_19 f_20 f_21 f_22 f_23 f_24 _ _ ls h0 hP hD hS hl
      · have h0 := it_f c9 h0
        refine lv_aload_n hx hb dX5_readFrom_34 rfl (lv_at hl 1 rfl) ?_
        refine va_get (D := D) (ci := 4) (v := .int y_18) (C := RX5) (T := TX5) (N := 9) hx hb hts hi_X5 hown hK hP 0 rfl rfl 8 (by decide) hf_37 (fun _ h9 => h9) rfl dX5_readFrom_35 ?_
        refine lv_if_eq (tgt := 51) hx hb dX5_readFrom_38 (by decide) (fun c9 => ?_) (fun c9 => ?_)
        · have h0 := it_t c9 h0
          refine lv_aload_n hx hb dX5_readFrom_51 rfl (lv_at hl 1 rfl) ?_
          refine lv_aload_n hx hb dX5_readFrom_52 rfl (lv_at hl 2 rfl) ?_
          refine lv_iload_n hx hb dX5_readFrom_53 rfl (lv_at hl 0 rfl) ?_
          refine lv_aload_n hx hb dX5_readFrom_54 rfl (lv_at hl 3 rfl) ?_
          obtain ⟨z_26, hz, h0⟩ := bd_ok h0
          refine wr_V (As := [.ref p1, .int x3_15, .ref p2]) (rest := []) (wc := [(h, .inr (4, [.ref h_soFar, .ref h_waitingPlus, .ref h_lefts, .ref h_rights, .ref h_totals, .ref h_places, .int y_16, .int y_17, .int y_18])), (h_soFar, .inl (cI, 81, .inl f_23)), (h_waitingPlus, .inl (cI, 81, .inl f_24)), (h_lefts, .inl (cI, 80, .inl f_19)), (h_rights, .inl (cI, 80, .inl f_20)), (h_totals, .inl (cI, 80, .inl f_21)), (h_places, .inl (cI, 80, .inl f_22)), (p1, .inr (1, [.ref p1_signs, .int p1_length])), (p1_signs, .inl (cC, 80, .inl p1_signs_f)), (p2, .inr (5, [.ref p2_cells, .int p2_size])), (p2_cells, .inl (cI, 64, .inl p2_cells_f))]) (wr := []) hcf (kX5_takeJoint l D cI cC cT h h_soFar h_waitingPlus h_lefts h_rights h_totals h_places p1 p1_signs p2 p2_cells f_23 f_24 f_19 f_20 f_21 f_22 y_16 y_17 y_18 p1_signs_f p1_length p2_cells_f p2_size x3_15 _ z_26 hz) (cwV 3 hts gX5_readFrom_X5_takeJoint rfl rfl rfl (by decide +kernel) ⟨Nat.le_of_ble_eq_true rfl, Nat.le_of_ble_eq_true rfl⟩) hE hP hD hS hA [0, 10, 1, 2, 3, 4, 5, 6, 7, 8, 9] [] (hP.sub [0, 10, 1, 2, 3, 4, 5, 6, 7, 8, 9] rfl) (hD.sub [0, 10, 1, 2, 3, 4, 5, 6, 7, 8, 9] (by decide) rfl) (va_recv hK hP (ci := 4) (q0 := 0) rfl rfl) rfl rfl (by decide) (by decide) rfl hl.1 rfl (Nat.le_of_ble_eq_true rfl) dX5_readFrom_55 ⟨Nat.le_of_ble_eq_true rfl, Nat.le_of_ble_eq_true rfl⟩ (fun u H locs hP hD hS => ?_)
          have hP : va_P D vwCl [(h, .inr (4, [.ref h_soFar, .ref h_waitingPlus, .ref h_lefts, .ref h_rights, .ref h_totals, .ref h_places, .int z_26.2.2.2.2.2.2.2.1, .int z_26.2.2.2.2.2.2.2.2.1, .int z_26.2.2.2.2.2.2.2.2.2])), (h_soFar, .inl (cI, 81, .inl z_26.2.1)), (h_waitingPlus, .inl (cI, 81, .inl z_26.2.2.1)), (h_lefts, .inl (cI, 80, .inl z_26.2.2.2.1)), (h_rights, .inl (cI, 80, .inl z_26.2.2.2.2.1)), (h_totals, .inl (cI, 80, .inl z_26.2.2.2.2.2.1)), (h_places, .inl (cI, 80, .inl z_26.2.2.2.2.2.2.1)), (p1, .inr (1, [.ref p1_signs, .int p1_length])), (p1_signs, .inl (cC, 80, .inl p1_signs_f)), (p2, .inr (5, [.ref p2_cells, .int p2_size])), (p2_cells, .inl (cI, 64, .inl p2_cells_f))] H := hP
          have hD : va_D A [(h, .inr (4, [.ref h_soFar, .ref h_waitingPlus, .ref h_lefts, .ref h_rights, .ref h_totals, .ref h_places, .int z_26.2.2.2.2.2.2.2.1, .int z_26.2.2.2.2.2.2.2.2.1, .int z_26.2.2.2.2.2.2.2.2.2])), (h_soFar, .inl (cI, 81, .inl z_26.2.1)), (h_waitingPlus, .inl (cI, 81, .inl z_26.2.2.1)), (h_lefts, .inl (cI, 80, .inl z_26.2.2.2.1)), (h_rights, .inl (cI, 80, .inl z_26.2.2.2.2.1)), (h_totals, .inl (cI, 80, .inl z_26.2.2.2.2.2.1)), (h_places, .inl (cI, 80, .inl z_26.2.2.2.2.2.2.1)), (p1, .inr (1, [.ref p1_signs, .int p1_length])), (p1_signs, .inl (cC, 80, .inl p1_signs_f)), (p2, .inr (5, [.ref p2_cells, .int p2_size])), (p2_cells, .inl (cI, 64, .inl p2_cells_f))] := hD
          refine W.eq (g2 := F0 m 58 ls [.int z_26.1]) rfl ?_
          refine lv_istore (lv' := [(4, .int z_26.1), (3, .int x3_15), (0, .ref h), (1, .ref p1), (2, .ref p2)]) hx hb dX5_readFrom_58 hl (by decide) rfl (fun ls hl => ?_)
          refine lv_iload hx hb dX5_readFrom_60 (lv_at hl 0 rfl) ?_
          refine lv_if_ne (tgt := 67) hx hb dX5_readFrom_62 (by decide) (fun c9 => ?_) (fun c9 => ?_)
          · have h0 := it_f c9 h0
            refine lv_iinc (v := (x3_15 + 1)) (lv' := [(3, .int (x3_15 + 1)), (4, .int z_26.1), (0, .ref h), (1, .ref p1), (2, .ref p2)]) hx hb dX5_readFrom_67 hl (k := 1) rfl rfl (by decide) rfl (fun ls hl => ?_)
            refine lv_goto (tgt := 26) hx hb dX5_readFrom_70 (by decide) ?_
            exact ih26 (x3_15 + 1) z_26.2.2.2.2.2.2.2.1 z_26.2.2.2.2.2.2.2.2.1 z_26.2.2.2.2.2.2.2.2.2 z_26.2.2.2.1 z_26.2.2.2.2.1 z_26.2.2.2.2.2.1 z_26.2.2.2.2.2.2.1 z_26.2.1 z_26.2.2.1 _ _ ls h0 (hP.sub [0, 2, 3, 4, 5, 6, 7, 8, 9, 10, 1] rfl) (hD.sub [0, 2, 3, 4, 5, 6, 7, 8, 9, 10, 1] (by decide) rfl) hS (lv_sub hl [0, 2, 3, 4] rfl)
          · have h0 := it_t c9 h0
            refine lv_iload_n hx hb dX5_readFrom_65 rfl (lv_at hl 1 rfl) ?_
            have e0 := Option.some.inj h0
            subst e0
            exact W.iret (v := x3_15) hx hb hr (fun t ht hW => wr_end () ht hP hD hS) hS.2.2 dX5_readFrom_66
        · have h0 := it_f c9 h0
          refine lv_aload_n hx hb dX5_readFrom_41 rfl (lv_at hl 1 rfl) ?_
          refine lv_aload_n hx hb dX5_readFrom_42 rfl (lv_at hl 2 rfl) ?_
          refine lv_iload_n hx hb dX5_readFrom_43 rfl (lv_at hl 0 rfl) ?_
          refine lv_aload_n hx hb dX5_readFrom_44 rfl (lv_at hl 3 rfl) ?_
          obtain ⟨z_27, hz, h0⟩ := bd_ok h0
          refine wr_V (As := [.ref p1, .int x3_15, .ref p2]) (rest := []) (wc := [(h, .inr (4, [.ref h_soFar, .ref h_waitingPlus, .ref h_lefts, .ref h_rights, .ref h_totals, .ref h_places, .int y_16, .int y_17, .int y_18])), (h_soFar, .inl (cI, 81, .inl f_23)), (h_waitingPlus, .inl (cI, 81, .inl f_24)), (h_lefts, .inl (cI, 80, .inl f_19)), (h_rights, .inl (cI, 80, .inl f_20)), (h_totals, .inl (cI, 80, .inl f_21)), (h_places, .inl (cI, 80, .inl f_22)), (p1, .inr (1, [.ref p1_signs, .int p1_length])), (p1_signs, .inl (cC, 80, .inl p1_signs_f)), (p2, .inr (5, [.ref p2_cells, .int p2_size])), (p2_cells, .inl (cI, 64, .inl p2_cells_f))]) (wr := []) hcf (kX5_takeThing l D cI cC cT h h_soFar h_waitingPlus h_lefts h_rights h_totals h_places p1 p1_signs p2 p2_cells f_23 f_24 f_19 f_20 f_21 f_22 y_16 y_17 y_18 p1_signs_f p1_length p2_cells_f p2_size x3_15 _ z_27 hz) (cwV 3 hts gX5_readFrom_X5_takeThing rfl rfl rfl (by decide +kernel) ⟨Nat.le_of_ble_eq_true rfl, Nat.le_of_ble_eq_true rfl⟩) hE hP hD hS hA [0, 10, 1, 2, 3, 4, 5, 6, 7, 8, 9] [] (hP.sub [0, 10, 1, 2, 3, 4, 5, 6, 7, 8, 9] rfl) (hD.sub [0, 10, 1, 2, 3, 4, 5, 6, 7, 8, 9] (by decide) rfl) (va_recv hK hP (ci := 4) (q0 := 0) rfl rfl) rfl rfl (by decide) (by decide) rfl hl.1 rfl (Nat.le_of_ble_eq_true rfl) dX5_readFrom_45 ⟨Nat.le_of_ble_eq_true rfl, Nat.le_of_ble_eq_true rfl⟩ (fun u H locs hP hD hS => ?_)
          have hP : va_P D vwCl [(h, .inr (4, [.ref h_soFar, .ref h_waitingPlus, .ref h_lefts, .ref h_rights, .ref h_totals, .ref h_places, .int z_27.2.2.2.2.2.2.1, .int z_27.2.2.2.2.2.2.2.1, .int z_27.2.2.2.2.2.2.2.2])), (h_soFar, .inl (cI, 81, .inl z_27.2.1)), (h_waitingPlus, .inl (cI, 81, .inl f_24)), (h_lefts, .inl (cI, 80, .inl z_27.2.2.1)), (h_rights, .inl (cI, 80, .inl z_27.2.2.2.1)), (h_totals, .inl (cI, 80, .inl z_27.2.2.2.2.1)), (h_places, .inl (cI, 80, .inl z_27.2.2.2.2.2.1)), (p1, .inr (1, [.ref p1_signs, .int p1_length])), (p1_signs, .inl (cC, 80, .inl p1_signs_f)), (p2, .inr (5, [.ref p2_cells, .int p2_size])), (p2_cells, .inl (cI, 64, .inl p2_cells_f))] H := hP
          have hD : va_D A [(h, .inr (4, [.ref h_soFar, .ref h_waitingPlus, .ref h_lefts, .ref h_rights, .ref h_totals, .ref h_places, .int z_27.2.2.2.2.2.2.1, .int z_27.2.2.2.2.2.2.2.1, .int z_27.2.2.2.2.2.2.2.2])), (h_soFar, .inl (cI, 81, .inl z_27.2.1)), (h_waitingPlus, .inl (cI, 81, .inl f_24)), (h_lefts, .inl (cI, 80, .inl z_27.2.2.1)), (h_rights, .inl (cI, 80, .inl z_27.2.2.2.1)), (h_totals, .inl (cI, 80, .inl z_27.2.2.2.2.1)), (h_places, .inl (cI, 80, .inl z_27.2.2.2.2.2.1)), (p1, .inr (1, [.ref p1_signs, .int p1_length])), (p1_signs, .inl (cC, 80, .inl p1_signs_f)), (p2, .inr (5, [.ref p2_cells, .int p2_size])), (p2_cells, .inl (cI, 64, .inl p2_cells_f))] := hD
          refine W.eq (g2 := F0 m 48 ls [.int z_27.1]) rfl ?_
          refine lv_goto (tgt := 58) hx hb dX5_readFrom_48 (by decide) ?_
          refine lv_istore (lv' := [(4, .int z_27.1), (3, .int x3_15), (0, .ref h), (1, .ref p1), (2, .ref p2)]) hx hb dX5_readFrom_58 hl (by decide) rfl (fun ls hl => ?_)
          refine lv_iload hx hb dX5_readFrom_60 (lv_at hl 0 rfl) ?_
          refine lv_if_ne (tgt := 67) hx hb dX5_readFrom_62 (by decide) (fun c9 => ?_) (fun c9 => ?_)
          · have h0 := it_f c9 h0
            refine lv_iinc (v := (x3_15 + 1)) (lv' := [(3, .int (x3_15 + 1)), (4, .int z_27.1), (0, .ref h), (1, .ref p1), (2, .ref p2)]) hx hb dX5_readFrom_67 hl (k := 1) rfl rfl (by decide) rfl (fun ls hl => ?_)
            refine lv_goto (tgt := 26) hx hb dX5_readFrom_70 (by decide) ?_
            exact ih26 (x3_15 + 1) z_27.2.2.2.2.2.2.1 z_27.2.2.2.2.2.2.2.1 z_27.2.2.2.2.2.2.2.2 z_27.2.2.1 z_27.2.2.2.1 z_27.2.2.2.2.1 z_27.2.2.2.2.2.1 z_27.2.1 f_24 _ _ ls h0 (hP.sub [0, 2, 3, 4, 5, 6, 7, 8, 9, 10, 1] rfl) (hD.sub [0, 2, 3, 4, 5, 6, 7, 8, 9, 10, 1] (by decide) rfl) hS (lv_sub hl [0, 2, 3, 4] rfl)
          · have h0 := it_t c9 h0
            refine lv_iload_n hx hb dX5_readFrom_65 rfl (lv_at hl 1 rfl) ?_
            have e0 := Option.some.inj h0
            subst e0
            exact W.iret (v := x3_15) hx hb hr (fun t ht hW => wr_end () ht hP hD hS) hS.2.2 dX5_readFrom_66
  exact L_26_27 FU 0 0 0 1 h_lefts_f h_rights_f h_totals_f h_places_f z_1 h_waitingPlus_f _ _ ls h0 hP hD hS hl
noncomputable def mX5_stepAt (h_lefts_f : Nat → Int32) (h_rights_f : Nat → Int32) (h_totals_f : Nat → Int32) (h_places_f : Nat → Int32) (h_steps : Int32) (p1 : Int32) (p2 : Int32) : Option (Int32) :=
  if p1 < 0 then (some ((-4))) else (if p1 < h_steps then (if p2 = 0 then (bd (mX9_get 80 h_lefts_f p1) (fun z_2 => some (z_2))) else (if p2 = 1 then (bd (mX9_get 80 h_rights_f p1) (fun z_4 => some (z_4))) else (if p2 = 2 then (bd (mX9_get 80 h_totals_f p1) (fun z_6 => some (z_6))) else (bd (mX9_get 80 h_places_f p1) (fun z_7 => some (z_7)))))) else (some ((-4))))
set_option maxHeartbeats 8000000 in
set_option maxRecDepth 100000 in
theorem kX5_stepAt (l : Launch) (D : va_G) (cI cC cT : ClassId) (h h_soFar h_waitingPlus h_lefts h_rights h_totals h_places : Nat) (h_soFar_f : Nat → Int32) (h_waitingPlus_f : Nat → Int32) (h_lefts_f : Nat → Int32) (h_rights_f : Nat → Int32) (h_totals_f : Nat → Int32) (h_places_f : Nat → Int32) (h_depth : Int32) (h_steps : Int32) (h_wantsThing : Int32) (p1 : Int32) (p2 : Int32) (z : Int32) (h0 : mX5_stepAt h_lefts_f h_rights_f h_totals_f h_places_f h_steps p1 p2 = some z) : Met l yX5_stepAt wsX5_stepAt ({ frames := 1, cells := 0, slots := 0, locals := 21 } : Room) (va_Pc [.ref h, .int p1, .int p2] (rP D cI cC cT [(h, .inr (4, [.ref h_soFar, .ref h_waitingPlus, .ref h_lefts, .ref h_rights, .ref h_totals, .ref h_places, .int h_depth, .int h_steps, .int h_wantsThing])), (h_soFar, .inl (cI, 81, .inl h_soFar_f)), (h_waitingPlus, .inl (cI, 81, .inl h_waitingPlus_f)), (h_lefts, .inl (cI, 80, .inl h_lefts_f)), (h_rights, .inl (cI, 80, .inl h_rights_f)), (h_totals, .inl (cI, 80, .inl h_totals_f)), (h_places, .inl (cI, 80, .inl h_places_f))])) (rQ (some (.int z))) 0 0 (fun _ => False) := by
  refine Met.ofW (cc := cX5_stepAt) (maxL := 3) (ret := (some .int)) (by decide) rfl ?_
  intro p e s m args below meth c s₁ B hml hv
  obtain ⟨rfl, hP, hE⟩ := hv
  have hx := B.exec
  have hb := B.bytes
  have hr := B.returns
  have hts := atoms_spec (ws := wsX5_stepAt) B.pre
  have hown : s.vm.findClass RX5 = some m.cls := findClass_of_methodNamed B.named
  have hlocks := B.notSynchronized
  have hK := hE.1
  have hcf : CallFix p m c cX5_stepAt 3 s ([.ref h, .int p1, .int p2] : List Value).toArray wsX5_stepAt RX5 := ⟨hx, hb, hml, hown, hts⟩
  have hP : va_P D vwCl [(h, .inr (4, [.ref h_soFar, .ref h_waitingPlus, .ref h_lefts, .ref h_rights, .ref h_totals, .ref h_places, .int h_depth, .int h_steps, .int h_wantsThing])), (h_soFar, .inl (cI, 81, .inl h_soFar_f)), (h_waitingPlus, .inl (cI, 81, .inl h_waitingPlus_f)), (h_lefts, .inl (cI, 80, .inl h_lefts_f)), (h_rights, .inl (cI, 80, .inl h_rights_f)), (h_totals, .inl (cI, 80, .inl h_totals_f)), (h_places, .inl (cI, 80, .inl h_places_f))] s.heap := hP
  have hf_34 := hts (.fieldLink RX5 34 "CrookedSums$SumText" "steps" "I") (by decide +kernel)
  have hi_X5 := (show ∀ w ∈ u_ws RX5 TX5 9, w ∈ wsX5_stepAt from by decide +kernel)
  have hf_18 := hts (.fieldLink RX5 18 "CrookedSums$SumText" "lefts" "[I") (by decide +kernel)
  have hini_X9 := hts (.initialized RX9) (by decide +kernel)
  have hst_X9_get := hts (.static yX9_get) (by decide +kernel)
  have hf_21 := hts (.fieldLink RX5 21 "CrookedSums$SumText" "rights" "[I") (by decide +kernel)
  have hf_24 := hts (.fieldLink RX5 24 "CrookedSums$SumText" "totals" "[I") (by decide +kernel)
  have hf_27 := hts (.fieldLink RX5 27 "CrookedSums$SumText" "places" "[I") (by decide +kernel)
  have hl := lv_entry ([.ref h, .int p1, .int p2]) (n := 3) (Nat.le_of_ble_eq_true rfl)
  rw [lg_entry_eq]
  generalize (lg_sl ([.ref h, .int p1, .int p2]) ++ List.replicate (3 - (lg_sl ([.ref h, .int p1, .int p2])).length) Slot.unset).toArray = ls at hl ⊢
  have hl : lv_has ls 3 [(0, .ref h), (1, .int p1), (2, .int p2)] := hl
  unfold mX5_stepAt at h0
  refine lv_iload_n hx hb dX5_stepAt_0 rfl (lv_at hl 1 rfl) ?_
  refine lv_if_lt (tgt := 12) hx hb dX5_stepAt_1 (by decide) (fun c9 => ?_) (fun c9 => ?_)
  · have h0 := it_t c9 h0
    refine lv_bipush (v := (-4)) hx hb dX5_stepAt_12 (by decide) ?_
    have e0 := Option.some.inj h0
    subst e0
    exact W.iret (v := (-4)) hx hb hr (fun t ht hW => ⟨rfl, ht⟩) (fun q hq => absurd hq List.not_mem_nil) dX5_stepAt_14
  · have h0 := it_f c9 h0
    refine lv_iload_n hx hb dX5_stepAt_4 rfl (lv_at hl 1 rfl) ?_
    refine lv_aload_n hx hb dX5_stepAt_5 rfl (lv_at hl 0 rfl) ?_
    refine va_get (D := D) (ci := 4) (v := .int h_steps) (C := RX5) (T := TX5) (N := 9) hx hb hts hi_X5 hown hK hP 0 rfl rfl 7 (by decide) hf_34 (fun _ h9 => h9) rfl dX5_stepAt_6 ?_
    refine lv_icmp_lt (tgt := 15) hx hb dX5_stepAt_9 (by decide) (fun c9 => ?_) (fun c9 => ?_)
    · have h0 := it_t c9 h0
      refine lv_iload_n hx hb dX5_stepAt_15 rfl (lv_at hl 2 rfl) ?_
      by_cases c_1 : p2 = 0
      · have h0 := it_t c_1 h0
        refine lv_tableIn (tgt := 44) hx hb dX5_stepAt_16 (by rw [c_1]; decide) (by rw [c_1]; decide) (by rw [c_1]; rfl) (by decide) ?_
        refine lv_aload_n hx hb dX5_stepAt_44 rfl (lv_at hl 0 rfl) ?_
        refine va_get (D := D) (ci := 4) (v := .ref h_lefts) (C := RX5) (T := TX5) (N := 9) hx hb hts hi_X5 hown hK hP 0 rfl rfl 2 (by decide) hf_18 (fun _ h9 => h9) rfl dX5_stepAt_45 ?_
        refine lv_iload_n hx hb dX5_stepAt_48 rfl (lv_at hl 1 rfl) ?_
        obtain ⟨z_2, hz, h0⟩ := bd_ok h0
        refine ro_SN (As := [.ref h_lefts, .int p1]) (rest := []) (wc := [(h_lefts, .inl (cI, 80, .inl h_lefts_f))]) hcf (kX9_get l D cI cC cT h_lefts 80 h_lefts_f p1 z_2 hz) ⟨va_cnB (host := RX9) 2 hts gX5_stepAt_X9_get_n58 rfl rfl rfl hE.2.2.2.2.2.1 hini_X9 (by decide +kernel) ⟨Nat.le_of_ble_eq_true rfl, Nat.le_of_ble_eq_true rfl⟩, hst_X9_get, trivial⟩ hE (hP.sub [3] rfl) rfl hl.1 rfl (Nat.le_of_ble_eq_true rfl) dX5_stepAt_49 ⟨Nat.le_of_ble_eq_true rfl, Nat.le_of_ble_eq_true rfl⟩ ?_
        refine W.eq (g2 := F0 m 52 ls [.int z_2]) rfl ?_
        have e0 := Option.some.inj h0
        subst e0
        exact W.iret (v := z_2) hx hb hr (fun t ht hW => ⟨rfl, ht⟩) (fun q hq => absurd hq List.not_mem_nil) dX5_stepAt_52
      · have h0 := it_f c_1 h0
        by_cases c_3 : p2 = 1
        · have h0 := it_t c_3 h0
          refine lv_tableIn (tgt := 53) hx hb dX5_stepAt_16 (by rw [c_3]; decide) (by rw [c_3]; decide) (by rw [c_3]; rfl) (by decide) ?_
          refine lv_aload_n hx hb dX5_stepAt_53 rfl (lv_at hl 0 rfl) ?_
          refine va_get (D := D) (ci := 4) (v := .ref h_rights) (C := RX5) (T := TX5) (N := 9) hx hb hts hi_X5 hown hK hP 0 rfl rfl 3 (by decide) hf_21 (fun _ h9 => h9) rfl dX5_stepAt_54 ?_
          refine lv_iload_n hx hb dX5_stepAt_57 rfl (lv_at hl 1 rfl) ?_
          obtain ⟨z_4, hz, h0⟩ := bd_ok h0
          refine ro_SN (As := [.ref h_rights, .int p1]) (rest := []) (wc := [(h_rights, .inl (cI, 80, .inl h_rights_f))]) hcf (kX9_get l D cI cC cT h_rights 80 h_rights_f p1 z_4 hz) ⟨va_cnB (host := RX9) 2 hts gX5_stepAt_X9_get_n58 rfl rfl rfl hE.2.2.2.2.2.1 hini_X9 (by decide +kernel) ⟨Nat.le_of_ble_eq_true rfl, Nat.le_of_ble_eq_true rfl⟩, hst_X9_get, trivial⟩ hE (hP.sub [4] rfl) rfl hl.1 rfl (Nat.le_of_ble_eq_true rfl) dX5_stepAt_58 ⟨Nat.le_of_ble_eq_true rfl, Nat.le_of_ble_eq_true rfl⟩ ?_
          refine W.eq (g2 := F0 m 61 ls [.int z_4]) rfl ?_
          have e0 := Option.some.inj h0
          subst e0
          exact W.iret (v := z_4) hx hb hr (fun t ht hW => ⟨rfl, ht⟩) (fun q hq => absurd hq List.not_mem_nil) dX5_stepAt_61
        · have h0 := it_f c_3 h0
          by_cases c_5 : p2 = 2
          · have h0 := it_t c_5 h0
            refine lv_tableIn (tgt := 62) hx hb dX5_stepAt_16 (by rw [c_5]; decide) (by rw [c_5]; decide) (by rw [c_5]; rfl) (by decide) ?_
            refine lv_aload_n hx hb dX5_stepAt_62 rfl (lv_at hl 0 rfl) ?_
            refine va_get (D := D) (ci := 4) (v := .ref h_totals) (C := RX5) (T := TX5) (N := 9) hx hb hts hi_X5 hown hK hP 0 rfl rfl 4 (by decide) hf_24 (fun _ h9 => h9) rfl dX5_stepAt_63 ?_
            refine lv_iload_n hx hb dX5_stepAt_66 rfl (lv_at hl 1 rfl) ?_
            obtain ⟨z_6, hz, h0⟩ := bd_ok h0
            refine ro_SN (As := [.ref h_totals, .int p1]) (rest := []) (wc := [(h_totals, .inl (cI, 80, .inl h_totals_f))]) hcf (kX9_get l D cI cC cT h_totals 80 h_totals_f p1 z_6 hz) ⟨va_cnB (host := RX9) 2 hts gX5_stepAt_X9_get_n58 rfl rfl rfl hE.2.2.2.2.2.1 hini_X9 (by decide +kernel) ⟨Nat.le_of_ble_eq_true rfl, Nat.le_of_ble_eq_true rfl⟩, hst_X9_get, trivial⟩ hE (hP.sub [5] rfl) rfl hl.1 rfl (Nat.le_of_ble_eq_true rfl) dX5_stepAt_67 ⟨Nat.le_of_ble_eq_true rfl, Nat.le_of_ble_eq_true rfl⟩ ?_
            refine W.eq (g2 := F0 m 70 ls [.int z_6]) rfl ?_
            have e0 := Option.some.inj h0
            subst e0
            exact W.iret (v := z_6) hx hb hr (fun t ht hW => ⟨rfl, ht⟩) (fun q hq => absurd hq List.not_mem_nil) dX5_stepAt_70
          · have h0 := it_f c_5 h0
            refine lv_tableOut (tgt := 71) hx hb dX5_stepAt_16 (by have a0 := sw_ne 0 0 (by decide) c_1; have a1 := sw_ne 1 1 (by decide) c_3; have a2 := sw_ne 2 2 (by decide) c_5; omega) (by decide) ?_
            refine lv_aload_n hx hb dX5_stepAt_71 rfl (lv_at hl 0 rfl) ?_
            refine va_get (D := D) (ci := 4) (v := .ref h_places) (C := RX5) (T := TX5) (N := 9) hx hb hts hi_X5 hown hK hP 0 rfl rfl 5 (by decide) hf_27 (fun _ h9 => h9) rfl dX5_stepAt_72 ?_
            refine lv_iload_n hx hb dX5_stepAt_75 rfl (lv_at hl 1 rfl) ?_
            obtain ⟨z_7, hz, h0⟩ := bd_ok h0
            refine ro_SN (As := [.ref h_places, .int p1]) (rest := []) (wc := [(h_places, .inl (cI, 80, .inl h_places_f))]) hcf (kX9_get l D cI cC cT h_places 80 h_places_f p1 z_7 hz) ⟨va_cnB (host := RX9) 2 hts gX5_stepAt_X9_get_n58 rfl rfl rfl hE.2.2.2.2.2.1 hini_X9 (by decide +kernel) ⟨Nat.le_of_ble_eq_true rfl, Nat.le_of_ble_eq_true rfl⟩, hst_X9_get, trivial⟩ hE (hP.sub [6] rfl) rfl hl.1 rfl (Nat.le_of_ble_eq_true rfl) dX5_stepAt_76 ⟨Nat.le_of_ble_eq_true rfl, Nat.le_of_ble_eq_true rfl⟩ ?_
            refine W.eq (g2 := F0 m 79 ls [.int z_7]) rfl ?_
            have e0 := Option.some.inj h0
            subst e0
            exact W.iret (v := z_7) hx hb hr (fun t ht hW => ⟨rfl, ht⟩) (fun q hq => absurd hq List.not_mem_nil) dX5_stepAt_79
    · have h0 := it_f c9 h0
      refine lv_bipush (v := (-4)) hx hb dX5_stepAt_12 (by decide) ?_
      have e0 := Option.some.inj h0
      subst e0
      exact W.iret (v := (-4)) hx hb hr (fun t ht hW => ⟨rfl, ht⟩) (fun q hq => absurd hq List.not_mem_nil) dX5_stepAt_14
noncomputable def mX5_total (h_soFar_f : Nat → Int32) : Option (Int32) :=
  bd (mX9_get 81 h_soFar_f 0) (fun z_1 => some (z_1))
set_option maxHeartbeats 8000000 in
set_option maxRecDepth 100000 in
theorem kX5_total (l : Launch) (D : va_G) (cI cC cT : ClassId) (h h_soFar h_waitingPlus h_lefts h_rights h_totals h_places : Nat) (h_soFar_f : Nat → Int32) (h_waitingPlus_f : Nat → Int32) (h_lefts_f : Nat → Int32) (h_rights_f : Nat → Int32) (h_totals_f : Nat → Int32) (h_places_f : Nat → Int32) (h_depth : Int32) (h_steps : Int32) (h_wantsThing : Int32) (z : Int32) (h0 : mX5_total h_soFar_f = some z) : Met l yX5_total wsX5_total ({ frames := 1, cells := 0, slots := 0, locals := 21 } : Room) (va_Pc [.ref h] (rP D cI cC cT [(h, .inr (4, [.ref h_soFar, .ref h_waitingPlus, .ref h_lefts, .ref h_rights, .ref h_totals, .ref h_places, .int h_depth, .int h_steps, .int h_wantsThing])), (h_soFar, .inl (cI, 81, .inl h_soFar_f)), (h_waitingPlus, .inl (cI, 81, .inl h_waitingPlus_f)), (h_lefts, .inl (cI, 80, .inl h_lefts_f)), (h_rights, .inl (cI, 80, .inl h_rights_f)), (h_totals, .inl (cI, 80, .inl h_totals_f)), (h_places, .inl (cI, 80, .inl h_places_f))])) (rQ (some (.int z))) 0 0 (fun _ => False) := by
  refine Met.ofW (cc := cX5_total) (maxL := 1) (ret := (some .int)) (by decide) rfl ?_
  intro p e s m args below meth c s₁ B hml hv
  obtain ⟨rfl, hP, hE⟩ := hv
  have hx := B.exec
  have hb := B.bytes
  have hr := B.returns
  have hts := atoms_spec (ws := wsX5_total) B.pre
  have hown : s.vm.findClass RX5 = some m.cls := findClass_of_methodNamed B.named
  have hlocks := B.notSynchronized
  have hK := hE.1
  have hcf : CallFix p m c cX5_total 1 s ([.ref h] : List Value).toArray wsX5_total RX5 := ⟨hx, hb, hml, hown, hts⟩
  have hP : va_P D vwCl [(h, .inr (4, [.ref h_soFar, .ref h_waitingPlus, .ref h_lefts, .ref h_rights, .ref h_totals, .ref h_places, .int h_depth, .int h_steps, .int h_wantsThing])), (h_soFar, .inl (cI, 81, .inl h_soFar_f)), (h_waitingPlus, .inl (cI, 81, .inl h_waitingPlus_f)), (h_lefts, .inl (cI, 80, .inl h_lefts_f)), (h_rights, .inl (cI, 80, .inl h_rights_f)), (h_totals, .inl (cI, 80, .inl h_totals_f)), (h_places, .inl (cI, 80, .inl h_places_f))] s.heap := hP
  have hf_11 := hts (.fieldLink RX5 11 "CrookedSums$SumText" "soFar" "[I") (by decide +kernel)
  have hi_X5 := (show ∀ w ∈ u_ws RX5 TX5 9, w ∈ wsX5_total from by decide +kernel)
  have hini_X9 := hts (.initialized RX9) (by decide +kernel)
  have hst_X9_get := hts (.static yX9_get) (by decide +kernel)
  have hl := lv_entry ([.ref h]) (n := 1) (Nat.le_of_ble_eq_true rfl)
  rw [lg_entry_eq]
  generalize (lg_sl ([.ref h]) ++ List.replicate (1 - (lg_sl ([.ref h])).length) Slot.unset).toArray = ls at hl ⊢
  have hl : lv_has ls 1 [(0, .ref h)] := hl
  unfold mX5_total at h0
  refine lv_aload_n hx hb dX5_total_0 rfl (lv_at hl 0 rfl) ?_
  refine va_get (D := D) (ci := 4) (v := .ref h_soFar) (C := RX5) (T := TX5) (N := 9) hx hb hts hi_X5 hown hK hP 0 rfl rfl 0 (by decide) hf_11 (fun _ h9 => h9) rfl dX5_total_1 ?_
  refine lv_iconst (v := 0) hx hb dX5_total_4 (by decide) ?_
  obtain ⟨z_1, hz, h0⟩ := bd_ok h0
  refine ro_SN (As := [.ref h_soFar, .int 0]) (rest := []) (wc := [(h_soFar, .inl (cI, 81, .inl h_soFar_f))]) hcf (kX9_get l D cI cC cT h_soFar 81 h_soFar_f 0 z_1 hz) ⟨va_cnB (host := RX9) 2 hts gX5_total_X9_get_n58 rfl rfl rfl hE.2.2.2.2.2.1 hini_X9 (by decide +kernel) ⟨Nat.le_of_ble_eq_true rfl, Nat.le_of_ble_eq_true rfl⟩, hst_X9_get, trivial⟩ hE (hP.sub [1] rfl) rfl hl.1 rfl (Nat.le_of_ble_eq_true rfl) dX5_total_5 ⟨Nat.le_of_ble_eq_true rfl, Nat.le_of_ble_eq_true rfl⟩ ?_
  refine W.eq (g2 := F0 m 8 ls [.int z_1]) rfl ?_
  have e0 := Option.some.inj h0
  subst e0
  exact W.iret (v := z_1) hx hb hr (fun t ht hW => ⟨rfl, ht⟩) (fun q hq => absurd hq List.not_mem_nil) dX5_total_8
