noncomputable def mX10_comes (h_s_f : Nat → Int32) (h_steps_f : Nat → Int32) (h_many : Int32) (h_summed_f : Nat → Int32) (h_plus_f : Nat → Int32) (p1 : Int32) (p2 : Int32) : Option ((Nat → Int32) × Int32 × (Nat → Int32)) :=
  gd (inb p1 81) (if (h_plus_f (p1 : Int32).toNatClampNeg) = (-1) then (gd (inb p1 81) (some (h_steps_f, h_many, (upd h_summed_f (p1 : Int32).toNatClampNeg p2)))) else (gd (inb p1 81) (gd (inb ((4 : Int32) * h_many) 320) (gd (inb (((4 : Int32) * h_many) + 1) 320) (gd (inb p1 81) (bd (mX10_plain h_s_f (h_summed_f (p1 : Int32).toNatClampNeg) p2) (fun z_1 => gd (inb (((4 : Int32) * h_many) + 2) 320) (gd (inb p1 81) (gd (inb (((4 : Int32) * h_many) + 3) 320) (gd (inb (((4 : Int32) * h_many) + 2) 320) (gd (inb p1 81) (some ((upd (upd (upd (upd h_steps_f (((4 : Int32) * h_many) : Int32).toNatClampNeg (h_summed_f (p1 : Int32).toNatClampNeg)) ((((4 : Int32) * h_many) + 1) : Int32).toNatClampNeg p2) ((((4 : Int32) * h_many) + 2) : Int32).toNatClampNeg z_1) ((((4 : Int32) * h_many) + 3) : Int32).toNatClampNeg (h_plus_f (p1 : Int32).toNatClampNeg)), (h_many + 1), (upd h_summed_f (p1 : Int32).toNatClampNeg ((upd (upd (upd (upd h_steps_f (((4 : Int32) * h_many) : Int32).toNatClampNeg (h_summed_f (p1 : Int32).toNatClampNeg)) ((((4 : Int32) * h_many) + 1) : Int32).toNatClampNeg p2) ((((4 : Int32) * h_many) + 2) : Int32).toNatClampNeg z_1) ((((4 : Int32) * h_many) + 3) : Int32).toNatClampNeg (h_plus_f (p1 : Int32).toNatClampNeg)) ((((4 : Int32) * h_many) + 2) : Int32).toNatClampNeg)))))))))))))))
set_option maxHeartbeats 8000000 in
set_option maxRecDepth 100000 in
theorem kX10_comes (l : Launch) (D : va_G) (cI cC cT : ClassId) (h h_s h_aside h_past h_snapshot h_pad h_steps h_summed h_plus h_parts : Nat) (h_s_f : Nat → Int32) (h_aside_f : Nat → Int32) (h_past_f : Nat → Int32) (h_pasts : Int32) (h_snapshot_f : Nat → Int32) (h_isKept : Int32) (h_pad_f : Nat → Int32) (h_length : Int32) (h_steps_f : Nat → Int32) (h_many : Int32) (h_value : Int32) (h_summed_f : Nat → Int32) (h_plus_f : Nat → Int32) (h_parts_f : Nat → Int32) (p1 : Int32) (p2 : Int32) (sz : Nat) (z : (Nat → Int32) × Int32 × (Nat → Int32)) (h0 : mX10_comes h_s_f h_steps_f h_many h_summed_f h_plus_f p1 p2 = some z) : Met l yX10_comes wsX10_comes ({ frames := 2, cells := 0, slots := 0, locals := 43 } : Room) (va_Pc [.ref h, .int p1, .int p2] (wP D cI cC cT [(h, .inr (7, [.ref h_s, .ref h_aside, .ref h_past, .int h_pasts, .ref h_snapshot, .int h_isKept, .ref h_pad, .int h_length, .ref h_steps, .int h_many, .int h_value, .ref h_summed, .ref h_plus, .ref h_parts])), (h_s, .inl (cI, 65, .inl h_s_f)), (h_aside, .inl (cI, 65, .inl h_aside_f)), (h_past, .inl (cI, 260, .inl h_past_f)), (h_snapshot, .inl (cI, 65, .inl h_snapshot_f)), (h_pad, .inl (cI, 80, .inl h_pad_f)), (h_steps, .inl (cI, 320, .inl h_steps_f)), (h_summed, .inl (cI, 81, .inl h_summed_f)), (h_plus, .inl (cI, 81, .inl h_plus_f)), (h_parts, .inl (cI, 392, .inl h_parts_f))] sz)) (wQ D none (va_A [(h, .inr (7, [.ref h_s, .ref h_aside, .ref h_past, .int h_pasts, .ref h_snapshot, .int h_isKept, .ref h_pad, .int h_length, .ref h_steps, .int h_many, .int h_value, .ref h_summed, .ref h_plus, .ref h_parts])), (h_s, .inl (cI, 65, .inl h_s_f)), (h_aside, .inl (cI, 65, .inl h_aside_f)), (h_past, .inl (cI, 260, .inl h_past_f)), (h_snapshot, .inl (cI, 65, .inl h_snapshot_f)), (h_pad, .inl (cI, 80, .inl h_pad_f)), (h_steps, .inl (cI, 320, .inl h_steps_f)), (h_summed, .inl (cI, 81, .inl h_summed_f)), (h_plus, .inl (cI, 81, .inl h_plus_f)), (h_parts, .inl (cI, 392, .inl h_parts_f))] sz) (fun (u : Unit) => [(h, .inr (7, [.ref h_s, .ref h_aside, .ref h_past, .int h_pasts, .ref h_snapshot, .int h_isKept, .ref h_pad, .int h_length, .ref h_steps, .int z.2.1, .int h_value, .ref h_summed, .ref h_plus, .ref h_parts])), (h_s, .inl (cI, 65, .inl h_s_f)), (h_aside, .inl (cI, 65, .inl h_aside_f)), (h_past, .inl (cI, 260, .inl h_past_f)), (h_snapshot, .inl (cI, 65, .inl h_snapshot_f)), (h_pad, .inl (cI, 80, .inl h_pad_f)), (h_steps, .inl (cI, 320, .inl z.1)), (h_summed, .inl (cI, 81, .inl z.2.2)), (h_plus, .inl (cI, 81, .inl h_plus_f)), (h_parts, .inl (cI, 392, .inl h_parts_f))])) 0 0 (va_A [(h, .inr (7, [.ref h_s, .ref h_aside, .ref h_past, .int h_pasts, .ref h_snapshot, .int h_isKept, .ref h_pad, .int h_length, .ref h_steps, .int h_many, .int h_value, .ref h_summed, .ref h_plus, .ref h_parts])), (h_s, .inl (cI, 65, .inl h_s_f)), (h_aside, .inl (cI, 65, .inl h_aside_f)), (h_past, .inl (cI, 260, .inl h_past_f)), (h_snapshot, .inl (cI, 65, .inl h_snapshot_f)), (h_pad, .inl (cI, 80, .inl h_pad_f)), (h_steps, .inl (cI, 320, .inl h_steps_f)), (h_summed, .inl (cI, 81, .inl h_summed_f)), (h_plus, .inl (cI, 81, .inl h_plus_f)), (h_parts, .inl (cI, 392, .inl h_parts_f))] sz) := by
  refine Met.ofW (cc := cX10_comes) (maxL := 3) (ret := none) (by decide) rfl ?_
  intro p e s m args below meth c s₁ B hml hv
  obtain ⟨rfl, hsz, hP, hE, hD0⟩ := hv
  have hx := B.exec
  have hb := B.bytes
  have hr := B.returns
  have hts := atoms_spec (ws := wsX10_comes) B.pre
  have hown : s.vm.findClass RX10 = some m.cls := findClass_of_methodNamed B.named
  have hlocks := B.notSynchronized
  have hK := hE.1
  have hcf : CallFix p m c cX10_comes 3 s ([.ref h, .int p1, .int p2] : List Value).toArray wsX10_comes RX10 := ⟨hx, hb, hml, hown, hts⟩
  subst hsz
  have hD := hD0.self (sz := s.heap.size)
  generalize hAe : va_A [(h, .inr (7, [.ref h_s, .ref h_aside, .ref h_past, .int h_pasts, .ref h_snapshot, .int h_isKept, .ref h_pad, .int h_length, .ref h_steps, .int h_many, .int h_value, .ref h_summed, .ref h_plus, .ref h_parts])), (h_s, .inl (cI, 65, .inl h_s_f)), (h_aside, .inl (cI, 65, .inl h_aside_f)), (h_past, .inl (cI, 260, .inl h_past_f)), (h_snapshot, .inl (cI, 65, .inl h_snapshot_f)), (h_pad, .inl (cI, 80, .inl h_pad_f)), (h_steps, .inl (cI, 320, .inl h_steps_f)), (h_summed, .inl (cI, 81, .inl h_summed_f)), (h_plus, .inl (cI, 81, .inl h_plus_f)), (h_parts, .inl (cI, 392, .inl h_parts_f))] s.heap.size = A at hD ⊢
  have hA : ∀ q : Nat, s.heap.size ≤ q → A q := fun q h => by rw [← hAe]; exact Or.inr h
  have hS : va_S A s.heap s.heap [] := va_S.rf
  have hP : va_P D vwCl [(h, .inr (7, [.ref h_s, .ref h_aside, .ref h_past, .int h_pasts, .ref h_snapshot, .int h_isKept, .ref h_pad, .int h_length, .ref h_steps, .int h_many, .int h_value, .ref h_summed, .ref h_plus, .ref h_parts])), (h_s, .inl (cI, 65, .inl h_s_f)), (h_aside, .inl (cI, 65, .inl h_aside_f)), (h_past, .inl (cI, 260, .inl h_past_f)), (h_snapshot, .inl (cI, 65, .inl h_snapshot_f)), (h_pad, .inl (cI, 80, .inl h_pad_f)), (h_steps, .inl (cI, 320, .inl h_steps_f)), (h_summed, .inl (cI, 81, .inl h_summed_f)), (h_plus, .inl (cI, 81, .inl h_plus_f)), (h_parts, .inl (cI, 392, .inl h_parts_f))] s.heap := hP
  have hf_31 := hts (.fieldLink RX10 31 "CrookedSumsModel" "plus" "[I") (by decide +kernel)
  have hi_X10 := (show ∀ w ∈ u_ws RX10 TX10 14, w ∈ wsX10_comes from by decide +kernel)
  have hf_25 := hts (.fieldLink RX10 25 "CrookedSumsModel" "steps" "[I") (by decide +kernel)
  have hf_120 := hts (.fieldLink RX10 120 "CrookedSumsModel" "many" "I") (by decide +kernel)
  have hf_28 := hts (.fieldLink RX10 28 "CrookedSumsModel" "summed" "[I") (by decide +kernel)
  have hl := lv_entry ([.ref h, .int p1, .int p2]) (n := 3) (Nat.le_of_ble_eq_true rfl)
  rw [lg_entry_eq]
  generalize (lg_sl ([.ref h, .int p1, .int p2]) ++ List.replicate (3 - (lg_sl ([.ref h, .int p1, .int p2])).length) Slot.unset).toArray = ls at hl ⊢
  have hl : lv_has ls 3 [(0, .ref h), (1, .int p1), (2, .int p2)] := hl
  unfold mX10_comes at h0
  refine lv_aload_n hx hb dX10_comes_0 rfl (lv_at hl 0 rfl) ?_
  refine va_get (D := D) (ci := 7) (v := .ref h_plus) (C := RX10) (T := TX10) (N := 14) hx hb hts hi_X10 hown hK hP 0 rfl rfl 12 (by decide) hf_31 (fun _ h9 => h9) rfl dX10_comes_1 ?_
  refine lv_iload_n hx hb dX10_comes_4 rfl (lv_at hl 1 rfl) ?_
  obtain ⟨g0, h0⟩ := gd_ok h0
  refine va_iald hx hb hK hP 8 0 rfl rfl (inb_ok g0) dX10_comes_5 ?_
  refine lv_iconst (v := (-1)) hx hb dX10_comes_6 (by decide) ?_
  refine lv_icmp_ne (tgt := 18) hx hb dX10_comes_7 (by decide) (fun c9 => ?_) (fun c9 => ?_)
  · have h0 := it_f c9 h0
    refine lv_aload_n hx hb dX10_comes_18 rfl (lv_at hl 0 rfl) ?_
    refine va_get (D := D) (ci := 7) (v := .ref h_steps) (C := RX10) (T := TX10) (N := 14) hx hb hts hi_X10 hown hK hP 0 rfl rfl 8 (by decide) hf_25 (fun _ h9 => h9) rfl dX10_comes_19 ?_
    refine lv_iconst (v := 4) hx hb dX10_comes_22 (by decide) ?_
    refine lv_aload_n hx hb dX10_comes_23 rfl (lv_at hl 0 rfl) ?_
    refine va_get (D := D) (ci := 7) (v := .int h_many) (C := RX10) (T := TX10) (N := 14) hx hb hts hi_X10 hown hK hP 0 rfl rfl 9 (by decide) hf_120 (fun _ h9 => h9) rfl dX10_comes_24 ?_
    refine lv_imul hx hb dX10_comes_27 ?_
    refine lv_aload_n hx hb dX10_comes_28 rfl (lv_at hl 0 rfl) ?_
    refine va_get (D := D) (ci := 7) (v := .ref h_summed) (C := RX10) (T := TX10) (N := 14) hx hb hts hi_X10 hown hK hP 0 rfl rfl 11 (by decide) hf_28 (fun _ h9 => h9) rfl dX10_comes_29 ?_
    refine lv_iload_n hx hb dX10_comes_32 rfl (lv_at hl 1 rfl) ?_
    obtain ⟨g0, h0⟩ := gd_ok h0
    refine va_iald hx hb hK hP 7 0 rfl rfl (inb_ok g0) dX10_comes_33 ?_
    obtain ⟨g0, h0⟩ := gd_ok h0
    refine va_iast hx hb hK hP hD hS 6 0 rfl rfl (inb_ok g0) dX10_comes_34 (fun H locs hP hD hS => ?_)
    have hP : va_P D vwCl [(h, .inr (7, [.ref h_s, .ref h_aside, .ref h_past, .int h_pasts, .ref h_snapshot, .int h_isKept, .ref h_pad, .int h_length, .ref h_steps, .int h_many, .int h_value, .ref h_summed, .ref h_plus, .ref h_parts])), (h_s, .inl (cI, 65, .inl h_s_f)), (h_aside, .inl (cI, 65, .inl h_aside_f)), (h_past, .inl (cI, 260, .inl h_past_f)), (h_snapshot, .inl (cI, 65, .inl h_snapshot_f)), (h_pad, .inl (cI, 80, .inl h_pad_f)), (h_steps, .inl (cI, 320, .inl (upd h_steps_f (((4 : Int32) * h_many) : Int32).toNatClampNeg (h_summed_f (p1 : Int32).toNatClampNeg)))), (h_summed, .inl (cI, 81, .inl h_summed_f)), (h_plus, .inl (cI, 81, .inl h_plus_f)), (h_parts, .inl (cI, 392, .inl h_parts_f))] H := hP
    have hD : va_D A [(h, .inr (7, [.ref h_s, .ref h_aside, .ref h_past, .int h_pasts, .ref h_snapshot, .int h_isKept, .ref h_pad, .int h_length, .ref h_steps, .int h_many, .int h_value, .ref h_summed, .ref h_plus, .ref h_parts])), (h_s, .inl (cI, 65, .inl h_s_f)), (h_aside, .inl (cI, 65, .inl h_aside_f)), (h_past, .inl (cI, 260, .inl h_past_f)), (h_snapshot, .inl (cI, 65, .inl h_snapshot_f)), (h_pad, .inl (cI, 80, .inl h_pad_f)), (h_steps, .inl (cI, 320, .inl (upd h_steps_f (((4 : Int32) * h_many) : Int32).toNatClampNeg (h_summed_f (p1 : Int32).toNatClampNeg)))), (h_summed, .inl (cI, 81, .inl h_summed_f)), (h_plus, .inl (cI, 81, .inl h_plus_f)), (h_parts, .inl (cI, 392, .inl h_parts_f))] := hD
    refine lv_aload_n hx hb dX10_comes_35 rfl (lv_at hl 0 rfl) ?_
    refine va_get (D := D) (ci := 7) (v := .ref h_steps) (C := RX10) (T := TX10) (N := 14) hx hb hts hi_X10 hown hK hP 0 rfl rfl 8 (by decide) hf_25 (fun _ h9 => h9) rfl dX10_comes_36 ?_
    refine lv_iconst (v := 4) hx hb dX10_comes_39 (by decide) ?_
    refine lv_aload_n hx hb dX10_comes_40 rfl (lv_at hl 0 rfl) ?_
    refine va_get (D := D) (ci := 7) (v := .int h_many) (C := RX10) (T := TX10) (N := 14) hx hb hts hi_X10 hown hK hP 0 rfl rfl 9 (by decide) hf_120 (fun _ h9 => h9) rfl dX10_comes_41 ?_
    refine lv_imul hx hb dX10_comes_44 ?_
    refine lv_iconst (v := 1) hx hb dX10_comes_45 (by decide) ?_
    refine lv_iadd hx hb dX10_comes_46 ?_
    refine lv_iload_n hx hb dX10_comes_47 rfl (lv_at hl 2 rfl) ?_
    obtain ⟨g0, h0⟩ := gd_ok h0
    refine va_iast hx hb hK hP hD hS 6 0 rfl rfl (inb_ok g0) dX10_comes_48 (fun H locs hP hD hS => ?_)
    have hP : va_P D vwCl [(h, .inr (7, [.ref h_s, .ref h_aside, .ref h_past, .int h_pasts, .ref h_snapshot, .int h_isKept, .ref h_pad, .int h_length, .ref h_steps, .int h_many, .int h_value, .ref h_summed, .ref h_plus, .ref h_parts])), (h_s, .inl (cI, 65, .inl h_s_f)), (h_aside, .inl (cI, 65, .inl h_aside_f)), (h_past, .inl (cI, 260, .inl h_past_f)), (h_snapshot, .inl (cI, 65, .inl h_snapshot_f)), (h_pad, .inl (cI, 80, .inl h_pad_f)), (h_steps, .inl (cI, 320, .inl (upd (upd h_steps_f (((4 : Int32) * h_many) : Int32).toNatClampNeg (h_summed_f (p1 : Int32).toNatClampNeg)) ((((4 : Int32) * h_many) + 1) : Int32).toNatClampNeg p2))), (h_summed, .inl (cI, 81, .inl h_summed_f)), (h_plus, .inl (cI, 81, .inl h_plus_f)), (h_parts, .inl (cI, 392, .inl h_parts_f))] H := hP
    have hD : va_D A [(h, .inr (7, [.ref h_s, .ref h_aside, .ref h_past, .int h_pasts, .ref h_snapshot, .int h_isKept, .ref h_pad, .int h_length, .ref h_steps, .int h_many, .int h_value, .ref h_summed, .ref h_plus, .ref h_parts])), (h_s, .inl (cI, 65, .inl h_s_f)), (h_aside, .inl (cI, 65, .inl h_aside_f)), (h_past, .inl (cI, 260, .inl h_past_f)), (h_snapshot, .inl (cI, 65, .inl h_snapshot_f)), (h_pad, .inl (cI, 80, .inl h_pad_f)), (h_steps, .inl (cI, 320, .inl (upd (upd h_steps_f (((4 : Int32) * h_many) : Int32).toNatClampNeg (h_summed_f (p1 : Int32).toNatClampNeg)) ((((4 : Int32) * h_many) + 1) : Int32).toNatClampNeg p2))), (h_summed, .inl (cI, 81, .inl h_summed_f)), (h_plus, .inl (cI, 81, .inl h_plus_f)), (h_parts, .inl (cI, 392, .inl h_parts_f))] := hD
    refine lv_aload_n hx hb dX10_comes_49 rfl (lv_at hl 0 rfl) ?_
    refine va_get (D := D) (ci := 7) (v := .ref h_steps) (C := RX10) (T := TX10) (N := 14) hx hb hts hi_X10 hown hK hP 0 rfl rfl 8 (by decide) hf_25 (fun _ h9 => h9) rfl dX10_comes_50 ?_
    refine lv_iconst (v := 4) hx hb dX10_comes_53 (by decide) ?_
    refine lv_aload_n hx hb dX10_comes_54 rfl (lv_at hl 0 rfl) ?_
    refine va_get (D := D) (ci := 7) (v := .int h_many) (C := RX10) (T := TX10) (N := 14) hx hb hts hi_X10 hown hK hP 0 rfl rfl 9 (by decide) hf_120 (fun _ h9 => h9) rfl dX10_comes_55 ?_
    refine lv_imul hx hb dX10_comes_58 ?_
    refine lv_iconst (v := 2) hx hb dX10_comes_59 (by decide) ?_
    refine lv_iadd hx hb dX10_comes_60 ?_
    refine lv_aload_n hx hb dX10_comes_61 rfl (lv_at hl 0 rfl) ?_
    refine lv_aload_n hx hb dX10_comes_62 rfl (lv_at hl 0 rfl) ?_
    refine va_get (D := D) (ci := 7) (v := .ref h_summed) (C := RX10) (T := TX10) (N := 14) hx hb hts hi_X10 hown hK hP 0 rfl rfl 11 (by decide) hf_28 (fun _ h9 => h9) rfl dX10_comes_63 ?_
    refine lv_iload_n hx hb dX10_comes_66 rfl (lv_at hl 1 rfl) ?_
    obtain ⟨g0, h0⟩ := gd_ok h0
    refine va_iald hx hb hK hP 7 0 rfl rfl (inb_ok g0) dX10_comes_67 ?_
    refine lv_iload_n hx hb dX10_comes_68 rfl (lv_at hl 2 rfl) ?_
    obtain ⟨z_1, hz, h0⟩ := bd_ok h0
    refine ro_V (As := [.int (h_summed_f (p1 : Int32).toNatClampNeg), .int p2]) (rest := [.int (((4 : Int32) * h_many) + 2), .ref h_steps]) (wc := [(h, .inr (7, [.ref h_s, .ref h_aside, .ref h_past, .int h_pasts, .ref h_snapshot, .int h_isKept, .ref h_pad, .int h_length, .ref h_steps, .int h_many, .int h_value, .ref h_summed, .ref h_plus, .ref h_parts])), (h_s, .inl (cI, 65, .inl h_s_f)), (h_aside, .inl (cI, 65, .inl h_aside_f)), (h_past, .inl (cI, 260, .inl h_past_f)), (h_snapshot, .inl (cI, 65, .inl h_snapshot_f)), (h_pad, .inl (cI, 80, .inl h_pad_f)), (h_steps, .inl (cI, 320, .inl (upd (upd h_steps_f (((4 : Int32) * h_many) : Int32).toNatClampNeg (h_summed_f (p1 : Int32).toNatClampNeg)) ((((4 : Int32) * h_many) + 1) : Int32).toNatClampNeg p2))), (h_summed, .inl (cI, 81, .inl h_summed_f)), (h_plus, .inl (cI, 81, .inl h_plus_f)), (h_parts, .inl (cI, 392, .inl h_parts_f))]) hcf (kX10_plain l D cI cC cT h h_s h_aside h_past h_snapshot h_pad h_steps h_summed h_plus h_parts h_s_f h_aside_f h_past_f h_pasts h_snapshot_f h_isKept h_pad_f h_length (upd (upd h_steps_f (((4 : Int32) * h_many) : Int32).toNatClampNeg (h_summed_f (p1 : Int32).toNatClampNeg)) ((((4 : Int32) * h_many) + 1) : Int32).toNatClampNeg p2) h_many h_value h_summed_f h_plus_f h_parts_f (h_summed_f (p1 : Int32).toNatClampNeg) p2 z_1 hz) (cwV 2 hts gX10_comes_X10_plain rfl rfl rfl (by decide +kernel) ⟨Nat.le_of_ble_eq_true rfl, Nat.le_of_ble_eq_true rfl⟩) hE (hP.sub [0, 1, 2, 3, 4, 5, 6, 7, 8, 9] rfl) (va_recv hK hP (ci := 7) (q0 := 0) rfl rfl) rfl hl.1 rfl (Nat.le_of_ble_eq_true rfl) dX10_comes_69 ⟨Nat.le_of_ble_eq_true rfl, Nat.le_of_ble_eq_true rfl⟩ ?_
    refine W.eq (g2 := F0 m 72 ls [.int z_1, .int (((4 : Int32) * h_many) + 2), .ref h_steps]) rfl ?_
    obtain ⟨g0, h0⟩ := gd_ok h0
    refine va_iast hx hb hK hP hD hS 6 0 rfl rfl (inb_ok g0) dX10_comes_72 (fun H locs hP hD hS => ?_)
    have hP : va_P D vwCl [(h, .inr (7, [.ref h_s, .ref h_aside, .ref h_past, .int h_pasts, .ref h_snapshot, .int h_isKept, .ref h_pad, .int h_length, .ref h_steps, .int h_many, .int h_value, .ref h_summed, .ref h_plus, .ref h_parts])), (h_s, .inl (cI, 65, .inl h_s_f)), (h_aside, .inl (cI, 65, .inl h_aside_f)), (h_past, .inl (cI, 260, .inl h_past_f)), (h_snapshot, .inl (cI, 65, .inl h_snapshot_f)), (h_pad, .inl (cI, 80, .inl h_pad_f)), (h_steps, .inl (cI, 320, .inl (upd (upd (upd h_steps_f (((4 : Int32) * h_many) : Int32).toNatClampNeg (h_summed_f (p1 : Int32).toNatClampNeg)) ((((4 : Int32) * h_many) + 1) : Int32).toNatClampNeg p2) ((((4 : Int32) * h_many) + 2) : Int32).toNatClampNeg z_1))), (h_summed, .inl (cI, 81, .inl h_summed_f)), (h_plus, .inl (cI, 81, .inl h_plus_f)), (h_parts, .inl (cI, 392, .inl h_parts_f))] H := hP
    have hD : va_D A [(h, .inr (7, [.ref h_s, .ref h_aside, .ref h_past, .int h_pasts, .ref h_snapshot, .int h_isKept, .ref h_pad, .int h_length, .ref h_steps, .int h_many, .int h_value, .ref h_summed, .ref h_plus, .ref h_parts])), (h_s, .inl (cI, 65, .inl h_s_f)), (h_aside, .inl (cI, 65, .inl h_aside_f)), (h_past, .inl (cI, 260, .inl h_past_f)), (h_snapshot, .inl (cI, 65, .inl h_snapshot_f)), (h_pad, .inl (cI, 80, .inl h_pad_f)), (h_steps, .inl (cI, 320, .inl (upd (upd (upd h_steps_f (((4 : Int32) * h_many) : Int32).toNatClampNeg (h_summed_f (p1 : Int32).toNatClampNeg)) ((((4 : Int32) * h_many) + 1) : Int32).toNatClampNeg p2) ((((4 : Int32) * h_many) + 2) : Int32).toNatClampNeg z_1))), (h_summed, .inl (cI, 81, .inl h_summed_f)), (h_plus, .inl (cI, 81, .inl h_plus_f)), (h_parts, .inl (cI, 392, .inl h_parts_f))] := hD
    refine lv_aload_n hx hb dX10_comes_73 rfl (lv_at hl 0 rfl) ?_
    refine va_get (D := D) (ci := 7) (v := .ref h_steps) (C := RX10) (T := TX10) (N := 14) hx hb hts hi_X10 hown hK hP 0 rfl rfl 8 (by decide) hf_25 (fun _ h9 => h9) rfl dX10_comes_74 ?_
    refine lv_iconst (v := 4) hx hb dX10_comes_77 (by decide) ?_
    refine lv_aload_n hx hb dX10_comes_78 rfl (lv_at hl 0 rfl) ?_
    refine va_get (D := D) (ci := 7) (v := .int h_many) (C := RX10) (T := TX10) (N := 14) hx hb hts hi_X10 hown hK hP 0 rfl rfl 9 (by decide) hf_120 (fun _ h9 => h9) rfl dX10_comes_79 ?_
    refine lv_imul hx hb dX10_comes_82 ?_
    refine lv_iconst (v := 3) hx hb dX10_comes_83 (by decide) ?_
    refine lv_iadd hx hb dX10_comes_84 ?_
    refine lv_aload_n hx hb dX10_comes_85 rfl (lv_at hl 0 rfl) ?_
    refine va_get (D := D) (ci := 7) (v := .ref h_plus) (C := RX10) (T := TX10) (N := 14) hx hb hts hi_X10 hown hK hP 0 rfl rfl 12 (by decide) hf_31 (fun _ h9 => h9) rfl dX10_comes_86 ?_
    refine lv_iload_n hx hb dX10_comes_89 rfl (lv_at hl 1 rfl) ?_
    obtain ⟨g0, h0⟩ := gd_ok h0
    refine va_iald hx hb hK hP 8 0 rfl rfl (inb_ok g0) dX10_comes_90 ?_
    obtain ⟨g0, h0⟩ := gd_ok h0
    refine va_iast hx hb hK hP hD hS 6 0 rfl rfl (inb_ok g0) dX10_comes_91 (fun H locs hP hD hS => ?_)
    have hP : va_P D vwCl [(h, .inr (7, [.ref h_s, .ref h_aside, .ref h_past, .int h_pasts, .ref h_snapshot, .int h_isKept, .ref h_pad, .int h_length, .ref h_steps, .int h_many, .int h_value, .ref h_summed, .ref h_plus, .ref h_parts])), (h_s, .inl (cI, 65, .inl h_s_f)), (h_aside, .inl (cI, 65, .inl h_aside_f)), (h_past, .inl (cI, 260, .inl h_past_f)), (h_snapshot, .inl (cI, 65, .inl h_snapshot_f)), (h_pad, .inl (cI, 80, .inl h_pad_f)), (h_steps, .inl (cI, 320, .inl (upd (upd (upd (upd h_steps_f (((4 : Int32) * h_many) : Int32).toNatClampNeg (h_summed_f (p1 : Int32).toNatClampNeg)) ((((4 : Int32) * h_many) + 1) : Int32).toNatClampNeg p2) ((((4 : Int32) * h_many) + 2) : Int32).toNatClampNeg z_1) ((((4 : Int32) * h_many) + 3) : Int32).toNatClampNeg (h_plus_f (p1 : Int32).toNatClampNeg)))), (h_summed, .inl (cI, 81, .inl h_summed_f)), (h_plus, .inl (cI, 81, .inl h_plus_f)), (h_parts, .inl (cI, 392, .inl h_parts_f))] H := hP
    have hD : va_D A [(h, .inr (7, [.ref h_s, .ref h_aside, .ref h_past, .int h_pasts, .ref h_snapshot, .int h_isKept, .ref h_pad, .int h_length, .ref h_steps, .int h_many, .int h_value, .ref h_summed, .ref h_plus, .ref h_parts])), (h_s, .inl (cI, 65, .inl h_s_f)), (h_aside, .inl (cI, 65, .inl h_aside_f)), (h_past, .inl (cI, 260, .inl h_past_f)), (h_snapshot, .inl (cI, 65, .inl h_snapshot_f)), (h_pad, .inl (cI, 80, .inl h_pad_f)), (h_steps, .inl (cI, 320, .inl (upd (upd (upd (upd h_steps_f (((4 : Int32) * h_many) : Int32).toNatClampNeg (h_summed_f (p1 : Int32).toNatClampNeg)) ((((4 : Int32) * h_many) + 1) : Int32).toNatClampNeg p2) ((((4 : Int32) * h_many) + 2) : Int32).toNatClampNeg z_1) ((((4 : Int32) * h_many) + 3) : Int32).toNatClampNeg (h_plus_f (p1 : Int32).toNatClampNeg)))), (h_summed, .inl (cI, 81, .inl h_summed_f)), (h_plus, .inl (cI, 81, .inl h_plus_f)), (h_parts, .inl (cI, 392, .inl h_parts_f))] := hD
    refine lv_aload_n hx hb dX10_comes_92 rfl (lv_at hl 0 rfl) ?_
    refine va_get (D := D) (ci := 7) (v := .ref h_summed) (C := RX10) (T := TX10) (N := 14) hx hb hts hi_X10 hown hK hP 0 rfl rfl 11 (by decide) hf_28 (fun _ h9 => h9) rfl dX10_comes_93 ?_
    refine lv_iload_n hx hb dX10_comes_96 rfl (lv_at hl 1 rfl) ?_
    refine lv_aload_n hx hb dX10_comes_97 rfl (lv_at hl 0 rfl) ?_
    refine va_get (D := D) (ci := 7) (v := .ref h_steps) (C := RX10) (T := TX10) (N := 14) hx hb hts hi_X10 hown hK hP 0 rfl rfl 8 (by decide) hf_25 (fun _ h9 => h9) rfl dX10_comes_98 ?_
    refine lv_iconst (v := 4) hx hb dX10_comes_101 (by decide) ?_
    refine lv_aload_n hx hb dX10_comes_102 rfl (lv_at hl 0 rfl) ?_
    refine va_get (D := D) (ci := 7) (v := .int h_many) (C := RX10) (T := TX10) (N := 14) hx hb hts hi_X10 hown hK hP 0 rfl rfl 9 (by decide) hf_120 (fun _ h9 => h9) rfl dX10_comes_103 ?_
    refine lv_imul hx hb dX10_comes_106 ?_
    refine lv_iconst (v := 2) hx hb dX10_comes_107 (by decide) ?_
    refine lv_iadd hx hb dX10_comes_108 ?_
    obtain ⟨g0, h0⟩ := gd_ok h0
    refine va_iald hx hb hK hP 6 0 rfl rfl (inb_ok g0) dX10_comes_109 ?_
    obtain ⟨g0, h0⟩ := gd_ok h0
    refine va_iast hx hb hK hP hD hS 7 0 rfl rfl (inb_ok g0) dX10_comes_110 (fun H locs hP hD hS => ?_)
    have hP : va_P D vwCl [(h, .inr (7, [.ref h_s, .ref h_aside, .ref h_past, .int h_pasts, .ref h_snapshot, .int h_isKept, .ref h_pad, .int h_length, .ref h_steps, .int h_many, .int h_value, .ref h_summed, .ref h_plus, .ref h_parts])), (h_s, .inl (cI, 65, .inl h_s_f)), (h_aside, .inl (cI, 65, .inl h_aside_f)), (h_past, .inl (cI, 260, .inl h_past_f)), (h_snapshot, .inl (cI, 65, .inl h_snapshot_f)), (h_pad, .inl (cI, 80, .inl h_pad_f)), (h_steps, .inl (cI, 320, .inl (upd (upd (upd (upd h_steps_f (((4 : Int32) * h_many) : Int32).toNatClampNeg (h_summed_f (p1 : Int32).toNatClampNeg)) ((((4 : Int32) * h_many) + 1) : Int32).toNatClampNeg p2) ((((4 : Int32) * h_many) + 2) : Int32).toNatClampNeg z_1) ((((4 : Int32) * h_many) + 3) : Int32).toNatClampNeg (h_plus_f (p1 : Int32).toNatClampNeg)))), (h_summed, .inl (cI, 81, .inl (upd h_summed_f (p1 : Int32).toNatClampNeg ((upd (upd (upd (upd h_steps_f (((4 : Int32) * h_many) : Int32).toNatClampNeg (h_summed_f (p1 : Int32).toNatClampNeg)) ((((4 : Int32) * h_many) + 1) : Int32).toNatClampNeg p2) ((((4 : Int32) * h_many) + 2) : Int32).toNatClampNeg z_1) ((((4 : Int32) * h_many) + 3) : Int32).toNatClampNeg (h_plus_f (p1 : Int32).toNatClampNeg)) ((((4 : Int32) * h_many) + 2) : Int32).toNatClampNeg)))), (h_plus, .inl (cI, 81, .inl h_plus_f)), (h_parts, .inl (cI, 392, .inl h_parts_f))] H := hP
    have hD : va_D A [(h, .inr (7, [.ref h_s, .ref h_aside, .ref h_past, .int h_pasts, .ref h_snapshot, .int h_isKept, .ref h_pad, .int h_length, .ref h_steps, .int h_many, .int h_value, .ref h_summed, .ref h_plus, .ref h_parts])), (h_s, .inl (cI, 65, .inl h_s_f)), (h_aside, .inl (cI, 65, .inl h_aside_f)), (h_past, .inl (cI, 260, .inl h_past_f)), (h_snapshot, .inl (cI, 65, .inl h_snapshot_f)), (h_pad, .inl (cI, 80, .inl h_pad_f)), (h_steps, .inl (cI, 320, .inl (upd (upd (upd (upd h_steps_f (((4 : Int32) * h_many) : Int32).toNatClampNeg (h_summed_f (p1 : Int32).toNatClampNeg)) ((((4 : Int32) * h_many) + 1) : Int32).toNatClampNeg p2) ((((4 : Int32) * h_many) + 2) : Int32).toNatClampNeg z_1) ((((4 : Int32) * h_many) + 3) : Int32).toNatClampNeg (h_plus_f (p1 : Int32).toNatClampNeg)))), (h_summed, .inl (cI, 81, .inl (upd h_summed_f (p1 : Int32).toNatClampNeg ((upd (upd (upd (upd h_steps_f (((4 : Int32) * h_many) : Int32).toNatClampNeg (h_summed_f (p1 : Int32).toNatClampNeg)) ((((4 : Int32) * h_many) + 1) : Int32).toNatClampNeg p2) ((((4 : Int32) * h_many) + 2) : Int32).toNatClampNeg z_1) ((((4 : Int32) * h_many) + 3) : Int32).toNatClampNeg (h_plus_f (p1 : Int32).toNatClampNeg)) ((((4 : Int32) * h_many) + 2) : Int32).toNatClampNeg)))), (h_plus, .inl (cI, 81, .inl h_plus_f)), (h_parts, .inl (cI, 392, .inl h_parts_f))] := hD
    refine lv_aload_n hx hb dX10_comes_111 rfl (lv_at hl 0 rfl) ?_
    refine lv_dup hx hb dX10_comes_112 rfl ?_
    refine va_get (D := D) (ci := 7) (v := .int h_many) (C := RX10) (T := TX10) (N := 14) hx hb hts hi_X10 hown hK hP 0 rfl rfl 9 (by decide) hf_120 (fun _ h9 => h9) rfl dX10_comes_113 ?_
    refine lv_iconst (v := 1) hx hb dX10_comes_116 (by decide) ?_
    refine lv_iadd hx hb dX10_comes_117 ?_
    refine va_put (D := D) (ci := 7) (v := .int (h_many + 1)) (ty := .int) (C := RX10) (T := TX10) (N := 14) hx hb hts hi_X10 tyX10 tyX10_ok nmX10 hown hK hP hD hS 0 rfl rfl 9 (by decide) hf_120 (fun _ h9 => h9) rfl (by decide +kernel) rfl rfl (Nat.le_of_ble_eq_true rfl) dX10_comes_118 (fun H locs hP hD hS => ?_)
    have hP : va_P D vwCl [(h, .inr (7, [.ref h_s, .ref h_aside, .ref h_past, .int h_pasts, .ref h_snapshot, .int h_isKept, .ref h_pad, .int h_length, .ref h_steps, .int (h_many + 1), .int h_value, .ref h_summed, .ref h_plus, .ref h_parts])), (h_s, .inl (cI, 65, .inl h_s_f)), (h_aside, .inl (cI, 65, .inl h_aside_f)), (h_past, .inl (cI, 260, .inl h_past_f)), (h_snapshot, .inl (cI, 65, .inl h_snapshot_f)), (h_pad, .inl (cI, 80, .inl h_pad_f)), (h_steps, .inl (cI, 320, .inl (upd (upd (upd (upd h_steps_f (((4 : Int32) * h_many) : Int32).toNatClampNeg (h_summed_f (p1 : Int32).toNatClampNeg)) ((((4 : Int32) * h_many) + 1) : Int32).toNatClampNeg p2) ((((4 : Int32) * h_many) + 2) : Int32).toNatClampNeg z_1) ((((4 : Int32) * h_many) + 3) : Int32).toNatClampNeg (h_plus_f (p1 : Int32).toNatClampNeg)))), (h_summed, .inl (cI, 81, .inl (upd h_summed_f (p1 : Int32).toNatClampNeg ((upd (upd (upd (upd h_steps_f (((4 : Int32) * h_many) : Int32).toNatClampNeg (h_summed_f (p1 : Int32).toNatClampNeg)) ((((4 : Int32) * h_many) + 1) : Int32).toNatClampNeg p2) ((((4 : Int32) * h_many) + 2) : Int32).toNatClampNeg z_1) ((((4 : Int32) * h_many) + 3) : Int32).toNatClampNeg (h_plus_f (p1 : Int32).toNatClampNeg)) ((((4 : Int32) * h_many) + 2) : Int32).toNatClampNeg)))), (h_plus, .inl (cI, 81, .inl h_plus_f)), (h_parts, .inl (cI, 392, .inl h_parts_f))] H := hP
    have hD : va_D A [(h, .inr (7, [.ref h_s, .ref h_aside, .ref h_past, .int h_pasts, .ref h_snapshot, .int h_isKept, .ref h_pad, .int h_length, .ref h_steps, .int (h_many + 1), .int h_value, .ref h_summed, .ref h_plus, .ref h_parts])), (h_s, .inl (cI, 65, .inl h_s_f)), (h_aside, .inl (cI, 65, .inl h_aside_f)), (h_past, .inl (cI, 260, .inl h_past_f)), (h_snapshot, .inl (cI, 65, .inl h_snapshot_f)), (h_pad, .inl (cI, 80, .inl h_pad_f)), (h_steps, .inl (cI, 320, .inl (upd (upd (upd (upd h_steps_f (((4 : Int32) * h_many) : Int32).toNatClampNeg (h_summed_f (p1 : Int32).toNatClampNeg)) ((((4 : Int32) * h_many) + 1) : Int32).toNatClampNeg p2) ((((4 : Int32) * h_many) + 2) : Int32).toNatClampNeg z_1) ((((4 : Int32) * h_many) + 3) : Int32).toNatClampNeg (h_plus_f (p1 : Int32).toNatClampNeg)))), (h_summed, .inl (cI, 81, .inl (upd h_summed_f (p1 : Int32).toNatClampNeg ((upd (upd (upd (upd h_steps_f (((4 : Int32) * h_many) : Int32).toNatClampNeg (h_summed_f (p1 : Int32).toNatClampNeg)) ((((4 : Int32) * h_many) + 1) : Int32).toNatClampNeg p2) ((((4 : Int32) * h_many) + 2) : Int32).toNatClampNeg z_1) ((((4 : Int32) * h_many) + 3) : Int32).toNatClampNeg (h_plus_f (p1 : Int32).toNatClampNeg)) ((((4 : Int32) * h_many) + 2) : Int32).toNatClampNeg)))), (h_plus, .inl (cI, 81, .inl h_plus_f)), (h_parts, .inl (cI, 392, .inl h_parts_f))] := hD
    have e0 := Option.some.inj h0
    subst e0
    exact W.vret hx hb hr (fun t ht hW => wr_end () ht hP hD hS) hS.2.2 dX10_comes_121
  · have h0 := it_t c9 h0
    refine lv_aload_n hx hb dX10_comes_10 rfl (lv_at hl 0 rfl) ?_
    refine va_get (D := D) (ci := 7) (v := .ref h_summed) (C := RX10) (T := TX10) (N := 14) hx hb hts hi_X10 hown hK hP 0 rfl rfl 11 (by decide) hf_28 (fun _ h9 => h9) rfl dX10_comes_11 ?_
    refine lv_iload_n hx hb dX10_comes_14 rfl (lv_at hl 1 rfl) ?_
    refine lv_iload_n hx hb dX10_comes_15 rfl (lv_at hl 2 rfl) ?_
    obtain ⟨g0, h0⟩ := gd_ok h0
    refine va_iast hx hb hK hP hD hS 7 0 rfl rfl (inb_ok g0) dX10_comes_16 (fun H locs hP hD hS => ?_)
    have hP : va_P D vwCl [(h, .inr (7, [.ref h_s, .ref h_aside, .ref h_past, .int h_pasts, .ref h_snapshot, .int h_isKept, .ref h_pad, .int h_length, .ref h_steps, .int h_many, .int h_value, .ref h_summed, .ref h_plus, .ref h_parts])), (h_s, .inl (cI, 65, .inl h_s_f)), (h_aside, .inl (cI, 65, .inl h_aside_f)), (h_past, .inl (cI, 260, .inl h_past_f)), (h_snapshot, .inl (cI, 65, .inl h_snapshot_f)), (h_pad, .inl (cI, 80, .inl h_pad_f)), (h_steps, .inl (cI, 320, .inl h_steps_f)), (h_summed, .inl (cI, 81, .inl (upd h_summed_f (p1 : Int32).toNatClampNeg p2))), (h_plus, .inl (cI, 81, .inl h_plus_f)), (h_parts, .inl (cI, 392, .inl h_parts_f))] H := hP
    have hD : va_D A [(h, .inr (7, [.ref h_s, .ref h_aside, .ref h_past, .int h_pasts, .ref h_snapshot, .int h_isKept, .ref h_pad, .int h_length, .ref h_steps, .int h_many, .int h_value, .ref h_summed, .ref h_plus, .ref h_parts])), (h_s, .inl (cI, 65, .inl h_s_f)), (h_aside, .inl (cI, 65, .inl h_aside_f)), (h_past, .inl (cI, 260, .inl h_past_f)), (h_snapshot, .inl (cI, 65, .inl h_snapshot_f)), (h_pad, .inl (cI, 80, .inl h_pad_f)), (h_steps, .inl (cI, 320, .inl h_steps_f)), (h_summed, .inl (cI, 81, .inl (upd h_summed_f (p1 : Int32).toNatClampNeg p2))), (h_plus, .inl (cI, 81, .inl h_plus_f)), (h_parts, .inl (cI, 392, .inl h_parts_f))] := hD
    have e0 := Option.some.inj h0
    subst e0
    exact W.vret hx hb hr (fun t ht hW => wr_end () ht hP hD hS) hS.2.2 dX10_comes_17
noncomputable def mX10_isTokenAt (h_s_f : Nat → Int32) (h_pad_f : Nat → Int32) (p1 : Int32) : Option (Int32) :=
  gd (inb p1 80) (bd (mX10_isToken h_s_f ((h_pad_f (p1 : Int32).toNatClampNeg) - 48)) (fun z_1 => gd (nbz z_1) (some (z_1))))
set_option maxHeartbeats 8000000 in
set_option maxRecDepth 100000 in
theorem kX10_isTokenAt (l : Launch) (D : va_G) (cI cC cT : ClassId) (h h_s h_aside h_past h_snapshot h_pad h_steps h_summed h_plus h_parts : Nat) (h_s_f : Nat → Int32) (h_aside_f : Nat → Int32) (h_past_f : Nat → Int32) (h_pasts : Int32) (h_snapshot_f : Nat → Int32) (h_isKept : Int32) (h_pad_f : Nat → Int32) (h_length : Int32) (h_steps_f : Nat → Int32) (h_many : Int32) (h_value : Int32) (h_summed_f : Nat → Int32) (h_plus_f : Nat → Int32) (h_parts_f : Nat → Int32) (p1 : Int32) (z : Int32) (h0 : mX10_isTokenAt h_s_f h_pad_f p1 = some z) : Met l yX10_isTokenAt wsX10_isTokenAt ({ frames := 2, cells := 0, slots := 0, locals := 43 } : Room) (va_Pc [.ref h, .int p1] (rP D cI cC cT [(h, .inr (7, [.ref h_s, .ref h_aside, .ref h_past, .int h_pasts, .ref h_snapshot, .int h_isKept, .ref h_pad, .int h_length, .ref h_steps, .int h_many, .int h_value, .ref h_summed, .ref h_plus, .ref h_parts])), (h_s, .inl (cI, 65, .inl h_s_f)), (h_aside, .inl (cI, 65, .inl h_aside_f)), (h_past, .inl (cI, 260, .inl h_past_f)), (h_snapshot, .inl (cI, 65, .inl h_snapshot_f)), (h_pad, .inl (cI, 80, .inl h_pad_f)), (h_steps, .inl (cI, 320, .inl h_steps_f)), (h_summed, .inl (cI, 81, .inl h_summed_f)), (h_plus, .inl (cI, 81, .inl h_plus_f)), (h_parts, .inl (cI, 392, .inl h_parts_f))])) (rQ (some (.int z))) 0 0 (fun _ => False) := by
  refine Met.ofW (cc := cX10_isTokenAt) (maxL := 2) (ret := (some .boolean)) (by decide) rfl ?_
  intro p e s m args below meth c s₁ B hml hv
  obtain ⟨rfl, hP, hE⟩ := hv
  have hx := B.exec
  have hb := B.bytes
  have hr := B.returns
  have hts := atoms_spec (ws := wsX10_isTokenAt) B.pre
  have hown : s.vm.findClass RX10 = some m.cls := findClass_of_methodNamed B.named
  have hlocks := B.notSynchronized
  have hK := hE.1
  have hcf : CallFix p m c cX10_isTokenAt 2 s ([.ref h, .int p1] : List Value).toArray wsX10_isTokenAt RX10 := ⟨hx, hb, hml, hown, hts⟩
  have hP : va_P D vwCl [(h, .inr (7, [.ref h_s, .ref h_aside, .ref h_past, .int h_pasts, .ref h_snapshot, .int h_isKept, .ref h_pad, .int h_length, .ref h_steps, .int h_many, .int h_value, .ref h_summed, .ref h_plus, .ref h_parts])), (h_s, .inl (cI, 65, .inl h_s_f)), (h_aside, .inl (cI, 65, .inl h_aside_f)), (h_past, .inl (cI, 260, .inl h_past_f)), (h_snapshot, .inl (cI, 65, .inl h_snapshot_f)), (h_pad, .inl (cI, 80, .inl h_pad_f)), (h_steps, .inl (cI, 320, .inl h_steps_f)), (h_summed, .inl (cI, 81, .inl h_summed_f)), (h_plus, .inl (cI, 81, .inl h_plus_f)), (h_parts, .inl (cI, 392, .inl h_parts_f))] s.heap := hP
  have hf_22 := hts (.fieldLink RX10 22 "CrookedSumsModel" "pad" "[I") (by decide +kernel)
  have hi_X10 := (show ∀ w ∈ u_ws RX10 TX10 14, w ∈ wsX10_isTokenAt from by decide +kernel)
  have hl := lv_entry ([.ref h, .int p1]) (n := 2) (Nat.le_of_ble_eq_true rfl)
  rw [lg_entry_eq]
  generalize (lg_sl ([.ref h, .int p1]) ++ List.replicate (2 - (lg_sl ([.ref h, .int p1])).length) Slot.unset).toArray = ls at hl ⊢
  have hl : lv_has ls 2 [(0, .ref h), (1, .int p1)] := hl
  unfold mX10_isTokenAt at h0
  refine lv_aload_n hx hb dX10_isTokenAt_0 rfl (lv_at hl 0 rfl) ?_
  refine lv_aload_n hx hb dX10_isTokenAt_1 rfl (lv_at hl 0 rfl) ?_
  refine va_get (D := D) (ci := 7) (v := .ref h_pad) (C := RX10) (T := TX10) (N := 14) hx hb hts hi_X10 hown hK hP 0 rfl rfl 6 (by decide) hf_22 (fun _ h9 => h9) rfl dX10_isTokenAt_2 ?_
  refine lv_iload_n hx hb dX10_isTokenAt_5 rfl (lv_at hl 1 rfl) ?_
  obtain ⟨g0, h0⟩ := gd_ok h0
  refine va_iald hx hb hK hP 5 0 rfl rfl (inb_ok g0) dX10_isTokenAt_6 ?_
  refine lv_bipush (v := 48) hx hb dX10_isTokenAt_7 (by decide) ?_
  refine lv_isub hx hb dX10_isTokenAt_9 ?_
  obtain ⟨z_1, hz, h0⟩ := bd_ok h0
  refine ro_V (As := [.int ((h_pad_f (p1 : Int32).toNatClampNeg) - 48)]) (rest := []) (wc := [(h, .inr (7, [.ref h_s, .ref h_aside, .ref h_past, .int h_pasts, .ref h_snapshot, .int h_isKept, .ref h_pad, .int h_length, .ref h_steps, .int h_many, .int h_value, .ref h_summed, .ref h_plus, .ref h_parts])), (h_s, .inl (cI, 65, .inl h_s_f)), (h_aside, .inl (cI, 65, .inl h_aside_f)), (h_past, .inl (cI, 260, .inl h_past_f)), (h_snapshot, .inl (cI, 65, .inl h_snapshot_f)), (h_pad, .inl (cI, 80, .inl h_pad_f)), (h_steps, .inl (cI, 320, .inl h_steps_f)), (h_summed, .inl (cI, 81, .inl h_summed_f)), (h_plus, .inl (cI, 81, .inl h_plus_f)), (h_parts, .inl (cI, 392, .inl h_parts_f))]) hcf (kX10_isToken l D cI cC cT h h_s h_aside h_past h_snapshot h_pad h_steps h_summed h_plus h_parts h_s_f h_aside_f h_past_f h_pasts h_snapshot_f h_isKept h_pad_f h_length h_steps_f h_many h_value h_summed_f h_plus_f h_parts_f ((h_pad_f (p1 : Int32).toNatClampNeg) - 48) z_1 hz) (cwV 1 hts gX10_isTokenAt_X10_isToken rfl rfl rfl (by decide +kernel) ⟨Nat.le_of_ble_eq_true rfl, Nat.le_of_ble_eq_true rfl⟩) hE (hP.sub [0, 1, 2, 3, 4, 5, 6, 7, 8, 9] rfl) (va_recv hK hP (ci := 7) (q0 := 0) rfl rfl) rfl hl.1 rfl (Nat.le_of_ble_eq_true rfl) dX10_isTokenAt_10 ⟨Nat.le_of_ble_eq_true rfl, Nat.le_of_ble_eq_true rfl⟩ ?_
  refine W.eq (g2 := F0 m 13 ls [.int z_1]) rfl ?_
  obtain ⟨g0, h0⟩ := gd_ok h0
  have e0 := Option.some.inj h0
  subst e0
  exact W.zret (ty := .boolean) (v := z_1) hx hb hr (nbz_ok g0) (fun t ht hW => ⟨rfl, ht⟩) (fun q hq => absurd hq List.not_mem_nil) dX10_isTokenAt_13
noncomputable def mX10_rowFault_L2 (h_s_f : Nat → Int32) (h_pad_f : Nat → Int32) (h_length : Int32) (k2_32 : Int32 → Option (Int32)) : Nat → Int32 → Option (Int32)
  | 0, _ => none
  | F + 1, x1_3 => if h_length ≤ x1_3 then (k2_32 x1_3) else (if x1_3 = 7 then (some (x1_3)) else (bd (mX10_isTokenAt h_s_f h_pad_f x1_3) (fun z_4 => if z_4 = 0 then (some (x1_3)) else (mX10_rowFault_L2 h_s_f h_pad_f h_length k2_32 F (x1_3 + 1)))))
noncomputable def mX10_rowFault (h_s_f : Nat → Int32) (h_pad_f : Nat → Int32) (h_length : Int32) : Option (Int32) :=
  mX10_rowFault_L2 h_s_f h_pad_f h_length (fun (x1_1 : Int32) => if h_length = 0 then (some (0)) else (some ((-1)))) FU 0
set_option maxHeartbeats 8000000 in
set_option maxRecDepth 100000 in
theorem kX10_rowFault (l : Launch) (D : va_G) (cI cC cT : ClassId) (h h_s h_aside h_past h_snapshot h_pad h_steps h_summed h_plus h_parts : Nat) (h_s_f : Nat → Int32) (h_aside_f : Nat → Int32) (h_past_f : Nat → Int32) (h_pasts : Int32) (h_snapshot_f : Nat → Int32) (h_isKept : Int32) (h_pad_f : Nat → Int32) (h_length : Int32) (h_steps_f : Nat → Int32) (h_many : Int32) (h_value : Int32) (h_summed_f : Nat → Int32) (h_plus_f : Nat → Int32) (h_parts_f : Nat → Int32) (z : Int32) (h0 : mX10_rowFault h_s_f h_pad_f h_length = some z) : Met l yX10_rowFault wsX10_rowFault ({ frames := 3, cells := 0, slots := 0, locals := 64 } : Room) (va_Pc [.ref h] (rP D cI cC cT [(h, .inr (7, [.ref h_s, .ref h_aside, .ref h_past, .int h_pasts, .ref h_snapshot, .int h_isKept, .ref h_pad, .int h_length, .ref h_steps, .int h_many, .int h_value, .ref h_summed, .ref h_plus, .ref h_parts])), (h_s, .inl (cI, 65, .inl h_s_f)), (h_aside, .inl (cI, 65, .inl h_aside_f)), (h_past, .inl (cI, 260, .inl h_past_f)), (h_snapshot, .inl (cI, 65, .inl h_snapshot_f)), (h_pad, .inl (cI, 80, .inl h_pad_f)), (h_steps, .inl (cI, 320, .inl h_steps_f)), (h_summed, .inl (cI, 81, .inl h_summed_f)), (h_plus, .inl (cI, 81, .inl h_plus_f)), (h_parts, .inl (cI, 392, .inl h_parts_f))])) (rQ (some (.int z))) 0 0 (fun _ => False) := by
  refine Met.ofW (cc := cX10_rowFault) (maxL := 2) (ret := (some .int)) (by decide) rfl ?_
  intro p e s m args below meth c s₁ B hml hv
  obtain ⟨rfl, hP, hE⟩ := hv
  have hx := B.exec
  have hb := B.bytes
  have hr := B.returns
  have hts := atoms_spec (ws := wsX10_rowFault) B.pre
  have hown : s.vm.findClass RX10 = some m.cls := findClass_of_methodNamed B.named
  have hlocks := B.notSynchronized
  have hK := hE.1
  have hcf : CallFix p m c cX10_rowFault 2 s ([.ref h] : List Value).toArray wsX10_rowFault RX10 := ⟨hx, hb, hml, hown, hts⟩
  have hP : va_P D vwCl [(h, .inr (7, [.ref h_s, .ref h_aside, .ref h_past, .int h_pasts, .ref h_snapshot, .int h_isKept, .ref h_pad, .int h_length, .ref h_steps, .int h_many, .int h_value, .ref h_summed, .ref h_plus, .ref h_parts])), (h_s, .inl (cI, 65, .inl h_s_f)), (h_aside, .inl (cI, 65, .inl h_aside_f)), (h_past, .inl (cI, 260, .inl h_past_f)), (h_snapshot, .inl (cI, 65, .inl h_snapshot_f)), (h_pad, .inl (cI, 80, .inl h_pad_f)), (h_steps, .inl (cI, 320, .inl h_steps_f)), (h_summed, .inl (cI, 81, .inl h_summed_f)), (h_plus, .inl (cI, 81, .inl h_plus_f)), (h_parts, .inl (cI, 392, .inl h_parts_f))] s.heap := hP
  have hf_111 := hts (.fieldLink RX10 111 "CrookedSumsModel" "length" "I") (by decide +kernel)
  have hi_X10 := (show ∀ w ∈ u_ws RX10 TX10 14, w ∈ wsX10_rowFault from by decide +kernel)
  have hl := lv_entry ([.ref h]) (n := 2) (Nat.le_of_ble_eq_true rfl)
  rw [lg_entry_eq]
  generalize (lg_sl ([.ref h]) ++ List.replicate (2 - (lg_sl ([.ref h])).length) Slot.unset).toArray = ls at hl ⊢
  have hl : lv_has ls 2 [(0, .ref h)] := hl
  unfold mX10_rowFault at h0
  refine lv_iconst (v := 0) hx hb dX10_rowFault_0 (by decide) ?_
  refine lv_istore_n (lv' := [(1, .int 0), (0, .ref h)]) hx hb dX10_rowFault_1 rfl hl (by decide) rfl (fun ls hl => ?_)
  have E_2_32_1 : ∀ (x1_1 : Int32) (ls : Array Slot), (if h_length = 0 then (some (0)) else (some ((-1)))) = some z → lv_has ls 2 [(1, .int x1_1), (0, .ref h)] → W p l e (headSpec wsX10_rowFault ({ frames := 3, cells := 0, slots := 0, locals := 64 } : Room)).room s m (([.ref h] : List Value).toArray) below meth c s.heap [] 0 0 (MQ below (rQ (some (.int z))) (([.ref h] : List Value).toArray) s 0 0 (fun _ => False)) (F0 m 32 ls []) := by
    intro x1_1 ls h0 hl
    refine lv_aload_n hx hb dX10_rowFault_32 rfl (lv_at hl 1 rfl) ?_
    refine va_get (D := D) (ci := 7) (v := .int h_length) (C := RX10) (T := TX10) (N := 14) hx hb hts hi_X10 hown hK hP 0 rfl rfl 7 (by decide) hf_111 (fun _ h9 => h9) rfl dX10_rowFault_33 ?_
    refine lv_if_ne (tgt := 43) hx hb dX10_rowFault_36 (by decide) (fun c9 => ?_) (fun c9 => ?_)
    · have h0 := it_f c9 h0
      refine lv_iconst (v := (-1)) hx hb dX10_rowFault_43 (by decide) ?_
      have e0 := Option.some.inj h0
      subst e0
      exact W.iret (v := (-1)) hx hb hr (fun t ht hW => ⟨rfl, ht⟩) (fun q hq => absurd hq List.not_mem_nil) dX10_rowFault_44
    · have h0 := it_t c9 h0
      refine lv_iconst (v := 0) hx hb dX10_rowFault_39 (by decide) ?_
      refine lv_goto (tgt := 44) hx hb dX10_rowFault_40 (by decide) ?_
      have e0 := Option.some.inj h0
      subst e0
      exact W.iret (v := 0) hx hb hr (fun t ht hW => ⟨rfl, ht⟩) (fun q hq => absurd hq List.not_mem_nil) dX10_rowFault_44
  have L_2_4 : ∀ (F2 : Nat) (x1_3 : Int32) (ls : Array Slot), mX10_rowFault_L2 h_s_f h_pad_f h_length (fun (x1_1 : Int32) => if h_length = 0 then (some (0)) else (some ((-1)))) F2 x1_3 = some z → lv_has ls 2 [(1, .int x1_3), (0, .ref h)] → W p l e (headSpec wsX10_rowFault ({ frames := 3, cells := 0, slots := 0, locals := 64 } : Room)).room s m (([.ref h] : List Value).toArray) below meth c s.heap [] 0 0 (MQ below (rQ (some (.int z))) (([.ref h] : List Value).toArray) s 0 0 (fun _ => False)) (F0 m 2 ls []) := by
    intro F2
    induction F2 with
    | zero => intro x1_3 ls h0 hl; cases h0
    | succ F2 ih2 =>
      intro x1_3 ls h0 hl
      rw [mX10_rowFault_L2] at h0
      refine lv_iload_n hx hb dX10_rowFault_2 rfl (lv_at hl 0 rfl) ?_
      refine lv_aload_n hx hb dX10_rowFault_3 rfl (lv_at hl 1 rfl) ?_
      refine va_get (D := D) (ci := 7) (v := .int h_length) (C := RX10) (T := TX10) (N := 14) hx hb hts hi_X10 hown hK hP 0 rfl rfl 7 (by decide) hf_111 (fun _ h9 => h9) rfl dX10_rowFault_4 ?_
      refine lv_icmp_ge (tgt := 32) hx hb dX10_rowFault_7 (by decide) (fun c9 => ?_) (fun c9 => ?_)
      · have h0 := it_t c9 h0
        exact E_2_32_1 x1_3 ls h0 hl
      · have h0 := it_f c9 h0
        refine lv_iload_n hx hb dX10_rowFault_10 rfl (lv_at hl 0 rfl) ?_
        refine lv_bipush (v := 7) hx hb dX10_rowFault_11 (by decide) ?_
        refine lv_icmp_eq (tgt := 24) hx hb dX10_rowFault_13 (by decide) (fun c9 => ?_) (fun c9 => ?_)
        · have h0 := it_t c9 h0
          refine lv_iload_n hx hb dX10_rowFault_24 rfl (lv_at hl 0 rfl) ?_
          have e0 := Option.some.inj h0
          subst e0
          exact W.iret (v := x1_3) hx hb hr (fun t ht hW => ⟨rfl, ht⟩) (fun q hq => absurd hq List.not_mem_nil) dX10_rowFault_25
        · have h0 := it_f c9 h0
          refine lv_aload_n hx hb dX10_rowFault_16 rfl (lv_at hl 1 rfl) ?_
          refine lv_iload_n hx hb dX10_rowFault_17 rfl (lv_at hl 0 rfl) ?_
          obtain ⟨z_4, hz, h0⟩ := bd_ok h0
          refine ro_V (As := [.int x1_3]) (rest := []) (wc := [(h, .inr (7, [.ref h_s, .ref h_aside, .ref h_past, .int h_pasts, .ref h_snapshot, .int h_isKept, .ref h_pad, .int h_length, .ref h_steps, .int h_many, .int h_value, .ref h_summed, .ref h_plus, .ref h_parts])), (h_s, .inl (cI, 65, .inl h_s_f)), (h_aside, .inl (cI, 65, .inl h_aside_f)), (h_past, .inl (cI, 260, .inl h_past_f)), (h_snapshot, .inl (cI, 65, .inl h_snapshot_f)), (h_pad, .inl (cI, 80, .inl h_pad_f)), (h_steps, .inl (cI, 320, .inl h_steps_f)), (h_summed, .inl (cI, 81, .inl h_summed_f)), (h_plus, .inl (cI, 81, .inl h_plus_f)), (h_parts, .inl (cI, 392, .inl h_parts_f))]) hcf (kX10_isTokenAt l D cI cC cT h h_s h_aside h_past h_snapshot h_pad h_steps h_summed h_plus h_parts h_s_f h_aside_f h_past_f h_pasts h_snapshot_f h_isKept h_pad_f h_length h_steps_f h_many h_value h_summed_f h_plus_f h_parts_f x1_3 z_4 hz) (cwV 1 hts gX10_rowFault_X10_isTokenAt rfl rfl rfl (by decide +kernel) ⟨Nat.le_of_ble_eq_true rfl, Nat.le_of_ble_eq_true rfl⟩) hE (hP.sub [0, 1, 2, 3, 4, 5, 6, 7, 8, 9] rfl) (va_recv hK hP (ci := 7) (q0 := 0) rfl rfl) rfl hl.1 rfl (Nat.le_of_ble_eq_true rfl) dX10_rowFault_18 ⟨Nat.le_of_ble_eq_true rfl, Nat.le_of_ble_eq_true rfl⟩ ?_
          refine W.eq (g2 := F0 m 21 ls [.int z_4]) rfl ?_
          refine lv_if_ne (tgt := 26) hx hb dX10_rowFault_21 (by decide) (fun c9 => ?_) (fun c9 => ?_)
          · have h0 := it_f c9 h0
            refine lv_iinc (v := (x1_3 + 1)) (lv' := [(1, .int (x1_3 + 1)), (0, .ref h)]) hx hb dX10_rowFault_26 hl (k := 0) rfl rfl (by decide) rfl (fun ls hl => ?_)
            refine lv_goto (tgt := 2) hx hb dX10_rowFault_29 (by decide) ?_
            exact ih2 (x1_3 + 1) ls h0 hl
          · have h0 := it_t c9 h0
            refine lv_iload_n hx hb dX10_rowFault_24 rfl (lv_at hl 0 rfl) ?_
            have e0 := Option.some.inj h0
            subst e0
            exact W.iret (v := x1_3) hx hb hr (fun t ht hW => ⟨rfl, ht⟩) (fun q hq => absurd hq List.not_mem_nil) dX10_rowFault_25
  exact L_2_4 FU 0 ls h0 hl
noncomputable def mX10_cut_L52 (h_s_f : Nat → Int32) (h_length : Int32) (p1 : Int32) (z_3 : (Nat → Int32)) (x2_6 : Int32) (x3_9 : Int32) (k52_120 : Int32 → Option (Int32 × (Nat → Int32))) : Nat → Int32 → Option (Int32 × (Nat → Int32))
  | 0, _ => none
  | F + 1, x4_12 => if (h_s_f (0 : Int32).toNatClampNeg) ≤ x4_12 then (k52_120 x4_12) else (bd (mX10_plain h_s_f x3_9 x4_12) (fun z_13 => if z_13 = p1 then (bd (mX10_part 0 x2_6 x3_9) (fun z_14 => gd (inb z_14 392) (if (z_3 (z_14 : Int32).toNatClampNeg) ≤ 0 then (mX10_cut_L52 h_s_f h_length p1 z_3 x2_6 x3_9 k52_120 F (x4_12 + 1)) else (bd (mX10_part (x2_6 + 1) (h_length - 1) x4_12) (fun z_15 => gd (inb z_15 392) (if (z_3 (z_15 : Int32).toNatClampNeg) ≤ 0 then (mX10_cut_L52 h_s_f h_length p1 z_3 x2_6 x3_9 k52_120 F (x4_12 + 1)) else (some ((x2_6 + 1), z_3)))))))) else (mX10_cut_L52 h_s_f h_length p1 z_3 x2_6 x3_9 k52_120 F (x4_12 + 1))))
noncomputable def mX10_cut_L39 (h_s_f : Nat → Int32) (h_length : Int32) (p1 : Int32) (z_3 : (Nat → Int32)) (x2_6 : Int32) (k39_126 : Int32 → Option (Int32 × (Nat → Int32))) : Nat → Int32 → Option (Int32 × (Nat → Int32))
  | 0, _ => none
  | F + 1, x3_9 => if (h_s_f (0 : Int32).toNatClampNeg) ≤ x3_9 then (k39_126 x3_9) else (mX10_cut_L52 h_s_f h_length p1 z_3 x2_6 x3_9 (fun (x4_10 : Int32) => mX10_cut_L39 h_s_f h_length p1 z_3 x2_6 k39_126 F (x3_9 + 1)) FU 0)
noncomputable def mX10_cut_L27 (h_s_f : Nat → Int32) (h_length : Int32) (p1 : Int32) (z_3 : (Nat → Int32)) (k27_132 : Int32 → Option (Int32 × (Nat → Int32))) : Nat → Int32 → Option (Int32 × (Nat → Int32))
  | 0, _ => none
  | F + 1, x2_6 => if h_length ≤ (x2_6 + 1) then (k27_132 x2_6) else (mX10_cut_L39 h_s_f h_length p1 z_3 x2_6 (fun (x3_7 : Int32) => mX10_cut_L27 h_s_f h_length p1 z_3 k27_132 F (x2_6 + 1)) FU 0)
noncomputable def mX10_cut (h_s_f : Nat → Int32) (h_pad_f : Nat → Int32) (h_length : Int32) (h_parts_f : Nat → Int32) (p1 : Int32) : Option (Int32 × (Nat → Int32)) :=
  bd (mX10_isToken h_s_f p1) (fun z_1 => if z_1 = 0 then (some ((-1), h_parts_f)) else (bd (mX10_rowFault h_s_f h_pad_f h_length) (fun z_2 => if z_2 = (-1) then (bd (mX10_laysParts h_s_f h_pad_f h_length h_parts_f) (fun z_3 => mX10_cut_L27 h_s_f h_length p1 z_3 (fun (x2_4 : Int32) => some ((-4), z_3)) FU 0)) else (some ((-2), h_parts_f)))))
set_option maxHeartbeats 8000000 in
set_option maxRecDepth 100000 in
theorem kX10_cut (l : Launch) (D : va_G) (cI cC cT : ClassId) (h h_s h_aside h_past h_snapshot h_pad h_steps h_summed h_plus h_parts : Nat) (h_s_f : Nat → Int32) (h_aside_f : Nat → Int32) (h_past_f : Nat → Int32) (h_pasts : Int32) (h_snapshot_f : Nat → Int32) (h_isKept : Int32) (h_pad_f : Nat → Int32) (h_length : Int32) (h_steps_f : Nat → Int32) (h_many : Int32) (h_value : Int32) (h_summed_f : Nat → Int32) (h_plus_f : Nat → Int32) (h_parts_f : Nat → Int32) (p1 : Int32) (sz : Nat) (z : Int32 × (Nat → Int32)) (h0 : mX10_cut h_s_f h_pad_f h_length h_parts_f p1 = some z) : Met l yX10_cut wsX10_cut ({ frames := 4, cells := 0, slots := 0, locals := 91 } : Room) (va_Pc [.ref h, .int p1] (wP D cI cC cT [(h, .inr (7, [.ref h_s, .ref h_aside, .ref h_past, .int h_pasts, .ref h_snapshot, .int h_isKept, .ref h_pad, .int h_length, .ref h_steps, .int h_many, .int h_value, .ref h_summed, .ref h_plus, .ref h_parts])), (h_s, .inl (cI, 65, .inl h_s_f)), (h_aside, .inl (cI, 65, .inl h_aside_f)), (h_past, .inl (cI, 260, .inl h_past_f)), (h_snapshot, .inl (cI, 65, .inl h_snapshot_f)), (h_pad, .inl (cI, 80, .inl h_pad_f)), (h_steps, .inl (cI, 320, .inl h_steps_f)), (h_summed, .inl (cI, 81, .inl h_summed_f)), (h_plus, .inl (cI, 81, .inl h_plus_f)), (h_parts, .inl (cI, 392, .inl h_parts_f))] sz)) (wQ D (some (.int z.1)) (va_A [(h, .inr (7, [.ref h_s, .ref h_aside, .ref h_past, .int h_pasts, .ref h_snapshot, .int h_isKept, .ref h_pad, .int h_length, .ref h_steps, .int h_many, .int h_value, .ref h_summed, .ref h_plus, .ref h_parts])), (h_s, .inl (cI, 65, .inl h_s_f)), (h_aside, .inl (cI, 65, .inl h_aside_f)), (h_past, .inl (cI, 260, .inl h_past_f)), (h_snapshot, .inl (cI, 65, .inl h_snapshot_f)), (h_pad, .inl (cI, 80, .inl h_pad_f)), (h_steps, .inl (cI, 320, .inl h_steps_f)), (h_summed, .inl (cI, 81, .inl h_summed_f)), (h_plus, .inl (cI, 81, .inl h_plus_f)), (h_parts, .inl (cI, 392, .inl h_parts_f))] sz) (fun (u : Unit) => [(h, .inr (7, [.ref h_s, .ref h_aside, .ref h_past, .int h_pasts, .ref h_snapshot, .int h_isKept, .ref h_pad, .int h_length, .ref h_steps, .int h_many, .int h_value, .ref h_summed, .ref h_plus, .ref h_parts])), (h_s, .inl (cI, 65, .inl h_s_f)), (h_aside, .inl (cI, 65, .inl h_aside_f)), (h_past, .inl (cI, 260, .inl h_past_f)), (h_snapshot, .inl (cI, 65, .inl h_snapshot_f)), (h_pad, .inl (cI, 80, .inl h_pad_f)), (h_steps, .inl (cI, 320, .inl h_steps_f)), (h_summed, .inl (cI, 81, .inl h_summed_f)), (h_plus, .inl (cI, 81, .inl h_plus_f)), (h_parts, .inl (cI, 392, .inl z.2))])) 0 0 (va_A [(h, .inr (7, [.ref h_s, .ref h_aside, .ref h_past, .int h_pasts, .ref h_snapshot, .int h_isKept, .ref h_pad, .int h_length, .ref h_steps, .int h_many, .int h_value, .ref h_summed, .ref h_plus, .ref h_parts])), (h_s, .inl (cI, 65, .inl h_s_f)), (h_aside, .inl (cI, 65, .inl h_aside_f)), (h_past, .inl (cI, 260, .inl h_past_f)), (h_snapshot, .inl (cI, 65, .inl h_snapshot_f)), (h_pad, .inl (cI, 80, .inl h_pad_f)), (h_steps, .inl (cI, 320, .inl h_steps_f)), (h_summed, .inl (cI, 81, .inl h_summed_f)), (h_plus, .inl (cI, 81, .inl h_plus_f)), (h_parts, .inl (cI, 392, .inl h_parts_f))] sz) := by
  refine Met.ofW (cc := cX10_cut) (maxL := 5) (ret := (some .int)) (by decide) rfl ?_
  intro p e s m args below meth c s₁ B hml hv
  obtain ⟨rfl, hsz, hP, hE, hD0⟩ := hv
  have hx := B.exec
  have hb := B.bytes
  have hr := B.returns
  have hts := atoms_spec (ws := wsX10_cut) B.pre
  have hown : s.vm.findClass RX10 = some m.cls := findClass_of_methodNamed B.named
  have hlocks := B.notSynchronized
  have hK := hE.1
  have hcf : CallFix p m c cX10_cut 5 s ([.ref h, .int p1] : List Value).toArray wsX10_cut RX10 := ⟨hx, hb, hml, hown, hts⟩
  subst hsz
  have hD := hD0.self (sz := s.heap.size)
  generalize hAe : va_A [(h, .inr (7, [.ref h_s, .ref h_aside, .ref h_past, .int h_pasts, .ref h_snapshot, .int h_isKept, .ref h_pad, .int h_length, .ref h_steps, .int h_many, .int h_value, .ref h_summed, .ref h_plus, .ref h_parts])), (h_s, .inl (cI, 65, .inl h_s_f)), (h_aside, .inl (cI, 65, .inl h_aside_f)), (h_past, .inl (cI, 260, .inl h_past_f)), (h_snapshot, .inl (cI, 65, .inl h_snapshot_f)), (h_pad, .inl (cI, 80, .inl h_pad_f)), (h_steps, .inl (cI, 320, .inl h_steps_f)), (h_summed, .inl (cI, 81, .inl h_summed_f)), (h_plus, .inl (cI, 81, .inl h_plus_f)), (h_parts, .inl (cI, 392, .inl h_parts_f))] s.heap.size = A at hD ⊢
  have hA : ∀ q : Nat, s.heap.size ≤ q → A q := fun q h => by rw [← hAe]; exact Or.inr h
  have hS : va_S A s.heap s.heap [] := va_S.rf
  have hP : va_P D vwCl [(h, .inr (7, [.ref h_s, .ref h_aside, .ref h_past, .int h_pasts, .ref h_snapshot, .int h_isKept, .ref h_pad, .int h_length, .ref h_steps, .int h_many, .int h_value, .ref h_summed, .ref h_plus, .ref h_parts])), (h_s, .inl (cI, 65, .inl h_s_f)), (h_aside, .inl (cI, 65, .inl h_aside_f)), (h_past, .inl (cI, 260, .inl h_past_f)), (h_snapshot, .inl (cI, 65, .inl h_snapshot_f)), (h_pad, .inl (cI, 80, .inl h_pad_f)), (h_steps, .inl (cI, 320, .inl h_steps_f)), (h_summed, .inl (cI, 81, .inl h_summed_f)), (h_plus, .inl (cI, 81, .inl h_plus_f)), (h_parts, .inl (cI, 392, .inl h_parts_f))] s.heap := hP
  have hf_111 := hts (.fieldLink RX10 111 "CrookedSumsModel" "length" "I") (by decide +kernel)
  have hi_X10 := (show ∀ w ∈ u_ws RX10 TX10 14, w ∈ wsX10_cut from by decide +kernel)
  have hf_7 := hts (.fieldLink RX10 7 "CrookedSumsModel" "s" "[I") (by decide +kernel)
  have hf_34 := hts (.fieldLink RX10 34 "CrookedSumsModel" "parts" "[I") (by decide +kernel)
  have hl := lv_entry ([.ref h, .int p1]) (n := 5) (Nat.le_of_ble_eq_true rfl)
  rw [lg_entry_eq]
  generalize (lg_sl ([.ref h, .int p1]) ++ List.replicate (5 - (lg_sl ([.ref h, .int p1])).length) Slot.unset).toArray = ls at hl ⊢
  have hl : lv_has ls 5 [(0, .ref h), (1, .int p1)] := hl
  unfold mX10_cut at h0
  refine lv_aload_n hx hb dX10_cut_0 rfl (lv_at hl 0 rfl) ?_
  refine lv_iload_n hx hb dX10_cut_1 rfl (lv_at hl 1 rfl) ?_
  obtain ⟨z_1, hz, h0⟩ := bd_ok h0
  refine ro_V (As := [.int p1]) (rest := []) (wc := [(h, .inr (7, [.ref h_s, .ref h_aside, .ref h_past, .int h_pasts, .ref h_snapshot, .int h_isKept, .ref h_pad, .int h_length, .ref h_steps, .int h_many, .int h_value, .ref h_summed, .ref h_plus, .ref h_parts])), (h_s, .inl (cI, 65, .inl h_s_f)), (h_aside, .inl (cI, 65, .inl h_aside_f)), (h_past, .inl (cI, 260, .inl h_past_f)), (h_snapshot, .inl (cI, 65, .inl h_snapshot_f)), (h_pad, .inl (cI, 80, .inl h_pad_f)), (h_steps, .inl (cI, 320, .inl h_steps_f)), (h_summed, .inl (cI, 81, .inl h_summed_f)), (h_plus, .inl (cI, 81, .inl h_plus_f)), (h_parts, .inl (cI, 392, .inl h_parts_f))]) hcf (kX10_isToken l D cI cC cT h h_s h_aside h_past h_snapshot h_pad h_steps h_summed h_plus h_parts h_s_f h_aside_f h_past_f h_pasts h_snapshot_f h_isKept h_pad_f h_length h_steps_f h_many h_value h_summed_f h_plus_f h_parts_f p1 z_1 hz) (cwV 1 hts gX10_cut_X10_isToken rfl rfl rfl (by decide +kernel) ⟨Nat.le_of_ble_eq_true rfl, Nat.le_of_ble_eq_true rfl⟩) hE (hP.sub [0, 1, 2, 3, 4, 5, 6, 7, 8, 9] rfl) (va_recv hK hP (ci := 7) (q0 := 0) rfl rfl) rfl hl.1 rfl (Nat.le_of_ble_eq_true rfl) dX10_cut_2 ⟨Nat.le_of_ble_eq_true rfl, Nat.le_of_ble_eq_true rfl⟩ ?_
  refine W.eq (g2 := F0 m 5 ls [.int z_1]) rfl ?_
  refine lv_if_ne (tgt := 10) hx hb dX10_cut_5 (by decide) (fun c9 => ?_) (fun c9 => ?_)
  · have h0 := it_f c9 h0
    refine lv_aload_n hx hb dX10_cut_10 rfl (lv_at hl 0 rfl) ?_
    obtain ⟨z_2, hz, h0⟩ := bd_ok h0
    refine ro_V (As := []) (rest := []) (wc := [(h, .inr (7, [.ref h_s, .ref h_aside, .ref h_past, .int h_pasts, .ref h_snapshot, .int h_isKept, .ref h_pad, .int h_length, .ref h_steps, .int h_many, .int h_value, .ref h_summed, .ref h_plus, .ref h_parts])), (h_s, .inl (cI, 65, .inl h_s_f)), (h_aside, .inl (cI, 65, .inl h_aside_f)), (h_past, .inl (cI, 260, .inl h_past_f)), (h_snapshot, .inl (cI, 65, .inl h_snapshot_f)), (h_pad, .inl (cI, 80, .inl h_pad_f)), (h_steps, .inl (cI, 320, .inl h_steps_f)), (h_summed, .inl (cI, 81, .inl h_summed_f)), (h_plus, .inl (cI, 81, .inl h_plus_f)), (h_parts, .inl (cI, 392, .inl h_parts_f))]) hcf (kX10_rowFault l D cI cC cT h h_s h_aside h_past h_snapshot h_pad h_steps h_summed h_plus h_parts h_s_f h_aside_f h_past_f h_pasts h_snapshot_f h_isKept h_pad_f h_length h_steps_f h_many h_value h_summed_f h_plus_f h_parts_f z_2 hz) (cwV 0 hts gX10_cut_X10_rowFault rfl rfl rfl (by decide +kernel) ⟨Nat.le_of_ble_eq_true rfl, Nat.le_of_ble_eq_true rfl⟩) hE (hP.sub [0, 1, 2, 3, 4, 5, 6, 7, 8, 9] rfl) (va_recv hK hP (ci := 7) (q0 := 0) rfl rfl) rfl hl.1 rfl (Nat.le_of_ble_eq_true rfl) dX10_cut_11 ⟨Nat.le_of_ble_eq_true rfl, Nat.le_of_ble_eq_true rfl⟩ ?_
    refine W.eq (g2 := F0 m 14 ls [.int z_2]) rfl ?_
    refine lv_iconst (v := (-1)) hx hb dX10_cut_14 (by decide) ?_
    refine lv_icmp_eq (tgt := 21) hx hb dX10_cut_15 (by decide) (fun c9 => ?_) (fun c9 => ?_)
    · have h0 := it_t c9 h0
      refine lv_aload_n hx hb dX10_cut_21 rfl (lv_at hl 0 rfl) ?_
      obtain ⟨z_3, hz, h0⟩ := bd_ok h0
      refine wr_V (As := []) (rest := []) (wc := [(h, .inr (7, [.ref h_s, .ref h_aside, .ref h_past, .int h_pasts, .ref h_snapshot, .int h_isKept, .ref h_pad, .int h_length, .ref h_steps, .int h_many, .int h_value, .ref h_summed, .ref h_plus, .ref h_parts])), (h_s, .inl (cI, 65, .inl h_s_f)), (h_aside, .inl (cI, 65, .inl h_aside_f)), (h_past, .inl (cI, 260, .inl h_past_f)), (h_snapshot, .inl (cI, 65, .inl h_snapshot_f)), (h_pad, .inl (cI, 80, .inl h_pad_f)), (h_steps, .inl (cI, 320, .inl h_steps_f)), (h_summed, .inl (cI, 81, .inl h_summed_f)), (h_plus, .inl (cI, 81, .inl h_plus_f)), (h_parts, .inl (cI, 392, .inl h_parts_f))]) (wr := []) hcf (kX10_laysParts l D cI cC cT h h_s h_aside h_past h_snapshot h_pad h_steps h_summed h_plus h_parts h_s_f h_aside_f h_past_f h_pasts h_snapshot_f h_isKept h_pad_f h_length h_steps_f h_many h_value h_summed_f h_plus_f h_parts_f _ z_3 hz) (cwV 0 hts gX10_cut_X10_laysParts rfl rfl rfl (by decide +kernel) ⟨Nat.le_of_ble_eq_true rfl, Nat.le_of_ble_eq_true rfl⟩) hE hP hD hS hA [0, 1, 2, 3, 4, 5, 6, 7, 8, 9] [] (hP.sub [0, 1, 2, 3, 4, 5, 6, 7, 8, 9] rfl) (hD.sub [0, 1, 2, 3, 4, 5, 6, 7, 8, 9] (by decide) rfl) (va_recv hK hP (ci := 7) (q0 := 0) rfl rfl) rfl rfl (by decide) (by decide) rfl hl.1 rfl (Nat.le_of_ble_eq_true rfl) dX10_cut_22 ⟨Nat.le_of_ble_eq_true rfl, Nat.le_of_ble_eq_true rfl⟩ (fun u H locs hP hD hS => ?_)
      have hP : va_P D vwCl [(h, .inr (7, [.ref h_s, .ref h_aside, .ref h_past, .int h_pasts, .ref h_snapshot, .int h_isKept, .ref h_pad, .int h_length, .ref h_steps, .int h_many, .int h_value, .ref h_summed, .ref h_plus, .ref h_parts])), (h_s, .inl (cI, 65, .inl h_s_f)), (h_aside, .inl (cI, 65, .inl h_aside_f)), (h_past, .inl (cI, 260, .inl h_past_f)), (h_snapshot, .inl (cI, 65, .inl h_snapshot_f)), (h_pad, .inl (cI, 80, .inl h_pad_f)), (h_steps, .inl (cI, 320, .inl h_steps_f)), (h_summed, .inl (cI, 81, .inl h_summed_f)), (h_plus, .inl (cI, 81, .inl h_plus_f)), (h_parts, .inl (cI, 392, .inl z_3))] H := hP
      have hD : va_D A [(h, .inr (7, [.ref h_s, .ref h_aside, .ref h_past, .int h_pasts, .ref h_snapshot, .int h_isKept, .ref h_pad, .int h_length, .ref h_steps, .int h_many, .int h_value, .ref h_summed, .ref h_plus, .ref h_parts])), (h_s, .inl (cI, 65, .inl h_s_f)), (h_aside, .inl (cI, 65, .inl h_aside_f)), (h_past, .inl (cI, 260, .inl h_past_f)), (h_snapshot, .inl (cI, 65, .inl h_snapshot_f)), (h_pad, .inl (cI, 80, .inl h_pad_f)), (h_steps, .inl (cI, 320, .inl h_steps_f)), (h_summed, .inl (cI, 81, .inl h_summed_f)), (h_plus, .inl (cI, 81, .inl h_plus_f)), (h_parts, .inl (cI, 392, .inl z_3))] := hD
      refine W.eq (g2 := F0 m 25 ls []) rfl ?_
      refine lv_iconst (v := 0) hx hb dX10_cut_25 (by decide) ?_
      refine lv_istore_n (lv' := [(2, .int 0), (0, .ref h), (1, .int p1)]) hx hb dX10_cut_26 rfl hl (by decide) rfl (fun ls hl => ?_)
      have E_27_132_4 : ∀ (x2_4 : Int32) (H : Heap) (locs : List Loc) (ls : Array Slot), (some ((-4), z_3)) = some z → va_P D vwCl [(h, .inr (7, [.ref h_s, .ref h_aside, .ref h_past, .int h_pasts, .ref h_snapshot, .int h_isKept, .ref h_pad, .int h_length, .ref h_steps, .int h_many, .int h_value, .ref h_summed, .ref h_plus, .ref h_parts])), (h_s, .inl (cI, 65, .inl h_s_f)), (h_aside, .inl (cI, 65, .inl h_aside_f)), (h_past, .inl (cI, 260, .inl h_past_f)), (h_snapshot, .inl (cI, 65, .inl h_snapshot_f)), (h_pad, .inl (cI, 80, .inl h_pad_f)), (h_steps, .inl (cI, 320, .inl h_steps_f)), (h_summed, .inl (cI, 81, .inl h_summed_f)), (h_plus, .inl (cI, 81, .inl h_plus_f)), (h_parts, .inl (cI, 392, .inl z_3))] H → va_D A [(h, .inr (7, [.ref h_s, .ref h_aside, .ref h_past, .int h_pasts, .ref h_snapshot, .int h_isKept, .ref h_pad, .int h_length, .ref h_steps, .int h_many, .int h_value, .ref h_summed, .ref h_plus, .ref h_parts])), (h_s, .inl (cI, 65, .inl h_s_f)), (h_aside, .inl (cI, 65, .inl h_aside_f)), (h_past, .inl (cI, 260, .inl h_past_f)), (h_snapshot, .inl (cI, 65, .inl h_snapshot_f)), (h_pad, .inl (cI, 80, .inl h_pad_f)), (h_steps, .inl (cI, 320, .inl h_steps_f)), (h_summed, .inl (cI, 81, .inl h_summed_f)), (h_plus, .inl (cI, 81, .inl h_plus_f)), (h_parts, .inl (cI, 392, .inl z_3))] → va_S A s.heap H locs → lv_has ls 5 [(2, .int x2_4), (0, .ref h), (1, .int p1)] → W p l e (headSpec wsX10_cut ({ frames := 4, cells := 0, slots := 0, locals := 91 } : Room)).room s m (([.ref h, .int p1] : List Value).toArray) below meth c H locs 0 0 (MQ below (wQ D (some (.int z.1)) A (fun (u : Unit) => [(h, .inr (7, [.ref h_s, .ref h_aside, .ref h_past, .int h_pasts, .ref h_snapshot, .int h_isKept, .ref h_pad, .int h_length, .ref h_steps, .int h_many, .int h_value, .ref h_summed, .ref h_plus, .ref h_parts])), (h_s, .inl (cI, 65, .inl h_s_f)), (h_aside, .inl (cI, 65, .inl h_aside_f)), (h_past, .inl (cI, 260, .inl h_past_f)), (h_snapshot, .inl (cI, 65, .inl h_snapshot_f)), (h_pad, .inl (cI, 80, .inl h_pad_f)), (h_steps, .inl (cI, 320, .inl h_steps_f)), (h_summed, .inl (cI, 81, .inl h_summed_f)), (h_plus, .inl (cI, 81, .inl h_plus_f)), (h_parts, .inl (cI, 392, .inl z.2))])) (([.ref h, .int p1] : List Value).toArray) s 0 0 A) (F0 m 132 ls []) := by
        intro x2_4 H locs ls h0 hP hD hS hl
        refine lv_bipush (v := (-4)) hx hb dX10_cut_132 (by decide) ?_
        have e0 := Option.some.inj h0
        subst e0
        exact W.iret (v := (-4)) hx hb hr (fun t ht hW => wr_end () ht hP hD hS) hS.2.2 dX10_cut_134
      have L_27_17 : ∀ (F27 : Nat) (x2_6 : Int32) (H : Heap) (locs : List Loc) (ls : Array Slot), mX10_cut_L27 h_s_f h_length p1 z_3 (fun (x2_4 : Int32) => some ((-4), z_3)) F27 x2_6 = some z → va_P D vwCl [(h, .inr (7, [.ref h_s, .ref h_aside, .ref h_past, .int h_pasts, .ref h_snapshot, .int h_isKept, .ref h_pad, .int h_length, .ref h_steps, .int h_many, .int h_value, .ref h_summed, .ref h_plus, .ref h_parts])), (h_s, .inl (cI, 65, .inl h_s_f)), (h_aside, .inl (cI, 65, .inl h_aside_f)), (h_past, .inl (cI, 260, .inl h_past_f)), (h_snapshot, .inl (cI, 65, .inl h_snapshot_f)), (h_pad, .inl (cI, 80, .inl h_pad_f)), (h_steps, .inl (cI, 320, .inl h_steps_f)), (h_summed, .inl (cI, 81, .inl h_summed_f)), (h_plus, .inl (cI, 81, .inl h_plus_f)), (h_parts, .inl (cI, 392, .inl z_3))] H → va_D A [(h, .inr (7, [.ref h_s, .ref h_aside, .ref h_past, .int h_pasts, .ref h_snapshot, .int h_isKept, .ref h_pad, .int h_length, .ref h_steps, .int h_many, .int h_value, .ref h_summed, .ref h_plus, .ref h_parts])), (h_s, .inl (cI, 65, .inl h_s_f)), (h_aside, .inl (cI, 65, .inl h_aside_f)), (h_past, .inl (cI, 260, .inl h_past_f)), (h_snapshot, .inl (cI, 65, .inl h_snapshot_f)), (h_pad, .inl (cI, 80, .inl h_pad_f)), (h_steps, .inl (cI, 320, .inl h_steps_f)), (h_summed, .inl (cI, 81, .inl h_summed_f)), (h_plus, .inl (cI, 81, .inl h_plus_f)), (h_parts, .inl (cI, 392, .inl z_3))] → va_S A s.heap H locs → lv_has ls 5 [(2, .int x2_6), (0, .ref h), (1, .int p1)] → W p l e (headSpec wsX10_cut ({ frames := 4, cells := 0, slots := 0, locals := 91 } : Room)).room s m (([.ref h, .int p1] : List Value).toArray) below meth c H locs 0 0 (MQ below (wQ D (some (.int z.1)) A (fun (u : Unit) => [(h, .inr (7, [.ref h_s, .ref h_aside, .ref h_past, .int h_pasts, .ref h_snapshot, .int h_isKept, .ref h_pad, .int h_length, .ref h_steps, .int h_many, .int h_value, .ref h_summed, .ref h_plus, .ref h_parts])), (h_s, .inl (cI, 65, .inl h_s_f)), (h_aside, .inl (cI, 65, .inl h_aside_f)), (h_past, .inl (cI, 260, .inl h_past_f)), (h_snapshot, .inl (cI, 65, .inl h_snapshot_f)), (h_pad, .inl (cI, 80, .inl h_pad_f)), (h_steps, .inl (cI, 320, .inl h_steps_f)), (h_summed, .inl (cI, 81, .inl h_summed_f)), (h_plus, .inl (cI, 81, .inl h_plus_f)), (h_parts, .inl (cI, 392, .inl z.2))])) (([.ref h, .int p1] : List Value).toArray) s 0 0 A) (F0 m 27 ls []) := by
        intro F27
        induction F27 with
        | zero => intro x2_6 H locs ls h0 hP hD hS hl; cases h0
        | succ F27 ih27 =>
          intro x2_6 H locs ls h0 hP hD hS hl
          rw [mX10_cut_L27] at h0
          refine lv_iload_n hx hb dX10_cut_27 rfl (lv_at hl 0 rfl) ?_
          refine lv_iconst (v := 1) hx hb dX10_cut_28 (by decide) ?_
          refine lv_iadd hx hb dX10_cut_29 ?_
          refine lv_aload_n hx hb dX10_cut_30 rfl (lv_at hl 1 rfl) ?_
          refine va_get (D := D) (ci := 7) (v := .int h_length) (C := RX10) (T := TX10) (N := 14) hx hb hts hi_X10 hown hK hP 0 rfl rfl 7 (by decide) hf_111 (fun _ h9 => h9) rfl dX10_cut_31 ?_
          refine lv_icmp_ge (tgt := 132) hx hb dX10_cut_34 (by decide) (fun c9 => ?_) (fun c9 => ?_)
          · have h0 := it_t c9 h0
            exact E_27_132_4 x2_6 _ _ ls h0 hP hD hS hl
          · have h0 := it_f c9 h0
            refine lv_iconst (v := 0) hx hb dX10_cut_37 (by decide) ?_
            refine lv_istore_n (lv' := [(3, .int 0), (2, .int x2_6), (0, .ref h), (1, .int p1)]) hx hb dX10_cut_38 rfl hl (by decide) rfl (fun ls hl => ?_)
            have E_39_126_7 : ∀ (x3_7 : Int32) (H : Heap) (locs : List Loc) (ls : Array Slot), (mX10_cut_L27 h_s_f h_length p1 z_3 (fun (x2_4 : Int32) => some ((-4), z_3)) F27 (x2_6 + 1)) = some z → va_P D vwCl [(h, .inr (7, [.ref h_s, .ref h_aside, .ref h_past, .int h_pasts, .ref h_snapshot, .int h_isKept, .ref h_pad, .int h_length, .ref h_steps, .int h_many, .int h_value, .ref h_summed, .ref h_plus, .ref h_parts])), (h_s, .inl (cI, 65, .inl h_s_f)), (h_aside, .inl (cI, 65, .inl h_aside_f)), (h_past, .inl (cI, 260, .inl h_past_f)), (h_snapshot, .inl (cI, 65, .inl h_snapshot_f)), (h_pad, .inl (cI, 80, .inl h_pad_f)), (h_steps, .inl (cI, 320, .inl h_steps_f)), (h_summed, .inl (cI, 81, .inl h_summed_f)), (h_plus, .inl (cI, 81, .inl h_plus_f)), (h_parts, .inl (cI, 392, .inl z_3))] H → va_D A [(h, .inr (7, [.ref h_s, .ref h_aside, .ref h_past, .int h_pasts, .ref h_snapshot, .int h_isKept, .ref h_pad, .int h_length, .ref h_steps, .int h_many, .int h_value, .ref h_summed, .ref h_plus, .ref h_parts])), (h_s, .inl (cI, 65, .inl h_s_f)), (h_aside, .inl (cI, 65, .inl h_aside_f)), (h_past, .inl (cI, 260, .inl h_past_f)), (h_snapshot, .inl (cI, 65, .inl h_snapshot_f)), (h_pad, .inl (cI, 80, .inl h_pad_f)), (h_steps, .inl (cI, 320, .inl h_steps_f)), (h_summed, .inl (cI, 81, .inl h_summed_f)), (h_plus, .inl (cI, 81, .inl h_plus_f)), (h_parts, .inl (cI, 392, .inl z_3))] → va_S A s.heap H locs → lv_has ls 5 [(3, .int x3_7), (2, .int x2_6), (0, .ref h), (1, .int p1)] → W p l e (headSpec wsX10_cut ({ frames := 4, cells := 0, slots := 0, locals := 91 } : Room)).room s m (([.ref h, .int p1] : List Value).toArray) below meth c H locs 0 0 (MQ below (wQ D (some (.int z.1)) A (fun (u : Unit) => [(h, .inr (7, [.ref h_s, .ref h_aside, .ref h_past, .int h_pasts, .ref h_snapshot, .int h_isKept, .ref h_pad, .int h_length, .ref h_steps, .int h_many, .int h_value, .ref h_summed, .ref h_plus, .ref h_parts])), (h_s, .inl (cI, 65, .inl h_s_f)), (h_aside, .inl (cI, 65, .inl h_aside_f)), (h_past, .inl (cI, 260, .inl h_past_f)), (h_snapshot, .inl (cI, 65, .inl h_snapshot_f)), (h_pad, .inl (cI, 80, .inl h_pad_f)), (h_steps, .inl (cI, 320, .inl h_steps_f)), (h_summed, .inl (cI, 81, .inl h_summed_f)), (h_plus, .inl (cI, 81, .inl h_plus_f)), (h_parts, .inl (cI, 392, .inl z.2))])) (([.ref h, .int p1] : List Value).toArray) s 0 0 A) (F0 m 126 ls []) := by
              intro x3_7 H locs ls h0 hP hD hS hl
              refine lv_iinc (v := (x2_6 + 1)) (lv' := [(2, .int (x2_6 + 1)), (3, .int x3_7), (0, .ref h), (1, .int p1)]) hx hb dX10_cut_126 hl (k := 1) rfl rfl (by decide) rfl (fun ls hl => ?_)
              refine lv_goto (tgt := 27) hx hb dX10_cut_129 (by decide) ?_
              exact ih27 (x2_6 + 1) _ _ ls h0 hP hD hS (lv_sub hl [0, 2, 3] rfl)
            have L_39_16 : ∀ (F39 : Nat) (x3_9 : Int32) (H : Heap) (locs : List Loc) (ls : Array Slot), mX10_cut_L39 h_s_f h_length p1 z_3 x2_6 (fun (x3_7 : Int32) => mX10_cut_L27 h_s_f h_length p1 z_3 (fun (x2_4 : Int32) => some ((-4), z_3)) F27 (x2_6 + 1)) F39 x3_9 = some z → va_P D vwCl [(h, .inr (7, [.ref h_s, .ref h_aside, .ref h_past, .int h_pasts, .ref h_snapshot, .int h_isKept, .ref h_pad, .int h_length, .ref h_steps, .int h_many, .int h_value, .ref h_summed, .ref h_plus, .ref h_parts])), (h_s, .inl (cI, 65, .inl h_s_f)), (h_aside, .inl (cI, 65, .inl h_aside_f)), (h_past, .inl (cI, 260, .inl h_past_f)), (h_snapshot, .inl (cI, 65, .inl h_snapshot_f)), (h_pad, .inl (cI, 80, .inl h_pad_f)), (h_steps, .inl (cI, 320, .inl h_steps_f)), (h_summed, .inl (cI, 81, .inl h_summed_f)), (h_plus, .inl (cI, 81, .inl h_plus_f)), (h_parts, .inl (cI, 392, .inl z_3))] H → va_D A [(h, .inr (7, [.ref h_s, .ref h_aside, .ref h_past, .int h_pasts, .ref h_snapshot, .int h_isKept, .ref h_pad, .int h_length, .ref h_steps, .int h_many, .int h_value, .ref h_summed, .ref h_plus, .ref h_parts])), (h_s, .inl (cI, 65, .inl h_s_f)), (h_aside, .inl (cI, 65, .inl h_aside_f)), (h_past, .inl (cI, 260, .inl h_past_f)), (h_snapshot, .inl (cI, 65, .inl h_snapshot_f)), (h_pad, .inl (cI, 80, .inl h_pad_f)), (h_steps, .inl (cI, 320, .inl h_steps_f)), (h_summed, .inl (cI, 81, .inl h_summed_f)), (h_plus, .inl (cI, 81, .inl h_plus_f)), (h_parts, .inl (cI, 392, .inl z_3))] → va_S A s.heap H locs → lv_has ls 5 [(3, .int x3_9), (2, .int x2_6), (0, .ref h), (1, .int p1)] → W p l e (headSpec wsX10_cut ({ frames := 4, cells := 0, slots := 0, locals := 91 } : Room)).room s m (([.ref h, .int p1] : List Value).toArray) below meth c H locs 0 0 (MQ below (wQ D (some (.int z.1)) A (fun (u : Unit) => [(h, .inr (7, [.ref h_s, .ref h_aside, .ref h_past, .int h_pasts, .ref h_snapshot, .int h_isKept, .ref h_pad, .int h_length, .ref h_steps, .int h_many, .int h_value, .ref h_summed, .ref h_plus, .ref h_parts])), (h_s, .inl (cI, 65, .inl h_s_f)), (h_aside, .inl (cI, 65, .inl h_aside_f)), (h_past, .inl (cI, 260, .inl h_past_f)), (h_snapshot, .inl (cI, 65, .inl h_snapshot_f)), (h_pad, .inl (cI, 80, .inl h_pad_f)), (h_steps, .inl (cI, 320, .inl h_steps_f)), (h_summed, .inl (cI, 81, .inl h_summed_f)), (h_plus, .inl (cI, 81, .inl h_plus_f)), (h_parts, .inl (cI, 392, .inl z.2))])) (([.ref h, .int p1] : List Value).toArray) s 0 0 A) (F0 m 39 ls []) := by
              intro F39
              induction F39 with
              | zero => intro x3_9 H locs ls h0 hP hD hS hl; cases h0
              | succ F39 ih39 =>
                intro x3_9 H locs ls h0 hP hD hS hl
                rw [mX10_cut_L39] at h0
                refine lv_iload_n hx hb dX10_cut_39 rfl (lv_at hl 0 rfl) ?_
                refine lv_aload_n hx hb dX10_cut_40 rfl (lv_at hl 2 rfl) ?_
                refine va_get (D := D) (ci := 7) (v := .ref h_s) (C := RX10) (T := TX10) (N := 14) hx hb hts hi_X10 hown hK hP 0 rfl rfl 0 (by decide) hf_7 (fun _ h9 => h9) rfl dX10_cut_41 ?_
                refine lv_iconst (v := 0) hx hb dX10_cut_44 (by decide) ?_
                refine va_iald hx hb hK hP 1 0 rfl rfl (by unfold vp_in; decide) dX10_cut_45 ?_
                refine lv_icmp_ge (tgt := 126) hx hb dX10_cut_46 (by decide) (fun c9 => ?_) (fun c9 => ?_)
                · have h0 := it_t c9 h0
                  exact E_39_126_7 x3_9 _ _ ls h0 hP hD hS hl
                · have h0 := it_f c9 h0
                  refine lv_iconst (v := 0) hx hb dX10_cut_49 (by decide) ?_
                  refine lv_istore (lv' := [(4, .int 0), (3, .int x3_9), (2, .int x2_6), (0, .ref h), (1, .int p1)]) hx hb dX10_cut_50 hl (by decide) rfl (fun ls hl => ?_)
                  have E_52_120_10 : ∀ (x4_10 : Int32) (H : Heap) (locs : List Loc) (ls : Array Slot), (mX10_cut_L39 h_s_f h_length p1 z_3 x2_6 (fun (x3_7 : Int32) => mX10_cut_L27 h_s_f h_length p1 z_3 (fun (x2_4 : Int32) => some ((-4), z_3)) F27 (x2_6 + 1)) F39 (x3_9 + 1)) = some z → va_P D vwCl [(h, .inr (7, [.ref h_s, .ref h_aside, .ref h_past, .int h_pasts, .ref h_snapshot, .int h_isKept, .ref h_pad, .int h_length, .ref h_steps, .int h_many, .int h_value, .ref h_summed, .ref h_plus, .ref h_parts])), (h_s, .inl (cI, 65, .inl h_s_f)), (h_aside, .inl (cI, 65, .inl h_aside_f)), (h_past, .inl (cI, 260, .inl h_past_f)), (h_snapshot, .inl (cI, 65, .inl h_snapshot_f)), (h_pad, .inl (cI, 80, .inl h_pad_f)), (h_steps, .inl (cI, 320, .inl h_steps_f)), (h_summed, .inl (cI, 81, .inl h_summed_f)), (h_plus, .inl (cI, 81, .inl h_plus_f)), (h_parts, .inl (cI, 392, .inl z_3))] H → va_D A [(h, .inr (7, [.ref h_s, .ref h_aside, .ref h_past, .int h_pasts, .ref h_snapshot, .int h_isKept, .ref h_pad, .int h_length, .ref h_steps, .int h_many, .int h_value, .ref h_summed, .ref h_plus, .ref h_parts])), (h_s, .inl (cI, 65, .inl h_s_f)), (h_aside, .inl (cI, 65, .inl h_aside_f)), (h_past, .inl (cI, 260, .inl h_past_f)), (h_snapshot, .inl (cI, 65, .inl h_snapshot_f)), (h_pad, .inl (cI, 80, .inl h_pad_f)), (h_steps, .inl (cI, 320, .inl h_steps_f)), (h_summed, .inl (cI, 81, .inl h_summed_f)), (h_plus, .inl (cI, 81, .inl h_plus_f)), (h_parts, .inl (cI, 392, .inl z_3))] → va_S A s.heap H locs → lv_has ls 5 [(4, .int x4_10), (3, .int x3_9), (2, .int x2_6), (0, .ref h), (1, .int p1)] → W p l e (headSpec wsX10_cut ({ frames := 4, cells := 0, slots := 0, locals := 91 } : Room)).room s m (([.ref h, .int p1] : List Value).toArray) below meth c H locs 0 0 (MQ below (wQ D (some (.int z.1)) A (fun (u : Unit) => [(h, .inr (7, [.ref h_s, .ref h_aside, .ref h_past, .int h_pasts, .ref h_snapshot, .int h_isKept, .ref h_pad, .int h_length, .ref h_steps, .int h_many, .int h_value, .ref h_summed, .ref h_plus, .ref h_parts])), (h_s, .inl (cI, 65, .inl h_s_f)), (h_aside, .inl (cI, 65, .inl h_aside_f)), (h_past, .inl (cI, 260, .inl h_past_f)), (h_snapshot, .inl (cI, 65, .inl h_snapshot_f)), (h_pad, .inl (cI, 80, .inl h_pad_f)), (h_steps, .inl (cI, 320, .inl h_steps_f)), (h_summed, .inl (cI, 81, .inl h_summed_f)), (h_plus, .inl (cI, 81, .inl h_plus_f)), (h_parts, .inl (cI, 392, .inl z.2))])) (([.ref h, .int p1] : List Value).toArray) s 0 0 A) (F0 m 120 ls []) := by
                    intro x4_10 H locs ls h0 hP hD hS hl
                    refine lv_iinc (v := (x3_9 + 1)) (lv' := [(3, .int (x3_9 + 1)), (4, .int x4_10), (2, .int x2_6), (0, .ref h), (1, .int p1)]) hx hb dX10_cut_120 hl (k := 1) rfl rfl (by decide) rfl (fun ls hl => ?_)
                    refine lv_goto (tgt := 39) hx hb dX10_cut_123 (by decide) ?_
                    exact ih39 (x3_9 + 1) _ _ ls h0 hP hD hS (lv_sub hl [0, 2, 3, 4] rfl)
                  have L_52_15 : ∀ (F52 : Nat) (x4_12 : Int32) (H : Heap) (locs : List Loc) (ls : Array Slot), mX10_cut_L52 h_s_f h_length p1 z_3 x2_6 x3_9 (fun (x4_10 : Int32) => mX10_cut_L39 h_s_f h_length p1 z_3 x2_6 (fun (x3_7 : Int32) => mX10_cut_L27 h_s_f h_length p1 z_3 (fun (x2_4 : Int32) => some ((-4), z_3)) F27 (x2_6 + 1)) F39 (x3_9 + 1)) F52 x4_12 = some z → va_P D vwCl [(h, .inr (7, [.ref h_s, .ref h_aside, .ref h_past, .int h_pasts, .ref h_snapshot, .int h_isKept, .ref h_pad, .int h_length, .ref h_steps, .int h_many, .int h_value, .ref h_summed, .ref h_plus, .ref h_parts])), (h_s, .inl (cI, 65, .inl h_s_f)), (h_aside, .inl (cI, 65, .inl h_aside_f)), (h_past, .inl (cI, 260, .inl h_past_f)), (h_snapshot, .inl (cI, 65, .inl h_snapshot_f)), (h_pad, .inl (cI, 80, .inl h_pad_f)), (h_steps, .inl (cI, 320, .inl h_steps_f)), (h_summed, .inl (cI, 81, .inl h_summed_f)), (h_plus, .inl (cI, 81, .inl h_plus_f)), (h_parts, .inl (cI, 392, .inl z_3))] H → va_D A [(h, .inr (7, [.ref h_s, .ref h_aside, .ref h_past, .int h_pasts, .ref h_snapshot, .int h_isKept, .ref h_pad, .int h_length, .ref h_steps, .int h_many, .int h_value, .ref h_summed, .ref h_plus, .ref h_parts])), (h_s, .inl (cI, 65, .inl h_s_f)), (h_aside, .inl (cI, 65, .inl h_aside_f)), (h_past, .inl (cI, 260, .inl h_past_f)), (h_snapshot, .inl (cI, 65, .inl h_snapshot_f)), (h_pad, .inl (cI, 80, .inl h_pad_f)), (h_steps, .inl (cI, 320, .inl h_steps_f)), (h_summed, .inl (cI, 81, .inl h_summed_f)), (h_plus, .inl (cI, 81, .inl h_plus_f)), (h_parts, .inl (cI, 392, .inl z_3))] → va_S A s.heap H locs → lv_has ls 5 [(4, .int x4_12), (3, .int x3_9), (2, .int x2_6), (0, .ref h), (1, .int p1)] → W p l e (headSpec wsX10_cut ({ frames := 4, cells := 0, slots := 0, locals := 91 } : Room)).room s m (([.ref h, .int p1] : List Value).toArray) below meth c H locs 0 0 (MQ below (wQ D (some (.int z.1)) A (fun (u : Unit) => [(h, .inr (7, [.ref h_s, .ref h_aside, .ref h_past, .int h_pasts, .ref h_snapshot, .int h_isKept, .ref h_pad, .int h_length, .ref h_steps, .int h_many, .int h_value, .ref h_summed, .ref h_plus, .ref h_parts])), (h_s, .inl (cI, 65, .inl h_s_f)), (h_aside, .inl (cI, 65, .inl h_aside_f)), (h_past, .inl (cI, 260, .inl h_past_f)), (h_snapshot, .inl (cI, 65, .inl h_snapshot_f)), (h_pad, .inl (cI, 80, .inl h_pad_f)), (h_steps, .inl (cI, 320, .inl h_steps_f)), (h_summed, .inl (cI, 81, .inl h_summed_f)), (h_plus, .inl (cI, 81, .inl h_plus_f)), (h_parts, .inl (cI, 392, .inl z.2))])) (([.ref h, .int p1] : List Value).toArray) s 0 0 A) (F0 m 52 ls []) := by
                    intro F52
                    induction F52 with
                    | zero => intro x4_12 H locs ls h0 hP hD hS hl; cases h0
                    | succ F52 ih52 =>
                      intro x4_12 H locs ls h0 hP hD hS hl
                      rw [mX10_cut_L52] at h0
                      refine lv_iload hx hb dX10_cut_52 (lv_at hl 0 rfl) ?_
                      refine lv_aload_n hx hb dX10_cut_54 rfl (lv_at hl 3 rfl) ?_
                      refine va_get (D := D) (ci := 7) (v := .ref h_s) (C := RX10) (T := TX10) (N := 14) hx hb hts hi_X10 hown hK hP 0 rfl rfl 0 (by decide) hf_7 (fun _ h9 => h9) rfl dX10_cut_55 ?_
                      refine lv_iconst (v := 0) hx hb dX10_cut_58 (by decide) ?_
                      refine va_iald hx hb hK hP 1 0 rfl rfl (by unfold vp_in; decide) dX10_cut_59 ?_
                      refine lv_icmp_ge (tgt := 120) hx hb dX10_cut_60 (by decide) (fun c9 => ?_) (fun c9 => ?_)
                      · have h0 := it_t c9 h0
                        exact E_52_120_10 x4_12 _ _ ls h0 hP hD hS hl
                      · have h0 := it_f c9 h0
                        refine lv_aload_n hx hb dX10_cut_63 rfl (lv_at hl 3 rfl) ?_
                        refine lv_iload_n hx hb dX10_cut_64 rfl (lv_at hl 1 rfl) ?_
                        refine lv_iload hx hb dX10_cut_65 (lv_at hl 0 rfl) ?_
                        obtain ⟨z_13, hz, h0⟩ := bd_ok h0
                        refine ro_V (As := [.int x3_9, .int x4_12]) (rest := []) (wc := [(h, .inr (7, [.ref h_s, .ref h_aside, .ref h_past, .int h_pasts, .ref h_snapshot, .int h_isKept, .ref h_pad, .int h_length, .ref h_steps, .int h_many, .int h_value, .ref h_summed, .ref h_plus, .ref h_parts])), (h_s, .inl (cI, 65, .inl h_s_f)), (h_aside, .inl (cI, 65, .inl h_aside_f)), (h_past, .inl (cI, 260, .inl h_past_f)), (h_snapshot, .inl (cI, 65, .inl h_snapshot_f)), (h_pad, .inl (cI, 80, .inl h_pad_f)), (h_steps, .inl (cI, 320, .inl h_steps_f)), (h_summed, .inl (cI, 81, .inl h_summed_f)), (h_plus, .inl (cI, 81, .inl h_plus_f)), (h_parts, .inl (cI, 392, .inl z_3))]) hcf (kX10_plain l D cI cC cT h h_s h_aside h_past h_snapshot h_pad h_steps h_summed h_plus h_parts h_s_f h_aside_f h_past_f h_pasts h_snapshot_f h_isKept h_pad_f h_length h_steps_f h_many h_value h_summed_f h_plus_f z_3 x3_9 x4_12 z_13 hz) (cwV 2 hts gX10_cut_X10_plain rfl rfl rfl (by decide +kernel) ⟨Nat.le_of_ble_eq_true rfl, Nat.le_of_ble_eq_true rfl⟩) hE (hP.sub [0, 1, 2, 3, 4, 5, 6, 7, 8, 9] rfl) (va_recv hK hP (ci := 7) (q0 := 0) rfl rfl) rfl hl.1 rfl (Nat.le_of_ble_eq_true rfl) dX10_cut_67 ⟨Nat.le_of_ble_eq_true rfl, Nat.le_of_ble_eq_true rfl⟩ ?_
                        refine W.eq (g2 := F0 m 70 ls [.int z_13]) rfl ?_
                        refine lv_iload_n hx hb dX10_cut_70 rfl (lv_at hl 4 rfl) ?_
                        refine lv_icmp_ne (tgt := 114) hx hb dX10_cut_71 (by decide) (fun c9 => ?_) (fun c9 => ?_)
                        · have h0 := it_f c9 h0
                          refine lv_iinc (v := (x4_12 + 1)) (lv' := [(4, .int (x4_12 + 1)), (3, .int x3_9), (2, .int x2_6), (0, .ref h), (1, .int p1)]) hx hb dX10_cut_114 hl (k := 0) rfl rfl (by decide) rfl (fun ls hl => ?_)
                          refine lv_goto (tgt := 52) hx hb dX10_cut_117 (by decide) ?_
                          exact ih52 (x4_12 + 1) _ _ ls h0 hP hD hS hl
                        · have h0 := it_t c9 h0
                          refine lv_aload_n hx hb dX10_cut_74 rfl (lv_at hl 3 rfl) ?_
                          refine va_get (D := D) (ci := 7) (v := .ref h_parts) (C := RX10) (T := TX10) (N := 14) hx hb hts hi_X10 hown hK hP 0 rfl rfl 13 (by decide) hf_34 (fun _ h9 => h9) rfl dX10_cut_75 ?_
                          refine lv_iconst (v := 0) hx hb dX10_cut_78 (by decide) ?_
                          refine lv_iload_n hx hb dX10_cut_79 rfl (lv_at hl 2 rfl) ?_
                          refine lv_iload_n hx hb dX10_cut_80 rfl (lv_at hl 1 rfl) ?_
                          obtain ⟨z_14, hz, h0⟩ := bd_ok h0
                          refine ro_S (As := [.int 0, .int x2_6, .int x3_9]) (rest := [.ref h_parts]) (wc := []) hcf (kX10_part l D cI cC cT 0 x2_6 x3_9 z_14 hz) (va_cwS 3 hts gX10_cut_X10_part rfl rfl rfl (by decide +kernel) ⟨Nat.le_of_ble_eq_true rfl, Nat.le_of_ble_eq_true rfl⟩) hE (hP.sub [] rfl) rfl hl.1 rfl (Nat.le_of_ble_eq_true rfl) dX10_cut_81 ⟨Nat.le_of_ble_eq_true rfl, Nat.le_of_ble_eq_true rfl⟩ ?_
                          refine W.eq (g2 := F0 m 84 ls [.int z_14, .ref h_parts]) rfl ?_
                          obtain ⟨g0, h0⟩ := gd_ok h0
                          refine va_iald hx hb hK hP 9 0 rfl rfl (inb_ok g0) dX10_cut_84 ?_
                          refine lv_if_le (tgt := 114) hx hb dX10_cut_85 (by decide) (fun c9 => ?_) (fun c9 => ?_)
                          · have h0 := it_t c9 h0
                            refine lv_iinc (v := (x4_12 + 1)) (lv' := [(4, .int (x4_12 + 1)), (3, .int x3_9), (2, .int x2_6), (0, .ref h), (1, .int p1)]) hx hb dX10_cut_114 hl (k := 0) rfl rfl (by decide) rfl (fun ls hl => ?_)
                            refine lv_goto (tgt := 52) hx hb dX10_cut_117 (by decide) ?_
                            exact ih52 (x4_12 + 1) _ _ ls h0 hP hD hS hl
                          · have h0 := it_f c9 h0
                            refine lv_aload_n hx hb dX10_cut_88 rfl (lv_at hl 3 rfl) ?_
                            refine va_get (D := D) (ci := 7) (v := .ref h_parts) (C := RX10) (T := TX10) (N := 14) hx hb hts hi_X10 hown hK hP 0 rfl rfl 13 (by decide) hf_34 (fun _ h9 => h9) rfl dX10_cut_89 ?_
                            refine lv_iload_n hx hb dX10_cut_92 rfl (lv_at hl 2 rfl) ?_
                            refine lv_iconst (v := 1) hx hb dX10_cut_93 (by decide) ?_
                            refine lv_iadd hx hb dX10_cut_94 ?_
                            refine lv_aload_n hx hb dX10_cut_95 rfl (lv_at hl 3 rfl) ?_
                            refine va_get (D := D) (ci := 7) (v := .int h_length) (C := RX10) (T := TX10) (N := 14) hx hb hts hi_X10 hown hK hP 0 rfl rfl 7 (by decide) hf_111 (fun _ h9 => h9) rfl dX10_cut_96 ?_
                            refine lv_iconst (v := 1) hx hb dX10_cut_99 (by decide) ?_
                            refine lv_isub hx hb dX10_cut_100 ?_
                            refine lv_iload hx hb dX10_cut_101 (lv_at hl 0 rfl) ?_
                            obtain ⟨z_15, hz, h0⟩ := bd_ok h0
                            refine ro_S (As := [.int (x2_6 + 1), .int (h_length - 1), .int x4_12]) (rest := [.ref h_parts]) (wc := []) hcf (kX10_part l D cI cC cT (x2_6 + 1) (h_length - 1) x4_12 z_15 hz) (va_cwS 3 hts gX10_cut_X10_part rfl rfl rfl (by decide +kernel) ⟨Nat.le_of_ble_eq_true rfl, Nat.le_of_ble_eq_true rfl⟩) hE (hP.sub [] rfl) rfl hl.1 rfl (Nat.le_of_ble_eq_true rfl) dX10_cut_103 ⟨Nat.le_of_ble_eq_true rfl, Nat.le_of_ble_eq_true rfl⟩ ?_
                            refine W.eq (g2 := F0 m 106 ls [.int z_15, .ref h_parts]) rfl ?_
                            obtain ⟨g0, h0⟩ := gd_ok h0
                            refine va_iald hx hb hK hP 9 0 rfl rfl (inb_ok g0) dX10_cut_106 ?_
                            refine lv_if_le (tgt := 114) hx hb dX10_cut_107 (by decide) (fun c9 => ?_) (fun c9 => ?_)
                            · have h0 := it_t c9 h0
                              refine lv_iinc (v := (x4_12 + 1)) (lv' := [(4, .int (x4_12 + 1)), (3, .int x3_9), (2, .int x2_6), (0, .ref h), (1, .int p1)]) hx hb dX10_cut_114 hl (k := 0) rfl rfl (by decide) rfl (fun ls hl => ?_)
                              refine lv_goto (tgt := 52) hx hb dX10_cut_117 (by decide) ?_
                              exact ih52 (x4_12 + 1) _ _ ls h0 hP hD hS hl
                            · have h0 := it_f c9 h0
                              refine lv_iload_n hx hb dX10_cut_110 rfl (lv_at hl 2 rfl) ?_
                              refine lv_iconst (v := 1) hx hb dX10_cut_111 (by decide) ?_
                              refine lv_iadd hx hb dX10_cut_112 ?_
                              have e0 := Option.some.inj h0
                              subst e0
                              exact W.iret (v := (x2_6 + 1)) hx hb hr (fun t ht hW => wr_end () ht hP hD hS) hS.2.2 dX10_cut_113
                  exact L_52_15 FU 0 _ _ ls h0 hP hD hS hl
            exact L_39_16 FU 0 _ _ ls h0 hP hD hS hl
      exact L_27_17 FU 0 _ _ ls h0 hP hD hS hl
    · have h0 := it_f c9 h0
      refine lv_bipush (v := (-2)) hx hb dX10_cut_18 (by decide) ?_
      have e0 := Option.some.inj h0
      subst e0
      exact W.iret (v := (-2)) hx hb hr (fun t ht hW => wr_end () ht hP hD hS) hS.2.2 dX10_cut_20
  · have h0 := it_t c9 h0
    refine lv_iconst (v := (-1)) hx hb dX10_cut_8 (by decide) ?_
    have e0 := Option.some.inj h0
    subst e0
    exact W.iret (v := (-1)) hx hb hr (fun t ht hW => wr_end () ht hP hD hS) hS.2.2 dX10_cut_9
noncomputable def mX10_stands_L14 (h_s_f : Nat → Int32) (h_pad_f : Nat → Int32) (p1 : Int32) (k14_84 : Int32 → Int32 → Option (Int32)) : Nat → Int32 → Int32 → Option (Int32)
  | 0, _, _ => none
  | F + 1, x4_4, x3_5 => if p1 ≤ x4_4 then (k14_84 x4_4 x3_5) else (gd (nzb ((h_s_f (0 : Int32).toNatClampNeg) + 1)) (gd (nzb ((h_s_f (0 : Int32).toNatClampNeg) + 1)) (if (x4_4 / ((h_s_f (0 : Int32).toNatClampNeg) + 1)) = (p1 / ((h_s_f (0 : Int32).toNatClampNeg) + 1)) then (if x3_5 = 0 then (gd (inb x4_4 80) (gd (inb p1 80) (if (h_pad_f (x4_4 : Int32).toNatClampNeg) = (h_pad_f (p1 : Int32).toNatClampNeg) then (mX10_stands_L14 h_s_f h_pad_f p1 k14_84 F (x4_4 + 1) 1) else (mX10_stands_L14 h_s_f h_pad_f p1 k14_84 F (x4_4 + 1) 0)))) else (mX10_stands_L14 h_s_f h_pad_f p1 k14_84 F (x4_4 + 1) 1)) else (gd (nzb ((h_s_f (0 : Int32).toNatClampNeg) + 1)) (gd (nzb ((h_s_f (0 : Int32).toNatClampNeg) + 1)) (if (x4_4 - x4_4 / ((h_s_f (0 : Int32).toNatClampNeg) + 1) * ((h_s_f (0 : Int32).toNatClampNeg) + 1)) = (p1 - p1 / ((h_s_f (0 : Int32).toNatClampNeg) + 1) * ((h_s_f (0 : Int32).toNatClampNeg) + 1)) then (if x3_5 = 0 then (gd (inb x4_4 80) (gd (inb p1 80) (if (h_pad_f (x4_4 : Int32).toNatClampNeg) = (h_pad_f (p1 : Int32).toNatClampNeg) then (mX10_stands_L14 h_s_f h_pad_f p1 k14_84 F (x4_4 + 1) 1) else (mX10_stands_L14 h_s_f h_pad_f p1 k14_84 F (x4_4 + 1) 0)))) else (mX10_stands_L14 h_s_f h_pad_f p1 k14_84 F (x4_4 + 1) 1)) else (if x3_5 = 0 then (mX10_stands_L14 h_s_f h_pad_f p1 k14_84 F (x4_4 + 1) 0) else (mX10_stands_L14 h_s_f h_pad_f p1 k14_84 F (x4_4 + 1) 1))))))))
noncomputable def mX10_stands (h_s_f : Nat → Int32) (h_pad_f : Nat → Int32) (p1 : Int32) : Option (Int32) :=
  mX10_stands_L14 h_s_f h_pad_f p1 (fun (x4_1 : Int32) (x3_2 : Int32) => gd (nbz x3_2) (some (x3_2))) FU 0 0
set_option maxHeartbeats 8000000 in
set_option maxRecDepth 100000 in
theorem kX10_stands (l : Launch) (D : va_G) (cI cC cT : ClassId) (h h_s h_aside h_past h_snapshot h_pad h_steps h_summed h_plus h_parts : Nat) (h_s_f : Nat → Int32) (h_aside_f : Nat → Int32) (h_past_f : Nat → Int32) (h_pasts : Int32) (h_snapshot_f : Nat → Int32) (h_isKept : Int32) (h_pad_f : Nat → Int32) (h_length : Int32) (h_steps_f : Nat → Int32) (h_many : Int32) (h_value : Int32) (h_summed_f : Nat → Int32) (h_plus_f : Nat → Int32) (h_parts_f : Nat → Int32) (p1 : Int32) (z : Int32) (h0 : mX10_stands h_s_f h_pad_f p1 = some z) : Met l yX10_stands wsX10_stands ({ frames := 0, cells := 0, slots := 0, locals := 0 } : Room) (va_Pc [.ref h, .int p1] (rP D cI cC cT [(h, .inr (7, [.ref h_s, .ref h_aside, .ref h_past, .int h_pasts, .ref h_snapshot, .int h_isKept, .ref h_pad, .int h_length, .ref h_steps, .int h_many, .int h_value, .ref h_summed, .ref h_plus, .ref h_parts])), (h_s, .inl (cI, 65, .inl h_s_f)), (h_aside, .inl (cI, 65, .inl h_aside_f)), (h_past, .inl (cI, 260, .inl h_past_f)), (h_snapshot, .inl (cI, 65, .inl h_snapshot_f)), (h_pad, .inl (cI, 80, .inl h_pad_f)), (h_steps, .inl (cI, 320, .inl h_steps_f)), (h_summed, .inl (cI, 81, .inl h_summed_f)), (h_plus, .inl (cI, 81, .inl h_plus_f)), (h_parts, .inl (cI, 392, .inl h_parts_f))])) (rQ (some (.int z))) 0 0 (fun _ => False) := by
  refine Met.ofW (cc := cX10_stands) (maxL := 6) (ret := (some .boolean)) (by decide) rfl ?_
  intro p e s m args below meth c s₁ B hml hv
  obtain ⟨rfl, hP, hE⟩ := hv
  have hx := B.exec
  have hb := B.bytes
  have hr := B.returns
  have hts := atoms_spec (ws := wsX10_stands) B.pre
  have hown : s.vm.findClass RX10 = some m.cls := findClass_of_methodNamed B.named
  have hlocks := B.notSynchronized
  have hK := hE.1
  have hcf : CallFix p m c cX10_stands 6 s ([.ref h, .int p1] : List Value).toArray wsX10_stands RX10 := ⟨hx, hb, hml, hown, hts⟩
  have hP : va_P D vwCl [(h, .inr (7, [.ref h_s, .ref h_aside, .ref h_past, .int h_pasts, .ref h_snapshot, .int h_isKept, .ref h_pad, .int h_length, .ref h_steps, .int h_many, .int h_value, .ref h_summed, .ref h_plus, .ref h_parts])), (h_s, .inl (cI, 65, .inl h_s_f)), (h_aside, .inl (cI, 65, .inl h_aside_f)), (h_past, .inl (cI, 260, .inl h_past_f)), (h_snapshot, .inl (cI, 65, .inl h_snapshot_f)), (h_pad, .inl (cI, 80, .inl h_pad_f)), (h_steps, .inl (cI, 320, .inl h_steps_f)), (h_summed, .inl (cI, 81, .inl h_summed_f)), (h_plus, .inl (cI, 81, .inl h_plus_f)), (h_parts, .inl (cI, 392, .inl h_parts_f))] s.heap := hP
  have hf_7 := hts (.fieldLink RX10 7 "CrookedSumsModel" "s" "[I") (by decide +kernel)
  have hi_X10 := (show ∀ w ∈ u_ws RX10 TX10 14, w ∈ wsX10_stands from by decide +kernel)
  have hf_22 := hts (.fieldLink RX10 22 "CrookedSumsModel" "pad" "[I") (by decide +kernel)
  have hl := lv_entry ([.ref h, .int p1]) (n := 6) (Nat.le_of_ble_eq_true rfl)
  rw [lg_entry_eq]
  generalize (lg_sl ([.ref h, .int p1]) ++ List.replicate (6 - (lg_sl ([.ref h, .int p1])).length) Slot.unset).toArray = ls at hl ⊢
  have hl : lv_has ls 6 [(0, .ref h), (1, .int p1)] := hl
  unfold mX10_stands at h0
  refine lv_aload_n hx hb dX10_stands_0 rfl (lv_at hl 0 rfl) ?_
  refine va_get (D := D) (ci := 7) (v := .ref h_s) (C := RX10) (T := TX10) (N := 14) hx hb hts hi_X10 hown hK hP 0 rfl rfl 0 (by decide) hf_7 (fun _ h9 => h9) rfl dX10_stands_1 ?_
  refine lv_iconst (v := 0) hx hb dX10_stands_4 (by decide) ?_
  refine va_iald hx hb hK hP 1 0 rfl rfl (by unfold vp_in; decide) dX10_stands_5 ?_
  refine lv_iconst (v := 1) hx hb dX10_stands_6 (by decide) ?_
  refine lv_iadd hx hb dX10_stands_7 ?_
  refine lv_istore_n (lv' := [(2, .int ((h_s_f (0 : Int32).toNatClampNeg) + 1)), (0, .ref h), (1, .int p1)]) hx hb dX10_stands_8 rfl hl (by decide) rfl (fun ls hl => ?_)
  refine lv_iconst (v := 0) hx hb dX10_stands_9 (by decide) ?_
  refine lv_istore_n (lv' := [(3, .int 0), (2, .int ((h_s_f (0 : Int32).toNatClampNeg) + 1)), (0, .ref h), (1, .int p1)]) hx hb dX10_stands_10 rfl hl (by decide) rfl (fun ls hl => ?_)
  refine lv_iconst (v := 0) hx hb dX10_stands_11 (by decide) ?_
  refine lv_istore (lv' := [(4, .int 0), (3, .int 0), (2, .int ((h_s_f (0 : Int32).toNatClampNeg) + 1)), (0, .ref h), (1, .int p1)]) hx hb dX10_stands_12 hl (by decide) rfl (fun ls hl => ?_)
  have E_14_84_2 : ∀ (x4_1 : Int32) (x3_2 : Int32) (ls : Array Slot), (gd (nbz x3_2) (some (x3_2))) = some z → lv_has ls 6 [(4, .int x4_1), (3, .int x3_2), (2, .int ((h_s_f (0 : Int32).toNatClampNeg) + 1)), (0, .ref h), (1, .int p1)] → W p l e (headSpec wsX10_stands ({ frames := 0, cells := 0, slots := 0, locals := 0 } : Room)).room s m (([.ref h, .int p1] : List Value).toArray) below meth c s.heap [] 0 0 (MQ below (rQ (some (.int z))) (([.ref h, .int p1] : List Value).toArray) s 0 0 (fun _ => False)) (F0 m 84 ls []) := by
    intro x4_1 x3_2 ls h0 hl
    refine lv_iload_n hx hb dX10_stands_84 rfl (lv_at hl 1 rfl) ?_
    obtain ⟨g0, h0⟩ := gd_ok h0
    have e0 := Option.some.inj h0
    subst e0
    exact W.zret (ty := .boolean) (v := x3_2) hx hb hr (nbz_ok g0) (fun t ht hW => ⟨rfl, ht⟩) (fun q hq => absurd hq List.not_mem_nil) dX10_stands_85
  have L_14_5 : ∀ (F14 : Nat) (x4_4 : Int32) (x3_5 : Int32) (ls : Array Slot), mX10_stands_L14 h_s_f h_pad_f p1 (fun (x4_1 : Int32) (x3_2 : Int32) => gd (nbz x3_2) (some (x3_2))) F14 x4_4 x3_5 = some z → lv_has ls 6 [(4, .int x4_4), (3, .int x3_5), (2, .int ((h_s_f (0 : Int32).toNatClampNeg) + 1)), (0, .ref h), (1, .int p1)] → W p l e (headSpec wsX10_stands ({ frames := 0, cells := 0, slots := 0, locals := 0 } : Room)).room s m (([.ref h, .int p1] : List Value).toArray) below meth c s.heap [] 0 0 (MQ below (rQ (some (.int z))) (([.ref h, .int p1] : List Value).toArray) s 0 0 (fun _ => False)) (F0 m 14 ls []) := by
    intro F14
    induction F14 with
    | zero => intro x4_4 x3_5 ls h0 hl; cases h0
    | succ F14 ih14 =>
      intro x4_4 x3_5 ls h0 hl
      rw [mX10_stands_L14] at h0
      refine lv_iload hx hb dX10_stands_14 (lv_at hl 0 rfl) ?_
      refine lv_iload_n hx hb dX10_stands_16 rfl (lv_at hl 4 rfl) ?_
      refine lv_icmp_ge (tgt := 84) hx hb dX10_stands_17 (by decide) (fun c9 => ?_) (fun c9 => ?_)
      · have h0 := it_t c9 h0
        exact E_14_84_2 x4_4 x3_5 ls h0 hl
      · have h0 := it_f c9 h0
        refine lv_iload hx hb dX10_stands_20 (lv_at hl 0 rfl) ?_
        refine lv_iload_n hx hb dX10_stands_22 rfl (lv_at hl 2 rfl) ?_
        obtain ⟨g0, h0⟩ := gd_ok h0
        refine lv_idiv hx hb dX10_stands_23 (nzb_ok g0) ?_
        refine lv_iload_n hx hb dX10_stands_24 rfl (lv_at hl 4 rfl) ?_
        refine lv_iload_n hx hb dX10_stands_25 rfl (lv_at hl 2 rfl) ?_
        obtain ⟨g0, h0⟩ := gd_ok h0
        refine lv_idiv hx hb dX10_stands_26 (nzb_ok g0) ?_
        refine lv_icmp_eq (tgt := 40) hx hb dX10_stands_27 (by decide) (fun c9 => ?_) (fun c9 => ?_)
        · have h0 := it_t c9 h0
          refine lv_iconst (v := 1) hx hb dX10_stands_40 (by decide) ?_
          refine lv_goto (tgt := 45) hx hb dX10_stands_41 (by decide) ?_
          refine lv_istore (lv' := [(5, .int 1), (4, .int x4_4), (3, .int x3_5), (2, .int ((h_s_f (0 : Int32).toNatClampNeg) + 1)), (0, .ref h), (1, .int p1)]) hx hb dX10_stands_45 hl (by decide) rfl (fun ls hl => ?_)
          refine lv_iload_n hx hb dX10_stands_47 rfl (lv_at hl 2 rfl) ?_
          refine lv_if_ne (tgt := 72) hx hb dX10_stands_48 (by decide) (fun c9 => ?_) (fun c9 => ?_)
          · have h0 := it_f c9 h0
            refine lv_iconst (v := 1) hx hb dX10_stands_72 (by decide) ?_
            refine lv_goto (tgt := 77) hx hb dX10_stands_73 (by decide) ?_
            refine lv_istore_n (lv' := [(3, .int 1), (5, .int 1), (4, .int x4_4), (2, .int ((h_s_f (0 : Int32).toNatClampNeg) + 1)), (0, .ref h), (1, .int p1)]) hx hb dX10_stands_77 rfl hl (by decide) rfl (fun ls hl => ?_)
            refine lv_iinc (v := (x4_4 + 1)) (lv' := [(4, .int (x4_4 + 1)), (3, .int 1), (5, .int 1), (2, .int ((h_s_f (0 : Int32).toNatClampNeg) + 1)), (0, .ref h), (1, .int p1)]) hx hb dX10_stands_78 hl (k := 2) rfl rfl (by decide) rfl (fun ls hl => ?_)
            refine lv_goto (tgt := 14) hx hb dX10_stands_81 (by decide) ?_
            exact ih14 (x4_4 + 1) 1 ls h0 (lv_sub hl [0, 1, 3, 4, 5] rfl)
          · have h0 := it_t c9 h0
            refine lv_iload hx hb dX10_stands_51 (lv_at hl 0 rfl) ?_
            refine lv_if_eq (tgt := 76) hx hb dX10_stands_53 (by decide) (fun c9 => absurd c9 (by decide)) (fun _ => ?_)
            refine lv_aload_n hx hb dX10_stands_56 rfl (lv_at hl 4 rfl) ?_
            refine va_get (D := D) (ci := 7) (v := .ref h_pad) (C := RX10) (T := TX10) (N := 14) hx hb hts hi_X10 hown hK hP 0 rfl rfl 6 (by decide) hf_22 (fun _ h9 => h9) rfl dX10_stands_57 ?_
            refine lv_iload hx hb dX10_stands_60 (lv_at hl 1 rfl) ?_
            obtain ⟨g0, h0⟩ := gd_ok h0
            refine va_iald hx hb hK hP 5 0 rfl rfl (inb_ok g0) dX10_stands_62 ?_
            refine lv_aload_n hx hb dX10_stands_63 rfl (lv_at hl 4 rfl) ?_
            refine va_get (D := D) (ci := 7) (v := .ref h_pad) (C := RX10) (T := TX10) (N := 14) hx hb hts hi_X10 hown hK hP 0 rfl rfl 6 (by decide) hf_22 (fun _ h9 => h9) rfl dX10_stands_64 ?_
            refine lv_iload_n hx hb dX10_stands_67 rfl (lv_at hl 5 rfl) ?_
            obtain ⟨g0, h0⟩ := gd_ok h0
            refine va_iald hx hb hK hP 5 0 rfl rfl (inb_ok g0) dX10_stands_68 ?_
            refine lv_icmp_ne (tgt := 76) hx hb dX10_stands_69 (by decide) (fun c9 => ?_) (fun c9 => ?_)
            · have h0 := it_f c9 h0
              refine lv_iconst (v := 0) hx hb dX10_stands_76 (by decide) ?_
              refine lv_istore_n (lv' := [(3, .int 0), (5, .int 1), (4, .int x4_4), (2, .int ((h_s_f (0 : Int32).toNatClampNeg) + 1)), (0, .ref h), (1, .int p1)]) hx hb dX10_stands_77 rfl hl (by decide) rfl (fun ls hl => ?_)
              refine lv_iinc (v := (x4_4 + 1)) (lv' := [(4, .int (x4_4 + 1)), (3, .int 0), (5, .int 1), (2, .int ((h_s_f (0 : Int32).toNatClampNeg) + 1)), (0, .ref h), (1, .int p1)]) hx hb dX10_stands_78 hl (k := 2) rfl rfl (by decide) rfl (fun ls hl => ?_)
              refine lv_goto (tgt := 14) hx hb dX10_stands_81 (by decide) ?_
              exact ih14 (x4_4 + 1) 0 ls h0 (lv_sub hl [0, 1, 3, 4, 5] rfl)
            · have h0 := it_t c9 h0
              refine lv_iconst (v := 1) hx hb dX10_stands_72 (by decide) ?_
              refine lv_goto (tgt := 77) hx hb dX10_stands_73 (by decide) ?_
              refine lv_istore_n (lv' := [(3, .int 1), (5, .int 1), (4, .int x4_4), (2, .int ((h_s_f (0 : Int32).toNatClampNeg) + 1)), (0, .ref h), (1, .int p1)]) hx hb dX10_stands_77 rfl hl (by decide) rfl (fun ls hl => ?_)
              refine lv_iinc (v := (x4_4 + 1)) (lv' := [(4, .int (x4_4 + 1)), (3, .int 1), (5, .int 1), (2, .int ((h_s_f (0 : Int32).toNatClampNeg) + 1)), (0, .ref h), (1, .int p1)]) hx hb dX10_stands_78 hl (k := 2) rfl rfl (by decide) rfl (fun ls hl => ?_)
              refine lv_goto (tgt := 14) hx hb dX10_stands_81 (by decide) ?_
              exact ih14 (x4_4 + 1) 1 ls h0 (lv_sub hl [0, 1, 3, 4, 5] rfl)
        · have h0 := it_f c9 h0
          refine lv_iload hx hb dX10_stands_30 (lv_at hl 0 rfl) ?_
          refine lv_iload_n hx hb dX10_stands_32 rfl (lv_at hl 2 rfl) ?_
          obtain ⟨g0, h0⟩ := gd_ok h0
          refine lv_irem hx hb dX10_stands_33 (nzb_ok g0) ?_
          refine lv_iload_n hx hb dX10_stands_34 rfl (lv_at hl 4 rfl) ?_
          refine lv_iload_n hx hb dX10_stands_35 rfl (lv_at hl 2 rfl) ?_
          obtain ⟨g0, h0⟩ := gd_ok h0
          refine lv_irem hx hb dX10_stands_36 (nzb_ok g0) ?_
          refine lv_icmp_ne (tgt := 44) hx hb dX10_stands_37 (by decide) (fun c9 => ?_) (fun c9 => ?_)
          · have h0 := it_f c9 h0
            refine lv_iconst (v := 0) hx hb dX10_stands_44 (by decide) ?_
            refine lv_istore (lv' := [(5, .int 0), (4, .int x4_4), (3, .int x3_5), (2, .int ((h_s_f (0 : Int32).toNatClampNeg) + 1)), (0, .ref h), (1, .int p1)]) hx hb dX10_stands_45 hl (by decide) rfl (fun ls hl => ?_)
            refine lv_iload_n hx hb dX10_stands_47 rfl (lv_at hl 2 rfl) ?_
            refine lv_if_ne (tgt := 72) hx hb dX10_stands_48 (by decide) (fun c9 => ?_) (fun c9 => ?_)
            · have h0 := it_f c9 h0
              refine lv_iconst (v := 1) hx hb dX10_stands_72 (by decide) ?_
              refine lv_goto (tgt := 77) hx hb dX10_stands_73 (by decide) ?_
              refine lv_istore_n (lv' := [(3, .int 1), (5, .int 0), (4, .int x4_4), (2, .int ((h_s_f (0 : Int32).toNatClampNeg) + 1)), (0, .ref h), (1, .int p1)]) hx hb dX10_stands_77 rfl hl (by decide) rfl (fun ls hl => ?_)
              refine lv_iinc (v := (x4_4 + 1)) (lv' := [(4, .int (x4_4 + 1)), (3, .int 1), (5, .int 0), (2, .int ((h_s_f (0 : Int32).toNatClampNeg) + 1)), (0, .ref h), (1, .int p1)]) hx hb dX10_stands_78 hl (k := 2) rfl rfl (by decide) rfl (fun ls hl => ?_)
              refine lv_goto (tgt := 14) hx hb dX10_stands_81 (by decide) ?_
              exact ih14 (x4_4 + 1) 1 ls h0 (lv_sub hl [0, 1, 3, 4, 5] rfl)
            · have h0 := it_t c9 h0
              refine lv_iload hx hb dX10_stands_51 (lv_at hl 0 rfl) ?_
              refine lv_if_eq (tgt := 76) hx hb dX10_stands_53 (by decide) (fun _ => ?_) (fun c9 => absurd (by decide) c9)
              refine lv_iconst (v := 0) hx hb dX10_stands_76 (by decide) ?_
              refine lv_istore_n (lv' := [(3, .int 0), (5, .int 0), (4, .int x4_4), (2, .int ((h_s_f (0 : Int32).toNatClampNeg) + 1)), (0, .ref h), (1, .int p1)]) hx hb dX10_stands_77 rfl hl (by decide) rfl (fun ls hl => ?_)
              refine lv_iinc (v := (x4_4 + 1)) (lv' := [(4, .int (x4_4 + 1)), (3, .int 0), (5, .int 0), (2, .int ((h_s_f (0 : Int32).toNatClampNeg) + 1)), (0, .ref h), (1, .int p1)]) hx hb dX10_stands_78 hl (k := 2) rfl rfl (by decide) rfl (fun ls hl => ?_)
              refine lv_goto (tgt := 14) hx hb dX10_stands_81 (by decide) ?_
              exact ih14 (x4_4 + 1) 0 ls h0 (lv_sub hl [0, 1, 3, 4, 5] rfl)
          · have h0 := it_t c9 h0
            refine lv_iconst (v := 1) hx hb dX10_stands_40 (by decide) ?_
            refine lv_goto (tgt := 45) hx hb dX10_stands_41 (by decide) ?_
            refine lv_istore (lv' := [(5, .int 1), (4, .int x4_4), (3, .int x3_5), (2, .int ((h_s_f (0 : Int32).toNatClampNeg) + 1)), (0, .ref h), (1, .int p1)]) hx hb dX10_stands_45 hl (by decide) rfl (fun ls hl => ?_)
            refine lv_iload_n hx hb dX10_stands_47 rfl (lv_at hl 2 rfl) ?_
            refine lv_if_ne (tgt := 72) hx hb dX10_stands_48 (by decide) (fun c9 => ?_) (fun c9 => ?_)
            · have h0 := it_f c9 h0
              refine lv_iconst (v := 1) hx hb dX10_stands_72 (by decide) ?_
              refine lv_goto (tgt := 77) hx hb dX10_stands_73 (by decide) ?_
              refine lv_istore_n (lv' := [(3, .int 1), (5, .int 1), (4, .int x4_4), (2, .int ((h_s_f (0 : Int32).toNatClampNeg) + 1)), (0, .ref h), (1, .int p1)]) hx hb dX10_stands_77 rfl hl (by decide) rfl (fun ls hl => ?_)
              refine lv_iinc (v := (x4_4 + 1)) (lv' := [(4, .int (x4_4 + 1)), (3, .int 1), (5, .int 1), (2, .int ((h_s_f (0 : Int32).toNatClampNeg) + 1)), (0, .ref h), (1, .int p1)]) hx hb dX10_stands_78 hl (k := 2) rfl rfl (by decide) rfl (fun ls hl => ?_)
              refine lv_goto (tgt := 14) hx hb dX10_stands_81 (by decide) ?_
              exact ih14 (x4_4 + 1) 1 ls h0 (lv_sub hl [0, 1, 3, 4, 5] rfl)
            · have h0 := it_t c9 h0
              refine lv_iload hx hb dX10_stands_51 (lv_at hl 0 rfl) ?_
              refine lv_if_eq (tgt := 76) hx hb dX10_stands_53 (by decide) (fun c9 => absurd c9 (by decide)) (fun _ => ?_)
              refine lv_aload_n hx hb dX10_stands_56 rfl (lv_at hl 4 rfl) ?_
              refine va_get (D := D) (ci := 7) (v := .ref h_pad) (C := RX10) (T := TX10) (N := 14) hx hb hts hi_X10 hown hK hP 0 rfl rfl 6 (by decide) hf_22 (fun _ h9 => h9) rfl dX10_stands_57 ?_
              refine lv_iload hx hb dX10_stands_60 (lv_at hl 1 rfl) ?_
              obtain ⟨g0, h0⟩ := gd_ok h0
              refine va_iald hx hb hK hP 5 0 rfl rfl (inb_ok g0) dX10_stands_62 ?_
              refine lv_aload_n hx hb dX10_stands_63 rfl (lv_at hl 4 rfl) ?_
              refine va_get (D := D) (ci := 7) (v := .ref h_pad) (C := RX10) (T := TX10) (N := 14) hx hb hts hi_X10 hown hK hP 0 rfl rfl 6 (by decide) hf_22 (fun _ h9 => h9) rfl dX10_stands_64 ?_
              refine lv_iload_n hx hb dX10_stands_67 rfl (lv_at hl 5 rfl) ?_
              obtain ⟨g0, h0⟩ := gd_ok h0
              refine va_iald hx hb hK hP 5 0 rfl rfl (inb_ok g0) dX10_stands_68 ?_
              refine lv_icmp_ne (tgt := 76) hx hb dX10_stands_69 (by decide) (fun c9 => ?_) (fun c9 => ?_)
              · have h0 := it_f c9 h0
                refine lv_iconst (v := 0) hx hb dX10_stands_76 (by decide) ?_
                refine lv_istore_n (lv' := [(3, .int 0), (5, .int 1), (4, .int x4_4), (2, .int ((h_s_f (0 : Int32).toNatClampNeg) + 1)), (0, .ref h), (1, .int p1)]) hx hb dX10_stands_77 rfl hl (by decide) rfl (fun ls hl => ?_)
                refine lv_iinc (v := (x4_4 + 1)) (lv' := [(4, .int (x4_4 + 1)), (3, .int 0), (5, .int 1), (2, .int ((h_s_f (0 : Int32).toNatClampNeg) + 1)), (0, .ref h), (1, .int p1)]) hx hb dX10_stands_78 hl (k := 2) rfl rfl (by decide) rfl (fun ls hl => ?_)
                refine lv_goto (tgt := 14) hx hb dX10_stands_81 (by decide) ?_
                exact ih14 (x4_4 + 1) 0 ls h0 (lv_sub hl [0, 1, 3, 4, 5] rfl)
              · have h0 := it_t c9 h0
                refine lv_iconst (v := 1) hx hb dX10_stands_72 (by decide) ?_
                refine lv_goto (tgt := 77) hx hb dX10_stands_73 (by decide) ?_
                refine lv_istore_n (lv' := [(3, .int 1), (5, .int 1), (4, .int x4_4), (2, .int ((h_s_f (0 : Int32).toNatClampNeg) + 1)), (0, .ref h), (1, .int p1)]) hx hb dX10_stands_77 rfl hl (by decide) rfl (fun ls hl => ?_)
                refine lv_iinc (v := (x4_4 + 1)) (lv' := [(4, .int (x4_4 + 1)), (3, .int 1), (5, .int 1), (2, .int ((h_s_f (0 : Int32).toNatClampNeg) + 1)), (0, .ref h), (1, .int p1)]) hx hb dX10_stands_78 hl (k := 2) rfl rfl (by decide) rfl (fun ls hl => ?_)
                refine lv_goto (tgt := 14) hx hb dX10_stands_81 (by decide) ?_
                exact ih14 (x4_4 + 1) 1 ls h0 (lv_sub hl [0, 1, 3, 4, 5] rfl)
  exact L_14_5 FU 0 0 ls h0 hl
noncomputable def mX10_tableFault_L22 (h_s_f : Nat → Int32) (h_pad_f : Nat → Int32) (h_length : Int32) (k22_97 : Int32 → Option (Int32)) : Nat → Int32 → Option (Int32)
  | 0, _ => none
  | F + 1, x3_3 => if h_length ≤ x3_3 then (k22_97 x3_3) else (if ((((h_s_f (0 : Int32).toNatClampNeg) + 1) * (h_s_f (0 : Int32).toNatClampNeg)) - 1) ≤ x3_3 then (some (x3_3)) else (gd (nzb ((h_s_f (0 : Int32).toNatClampNeg) + 1)) (if (x3_3 - x3_3 / ((h_s_f (0 : Int32).toNatClampNeg) + 1) * ((h_s_f (0 : Int32).toNatClampNeg) + 1)) = (h_s_f (0 : Int32).toNatClampNeg) then (gd (inb x3_3 80) (if (h_pad_f (x3_3 : Int32).toNatClampNeg) = 47 then (mX10_tableFault_L22 h_s_f h_pad_f h_length k22_97 F (x3_3 + 1)) else (some (x3_3)))) else (bd (mX10_isTokenAt h_s_f h_pad_f x3_3) (fun z_4 => if z_4 = 0 then (some (x3_3)) else (bd (mX10_stands h_s_f h_pad_f x3_3) (fun z_5 => if z_5 = 0 then (mX10_tableFault_L22 h_s_f h_pad_f h_length k22_97 F (x3_3 + 1)) else (some (x3_3)))))))))
noncomputable def mX10_tableFault (h_s_f : Nat → Int32) (h_pad_f : Nat → Int32) (h_length : Int32) : Option (Int32) :=
  mX10_tableFault_L22 h_s_f h_pad_f h_length (fun (x3_1 : Int32) => if ((((h_s_f (0 : Int32).toNatClampNeg) + 1) * (h_s_f (0 : Int32).toNatClampNeg)) - 1) ≤ h_length then (some ((-1))) else (some (h_length))) FU 0
set_option maxHeartbeats 8000000 in
set_option maxRecDepth 100000 in
theorem kX10_tableFault (l : Launch) (D : va_G) (cI cC cT : ClassId) (h h_s h_aside h_past h_snapshot h_pad h_steps h_summed h_plus h_parts : Nat) (h_s_f : Nat → Int32) (h_aside_f : Nat → Int32) (h_past_f : Nat → Int32) (h_pasts : Int32) (h_snapshot_f : Nat → Int32) (h_isKept : Int32) (h_pad_f : Nat → Int32) (h_length : Int32) (h_steps_f : Nat → Int32) (h_many : Int32) (h_value : Int32) (h_summed_f : Nat → Int32) (h_plus_f : Nat → Int32) (h_parts_f : Nat → Int32) (z : Int32) (h0 : mX10_tableFault h_s_f h_pad_f h_length = some z) : Met l yX10_tableFault wsX10_tableFault ({ frames := 3, cells := 0, slots := 0, locals := 64 } : Room) (va_Pc [.ref h] (rP D cI cC cT [(h, .inr (7, [.ref h_s, .ref h_aside, .ref h_past, .int h_pasts, .ref h_snapshot, .int h_isKept, .ref h_pad, .int h_length, .ref h_steps, .int h_many, .int h_value, .ref h_summed, .ref h_plus, .ref h_parts])), (h_s, .inl (cI, 65, .inl h_s_f)), (h_aside, .inl (cI, 65, .inl h_aside_f)), (h_past, .inl (cI, 260, .inl h_past_f)), (h_snapshot, .inl (cI, 65, .inl h_snapshot_f)), (h_pad, .inl (cI, 80, .inl h_pad_f)), (h_steps, .inl (cI, 320, .inl h_steps_f)), (h_summed, .inl (cI, 81, .inl h_summed_f)), (h_plus, .inl (cI, 81, .inl h_plus_f)), (h_parts, .inl (cI, 392, .inl h_parts_f))])) (rQ (some (.int z))) 0 0 (fun _ => False) := by
  refine Met.ofW (cc := cX10_tableFault) (maxL := 5) (ret := (some .int)) (by decide) rfl ?_
  intro p e s m args below meth c s₁ B hml hv
  obtain ⟨rfl, hP, hE⟩ := hv
  have hx := B.exec
  have hb := B.bytes
  have hr := B.returns
  have hts := atoms_spec (ws := wsX10_tableFault) B.pre
  have hown : s.vm.findClass RX10 = some m.cls := findClass_of_methodNamed B.named
  have hlocks := B.notSynchronized
  have hK := hE.1
  have hcf : CallFix p m c cX10_tableFault 5 s ([.ref h] : List Value).toArray wsX10_tableFault RX10 := ⟨hx, hb, hml, hown, hts⟩
  have hP : va_P D vwCl [(h, .inr (7, [.ref h_s, .ref h_aside, .ref h_past, .int h_pasts, .ref h_snapshot, .int h_isKept, .ref h_pad, .int h_length, .ref h_steps, .int h_many, .int h_value, .ref h_summed, .ref h_plus, .ref h_parts])), (h_s, .inl (cI, 65, .inl h_s_f)), (h_aside, .inl (cI, 65, .inl h_aside_f)), (h_past, .inl (cI, 260, .inl h_past_f)), (h_snapshot, .inl (cI, 65, .inl h_snapshot_f)), (h_pad, .inl (cI, 80, .inl h_pad_f)), (h_steps, .inl (cI, 320, .inl h_steps_f)), (h_summed, .inl (cI, 81, .inl h_summed_f)), (h_plus, .inl (cI, 81, .inl h_plus_f)), (h_parts, .inl (cI, 392, .inl h_parts_f))] s.heap := hP
  have hf_7 := hts (.fieldLink RX10 7 "CrookedSumsModel" "s" "[I") (by decide +kernel)
  have hi_X10 := (show ∀ w ∈ u_ws RX10 TX10 14, w ∈ wsX10_tableFault from by decide +kernel)
  have hf_111 := hts (.fieldLink RX10 111 "CrookedSumsModel" "length" "I") (by decide +kernel)
  have hf_22 := hts (.fieldLink RX10 22 "CrookedSumsModel" "pad" "[I") (by decide +kernel)
  have hl := lv_entry ([.ref h]) (n := 5) (Nat.le_of_ble_eq_true rfl)
  rw [lg_entry_eq]
  generalize (lg_sl ([.ref h]) ++ List.replicate (5 - (lg_sl ([.ref h])).length) Slot.unset).toArray = ls at hl ⊢
  have hl : lv_has ls 5 [(0, .ref h)] := hl
  unfold mX10_tableFault at h0
  refine lv_aload_n hx hb dX10_tableFault_0 rfl (lv_at hl 0 rfl) ?_
  refine va_get (D := D) (ci := 7) (v := .ref h_s) (C := RX10) (T := TX10) (N := 14) hx hb hts hi_X10 hown hK hP 0 rfl rfl 0 (by decide) hf_7 (fun _ h9 => h9) rfl dX10_tableFault_1 ?_
  refine lv_iconst (v := 0) hx hb dX10_tableFault_4 (by decide) ?_
  refine va_iald hx hb hK hP 1 0 rfl rfl (by unfold vp_in; decide) dX10_tableFault_5 ?_
  refine lv_iconst (v := 1) hx hb dX10_tableFault_6 (by decide) ?_
  refine lv_iadd hx hb dX10_tableFault_7 ?_
  refine lv_istore_n (lv' := [(1, .int ((h_s_f (0 : Int32).toNatClampNeg) + 1)), (0, .ref h)]) hx hb dX10_tableFault_8 rfl hl (by decide) rfl (fun ls hl => ?_)
  refine lv_iload_n hx hb dX10_tableFault_9 rfl (lv_at hl 0 rfl) ?_
  refine lv_aload_n hx hb dX10_tableFault_10 rfl (lv_at hl 1 rfl) ?_
  refine va_get (D := D) (ci := 7) (v := .ref h_s) (C := RX10) (T := TX10) (N := 14) hx hb hts hi_X10 hown hK hP 0 rfl rfl 0 (by decide) hf_7 (fun _ h9 => h9) rfl dX10_tableFault_11 ?_
  refine lv_iconst (v := 0) hx hb dX10_tableFault_14 (by decide) ?_
  refine va_iald hx hb hK hP 1 0 rfl rfl (by unfold vp_in; decide) dX10_tableFault_15 ?_
  refine lv_imul hx hb dX10_tableFault_16 ?_
  refine lv_iconst (v := 1) hx hb dX10_tableFault_17 (by decide) ?_
  refine lv_isub hx hb dX10_tableFault_18 ?_
  refine lv_istore_n (lv' := [(2, .int ((((h_s_f (0 : Int32).toNatClampNeg) + 1) * (h_s_f (0 : Int32).toNatClampNeg)) - 1)), (1, .int ((h_s_f (0 : Int32).toNatClampNeg) + 1)), (0, .ref h)]) hx hb dX10_tableFault_19 rfl hl (by decide) rfl (fun ls hl => ?_)
  refine lv_iconst (v := 0) hx hb dX10_tableFault_20 (by decide) ?_
  refine lv_istore_n (lv' := [(3, .int 0), (2, .int ((((h_s_f (0 : Int32).toNatClampNeg) + 1) * (h_s_f (0 : Int32).toNatClampNeg)) - 1)), (1, .int ((h_s_f (0 : Int32).toNatClampNeg) + 1)), (0, .ref h)]) hx hb dX10_tableFault_21 rfl hl (by decide) rfl (fun ls hl => ?_)
  have E_22_97_1 : ∀ (x3_1 : Int32) (ls : Array Slot), (if ((((h_s_f (0 : Int32).toNatClampNeg) + 1) * (h_s_f (0 : Int32).toNatClampNeg)) - 1) ≤ h_length then (some ((-1))) else (some (h_length))) = some z → lv_has ls 5 [(3, .int x3_1), (2, .int ((((h_s_f (0 : Int32).toNatClampNeg) + 1) * (h_s_f (0 : Int32).toNatClampNeg)) - 1)), (1, .int ((h_s_f (0 : Int32).toNatClampNeg) + 1)), (0, .ref h)] → W p l e (headSpec wsX10_tableFault ({ frames := 3, cells := 0, slots := 0, locals := 64 } : Room)).room s m (([.ref h] : List Value).toArray) below meth c s.heap [] 0 0 (MQ below (rQ (some (.int z))) (([.ref h] : List Value).toArray) s 0 0 (fun _ => False)) (F0 m 97 ls []) := by
    intro x3_1 ls h0 hl
    refine lv_aload_n hx hb dX10_tableFault_97 rfl (lv_at hl 3 rfl) ?_
    refine va_get (D := D) (ci := 7) (v := .int h_length) (C := RX10) (T := TX10) (N := 14) hx hb hts hi_X10 hown hK hP 0 rfl rfl 7 (by decide) hf_111 (fun _ h9 => h9) rfl dX10_tableFault_98 ?_
    refine lv_iload_n hx hb dX10_tableFault_101 rfl (lv_at hl 1 rfl) ?_
    refine lv_icmp_ge (tgt := 112) hx hb dX10_tableFault_102 (by decide) (fun c9 => ?_) (fun c9 => ?_)
    · have h0 := it_t c9 h0
      refine lv_iconst (v := (-1)) hx hb dX10_tableFault_112 (by decide) ?_
      have e0 := Option.some.inj h0
      subst e0
      exact W.iret (v := (-1)) hx hb hr (fun t ht hW => ⟨rfl, ht⟩) (fun q hq => absurd hq List.not_mem_nil) dX10_tableFault_113
    · have h0 := it_f c9 h0
      refine lv_aload_n hx hb dX10_tableFault_105 rfl (lv_at hl 3 rfl) ?_
      refine va_get (D := D) (ci := 7) (v := .int h_length) (C := RX10) (T := TX10) (N := 14) hx hb hts hi_X10 hown hK hP 0 rfl rfl 7 (by decide) hf_111 (fun _ h9 => h9) rfl dX10_tableFault_106 ?_
      refine lv_goto (tgt := 113) hx hb dX10_tableFault_109 (by decide) ?_
      have e0 := Option.some.inj h0
      subst e0
      exact W.iret (v := h_length) hx hb hr (fun t ht hW => ⟨rfl, ht⟩) (fun q hq => absurd hq List.not_mem_nil) dX10_tableFault_113
  have L_22_5 : ∀ (F22 : Nat) (x3_3 : Int32) (ls : Array Slot), mX10_tableFault_L22 h_s_f h_pad_f h_length (fun (x3_1 : Int32) => if ((((h_s_f (0 : Int32).toNatClampNeg) + 1) * (h_s_f (0 : Int32).toNatClampNeg)) - 1) ≤ h_length then (some ((-1))) else (some (h_length))) F22 x3_3 = some z → lv_has ls 5 [(3, .int x3_3), (2, .int ((((h_s_f (0 : Int32).toNatClampNeg) + 1) * (h_s_f (0 : Int32).toNatClampNeg)) - 1)), (1, .int ((h_s_f (0 : Int32).toNatClampNeg) + 1)), (0, .ref h)] → W p l e (headSpec wsX10_tableFault ({ frames := 3, cells := 0, slots := 0, locals := 64 } : Room)).room s m (([.ref h] : List Value).toArray) below meth c s.heap [] 0 0 (MQ below (rQ (some (.int z))) (([.ref h] : List Value).toArray) s 0 0 (fun _ => False)) (F0 m 22 ls []) := by
    intro F22
    induction F22 with
    | zero => intro x3_3 ls h0 hl; cases h0
    | succ F22 ih22 =>
      intro x3_3 ls h0 hl
      rw [mX10_tableFault_L22] at h0
      refine lv_iload_n hx hb dX10_tableFault_22 rfl (lv_at hl 0 rfl) ?_
      refine lv_aload_n hx hb dX10_tableFault_23 rfl (lv_at hl 3 rfl) ?_
      refine va_get (D := D) (ci := 7) (v := .int h_length) (C := RX10) (T := TX10) (N := 14) hx hb hts hi_X10 hown hK hP 0 rfl rfl 7 (by decide) hf_111 (fun _ h9 => h9) rfl dX10_tableFault_24 ?_
      refine lv_icmp_ge (tgt := 97) hx hb dX10_tableFault_27 (by decide) (fun c9 => ?_) (fun c9 => ?_)
      · have h0 := it_t c9 h0
        exact E_22_97_1 x3_3 ls h0 hl
      · have h0 := it_f c9 h0
        refine lv_iload_n hx hb dX10_tableFault_30 rfl (lv_at hl 0 rfl) ?_
        refine lv_iload_n hx hb dX10_tableFault_31 rfl (lv_at hl 1 rfl) ?_
        refine lv_icmp_ge (tgt := 81) hx hb dX10_tableFault_32 (by decide) (fun c9 => ?_) (fun c9 => ?_)
        · have h0 := it_t c9 h0
          refine lv_iconst (v := 0) hx hb dX10_tableFault_81 (by decide) ?_
          refine lv_istore (lv' := [(4, .int 0), (3, .int x3_3), (2, .int ((((h_s_f (0 : Int32).toNatClampNeg) + 1) * (h_s_f (0 : Int32).toNatClampNeg)) - 1)), (1, .int ((h_s_f (0 : Int32).toNatClampNeg) + 1)), (0, .ref h)]) hx hb dX10_tableFault_82 hl (by decide) rfl (fun ls hl => ?_)
          refine lv_iload hx hb dX10_tableFault_84 (lv_at hl 0 rfl) ?_
          refine lv_if_ne (tgt := 91) hx hb dX10_tableFault_86 (by decide) (fun c9 => absurd (by decide) c9) (fun _ => ?_)
          refine lv_iload_n hx hb dX10_tableFault_89 rfl (lv_at hl 1 rfl) ?_
          have e0 := Option.some.inj h0
          subst e0
          exact W.iret (v := x3_3) hx hb hr (fun t ht hW => ⟨rfl, ht⟩) (fun q hq => absurd hq List.not_mem_nil) dX10_tableFault_90
        · have h0 := it_f c9 h0
          refine lv_iload_n hx hb dX10_tableFault_35 rfl (lv_at hl 0 rfl) ?_
          refine lv_iload_n hx hb dX10_tableFault_36 rfl (lv_at hl 2 rfl) ?_
          obtain ⟨g0, h0⟩ := gd_ok h0
          refine lv_irem hx hb dX10_tableFault_37 (nzb_ok g0) ?_
          refine lv_aload_n hx hb dX10_tableFault_38 rfl (lv_at hl 3 rfl) ?_
          refine va_get (D := D) (ci := 7) (v := .ref h_s) (C := RX10) (T := TX10) (N := 14) hx hb hts hi_X10 hown hK hP 0 rfl rfl 0 (by decide) hf_7 (fun _ h9 => h9) rfl dX10_tableFault_39 ?_
          refine lv_iconst (v := 0) hx hb dX10_tableFault_42 (by decide) ?_
          refine va_iald hx hb hK hP 1 0 rfl rfl (by unfold vp_in; decide) dX10_tableFault_43 ?_
          refine lv_icmp_ne (tgt := 61) hx hb dX10_tableFault_44 (by decide) (fun c9 => ?_) (fun c9 => ?_)
          · have h0 := it_f c9 h0
            refine lv_aload_n hx hb dX10_tableFault_61 rfl (lv_at hl 3 rfl) ?_
            refine lv_iload_n hx hb dX10_tableFault_62 rfl (lv_at hl 0 rfl) ?_
            obtain ⟨z_4, hz, h0⟩ := bd_ok h0
            refine ro_V (As := [.int x3_3]) (rest := []) (wc := [(h, .inr (7, [.ref h_s, .ref h_aside, .ref h_past, .int h_pasts, .ref h_snapshot, .int h_isKept, .ref h_pad, .int h_length, .ref h_steps, .int h_many, .int h_value, .ref h_summed, .ref h_plus, .ref h_parts])), (h_s, .inl (cI, 65, .inl h_s_f)), (h_aside, .inl (cI, 65, .inl h_aside_f)), (h_past, .inl (cI, 260, .inl h_past_f)), (h_snapshot, .inl (cI, 65, .inl h_snapshot_f)), (h_pad, .inl (cI, 80, .inl h_pad_f)), (h_steps, .inl (cI, 320, .inl h_steps_f)), (h_summed, .inl (cI, 81, .inl h_summed_f)), (h_plus, .inl (cI, 81, .inl h_plus_f)), (h_parts, .inl (cI, 392, .inl h_parts_f))]) hcf (kX10_isTokenAt l D cI cC cT h h_s h_aside h_past h_snapshot h_pad h_steps h_summed h_plus h_parts h_s_f h_aside_f h_past_f h_pasts h_snapshot_f h_isKept h_pad_f h_length h_steps_f h_many h_value h_summed_f h_plus_f h_parts_f x3_3 z_4 hz) (cwV 1 hts gX10_tableFault_X10_isTokenAt rfl rfl rfl (by decide +kernel) ⟨Nat.le_of_ble_eq_true rfl, Nat.le_of_ble_eq_true rfl⟩) hE (hP.sub [0, 1, 2, 3, 4, 5, 6, 7, 8, 9] rfl) (va_recv hK hP (ci := 7) (q0 := 0) rfl rfl) rfl hl.1 rfl (Nat.le_of_ble_eq_true rfl) dX10_tableFault_63 ⟨Nat.le_of_ble_eq_true rfl, Nat.le_of_ble_eq_true rfl⟩ ?_
            refine W.eq (g2 := F0 m 66 ls [.int z_4]) rfl ?_
            refine lv_if_eq (tgt := 81) hx hb dX10_tableFault_66 (by decide) (fun c9 => ?_) (fun c9 => ?_)
            · have h0 := it_t c9 h0
              refine lv_iconst (v := 0) hx hb dX10_tableFault_81 (by decide) ?_
              refine lv_istore (lv' := [(4, .int 0), (3, .int x3_3), (2, .int ((((h_s_f (0 : Int32).toNatClampNeg) + 1) * (h_s_f (0 : Int32).toNatClampNeg)) - 1)), (1, .int ((h_s_f (0 : Int32).toNatClampNeg) + 1)), (0, .ref h)]) hx hb dX10_tableFault_82 hl (by decide) rfl (fun ls hl => ?_)
              refine lv_iload hx hb dX10_tableFault_84 (lv_at hl 0 rfl) ?_
              refine lv_if_ne (tgt := 91) hx hb dX10_tableFault_86 (by decide) (fun c9 => absurd (by decide) c9) (fun _ => ?_)
              refine lv_iload_n hx hb dX10_tableFault_89 rfl (lv_at hl 1 rfl) ?_
              have e0 := Option.some.inj h0
              subst e0
              exact W.iret (v := x3_3) hx hb hr (fun t ht hW => ⟨rfl, ht⟩) (fun q hq => absurd hq List.not_mem_nil) dX10_tableFault_90
            · have h0 := it_f c9 h0
              refine lv_aload_n hx hb dX10_tableFault_69 rfl (lv_at hl 3 rfl) ?_
              refine lv_iload_n hx hb dX10_tableFault_70 rfl (lv_at hl 0 rfl) ?_
              obtain ⟨z_5, hz, h0⟩ := bd_ok h0
              refine ro_V (As := [.int x3_3]) (rest := []) (wc := [(h, .inr (7, [.ref h_s, .ref h_aside, .ref h_past, .int h_pasts, .ref h_snapshot, .int h_isKept, .ref h_pad, .int h_length, .ref h_steps, .int h_many, .int h_value, .ref h_summed, .ref h_plus, .ref h_parts])), (h_s, .inl (cI, 65, .inl h_s_f)), (h_aside, .inl (cI, 65, .inl h_aside_f)), (h_past, .inl (cI, 260, .inl h_past_f)), (h_snapshot, .inl (cI, 65, .inl h_snapshot_f)), (h_pad, .inl (cI, 80, .inl h_pad_f)), (h_steps, .inl (cI, 320, .inl h_steps_f)), (h_summed, .inl (cI, 81, .inl h_summed_f)), (h_plus, .inl (cI, 81, .inl h_plus_f)), (h_parts, .inl (cI, 392, .inl h_parts_f))]) hcf (kX10_stands l D cI cC cT h h_s h_aside h_past h_snapshot h_pad h_steps h_summed h_plus h_parts h_s_f h_aside_f h_past_f h_pasts h_snapshot_f h_isKept h_pad_f h_length h_steps_f h_many h_value h_summed_f h_plus_f h_parts_f x3_3 z_5 hz) (cwV 1 hts gX10_tableFault_X10_stands rfl rfl rfl (by decide +kernel) ⟨Nat.le_of_ble_eq_true rfl, Nat.le_of_ble_eq_true rfl⟩) hE (hP.sub [0, 1, 2, 3, 4, 5, 6, 7, 8, 9] rfl) (va_recv hK hP (ci := 7) (q0 := 0) rfl rfl) rfl hl.1 rfl (Nat.le_of_ble_eq_true rfl) dX10_tableFault_71 ⟨Nat.le_of_ble_eq_true rfl, Nat.le_of_ble_eq_true rfl⟩ ?_
              refine W.eq (g2 := F0 m 74 ls [.int z_5]) rfl ?_
              refine lv_if_ne (tgt := 81) hx hb dX10_tableFault_74 (by decide) (fun c9 => ?_) (fun c9 => ?_)
              · have h0 := it_f c9 h0
                refine lv_iconst (v := 0) hx hb dX10_tableFault_81 (by decide) ?_
                refine lv_istore (lv' := [(4, .int 0), (3, .int x3_3), (2, .int ((((h_s_f (0 : Int32).toNatClampNeg) + 1) * (h_s_f (0 : Int32).toNatClampNeg)) - 1)), (1, .int ((h_s_f (0 : Int32).toNatClampNeg) + 1)), (0, .ref h)]) hx hb dX10_tableFault_82 hl (by decide) rfl (fun ls hl => ?_)
                refine lv_iload hx hb dX10_tableFault_84 (lv_at hl 0 rfl) ?_
                refine lv_if_ne (tgt := 91) hx hb dX10_tableFault_86 (by decide) (fun c9 => absurd (by decide) c9) (fun _ => ?_)
                refine lv_iload_n hx hb dX10_tableFault_89 rfl (lv_at hl 1 rfl) ?_
                have e0 := Option.some.inj h0
                subst e0
                exact W.iret (v := x3_3) hx hb hr (fun t ht hW => ⟨rfl, ht⟩) (fun q hq => absurd hq List.not_mem_nil) dX10_tableFault_90
              · have h0 := it_t c9 h0
                refine lv_iconst (v := 1) hx hb dX10_tableFault_77 (by decide) ?_
                refine lv_goto (tgt := 82) hx hb dX10_tableFault_78 (by decide) ?_
                refine lv_istore (lv' := [(4, .int 1), (3, .int x3_3), (2, .int ((((h_s_f (0 : Int32).toNatClampNeg) + 1) * (h_s_f (0 : Int32).toNatClampNeg)) - 1)), (1, .int ((h_s_f (0 : Int32).toNatClampNeg) + 1)), (0, .ref h)]) hx hb dX10_tableFault_82 hl (by decide) rfl (fun ls hl => ?_)
                refine lv_iload hx hb dX10_tableFault_84 (lv_at hl 0 rfl) ?_
                refine lv_if_ne (tgt := 91) hx hb dX10_tableFault_86 (by decide) (fun _ => ?_) (fun c9 => absurd c9 (by decide))
                refine lv_iinc (v := (x3_3 + 1)) (lv' := [(3, .int (x3_3 + 1)), (4, .int 1), (2, .int ((((h_s_f (0 : Int32).toNatClampNeg) + 1) * (h_s_f (0 : Int32).toNatClampNeg)) - 1)), (1, .int ((h_s_f (0 : Int32).toNatClampNeg) + 1)), (0, .ref h)]) hx hb dX10_tableFault_91 hl (k := 1) rfl rfl (by decide) rfl (fun ls hl => ?_)
                refine lv_goto (tgt := 22) hx hb dX10_tableFault_94 (by decide) ?_
                exact ih22 (x3_3 + 1) ls h0 (lv_sub hl [0, 2, 3, 4] rfl)
          · have h0 := it_t c9 h0
            refine lv_aload_n hx hb dX10_tableFault_47 rfl (lv_at hl 3 rfl) ?_
            refine va_get (D := D) (ci := 7) (v := .ref h_pad) (C := RX10) (T := TX10) (N := 14) hx hb hts hi_X10 hown hK hP 0 rfl rfl 6 (by decide) hf_22 (fun _ h9 => h9) rfl dX10_tableFault_48 ?_
            refine lv_iload_n hx hb dX10_tableFault_51 rfl (lv_at hl 0 rfl) ?_
            obtain ⟨g0, h0⟩ := gd_ok h0
            refine va_iald hx hb hK hP 5 0 rfl rfl (inb_ok g0) dX10_tableFault_52 ?_
            refine lv_bipush (v := 47) hx hb dX10_tableFault_53 (by decide) ?_
            refine lv_icmp_ne (tgt := 81) hx hb dX10_tableFault_55 (by decide) (fun c9 => ?_) (fun c9 => ?_)
            · have h0 := it_f c9 h0
              refine lv_iconst (v := 0) hx hb dX10_tableFault_81 (by decide) ?_
              refine lv_istore (lv' := [(4, .int 0), (3, .int x3_3), (2, .int ((((h_s_f (0 : Int32).toNatClampNeg) + 1) * (h_s_f (0 : Int32).toNatClampNeg)) - 1)), (1, .int ((h_s_f (0 : Int32).toNatClampNeg) + 1)), (0, .ref h)]) hx hb dX10_tableFault_82 hl (by decide) rfl (fun ls hl => ?_)
              refine lv_iload hx hb dX10_tableFault_84 (lv_at hl 0 rfl) ?_
              refine lv_if_ne (tgt := 91) hx hb dX10_tableFault_86 (by decide) (fun c9 => absurd (by decide) c9) (fun _ => ?_)
              refine lv_iload_n hx hb dX10_tableFault_89 rfl (lv_at hl 1 rfl) ?_
              have e0 := Option.some.inj h0
              subst e0
              exact W.iret (v := x3_3) hx hb hr (fun t ht hW => ⟨rfl, ht⟩) (fun q hq => absurd hq List.not_mem_nil) dX10_tableFault_90
            · have h0 := it_t c9 h0
              refine lv_goto (tgt := 77) hx hb dX10_tableFault_58 (by decide) ?_
              refine lv_iconst (v := 1) hx hb dX10_tableFault_77 (by decide) ?_
              refine lv_goto (tgt := 82) hx hb dX10_tableFault_78 (by decide) ?_
              refine lv_istore (lv' := [(4, .int 1), (3, .int x3_3), (2, .int ((((h_s_f (0 : Int32).toNatClampNeg) + 1) * (h_s_f (0 : Int32).toNatClampNeg)) - 1)), (1, .int ((h_s_f (0 : Int32).toNatClampNeg) + 1)), (0, .ref h)]) hx hb dX10_tableFault_82 hl (by decide) rfl (fun ls hl => ?_)
              refine lv_iload hx hb dX10_tableFault_84 (lv_at hl 0 rfl) ?_
              refine lv_if_ne (tgt := 91) hx hb dX10_tableFault_86 (by decide) (fun _ => ?_) (fun c9 => absurd c9 (by decide))
              refine lv_iinc (v := (x3_3 + 1)) (lv' := [(3, .int (x3_3 + 1)), (4, .int 1), (2, .int ((((h_s_f (0 : Int32).toNatClampNeg) + 1) * (h_s_f (0 : Int32).toNatClampNeg)) - 1)), (1, .int ((h_s_f (0 : Int32).toNatClampNeg) + 1)), (0, .ref h)]) hx hb dX10_tableFault_91 hl (k := 1) rfl rfl (by decide) rfl (fun ls hl => ?_)
              refine lv_goto (tgt := 22) hx hb dX10_tableFault_94 (by decide) ?_
              exact ih22 (x3_3 + 1) ls h0 (lv_sub hl [0, 2, 3, 4] rfl)
  exact L_22_5 FU 0 ls h0 hl
noncomputable def mX10_load_L17 (h_pad_f : Nat → Int32) (k17_98 : Int32 → (Nat → Int32) → Option (Int32 × (Nat → Int32) × (Nat → Int32) × (Nat → Int32) × Int32 × Int32)) : Nat → Int32 → (Nat → Int32) → Option (Int32 × (Nat → Int32) × (Nat → Int32) × (Nat → Int32) × Int32 × Int32)
  | 0, _, _ => none
  | F + 1, x1_7, f_8 => if ((f_8 (0 : Int32).toNatClampNeg) * (f_8 (0 : Int32).toNatClampNeg)) ≤ x1_7 then (k17_98 x1_7 f_8) else (gd (nzb (f_8 (0 : Int32).toNatClampNeg)) (gd (nzb (f_8 (0 : Int32).toNatClampNeg)) (bd (mX10_at (x1_7 / (f_8 (0 : Int32).toNatClampNeg)) (x1_7 - x1_7 / (f_8 (0 : Int32).toNatClampNeg) * (f_8 (0 : Int32).toNatClampNeg))) (fun z_9 => gd (nzb (f_8 (0 : Int32).toNatClampNeg)) (gd (nzb (f_8 (0 : Int32).toNatClampNeg)) (gd (inb ((((f_8 (0 : Int32).toNatClampNeg) + 1) * (x1_7 / (f_8 (0 : Int32).toNatClampNeg))) + (x1_7 - x1_7 / (f_8 (0 : Int32).toNatClampNeg) * (f_8 (0 : Int32).toNatClampNeg))) 80) (gd (inb z_9 65) (mX10_load_L17 h_pad_f k17_98 F (x1_7 + 1) (upd f_8 (z_9 : Int32).toNatClampNeg ((h_pad_f (((((f_8 (0 : Int32).toNatClampNeg) + 1) * (x1_7 / (f_8 (0 : Int32).toNatClampNeg))) + (x1_7 - x1_7 / (f_8 (0 : Int32).toNatClampNeg) * (f_8 (0 : Int32).toNatClampNeg))) : Int32).toNatClampNeg) - 48))))))))))
noncomputable def mX10_load (h_s_f : Nat → Int32) (h_aside_f : Nat → Int32) (h_past_f : Nat → Int32) (h_pasts : Int32) (h_pad_f : Nat → Int32) (h_length : Int32) : Option (Int32 × (Nat → Int32) × (Nat → Int32) × (Nat → Int32) × Int32 × Int32) :=
  bd (mX10_tableFault h_s_f h_pad_f h_length) (fun z_1 => if z_1 = (-1) then (bd (mX10_records h_s_f h_aside_f h_past_f h_pasts) (fun z_2 => mX10_load_L17 h_pad_f (fun (x1_3 : Int32) (f_4 : Nat → Int32) => bd (mX10_others f_4 z_2.1) (fun z_5 => some (z_5, f_4, z_2.1, z_2.2.1, z_2.2.2, 0))) FU 0 h_s_f)) else (some ((-2), h_s_f, h_aside_f, h_past_f, h_pasts, h_length)))
set_option maxHeartbeats 8000000 in
set_option maxRecDepth 100000 in
theorem kX10_load (l : Launch) (D : va_G) (cI cC cT : ClassId) (h h_s h_aside h_past h_snapshot h_pad h_steps h_summed h_plus h_parts : Nat) (h_s_f : Nat → Int32) (h_aside_f : Nat → Int32) (h_past_f : Nat → Int32) (h_pasts : Int32) (h_snapshot_f : Nat → Int32) (h_isKept : Int32) (h_pad_f : Nat → Int32) (h_length : Int32) (h_steps_f : Nat → Int32) (h_many : Int32) (h_value : Int32) (h_summed_f : Nat → Int32) (h_plus_f : Nat → Int32) (h_parts_f : Nat → Int32) (sz : Nat) (z : Int32 × (Nat → Int32) × (Nat → Int32) × (Nat → Int32) × Int32 × Int32) (h0 : mX10_load h_s_f h_aside_f h_past_f h_pasts h_pad_f h_length = some z) : Met l yX10_load wsX10_load ({ frames := 4, cells := 0, slots := 0, locals := 88 } : Room) (va_Pc [.ref h] (wP D cI cC cT [(h, .inr (7, [.ref h_s, .ref h_aside, .ref h_past, .int h_pasts, .ref h_snapshot, .int h_isKept, .ref h_pad, .int h_length, .ref h_steps, .int h_many, .int h_value, .ref h_summed, .ref h_plus, .ref h_parts])), (h_s, .inl (cI, 65, .inl h_s_f)), (h_aside, .inl (cI, 65, .inl h_aside_f)), (h_past, .inl (cI, 260, .inl h_past_f)), (h_snapshot, .inl (cI, 65, .inl h_snapshot_f)), (h_pad, .inl (cI, 80, .inl h_pad_f)), (h_steps, .inl (cI, 320, .inl h_steps_f)), (h_summed, .inl (cI, 81, .inl h_summed_f)), (h_plus, .inl (cI, 81, .inl h_plus_f)), (h_parts, .inl (cI, 392, .inl h_parts_f))] sz)) (wQ D (some (.int z.1)) (va_A [(h, .inr (7, [.ref h_s, .ref h_aside, .ref h_past, .int h_pasts, .ref h_snapshot, .int h_isKept, .ref h_pad, .int h_length, .ref h_steps, .int h_many, .int h_value, .ref h_summed, .ref h_plus, .ref h_parts])), (h_s, .inl (cI, 65, .inl h_s_f)), (h_aside, .inl (cI, 65, .inl h_aside_f)), (h_past, .inl (cI, 260, .inl h_past_f)), (h_snapshot, .inl (cI, 65, .inl h_snapshot_f)), (h_pad, .inl (cI, 80, .inl h_pad_f)), (h_steps, .inl (cI, 320, .inl h_steps_f)), (h_summed, .inl (cI, 81, .inl h_summed_f)), (h_plus, .inl (cI, 81, .inl h_plus_f)), (h_parts, .inl (cI, 392, .inl h_parts_f))] sz) (fun (u : Unit) => [(h, .inr (7, [.ref h_s, .ref h_aside, .ref h_past, .int z.2.2.2.2.1, .ref h_snapshot, .int h_isKept, .ref h_pad, .int z.2.2.2.2.2, .ref h_steps, .int h_many, .int h_value, .ref h_summed, .ref h_plus, .ref h_parts])), (h_s, .inl (cI, 65, .inl z.2.1)), (h_aside, .inl (cI, 65, .inl z.2.2.1)), (h_past, .inl (cI, 260, .inl z.2.2.2.1)), (h_snapshot, .inl (cI, 65, .inl h_snapshot_f)), (h_pad, .inl (cI, 80, .inl h_pad_f)), (h_steps, .inl (cI, 320, .inl h_steps_f)), (h_summed, .inl (cI, 81, .inl h_summed_f)), (h_plus, .inl (cI, 81, .inl h_plus_f)), (h_parts, .inl (cI, 392, .inl h_parts_f))])) 0 0 (va_A [(h, .inr (7, [.ref h_s, .ref h_aside, .ref h_past, .int h_pasts, .ref h_snapshot, .int h_isKept, .ref h_pad, .int h_length, .ref h_steps, .int h_many, .int h_value, .ref h_summed, .ref h_plus, .ref h_parts])), (h_s, .inl (cI, 65, .inl h_s_f)), (h_aside, .inl (cI, 65, .inl h_aside_f)), (h_past, .inl (cI, 260, .inl h_past_f)), (h_snapshot, .inl (cI, 65, .inl h_snapshot_f)), (h_pad, .inl (cI, 80, .inl h_pad_f)), (h_steps, .inl (cI, 320, .inl h_steps_f)), (h_summed, .inl (cI, 81, .inl h_summed_f)), (h_plus, .inl (cI, 81, .inl h_plus_f)), (h_parts, .inl (cI, 392, .inl h_parts_f))] sz) := by
  refine Met.ofW (cc := cX10_load) (maxL := 2) (ret := (some .int)) (by decide) rfl ?_
  intro p e s m args below meth c s₁ B hml hv
  obtain ⟨rfl, hsz, hP, hE, hD0⟩ := hv
  have hx := B.exec
  have hb := B.bytes
  have hr := B.returns
  have hts := atoms_spec (ws := wsX10_load) B.pre
  have hown : s.vm.findClass RX10 = some m.cls := findClass_of_methodNamed B.named
  have hlocks := B.notSynchronized
  have hK := hE.1
  have hcf : CallFix p m c cX10_load 2 s ([.ref h] : List Value).toArray wsX10_load RX10 := ⟨hx, hb, hml, hown, hts⟩
  subst hsz
  have hD := hD0.self (sz := s.heap.size)
  generalize hAe : va_A [(h, .inr (7, [.ref h_s, .ref h_aside, .ref h_past, .int h_pasts, .ref h_snapshot, .int h_isKept, .ref h_pad, .int h_length, .ref h_steps, .int h_many, .int h_value, .ref h_summed, .ref h_plus, .ref h_parts])), (h_s, .inl (cI, 65, .inl h_s_f)), (h_aside, .inl (cI, 65, .inl h_aside_f)), (h_past, .inl (cI, 260, .inl h_past_f)), (h_snapshot, .inl (cI, 65, .inl h_snapshot_f)), (h_pad, .inl (cI, 80, .inl h_pad_f)), (h_steps, .inl (cI, 320, .inl h_steps_f)), (h_summed, .inl (cI, 81, .inl h_summed_f)), (h_plus, .inl (cI, 81, .inl h_plus_f)), (h_parts, .inl (cI, 392, .inl h_parts_f))] s.heap.size = A at hD ⊢
  have hA : ∀ q : Nat, s.heap.size ≤ q → A q := fun q h => by rw [← hAe]; exact Or.inr h
  have hS : va_S A s.heap s.heap [] := va_S.rf
  have hP : va_P D vwCl [(h, .inr (7, [.ref h_s, .ref h_aside, .ref h_past, .int h_pasts, .ref h_snapshot, .int h_isKept, .ref h_pad, .int h_length, .ref h_steps, .int h_many, .int h_value, .ref h_summed, .ref h_plus, .ref h_parts])), (h_s, .inl (cI, 65, .inl h_s_f)), (h_aside, .inl (cI, 65, .inl h_aside_f)), (h_past, .inl (cI, 260, .inl h_past_f)), (h_snapshot, .inl (cI, 65, .inl h_snapshot_f)), (h_pad, .inl (cI, 80, .inl h_pad_f)), (h_steps, .inl (cI, 320, .inl h_steps_f)), (h_summed, .inl (cI, 81, .inl h_summed_f)), (h_plus, .inl (cI, 81, .inl h_plus_f)), (h_parts, .inl (cI, 392, .inl h_parts_f))] s.heap := hP
  have hf_111 := hts (.fieldLink RX10 111 "CrookedSumsModel" "length" "I") (by decide +kernel)
  have hi_X10 := (show ∀ w ∈ u_ws RX10 TX10 14, w ∈ wsX10_load from by decide +kernel)
  have hf_7 := hts (.fieldLink RX10 7 "CrookedSumsModel" "s" "[I") (by decide +kernel)
  have hf_22 := hts (.fieldLink RX10 22 "CrookedSumsModel" "pad" "[I") (by decide +kernel)
  have hl := lv_entry ([.ref h]) (n := 2) (Nat.le_of_ble_eq_true rfl)
  rw [lg_entry_eq]
  generalize (lg_sl ([.ref h]) ++ List.replicate (2 - (lg_sl ([.ref h])).length) Slot.unset).toArray = ls at hl ⊢
  have hl : lv_has ls 2 [(0, .ref h)] := hl
  unfold mX10_load at h0
  refine lv_aload_n hx hb dX10_load_0 rfl (lv_at hl 0 rfl) ?_
  obtain ⟨z_1, hz, h0⟩ := bd_ok h0
  refine ro_V (As := []) (rest := []) (wc := [(h, .inr (7, [.ref h_s, .ref h_aside, .ref h_past, .int h_pasts, .ref h_snapshot, .int h_isKept, .ref h_pad, .int h_length, .ref h_steps, .int h_many, .int h_value, .ref h_summed, .ref h_plus, .ref h_parts])), (h_s, .inl (cI, 65, .inl h_s_f)), (h_aside, .inl (cI, 65, .inl h_aside_f)), (h_past, .inl (cI, 260, .inl h_past_f)), (h_snapshot, .inl (cI, 65, .inl h_snapshot_f)), (h_pad, .inl (cI, 80, .inl h_pad_f)), (h_steps, .inl (cI, 320, .inl h_steps_f)), (h_summed, .inl (cI, 81, .inl h_summed_f)), (h_plus, .inl (cI, 81, .inl h_plus_f)), (h_parts, .inl (cI, 392, .inl h_parts_f))]) hcf (kX10_tableFault l D cI cC cT h h_s h_aside h_past h_snapshot h_pad h_steps h_summed h_plus h_parts h_s_f h_aside_f h_past_f h_pasts h_snapshot_f h_isKept h_pad_f h_length h_steps_f h_many h_value h_summed_f h_plus_f h_parts_f z_1 hz) (cwV 0 hts gX10_load_X10_tableFault rfl rfl rfl (by decide +kernel) ⟨Nat.le_of_ble_eq_true rfl, Nat.le_of_ble_eq_true rfl⟩) hE (hP.sub [0, 1, 2, 3, 4, 5, 6, 7, 8, 9] rfl) (va_recv hK hP (ci := 7) (q0 := 0) rfl rfl) rfl hl.1 rfl (Nat.le_of_ble_eq_true rfl) dX10_load_1 ⟨Nat.le_of_ble_eq_true rfl, Nat.le_of_ble_eq_true rfl⟩ ?_
  refine W.eq (g2 := F0 m 4 ls [.int z_1]) rfl ?_
  refine lv_iconst (v := (-1)) hx hb dX10_load_4 (by decide) ?_
  refine lv_icmp_eq (tgt := 11) hx hb dX10_load_5 (by decide) (fun c9 => ?_) (fun c9 => ?_)
  · have h0 := it_t c9 h0
    refine lv_aload_n hx hb dX10_load_11 rfl (lv_at hl 0 rfl) ?_
    obtain ⟨z_2, hz, h0⟩ := bd_ok h0
    refine wr_V (As := []) (rest := []) (wc := [(h, .inr (7, [.ref h_s, .ref h_aside, .ref h_past, .int h_pasts, .ref h_snapshot, .int h_isKept, .ref h_pad, .int h_length, .ref h_steps, .int h_many, .int h_value, .ref h_summed, .ref h_plus, .ref h_parts])), (h_s, .inl (cI, 65, .inl h_s_f)), (h_aside, .inl (cI, 65, .inl h_aside_f)), (h_past, .inl (cI, 260, .inl h_past_f)), (h_snapshot, .inl (cI, 65, .inl h_snapshot_f)), (h_pad, .inl (cI, 80, .inl h_pad_f)), (h_steps, .inl (cI, 320, .inl h_steps_f)), (h_summed, .inl (cI, 81, .inl h_summed_f)), (h_plus, .inl (cI, 81, .inl h_plus_f)), (h_parts, .inl (cI, 392, .inl h_parts_f))]) (wr := []) hcf (kX10_records l D cI cC cT h h_s h_aside h_past h_snapshot h_pad h_steps h_summed h_plus h_parts h_s_f h_aside_f h_past_f h_pasts h_snapshot_f h_isKept h_pad_f h_length h_steps_f h_many h_value h_summed_f h_plus_f h_parts_f _ z_2 hz) (cwV 0 hts gX10_load_X10_records rfl rfl rfl (by decide +kernel) ⟨Nat.le_of_ble_eq_true rfl, Nat.le_of_ble_eq_true rfl⟩) hE hP hD hS hA [0, 1, 2, 3, 4, 5, 6, 7, 8, 9] [] (hP.sub [0, 1, 2, 3, 4, 5, 6, 7, 8, 9] rfl) (hD.sub [0, 1, 2, 3, 4, 5, 6, 7, 8, 9] (by decide) rfl) (va_recv hK hP (ci := 7) (q0 := 0) rfl rfl) rfl rfl (by decide) (by decide) rfl hl.1 rfl (Nat.le_of_ble_eq_true rfl) dX10_load_12 ⟨Nat.le_of_ble_eq_true rfl, Nat.le_of_ble_eq_true rfl⟩ (fun u H locs hP hD hS => ?_)
    have hP : va_P D vwCl [(h, .inr (7, [.ref h_s, .ref h_aside, .ref h_past, .int z_2.2.2, .ref h_snapshot, .int h_isKept, .ref h_pad, .int h_length, .ref h_steps, .int h_many, .int h_value, .ref h_summed, .ref h_plus, .ref h_parts])), (h_s, .inl (cI, 65, .inl h_s_f)), (h_aside, .inl (cI, 65, .inl z_2.1)), (h_past, .inl (cI, 260, .inl z_2.2.1)), (h_snapshot, .inl (cI, 65, .inl h_snapshot_f)), (h_pad, .inl (cI, 80, .inl h_pad_f)), (h_steps, .inl (cI, 320, .inl h_steps_f)), (h_summed, .inl (cI, 81, .inl h_summed_f)), (h_plus, .inl (cI, 81, .inl h_plus_f)), (h_parts, .inl (cI, 392, .inl h_parts_f))] H := hP
    have hD : va_D A [(h, .inr (7, [.ref h_s, .ref h_aside, .ref h_past, .int z_2.2.2, .ref h_snapshot, .int h_isKept, .ref h_pad, .int h_length, .ref h_steps, .int h_many, .int h_value, .ref h_summed, .ref h_plus, .ref h_parts])), (h_s, .inl (cI, 65, .inl h_s_f)), (h_aside, .inl (cI, 65, .inl z_2.1)), (h_past, .inl (cI, 260, .inl z_2.2.1)), (h_snapshot, .inl (cI, 65, .inl h_snapshot_f)), (h_pad, .inl (cI, 80, .inl h_pad_f)), (h_steps, .inl (cI, 320, .inl h_steps_f)), (h_summed, .inl (cI, 81, .inl h_summed_f)), (h_plus, .inl (cI, 81, .inl h_plus_f)), (h_parts, .inl (cI, 392, .inl h_parts_f))] := hD
    refine W.eq (g2 := F0 m 15 ls []) rfl ?_
    refine lv_iconst (v := 0) hx hb dX10_load_15 (by decide) ?_
    refine lv_istore_n (lv' := [(1, .int 0), (0, .ref h)]) hx hb dX10_load_16 rfl hl (by decide) rfl (fun ls hl => ?_)
    have E_17_98_5 : ∀ (x1_3 : Int32) (f_4 : Nat → Int32) (H : Heap) (locs : List Loc) (ls : Array Slot), (bd (mX10_others f_4 z_2.1) (fun z_5 => some (z_5, f_4, z_2.1, z_2.2.1, z_2.2.2, 0))) = some z → va_P D vwCl [(h, .inr (7, [.ref h_s, .ref h_aside, .ref h_past, .int z_2.2.2, .ref h_snapshot, .int h_isKept, .ref h_pad, .int h_length, .ref h_steps, .int h_many, .int h_value, .ref h_summed, .ref h_plus, .ref h_parts])), (h_s, .inl (cI, 65, .inl f_4)), (h_aside, .inl (cI, 65, .inl z_2.1)), (h_past, .inl (cI, 260, .inl z_2.2.1)), (h_snapshot, .inl (cI, 65, .inl h_snapshot_f)), (h_pad, .inl (cI, 80, .inl h_pad_f)), (h_steps, .inl (cI, 320, .inl h_steps_f)), (h_summed, .inl (cI, 81, .inl h_summed_f)), (h_plus, .inl (cI, 81, .inl h_plus_f)), (h_parts, .inl (cI, 392, .inl h_parts_f))] H → va_D A [(h, .inr (7, [.ref h_s, .ref h_aside, .ref h_past, .int z_2.2.2, .ref h_snapshot, .int h_isKept, .ref h_pad, .int h_length, .ref h_steps, .int h_many, .int h_value, .ref h_summed, .ref h_plus, .ref h_parts])), (h_s, .inl (cI, 65, .inl f_4)), (h_aside, .inl (cI, 65, .inl z_2.1)), (h_past, .inl (cI, 260, .inl z_2.2.1)), (h_snapshot, .inl (cI, 65, .inl h_snapshot_f)), (h_pad, .inl (cI, 80, .inl h_pad_f)), (h_steps, .inl (cI, 320, .inl h_steps_f)), (h_summed, .inl (cI, 81, .inl h_summed_f)), (h_plus, .inl (cI, 81, .inl h_plus_f)), (h_parts, .inl (cI, 392, .inl h_parts_f))] → va_S A s.heap H locs → lv_has ls 2 [(1, .int x1_3), (0, .ref h)] → W p l e (headSpec wsX10_load ({ frames := 4, cells := 0, slots := 0, locals := 88 } : Room)).room s m (([.ref h] : List Value).toArray) below meth c H locs 0 0 (MQ below (wQ D (some (.int z.1)) A (fun (u : Unit) => [(h, .inr (7, [.ref h_s, .ref h_aside, .ref h_past, .int z.2.2.2.2.1, .ref h_snapshot, .int h_isKept, .ref h_pad, .int z.2.2.2.2.2, .ref h_steps, .int h_many, .int h_value, .ref h_summed, .ref h_plus, .ref h_parts])), (h_s, .inl (cI, 65, .inl z.2.1)), (h_aside, .inl (cI, 65, .inl z.2.2.1)), (h_past, .inl (cI, 260, .inl z.2.2.2.1)), (h_snapshot, .inl (cI, 65, .inl h_snapshot_f)), (h_pad, .inl (cI, 80, .inl h_pad_f)), (h_steps, .inl (cI, 320, .inl h_steps_f)), (h_summed, .inl (cI, 81, .inl h_summed_f)), (h_plus, .inl (cI, 81, .inl h_plus_f)), (h_parts, .inl (cI, 392, .inl h_parts_f))])) (([.ref h] : List Value).toArray) s 0 0 A) (F0 m 98 ls []) := by
      intro x1_3 f_4 H locs ls h0 hP hD hS hl
      refine lv_aload_n hx hb dX10_load_98 rfl (lv_at hl 1 rfl) ?_
      refine lv_iconst (v := 0) hx hb dX10_load_99 (by decide) ?_
      refine va_put (D := D) (ci := 7) (v := .int 0) (ty := .int) (C := RX10) (T := TX10) (N := 14) hx hb hts hi_X10 tyX10 tyX10_ok nmX10 hown hK hP hD hS 0 rfl rfl 7 (by decide) hf_111 (fun _ h9 => h9) rfl (by decide +kernel) rfl rfl (Nat.le_of_ble_eq_true rfl) dX10_load_100 (fun H locs hP hD hS => ?_)
      have hP : va_P D vwCl [(h, .inr (7, [.ref h_s, .ref h_aside, .ref h_past, .int z_2.2.2, .ref h_snapshot, .int h_isKept, .ref h_pad, .int 0, .ref h_steps, .int h_many, .int h_value, .ref h_summed, .ref h_plus, .ref h_parts])), (h_s, .inl (cI, 65, .inl f_4)), (h_aside, .inl (cI, 65, .inl z_2.1)), (h_past, .inl (cI, 260, .inl z_2.2.1)), (h_snapshot, .inl (cI, 65, .inl h_snapshot_f)), (h_pad, .inl (cI, 80, .inl h_pad_f)), (h_steps, .inl (cI, 320, .inl h_steps_f)), (h_summed, .inl (cI, 81, .inl h_summed_f)), (h_plus, .inl (cI, 81, .inl h_plus_f)), (h_parts, .inl (cI, 392, .inl h_parts_f))] H := hP
      have hD : va_D A [(h, .inr (7, [.ref h_s, .ref h_aside, .ref h_past, .int z_2.2.2, .ref h_snapshot, .int h_isKept, .ref h_pad, .int 0, .ref h_steps, .int h_many, .int h_value, .ref h_summed, .ref h_plus, .ref h_parts])), (h_s, .inl (cI, 65, .inl f_4)), (h_aside, .inl (cI, 65, .inl z_2.1)), (h_past, .inl (cI, 260, .inl z_2.2.1)), (h_snapshot, .inl (cI, 65, .inl h_snapshot_f)), (h_pad, .inl (cI, 80, .inl h_pad_f)), (h_steps, .inl (cI, 320, .inl h_steps_f)), (h_summed, .inl (cI, 81, .inl h_summed_f)), (h_plus, .inl (cI, 81, .inl h_plus_f)), (h_parts, .inl (cI, 392, .inl h_parts_f))] := hD
      refine lv_aload_n hx hb dX10_load_103 rfl (lv_at hl 1 rfl) ?_
      obtain ⟨z_5, hz, h0⟩ := bd_ok h0
      refine ro_V (As := []) (rest := []) (wc := [(h, .inr (7, [.ref h_s, .ref h_aside, .ref h_past, .int z_2.2.2, .ref h_snapshot, .int h_isKept, .ref h_pad, .int 0, .ref h_steps, .int h_many, .int h_value, .ref h_summed, .ref h_plus, .ref h_parts])), (h_s, .inl (cI, 65, .inl f_4)), (h_aside, .inl (cI, 65, .inl z_2.1)), (h_past, .inl (cI, 260, .inl z_2.2.1)), (h_snapshot, .inl (cI, 65, .inl h_snapshot_f)), (h_pad, .inl (cI, 80, .inl h_pad_f)), (h_steps, .inl (cI, 320, .inl h_steps_f)), (h_summed, .inl (cI, 81, .inl h_summed_f)), (h_plus, .inl (cI, 81, .inl h_plus_f)), (h_parts, .inl (cI, 392, .inl h_parts_f))]) hcf (kX10_others l D cI cC cT h h_s h_aside h_past h_snapshot h_pad h_steps h_summed h_plus h_parts f_4 z_2.1 z_2.2.1 z_2.2.2 h_snapshot_f h_isKept h_pad_f 0 h_steps_f h_many h_value h_summed_f h_plus_f h_parts_f z_5 hz) (cwV 0 hts gX10_load_X10_others rfl rfl rfl (by decide +kernel) ⟨Nat.le_of_ble_eq_true rfl, Nat.le_of_ble_eq_true rfl⟩) hE (hP.sub [0, 1, 2, 3, 4, 5, 6, 7, 8, 9] rfl) (va_recv hK hP (ci := 7) (q0 := 0) rfl rfl) rfl hl.1 rfl (Nat.le_of_ble_eq_true rfl) dX10_load_104 ⟨Nat.le_of_ble_eq_true rfl, Nat.le_of_ble_eq_true rfl⟩ ?_
      refine W.eq (g2 := F0 m 107 ls [.int z_5]) rfl ?_
      have e0 := Option.some.inj h0
      subst e0
      exact W.iret (v := z_5) hx hb hr (fun t ht hW => wr_end () ht hP hD hS) hS.2.2 dX10_load_107
    have L_17_9 : ∀ (F17 : Nat) (x1_7 : Int32) (f_8 : Nat → Int32) (H : Heap) (locs : List Loc) (ls : Array Slot), mX10_load_L17 h_pad_f (fun (x1_3 : Int32) (f_4 : Nat → Int32) => bd (mX10_others f_4 z_2.1) (fun z_5 => some (z_5, f_4, z_2.1, z_2.2.1, z_2.2.2, 0))) F17 x1_7 f_8 = some z → va_P D vwCl [(h, .inr (7, [.ref h_s, .ref h_aside, .ref h_past, .int z_2.2.2, .ref h_snapshot, .int h_isKept, .ref h_pad, .int h_length, .ref h_steps, .int h_many, .int h_value, .ref h_summed, .ref h_plus, .ref h_parts])), (h_s, .inl (cI, 65, .inl f_8)), (h_aside, .inl (cI, 65, .inl z_2.1)), (h_past, .inl (cI, 260, .inl z_2.2.1)), (h_snapshot, .inl (cI, 65, .inl h_snapshot_f)), (h_pad, .inl (cI, 80, .inl h_pad_f)), (h_steps, .inl (cI, 320, .inl h_steps_f)), (h_summed, .inl (cI, 81, .inl h_summed_f)), (h_plus, .inl (cI, 81, .inl h_plus_f)), (h_parts, .inl (cI, 392, .inl h_parts_f))] H → va_D A [(h, .inr (7, [.ref h_s, .ref h_aside, .ref h_past, .int z_2.2.2, .ref h_snapshot, .int h_isKept, .ref h_pad, .int h_length, .ref h_steps, .int h_many, .int h_value, .ref h_summed, .ref h_plus, .ref h_parts])), (h_s, .inl (cI, 65, .inl f_8)), (h_aside, .inl (cI, 65, .inl z_2.1)), (h_past, .inl (cI, 260, .inl z_2.2.1)), (h_snapshot, .inl (cI, 65, .inl h_snapshot_f)), (h_pad, .inl (cI, 80, .inl h_pad_f)), (h_steps, .inl (cI, 320, .inl h_steps_f)), (h_summed, .inl (cI, 81, .inl h_summed_f)), (h_plus, .inl (cI, 81, .inl h_plus_f)), (h_parts, .inl (cI, 392, .inl h_parts_f))] → va_S A s.heap H locs → lv_has ls 2 [(1, .int x1_7), (0, .ref h)] → W p l e (headSpec wsX10_load ({ frames := 4, cells := 0, slots := 0, locals := 88 } : Room)).room s m (([.ref h] : List Value).toArray) below meth c H locs 0 0 (MQ below (wQ D (some (.int z.1)) A (fun (u : Unit) => [(h, .inr (7, [.ref h_s, .ref h_aside, .ref h_past, .int z.2.2.2.2.1, .ref h_snapshot, .int h_isKept, .ref h_pad, .int z.2.2.2.2.2, .ref h_steps, .int h_many, .int h_value, .ref h_summed, .ref h_plus, .ref h_parts])), (h_s, .inl (cI, 65, .inl z.2.1)), (h_aside, .inl (cI, 65, .inl z.2.2.1)), (h_past, .inl (cI, 260, .inl z.2.2.2.1)), (h_snapshot, .inl (cI, 65, .inl h_snapshot_f)), (h_pad, .inl (cI, 80, .inl h_pad_f)), (h_steps, .inl (cI, 320, .inl h_steps_f)), (h_summed, .inl (cI, 81, .inl h_summed_f)), (h_plus, .inl (cI, 81, .inl h_plus_f)), (h_parts, .inl (cI, 392, .inl h_parts_f))])) (([.ref h] : List Value).toArray) s 0 0 A) (F0 m 17 ls []) := by
      intro F17
      induction F17 with
      | zero => intro x1_7 f_8 H locs ls h0 hP hD hS hl; cases h0
      | succ F17 ih17 =>
        intro x1_7 f_8 H locs ls h0 hP hD hS hl
        rw [mX10_load_L17] at h0
        refine lv_iload_n hx hb dX10_load_17 rfl (lv_at hl 0 rfl) ?_
        refine lv_aload_n hx hb dX10_load_18 rfl (lv_at hl 1 rfl) ?_
        refine va_get (D := D) (ci := 7) (v := .ref h_s) (C := RX10) (T := TX10) (N := 14) hx hb hts hi_X10 hown hK hP 0 rfl rfl 0 (by decide) hf_7 (fun _ h9 => h9) rfl dX10_load_19 ?_
        refine lv_iconst (v := 0) hx hb dX10_load_22 (by decide) ?_
        refine va_iald hx hb hK hP 1 0 rfl rfl (by unfold vp_in; decide) dX10_load_23 ?_
        refine lv_aload_n hx hb dX10_load_24 rfl (lv_at hl 1 rfl) ?_
        refine va_get (D := D) (ci := 7) (v := .ref h_s) (C := RX10) (T := TX10) (N := 14) hx hb hts hi_X10 hown hK hP 0 rfl rfl 0 (by decide) hf_7 (fun _ h9 => h9) rfl dX10_load_25 ?_
        refine lv_iconst (v := 0) hx hb dX10_load_28 (by decide) ?_
        refine va_iald hx hb hK hP 1 0 rfl rfl (by unfold vp_in; decide) dX10_load_29 ?_
        refine lv_imul hx hb dX10_load_30 ?_
        refine lv_icmp_ge (tgt := 98) hx hb dX10_load_31 (by decide) (fun c9 => ?_) (fun c9 => ?_)
        · have h0 := it_t c9 h0
          exact E_17_98_5 x1_7 f_8 _ _ ls h0 hP hD hS hl
        · have h0 := it_f c9 h0
          refine lv_aload_n hx hb dX10_load_34 rfl (lv_at hl 1 rfl) ?_
          refine va_get (D := D) (ci := 7) (v := .ref h_s) (C := RX10) (T := TX10) (N := 14) hx hb hts hi_X10 hown hK hP 0 rfl rfl 0 (by decide) hf_7 (fun _ h9 => h9) rfl dX10_load_35 ?_
          refine lv_iload_n hx hb dX10_load_38 rfl (lv_at hl 0 rfl) ?_
          refine lv_aload_n hx hb dX10_load_39 rfl (lv_at hl 1 rfl) ?_
          refine va_get (D := D) (ci := 7) (v := .ref h_s) (C := RX10) (T := TX10) (N := 14) hx hb hts hi_X10 hown hK hP 0 rfl rfl 0 (by decide) hf_7 (fun _ h9 => h9) rfl dX10_load_40 ?_
          refine lv_iconst (v := 0) hx hb dX10_load_43 (by decide) ?_
          refine va_iald hx hb hK hP 1 0 rfl rfl (by unfold vp_in; decide) dX10_load_44 ?_
          obtain ⟨g0, h0⟩ := gd_ok h0
          refine lv_idiv hx hb dX10_load_45 (nzb_ok g0) ?_
          refine lv_iload_n hx hb dX10_load_46 rfl (lv_at hl 0 rfl) ?_
          refine lv_aload_n hx hb dX10_load_47 rfl (lv_at hl 1 rfl) ?_
          refine va_get (D := D) (ci := 7) (v := .ref h_s) (C := RX10) (T := TX10) (N := 14) hx hb hts hi_X10 hown hK hP 0 rfl rfl 0 (by decide) hf_7 (fun _ h9 => h9) rfl dX10_load_48 ?_
          refine lv_iconst (v := 0) hx hb dX10_load_51 (by decide) ?_
          refine va_iald hx hb hK hP 1 0 rfl rfl (by unfold vp_in; decide) dX10_load_52 ?_
          obtain ⟨g0, h0⟩ := gd_ok h0
          refine lv_irem hx hb dX10_load_53 (nzb_ok g0) ?_
          obtain ⟨z_9, hz, h0⟩ := bd_ok h0
          refine ro_S (As := [.int (x1_7 / (f_8 (0 : Int32).toNatClampNeg)), .int (x1_7 - x1_7 / (f_8 (0 : Int32).toNatClampNeg) * (f_8 (0 : Int32).toNatClampNeg))]) (rest := [.ref h_s]) (wc := []) hcf (kX10_at l D cI cC cT (x1_7 / (f_8 (0 : Int32).toNatClampNeg)) (x1_7 - x1_7 / (f_8 (0 : Int32).toNatClampNeg) * (f_8 (0 : Int32).toNatClampNeg)) z_9 hz) (va_cwS 2 hts gX10_load_X10_at rfl rfl rfl (by decide +kernel) ⟨Nat.le_of_ble_eq_true rfl, Nat.le_of_ble_eq_true rfl⟩) hE (hP.sub [] rfl) rfl hl.1 rfl (Nat.le_of_ble_eq_true rfl) dX10_load_54 ⟨Nat.le_of_ble_eq_true rfl, Nat.le_of_ble_eq_true rfl⟩ ?_
          refine W.eq (g2 := F0 m 57 ls [.int z_9, .ref h_s]) rfl ?_
          refine lv_aload_n hx hb dX10_load_57 rfl (lv_at hl 1 rfl) ?_
          refine va_get (D := D) (ci := 7) (v := .ref h_pad) (C := RX10) (T := TX10) (N := 14) hx hb hts hi_X10 hown hK hP 0 rfl rfl 6 (by decide) hf_22 (fun _ h9 => h9) rfl dX10_load_58 ?_
          refine lv_aload_n hx hb dX10_load_61 rfl (lv_at hl 1 rfl) ?_
          refine va_get (D := D) (ci := 7) (v := .ref h_s) (C := RX10) (T := TX10) (N := 14) hx hb hts hi_X10 hown hK hP 0 rfl rfl 0 (by decide) hf_7 (fun _ h9 => h9) rfl dX10_load_62 ?_
          refine lv_iconst (v := 0) hx hb dX10_load_65 (by decide) ?_
          refine va_iald hx hb hK hP 1 0 rfl rfl (by unfold vp_in; decide) dX10_load_66 ?_
          refine lv_iconst (v := 1) hx hb dX10_load_67 (by decide) ?_
          refine lv_iadd hx hb dX10_load_68 ?_
          refine lv_iload_n hx hb dX10_load_69 rfl (lv_at hl 0 rfl) ?_
          refine lv_aload_n hx hb dX10_load_70 rfl (lv_at hl 1 rfl) ?_
          refine va_get (D := D) (ci := 7) (v := .ref h_s) (C := RX10) (T := TX10) (N := 14) hx hb hts hi_X10 hown hK hP 0 rfl rfl 0 (by decide) hf_7 (fun _ h9 => h9) rfl dX10_load_71 ?_
          refine lv_iconst (v := 0) hx hb dX10_load_74 (by decide) ?_
          refine va_iald hx hb hK hP 1 0 rfl rfl (by unfold vp_in; decide) dX10_load_75 ?_
          obtain ⟨g0, h0⟩ := gd_ok h0
          refine lv_idiv hx hb dX10_load_76 (nzb_ok g0) ?_
          refine lv_imul hx hb dX10_load_77 ?_
          refine lv_iload_n hx hb dX10_load_78 rfl (lv_at hl 0 rfl) ?_
          refine lv_aload_n hx hb dX10_load_79 rfl (lv_at hl 1 rfl) ?_
          refine va_get (D := D) (ci := 7) (v := .ref h_s) (C := RX10) (T := TX10) (N := 14) hx hb hts hi_X10 hown hK hP 0 rfl rfl 0 (by decide) hf_7 (fun _ h9 => h9) rfl dX10_load_80 ?_
          refine lv_iconst (v := 0) hx hb dX10_load_83 (by decide) ?_
          refine va_iald hx hb hK hP 1 0 rfl rfl (by unfold vp_in; decide) dX10_load_84 ?_
          obtain ⟨g0, h0⟩ := gd_ok h0
          refine lv_irem hx hb dX10_load_85 (nzb_ok g0) ?_
          refine lv_iadd hx hb dX10_load_86 ?_
          obtain ⟨g0, h0⟩ := gd_ok h0
          refine va_iald hx hb hK hP 5 0 rfl rfl (inb_ok g0) dX10_load_87 ?_
          refine lv_bipush (v := 48) hx hb dX10_load_88 (by decide) ?_
          refine lv_isub hx hb dX10_load_90 ?_
          obtain ⟨g0, h0⟩ := gd_ok h0
          refine va_iast hx hb hK hP hD hS 1 0 rfl rfl (inb_ok g0) dX10_load_91 (fun H locs hP hD hS => ?_)
          have hP : va_P D vwCl [(h, .inr (7, [.ref h_s, .ref h_aside, .ref h_past, .int z_2.2.2, .ref h_snapshot, .int h_isKept, .ref h_pad, .int h_length, .ref h_steps, .int h_many, .int h_value, .ref h_summed, .ref h_plus, .ref h_parts])), (h_s, .inl (cI, 65, .inl (upd f_8 (z_9 : Int32).toNatClampNeg ((h_pad_f (((((f_8 (0 : Int32).toNatClampNeg) + 1) * (x1_7 / (f_8 (0 : Int32).toNatClampNeg))) + (x1_7 - x1_7 / (f_8 (0 : Int32).toNatClampNeg) * (f_8 (0 : Int32).toNatClampNeg))) : Int32).toNatClampNeg) - 48)))), (h_aside, .inl (cI, 65, .inl z_2.1)), (h_past, .inl (cI, 260, .inl z_2.2.1)), (h_snapshot, .inl (cI, 65, .inl h_snapshot_f)), (h_pad, .inl (cI, 80, .inl h_pad_f)), (h_steps, .inl (cI, 320, .inl h_steps_f)), (h_summed, .inl (cI, 81, .inl h_summed_f)), (h_plus, .inl (cI, 81, .inl h_plus_f)), (h_parts, .inl (cI, 392, .inl h_parts_f))] H := hP
          have hD : va_D A [(h, .inr (7, [.ref h_s, .ref h_aside, .ref h_past, .int z_2.2.2, .ref h_snapshot, .int h_isKept, .ref h_pad, .int h_length, .ref h_steps, .int h_many, .int h_value, .ref h_summed, .ref h_plus, .ref h_parts])), (h_s, .inl (cI, 65, .inl (upd f_8 (z_9 : Int32).toNatClampNeg ((h_pad_f (((((f_8 (0 : Int32).toNatClampNeg) + 1) * (x1_7 / (f_8 (0 : Int32).toNatClampNeg))) + (x1_7 - x1_7 / (f_8 (0 : Int32).toNatClampNeg) * (f_8 (0 : Int32).toNatClampNeg))) : Int32).toNatClampNeg) - 48)))), (h_aside, .inl (cI, 65, .inl z_2.1)), (h_past, .inl (cI, 260, .inl z_2.2.1)), (h_snapshot, .inl (cI, 65, .inl h_snapshot_f)), (h_pad, .inl (cI, 80, .inl h_pad_f)), (h_steps, .inl (cI, 320, .inl h_steps_f)), (h_summed, .inl (cI, 81, .inl h_summed_f)), (h_plus, .inl (cI, 81, .inl h_plus_f)), (h_parts, .inl (cI, 392, .inl h_parts_f))] := hD
          refine lv_iinc (v := (x1_7 + 1)) (lv' := [(1, .int (x1_7 + 1)), (0, .ref h)]) hx hb dX10_load_92 hl (k := 0) rfl rfl (by decide) rfl (fun ls hl => ?_)
          refine lv_goto (tgt := 17) hx hb dX10_load_95 (by decide) ?_
          exact ih17 (x1_7 + 1) (upd f_8 (z_9 : Int32).toNatClampNeg ((h_pad_f (((((f_8 (0 : Int32).toNatClampNeg) + 1) * (x1_7 / (f_8 (0 : Int32).toNatClampNeg))) + (x1_7 - x1_7 / (f_8 (0 : Int32).toNatClampNeg) * (f_8 (0 : Int32).toNatClampNeg))) : Int32).toNatClampNeg) - 48)) _ _ ls h0 hP hD hS hl
    exact L_17_9 FU 0 h_s_f _ _ ls h0 hP hD hS hl
  · have h0 := it_f c9 h0
    refine lv_bipush (v := (-2)) hx hb dX10_load_8 (by decide) ?_
    have e0 := Option.some.inj h0
    subst e0
    exact W.iret (v := (-2)) hx hb hr (fun t ht hW => wr_end () ht hP hD hS) hS.2.2 dX10_load_10
noncomputable def mX10_restore_L16 (h_snapshot_f : Nat → Int32) (k16_40 : Int32 → (Nat → Int32) → Option (Int32 × (Nat → Int32) × (Nat → Int32) × (Nat → Int32) × Int32)) : Nat → Int32 → (Nat → Int32) → Option (Int32 × (Nat → Int32) × (Nat → Int32) × (Nat → Int32) × Int32)
  | 0, _, _ => none
  | F + 1, x1_5, f_6 => if (65 : Int32) ≤ x1_5 then (k16_40 x1_5 f_6) else (gd (inb x1_5 65) (gd (inb x1_5 65) (mX10_restore_L16 h_snapshot_f k16_40 F (x1_5 + 1) (upd f_6 (x1_5 : Int32).toNatClampNeg (h_snapshot_f (x1_5 : Int32).toNatClampNeg)))))
noncomputable def mX10_restore (h_s_f : Nat → Int32) (h_aside_f : Nat → Int32) (h_past_f : Nat → Int32) (h_pasts : Int32) (h_snapshot_f : Nat → Int32) (h_isKept : Int32) : Option (Int32 × (Nat → Int32) × (Nat → Int32) × (Nat → Int32) × Int32) :=
  if h_isKept = 0 then (some ((-2), h_s_f, h_aside_f, h_past_f, h_pasts)) else (bd (mX10_records h_s_f h_aside_f h_past_f h_pasts) (fun z_1 => mX10_restore_L16 h_snapshot_f (fun (x1_2 : Int32) (f_3 : Nat → Int32) => some ((f_3 (0 : Int32).toNatClampNeg), f_3, z_1.1, z_1.2.1, z_1.2.2)) FU 0 h_s_f))
set_option maxHeartbeats 8000000 in
set_option maxRecDepth 100000 in
theorem kX10_restore (l : Launch) (D : va_G) (cI cC cT : ClassId) (h h_s h_aside h_past h_snapshot h_pad h_steps h_summed h_plus h_parts : Nat) (h_s_f : Nat → Int32) (h_aside_f : Nat → Int32) (h_past_f : Nat → Int32) (h_pasts : Int32) (h_snapshot_f : Nat → Int32) (h_isKept : Int32) (h_pad_f : Nat → Int32) (h_length : Int32) (h_steps_f : Nat → Int32) (h_many : Int32) (h_value : Int32) (h_summed_f : Nat → Int32) (h_plus_f : Nat → Int32) (h_parts_f : Nat → Int32) (sz : Nat) (z : Int32 × (Nat → Int32) × (Nat → Int32) × (Nat → Int32) × Int32) (h0 : mX10_restore h_s_f h_aside_f h_past_f h_pasts h_snapshot_f h_isKept = some z) : Met l yX10_restore wsX10_restore ({ frames := 1, cells := 0, slots := 0, locals := 21 } : Room) (va_Pc [.ref h] (wP D cI cC cT [(h, .inr (7, [.ref h_s, .ref h_aside, .ref h_past, .int h_pasts, .ref h_snapshot, .int h_isKept, .ref h_pad, .int h_length, .ref h_steps, .int h_many, .int h_value, .ref h_summed, .ref h_plus, .ref h_parts])), (h_s, .inl (cI, 65, .inl h_s_f)), (h_aside, .inl (cI, 65, .inl h_aside_f)), (h_past, .inl (cI, 260, .inl h_past_f)), (h_snapshot, .inl (cI, 65, .inl h_snapshot_f)), (h_pad, .inl (cI, 80, .inl h_pad_f)), (h_steps, .inl (cI, 320, .inl h_steps_f)), (h_summed, .inl (cI, 81, .inl h_summed_f)), (h_plus, .inl (cI, 81, .inl h_plus_f)), (h_parts, .inl (cI, 392, .inl h_parts_f))] sz)) (wQ D (some (.int z.1)) (va_A [(h, .inr (7, [.ref h_s, .ref h_aside, .ref h_past, .int h_pasts, .ref h_snapshot, .int h_isKept, .ref h_pad, .int h_length, .ref h_steps, .int h_many, .int h_value, .ref h_summed, .ref h_plus, .ref h_parts])), (h_s, .inl (cI, 65, .inl h_s_f)), (h_aside, .inl (cI, 65, .inl h_aside_f)), (h_past, .inl (cI, 260, .inl h_past_f)), (h_snapshot, .inl (cI, 65, .inl h_snapshot_f)), (h_pad, .inl (cI, 80, .inl h_pad_f)), (h_steps, .inl (cI, 320, .inl h_steps_f)), (h_summed, .inl (cI, 81, .inl h_summed_f)), (h_plus, .inl (cI, 81, .inl h_plus_f)), (h_parts, .inl (cI, 392, .inl h_parts_f))] sz) (fun (u : Unit) => [(h, .inr (7, [.ref h_s, .ref h_aside, .ref h_past, .int z.2.2.2.2, .ref h_snapshot, .int h_isKept, .ref h_pad, .int h_length, .ref h_steps, .int h_many, .int h_value, .ref h_summed, .ref h_plus, .ref h_parts])), (h_s, .inl (cI, 65, .inl z.2.1)), (h_aside, .inl (cI, 65, .inl z.2.2.1)), (h_past, .inl (cI, 260, .inl z.2.2.2.1)), (h_snapshot, .inl (cI, 65, .inl h_snapshot_f)), (h_pad, .inl (cI, 80, .inl h_pad_f)), (h_steps, .inl (cI, 320, .inl h_steps_f)), (h_summed, .inl (cI, 81, .inl h_summed_f)), (h_plus, .inl (cI, 81, .inl h_plus_f)), (h_parts, .inl (cI, 392, .inl h_parts_f))])) 0 0 (va_A [(h, .inr (7, [.ref h_s, .ref h_aside, .ref h_past, .int h_pasts, .ref h_snapshot, .int h_isKept, .ref h_pad, .int h_length, .ref h_steps, .int h_many, .int h_value, .ref h_summed, .ref h_plus, .ref h_parts])), (h_s, .inl (cI, 65, .inl h_s_f)), (h_aside, .inl (cI, 65, .inl h_aside_f)), (h_past, .inl (cI, 260, .inl h_past_f)), (h_snapshot, .inl (cI, 65, .inl h_snapshot_f)), (h_pad, .inl (cI, 80, .inl h_pad_f)), (h_steps, .inl (cI, 320, .inl h_steps_f)), (h_summed, .inl (cI, 81, .inl h_summed_f)), (h_plus, .inl (cI, 81, .inl h_plus_f)), (h_parts, .inl (cI, 392, .inl h_parts_f))] sz) := by
  refine Met.ofW (cc := cX10_restore) (maxL := 2) (ret := (some .int)) (by decide) rfl ?_
  intro p e s m args below meth c s₁ B hml hv
  obtain ⟨rfl, hsz, hP, hE, hD0⟩ := hv
  have hx := B.exec
  have hb := B.bytes
  have hr := B.returns
  have hts := atoms_spec (ws := wsX10_restore) B.pre
  have hown : s.vm.findClass RX10 = some m.cls := findClass_of_methodNamed B.named
  have hlocks := B.notSynchronized
  have hK := hE.1
  have hcf : CallFix p m c cX10_restore 2 s ([.ref h] : List Value).toArray wsX10_restore RX10 := ⟨hx, hb, hml, hown, hts⟩
  subst hsz
  have hD := hD0.self (sz := s.heap.size)
  generalize hAe : va_A [(h, .inr (7, [.ref h_s, .ref h_aside, .ref h_past, .int h_pasts, .ref h_snapshot, .int h_isKept, .ref h_pad, .int h_length, .ref h_steps, .int h_many, .int h_value, .ref h_summed, .ref h_plus, .ref h_parts])), (h_s, .inl (cI, 65, .inl h_s_f)), (h_aside, .inl (cI, 65, .inl h_aside_f)), (h_past, .inl (cI, 260, .inl h_past_f)), (h_snapshot, .inl (cI, 65, .inl h_snapshot_f)), (h_pad, .inl (cI, 80, .inl h_pad_f)), (h_steps, .inl (cI, 320, .inl h_steps_f)), (h_summed, .inl (cI, 81, .inl h_summed_f)), (h_plus, .inl (cI, 81, .inl h_plus_f)), (h_parts, .inl (cI, 392, .inl h_parts_f))] s.heap.size = A at hD ⊢
  have hA : ∀ q : Nat, s.heap.size ≤ q → A q := fun q h => by rw [← hAe]; exact Or.inr h
  have hS : va_S A s.heap s.heap [] := va_S.rf
  have hP : va_P D vwCl [(h, .inr (7, [.ref h_s, .ref h_aside, .ref h_past, .int h_pasts, .ref h_snapshot, .int h_isKept, .ref h_pad, .int h_length, .ref h_steps, .int h_many, .int h_value, .ref h_summed, .ref h_plus, .ref h_parts])), (h_s, .inl (cI, 65, .inl h_s_f)), (h_aside, .inl (cI, 65, .inl h_aside_f)), (h_past, .inl (cI, 260, .inl h_past_f)), (h_snapshot, .inl (cI, 65, .inl h_snapshot_f)), (h_pad, .inl (cI, 80, .inl h_pad_f)), (h_steps, .inl (cI, 320, .inl h_steps_f)), (h_summed, .inl (cI, 81, .inl h_summed_f)), (h_plus, .inl (cI, 81, .inl h_plus_f)), (h_parts, .inl (cI, 392, .inl h_parts_f))] s.heap := hP
  have hf_191 := hts (.fieldLink RX10 191 "CrookedSumsModel" "isKept" "Z") (by decide +kernel)
  have hi_X10 := (show ∀ w ∈ u_ws RX10 TX10 14, w ∈ wsX10_restore from by decide +kernel)
  have hf_7 := hts (.fieldLink RX10 7 "CrookedSumsModel" "s" "[I") (by decide +kernel)
  have hf_19 := hts (.fieldLink RX10 19 "CrookedSumsModel" "snapshot" "[I") (by decide +kernel)
  have hl := lv_entry ([.ref h]) (n := 2) (Nat.le_of_ble_eq_true rfl)
  rw [lg_entry_eq]
  generalize (lg_sl ([.ref h]) ++ List.replicate (2 - (lg_sl ([.ref h])).length) Slot.unset).toArray = ls at hl ⊢
  have hl : lv_has ls 2 [(0, .ref h)] := hl
  unfold mX10_restore at h0
  refine lv_aload_n hx hb dX10_restore_0 rfl (lv_at hl 0 rfl) ?_
  refine va_get (D := D) (ci := 7) (v := .int h_isKept) (C := RX10) (T := TX10) (N := 14) hx hb hts hi_X10 hown hK hP 0 rfl rfl 5 (by decide) hf_191 (fun _ h9 => h9) rfl dX10_restore_1 ?_
  refine lv_if_ne (tgt := 10) hx hb dX10_restore_4 (by decide) (fun c9 => ?_) (fun c9 => ?_)
  · have h0 := it_f c9 h0
    refine lv_aload_n hx hb dX10_restore_10 rfl (lv_at hl 0 rfl) ?_
    obtain ⟨z_1, hz, h0⟩ := bd_ok h0
    refine wr_V (As := []) (rest := []) (wc := [(h, .inr (7, [.ref h_s, .ref h_aside, .ref h_past, .int h_pasts, .ref h_snapshot, .int h_isKept, .ref h_pad, .int h_length, .ref h_steps, .int h_many, .int h_value, .ref h_summed, .ref h_plus, .ref h_parts])), (h_s, .inl (cI, 65, .inl h_s_f)), (h_aside, .inl (cI, 65, .inl h_aside_f)), (h_past, .inl (cI, 260, .inl h_past_f)), (h_snapshot, .inl (cI, 65, .inl h_snapshot_f)), (h_pad, .inl (cI, 80, .inl h_pad_f)), (h_steps, .inl (cI, 320, .inl h_steps_f)), (h_summed, .inl (cI, 81, .inl h_summed_f)), (h_plus, .inl (cI, 81, .inl h_plus_f)), (h_parts, .inl (cI, 392, .inl h_parts_f))]) (wr := []) hcf (kX10_records l D cI cC cT h h_s h_aside h_past h_snapshot h_pad h_steps h_summed h_plus h_parts h_s_f h_aside_f h_past_f h_pasts h_snapshot_f h_isKept h_pad_f h_length h_steps_f h_many h_value h_summed_f h_plus_f h_parts_f _ z_1 hz) (cwV 0 hts gX10_restore_X10_records rfl rfl rfl (by decide +kernel) ⟨Nat.le_of_ble_eq_true rfl, Nat.le_of_ble_eq_true rfl⟩) hE hP hD hS hA [0, 1, 2, 3, 4, 5, 6, 7, 8, 9] [] (hP.sub [0, 1, 2, 3, 4, 5, 6, 7, 8, 9] rfl) (hD.sub [0, 1, 2, 3, 4, 5, 6, 7, 8, 9] (by decide) rfl) (va_recv hK hP (ci := 7) (q0 := 0) rfl rfl) rfl rfl (by decide) (by decide) rfl hl.1 rfl (Nat.le_of_ble_eq_true rfl) dX10_restore_11 ⟨Nat.le_of_ble_eq_true rfl, Nat.le_of_ble_eq_true rfl⟩ (fun u H locs hP hD hS => ?_)
    have hP : va_P D vwCl [(h, .inr (7, [.ref h_s, .ref h_aside, .ref h_past, .int z_1.2.2, .ref h_snapshot, .int h_isKept, .ref h_pad, .int h_length, .ref h_steps, .int h_many, .int h_value, .ref h_summed, .ref h_plus, .ref h_parts])), (h_s, .inl (cI, 65, .inl h_s_f)), (h_aside, .inl (cI, 65, .inl z_1.1)), (h_past, .inl (cI, 260, .inl z_1.2.1)), (h_snapshot, .inl (cI, 65, .inl h_snapshot_f)), (h_pad, .inl (cI, 80, .inl h_pad_f)), (h_steps, .inl (cI, 320, .inl h_steps_f)), (h_summed, .inl (cI, 81, .inl h_summed_f)), (h_plus, .inl (cI, 81, .inl h_plus_f)), (h_parts, .inl (cI, 392, .inl h_parts_f))] H := hP
    have hD : va_D A [(h, .inr (7, [.ref h_s, .ref h_aside, .ref h_past, .int z_1.2.2, .ref h_snapshot, .int h_isKept, .ref h_pad, .int h_length, .ref h_steps, .int h_many, .int h_value, .ref h_summed, .ref h_plus, .ref h_parts])), (h_s, .inl (cI, 65, .inl h_s_f)), (h_aside, .inl (cI, 65, .inl z_1.1)), (h_past, .inl (cI, 260, .inl z_1.2.1)), (h_snapshot, .inl (cI, 65, .inl h_snapshot_f)), (h_pad, .inl (cI, 80, .inl h_pad_f)), (h_steps, .inl (cI, 320, .inl h_steps_f)), (h_summed, .inl (cI, 81, .inl h_summed_f)), (h_plus, .inl (cI, 81, .inl h_plus_f)), (h_parts, .inl (cI, 392, .inl h_parts_f))] := hD
    refine W.eq (g2 := F0 m 14 ls []) rfl ?_
    refine lv_iconst (v := 0) hx hb dX10_restore_14 (by decide) ?_
    refine lv_istore_n (lv' := [(1, .int 0), (0, .ref h)]) hx hb dX10_restore_15 rfl hl (by decide) rfl (fun ls hl => ?_)
    have E_16_40_3 : ∀ (x1_2 : Int32) (f_3 : Nat → Int32) (H : Heap) (locs : List Loc) (ls : Array Slot), (some ((f_3 (0 : Int32).toNatClampNeg), f_3, z_1.1, z_1.2.1, z_1.2.2)) = some z → va_P D vwCl [(h, .inr (7, [.ref h_s, .ref h_aside, .ref h_past, .int z_1.2.2, .ref h_snapshot, .int h_isKept, .ref h_pad, .int h_length, .ref h_steps, .int h_many, .int h_value, .ref h_summed, .ref h_plus, .ref h_parts])), (h_s, .inl (cI, 65, .inl f_3)), (h_aside, .inl (cI, 65, .inl z_1.1)), (h_past, .inl (cI, 260, .inl z_1.2.1)), (h_snapshot, .inl (cI, 65, .inl h_snapshot_f)), (h_pad, .inl (cI, 80, .inl h_pad_f)), (h_steps, .inl (cI, 320, .inl h_steps_f)), (h_summed, .inl (cI, 81, .inl h_summed_f)), (h_plus, .inl (cI, 81, .inl h_plus_f)), (h_parts, .inl (cI, 392, .inl h_parts_f))] H → va_D A [(h, .inr (7, [.ref h_s, .ref h_aside, .ref h_past, .int z_1.2.2, .ref h_snapshot, .int h_isKept, .ref h_pad, .int h_length, .ref h_steps, .int h_many, .int h_value, .ref h_summed, .ref h_plus, .ref h_parts])), (h_s, .inl (cI, 65, .inl f_3)), (h_aside, .inl (cI, 65, .inl z_1.1)), (h_past, .inl (cI, 260, .inl z_1.2.1)), (h_snapshot, .inl (cI, 65, .inl h_snapshot_f)), (h_pad, .inl (cI, 80, .inl h_pad_f)), (h_steps, .inl (cI, 320, .inl h_steps_f)), (h_summed, .inl (cI, 81, .inl h_summed_f)), (h_plus, .inl (cI, 81, .inl h_plus_f)), (h_parts, .inl (cI, 392, .inl h_parts_f))] → va_S A s.heap H locs → lv_has ls 2 [(1, .int x1_2), (0, .ref h)] → W p l e (headSpec wsX10_restore ({ frames := 1, cells := 0, slots := 0, locals := 21 } : Room)).room s m (([.ref h] : List Value).toArray) below meth c H locs 0 0 (MQ below (wQ D (some (.int z.1)) A (fun (u : Unit) => [(h, .inr (7, [.ref h_s, .ref h_aside, .ref h_past, .int z.2.2.2.2, .ref h_snapshot, .int h_isKept, .ref h_pad, .int h_length, .ref h_steps, .int h_many, .int h_value, .ref h_summed, .ref h_plus, .ref h_parts])), (h_s, .inl (cI, 65, .inl z.2.1)), (h_aside, .inl (cI, 65, .inl z.2.2.1)), (h_past, .inl (cI, 260, .inl z.2.2.2.1)), (h_snapshot, .inl (cI, 65, .inl h_snapshot_f)), (h_pad, .inl (cI, 80, .inl h_pad_f)), (h_steps, .inl (cI, 320, .inl h_steps_f)), (h_summed, .inl (cI, 81, .inl h_summed_f)), (h_plus, .inl (cI, 81, .inl h_plus_f)), (h_parts, .inl (cI, 392, .inl h_parts_f))])) (([.ref h] : List Value).toArray) s 0 0 A) (F0 m 40 ls []) := by
      intro x1_2 f_3 H locs ls h0 hP hD hS hl
      refine lv_aload_n hx hb dX10_restore_40 rfl (lv_at hl 1 rfl) ?_
      refine va_get (D := D) (ci := 7) (v := .ref h_s) (C := RX10) (T := TX10) (N := 14) hx hb hts hi_X10 hown hK hP 0 rfl rfl 0 (by decide) hf_7 (fun _ h9 => h9) rfl dX10_restore_41 ?_
      refine lv_iconst (v := 0) hx hb dX10_restore_44 (by decide) ?_
      refine va_iald hx hb hK hP 1 0 rfl rfl (by unfold vp_in; decide) dX10_restore_45 ?_
      have e0 := Option.some.inj h0
      subst e0
      exact W.iret (v := (f_3 (0 : Int32).toNatClampNeg)) hx hb hr (fun t ht hW => wr_end () ht hP hD hS) hS.2.2 dX10_restore_46
    have L_16_6 : ∀ (F16 : Nat) (x1_5 : Int32) (f_6 : Nat → Int32) (H : Heap) (locs : List Loc) (ls : Array Slot), mX10_restore_L16 h_snapshot_f (fun (x1_2 : Int32) (f_3 : Nat → Int32) => some ((f_3 (0 : Int32).toNatClampNeg), f_3, z_1.1, z_1.2.1, z_1.2.2)) F16 x1_5 f_6 = some z → va_P D vwCl [(h, .inr (7, [.ref h_s, .ref h_aside, .ref h_past, .int z_1.2.2, .ref h_snapshot, .int h_isKept, .ref h_pad, .int h_length, .ref h_steps, .int h_many, .int h_value, .ref h_summed, .ref h_plus, .ref h_parts])), (h_s, .inl (cI, 65, .inl f_6)), (h_aside, .inl (cI, 65, .inl z_1.1)), (h_past, .inl (cI, 260, .inl z_1.2.1)), (h_snapshot, .inl (cI, 65, .inl h_snapshot_f)), (h_pad, .inl (cI, 80, .inl h_pad_f)), (h_steps, .inl (cI, 320, .inl h_steps_f)), (h_summed, .inl (cI, 81, .inl h_summed_f)), (h_plus, .inl (cI, 81, .inl h_plus_f)), (h_parts, .inl (cI, 392, .inl h_parts_f))] H → va_D A [(h, .inr (7, [.ref h_s, .ref h_aside, .ref h_past, .int z_1.2.2, .ref h_snapshot, .int h_isKept, .ref h_pad, .int h_length, .ref h_steps, .int h_many, .int h_value, .ref h_summed, .ref h_plus, .ref h_parts])), (h_s, .inl (cI, 65, .inl f_6)), (h_aside, .inl (cI, 65, .inl z_1.1)), (h_past, .inl (cI, 260, .inl z_1.2.1)), (h_snapshot, .inl (cI, 65, .inl h_snapshot_f)), (h_pad, .inl (cI, 80, .inl h_pad_f)), (h_steps, .inl (cI, 320, .inl h_steps_f)), (h_summed, .inl (cI, 81, .inl h_summed_f)), (h_plus, .inl (cI, 81, .inl h_plus_f)), (h_parts, .inl (cI, 392, .inl h_parts_f))] → va_S A s.heap H locs → lv_has ls 2 [(1, .int x1_5), (0, .ref h)] → W p l e (headSpec wsX10_restore ({ frames := 1, cells := 0, slots := 0, locals := 21 } : Room)).room s m (([.ref h] : List Value).toArray) below meth c H locs 0 0 (MQ below (wQ D (some (.int z.1)) A (fun (u : Unit) => [(h, .inr (7, [.ref h_s, .ref h_aside, .ref h_past, .int z.2.2.2.2, .ref h_snapshot, .int h_isKept, .ref h_pad, .int h_length, .ref h_steps, .int h_many, .int h_value, .ref h_summed, .ref h_plus, .ref h_parts])), (h_s, .inl (cI, 65, .inl z.2.1)), (h_aside, .inl (cI, 65, .inl z.2.2.1)), (h_past, .inl (cI, 260, .inl z.2.2.2.1)), (h_snapshot, .inl (cI, 65, .inl h_snapshot_f)), (h_pad, .inl (cI, 80, .inl h_pad_f)), (h_steps, .inl (cI, 320, .inl h_steps_f)), (h_summed, .inl (cI, 81, .inl h_summed_f)), (h_plus, .inl (cI, 81, .inl h_plus_f)), (h_parts, .inl (cI, 392, .inl h_parts_f))])) (([.ref h] : List Value).toArray) s 0 0 A) (F0 m 16 ls []) := by
      intro F16
      induction F16 with
      | zero => intro x1_5 f_6 H locs ls h0 hP hD hS hl; cases h0
      | succ F16 ih16 =>
        intro x1_5 f_6 H locs ls h0 hP hD hS hl
        rw [mX10_restore_L16] at h0
        refine lv_iload_n hx hb dX10_restore_16 rfl (lv_at hl 0 rfl) ?_
        refine lv_bipush (v := 65) hx hb dX10_restore_17 (by decide) ?_
        refine lv_icmp_ge (tgt := 40) hx hb dX10_restore_19 (by decide) (fun c9 => ?_) (fun c9 => ?_)
        · have h0 := it_t c9 h0
          exact E_16_40_3 x1_5 f_6 _ _ ls h0 hP hD hS hl
        · have h0 := it_f c9 h0
          refine lv_aload_n hx hb dX10_restore_22 rfl (lv_at hl 1 rfl) ?_
          refine va_get (D := D) (ci := 7) (v := .ref h_s) (C := RX10) (T := TX10) (N := 14) hx hb hts hi_X10 hown hK hP 0 rfl rfl 0 (by decide) hf_7 (fun _ h9 => h9) rfl dX10_restore_23 ?_
          refine lv_iload_n hx hb dX10_restore_26 rfl (lv_at hl 0 rfl) ?_
          refine lv_aload_n hx hb dX10_restore_27 rfl (lv_at hl 1 rfl) ?_
          refine va_get (D := D) (ci := 7) (v := .ref h_snapshot) (C := RX10) (T := TX10) (N := 14) hx hb hts hi_X10 hown hK hP 0 rfl rfl 4 (by decide) hf_19 (fun _ h9 => h9) rfl dX10_restore_28 ?_
          refine lv_iload_n hx hb dX10_restore_31 rfl (lv_at hl 0 rfl) ?_
          obtain ⟨g0, h0⟩ := gd_ok h0
          refine va_iald hx hb hK hP 4 0 rfl rfl (inb_ok g0) dX10_restore_32 ?_
          obtain ⟨g0, h0⟩ := gd_ok h0
          refine va_iast hx hb hK hP hD hS 1 0 rfl rfl (inb_ok g0) dX10_restore_33 (fun H locs hP hD hS => ?_)
          have hP : va_P D vwCl [(h, .inr (7, [.ref h_s, .ref h_aside, .ref h_past, .int z_1.2.2, .ref h_snapshot, .int h_isKept, .ref h_pad, .int h_length, .ref h_steps, .int h_many, .int h_value, .ref h_summed, .ref h_plus, .ref h_parts])), (h_s, .inl (cI, 65, .inl (upd f_6 (x1_5 : Int32).toNatClampNeg (h_snapshot_f (x1_5 : Int32).toNatClampNeg)))), (h_aside, .inl (cI, 65, .inl z_1.1)), (h_past, .inl (cI, 260, .inl z_1.2.1)), (h_snapshot, .inl (cI, 65, .inl h_snapshot_f)), (h_pad, .inl (cI, 80, .inl h_pad_f)), (h_steps, .inl (cI, 320, .inl h_steps_f)), (h_summed, .inl (cI, 81, .inl h_summed_f)), (h_plus, .inl (cI, 81, .inl h_plus_f)), (h_parts, .inl (cI, 392, .inl h_parts_f))] H := hP
          have hD : va_D A [(h, .inr (7, [.ref h_s, .ref h_aside, .ref h_past, .int z_1.2.2, .ref h_snapshot, .int h_isKept, .ref h_pad, .int h_length, .ref h_steps, .int h_many, .int h_value, .ref h_summed, .ref h_plus, .ref h_parts])), (h_s, .inl (cI, 65, .inl (upd f_6 (x1_5 : Int32).toNatClampNeg (h_snapshot_f (x1_5 : Int32).toNatClampNeg)))), (h_aside, .inl (cI, 65, .inl z_1.1)), (h_past, .inl (cI, 260, .inl z_1.2.1)), (h_snapshot, .inl (cI, 65, .inl h_snapshot_f)), (h_pad, .inl (cI, 80, .inl h_pad_f)), (h_steps, .inl (cI, 320, .inl h_steps_f)), (h_summed, .inl (cI, 81, .inl h_summed_f)), (h_plus, .inl (cI, 81, .inl h_plus_f)), (h_parts, .inl (cI, 392, .inl h_parts_f))] := hD
          refine lv_iinc (v := (x1_5 + 1)) (lv' := [(1, .int (x1_5 + 1)), (0, .ref h)]) hx hb dX10_restore_34 hl (k := 0) rfl rfl (by decide) rfl (fun ls hl => ?_)
          refine lv_goto (tgt := 16) hx hb dX10_restore_37 (by decide) ?_
          exact ih16 (x1_5 + 1) (upd f_6 (x1_5 : Int32).toNatClampNeg (h_snapshot_f (x1_5 : Int32).toNatClampNeg)) _ _ ls h0 hP hD hS hl
    exact L_16_6 FU 0 h_s_f _ _ ls h0 hP hD hS hl
  · have h0 := it_t c9 h0
    refine lv_bipush (v := (-2)) hx hb dX10_restore_7 (by decide) ?_
    have e0 := Option.some.inj h0
    subst e0
    exact W.iret (v := (-2)) hx hb hr (fun t ht hW => wr_end () ht hP hD hS) hS.2.2 dX10_restore_9
noncomputable def mX10_save_L2 (h_s_f : Nat → Int32) (k2_26 : Int32 → (Nat → Int32) → Option (Int32 × (Nat → Int32) × Int32)) : Nat → Int32 → (Nat → Int32) → Option (Int32 × (Nat → Int32) × Int32)
  | 0, _, _ => none
  | F + 1, x1_4, f_5 => if (65 : Int32) ≤ x1_4 then (k2_26 x1_4 f_5) else (gd (inb x1_4 65) (gd (inb x1_4 65) (mX10_save_L2 h_s_f k2_26 F (x1_4 + 1) (upd f_5 (x1_4 : Int32).toNatClampNeg (h_s_f (x1_4 : Int32).toNatClampNeg)))))
noncomputable def mX10_save (h_s_f : Nat → Int32) (h_snapshot_f : Nat → Int32) : Option (Int32 × (Nat → Int32) × Int32) :=
  mX10_save_L2 h_s_f (fun (x1_1 : Int32) (f_2 : Nat → Int32) => some ((h_s_f (0 : Int32).toNatClampNeg), f_2, 1)) FU 0 h_snapshot_f
set_option maxHeartbeats 8000000 in
set_option maxRecDepth 100000 in
theorem kX10_save (l : Launch) (D : va_G) (cI cC cT : ClassId) (h h_s h_aside h_past h_snapshot h_pad h_steps h_summed h_plus h_parts : Nat) (h_s_f : Nat → Int32) (h_aside_f : Nat → Int32) (h_past_f : Nat → Int32) (h_pasts : Int32) (h_snapshot_f : Nat → Int32) (h_isKept : Int32) (h_pad_f : Nat → Int32) (h_length : Int32) (h_steps_f : Nat → Int32) (h_many : Int32) (h_value : Int32) (h_summed_f : Nat → Int32) (h_plus_f : Nat → Int32) (h_parts_f : Nat → Int32) (sz : Nat) (z : Int32 × (Nat → Int32) × Int32) (h0 : mX10_save h_s_f h_snapshot_f = some z) : Met l yX10_save wsX10_save ({ frames := 0, cells := 0, slots := 0, locals := 0 } : Room) (va_Pc [.ref h] (wP D cI cC cT [(h, .inr (7, [.ref h_s, .ref h_aside, .ref h_past, .int h_pasts, .ref h_snapshot, .int h_isKept, .ref h_pad, .int h_length, .ref h_steps, .int h_many, .int h_value, .ref h_summed, .ref h_plus, .ref h_parts])), (h_s, .inl (cI, 65, .inl h_s_f)), (h_aside, .inl (cI, 65, .inl h_aside_f)), (h_past, .inl (cI, 260, .inl h_past_f)), (h_snapshot, .inl (cI, 65, .inl h_snapshot_f)), (h_pad, .inl (cI, 80, .inl h_pad_f)), (h_steps, .inl (cI, 320, .inl h_steps_f)), (h_summed, .inl (cI, 81, .inl h_summed_f)), (h_plus, .inl (cI, 81, .inl h_plus_f)), (h_parts, .inl (cI, 392, .inl h_parts_f))] sz)) (wQ D (some (.int z.1)) (va_A [(h, .inr (7, [.ref h_s, .ref h_aside, .ref h_past, .int h_pasts, .ref h_snapshot, .int h_isKept, .ref h_pad, .int h_length, .ref h_steps, .int h_many, .int h_value, .ref h_summed, .ref h_plus, .ref h_parts])), (h_s, .inl (cI, 65, .inl h_s_f)), (h_aside, .inl (cI, 65, .inl h_aside_f)), (h_past, .inl (cI, 260, .inl h_past_f)), (h_snapshot, .inl (cI, 65, .inl h_snapshot_f)), (h_pad, .inl (cI, 80, .inl h_pad_f)), (h_steps, .inl (cI, 320, .inl h_steps_f)), (h_summed, .inl (cI, 81, .inl h_summed_f)), (h_plus, .inl (cI, 81, .inl h_plus_f)), (h_parts, .inl (cI, 392, .inl h_parts_f))] sz) (fun (u : Unit) => [(h, .inr (7, [.ref h_s, .ref h_aside, .ref h_past, .int h_pasts, .ref h_snapshot, .int z.2.2, .ref h_pad, .int h_length, .ref h_steps, .int h_many, .int h_value, .ref h_summed, .ref h_plus, .ref h_parts])), (h_s, .inl (cI, 65, .inl h_s_f)), (h_aside, .inl (cI, 65, .inl h_aside_f)), (h_past, .inl (cI, 260, .inl h_past_f)), (h_snapshot, .inl (cI, 65, .inl z.2.1)), (h_pad, .inl (cI, 80, .inl h_pad_f)), (h_steps, .inl (cI, 320, .inl h_steps_f)), (h_summed, .inl (cI, 81, .inl h_summed_f)), (h_plus, .inl (cI, 81, .inl h_plus_f)), (h_parts, .inl (cI, 392, .inl h_parts_f))])) 0 0 (va_A [(h, .inr (7, [.ref h_s, .ref h_aside, .ref h_past, .int h_pasts, .ref h_snapshot, .int h_isKept, .ref h_pad, .int h_length, .ref h_steps, .int h_many, .int h_value, .ref h_summed, .ref h_plus, .ref h_parts])), (h_s, .inl (cI, 65, .inl h_s_f)), (h_aside, .inl (cI, 65, .inl h_aside_f)), (h_past, .inl (cI, 260, .inl h_past_f)), (h_snapshot, .inl (cI, 65, .inl h_snapshot_f)), (h_pad, .inl (cI, 80, .inl h_pad_f)), (h_steps, .inl (cI, 320, .inl h_steps_f)), (h_summed, .inl (cI, 81, .inl h_summed_f)), (h_plus, .inl (cI, 81, .inl h_plus_f)), (h_parts, .inl (cI, 392, .inl h_parts_f))] sz) := by
  refine Met.ofW (cc := cX10_save) (maxL := 2) (ret := (some .int)) (by decide) rfl ?_
  intro p e s m args below meth c s₁ B hml hv
  obtain ⟨rfl, hsz, hP, hE, hD0⟩ := hv
  have hx := B.exec
  have hb := B.bytes
  have hr := B.returns
  have hts := atoms_spec (ws := wsX10_save) B.pre
  have hown : s.vm.findClass RX10 = some m.cls := findClass_of_methodNamed B.named
  have hlocks := B.notSynchronized
  have hK := hE.1
  have hcf : CallFix p m c cX10_save 2 s ([.ref h] : List Value).toArray wsX10_save RX10 := ⟨hx, hb, hml, hown, hts⟩
  subst hsz
  have hD := hD0.self (sz := s.heap.size)
  generalize hAe : va_A [(h, .inr (7, [.ref h_s, .ref h_aside, .ref h_past, .int h_pasts, .ref h_snapshot, .int h_isKept, .ref h_pad, .int h_length, .ref h_steps, .int h_many, .int h_value, .ref h_summed, .ref h_plus, .ref h_parts])), (h_s, .inl (cI, 65, .inl h_s_f)), (h_aside, .inl (cI, 65, .inl h_aside_f)), (h_past, .inl (cI, 260, .inl h_past_f)), (h_snapshot, .inl (cI, 65, .inl h_snapshot_f)), (h_pad, .inl (cI, 80, .inl h_pad_f)), (h_steps, .inl (cI, 320, .inl h_steps_f)), (h_summed, .inl (cI, 81, .inl h_summed_f)), (h_plus, .inl (cI, 81, .inl h_plus_f)), (h_parts, .inl (cI, 392, .inl h_parts_f))] s.heap.size = A at hD ⊢
  have hA : ∀ q : Nat, s.heap.size ≤ q → A q := fun q h => by rw [← hAe]; exact Or.inr h
  have hS : va_S A s.heap s.heap [] := va_S.rf
  have hP : va_P D vwCl [(h, .inr (7, [.ref h_s, .ref h_aside, .ref h_past, .int h_pasts, .ref h_snapshot, .int h_isKept, .ref h_pad, .int h_length, .ref h_steps, .int h_many, .int h_value, .ref h_summed, .ref h_plus, .ref h_parts])), (h_s, .inl (cI, 65, .inl h_s_f)), (h_aside, .inl (cI, 65, .inl h_aside_f)), (h_past, .inl (cI, 260, .inl h_past_f)), (h_snapshot, .inl (cI, 65, .inl h_snapshot_f)), (h_pad, .inl (cI, 80, .inl h_pad_f)), (h_steps, .inl (cI, 320, .inl h_steps_f)), (h_summed, .inl (cI, 81, .inl h_summed_f)), (h_plus, .inl (cI, 81, .inl h_plus_f)), (h_parts, .inl (cI, 392, .inl h_parts_f))] s.heap := hP
  have hf_191 := hts (.fieldLink RX10 191 "CrookedSumsModel" "isKept" "Z") (by decide +kernel)
  have hi_X10 := (show ∀ w ∈ u_ws RX10 TX10 14, w ∈ wsX10_save from by decide +kernel)
  have hf_7 := hts (.fieldLink RX10 7 "CrookedSumsModel" "s" "[I") (by decide +kernel)
  have hf_19 := hts (.fieldLink RX10 19 "CrookedSumsModel" "snapshot" "[I") (by decide +kernel)
  have hl := lv_entry ([.ref h]) (n := 2) (Nat.le_of_ble_eq_true rfl)
  rw [lg_entry_eq]
  generalize (lg_sl ([.ref h]) ++ List.replicate (2 - (lg_sl ([.ref h])).length) Slot.unset).toArray = ls at hl ⊢
  have hl : lv_has ls 2 [(0, .ref h)] := hl
  unfold mX10_save at h0
  refine lv_iconst (v := 0) hx hb dX10_save_0 (by decide) ?_
  refine lv_istore_n (lv' := [(1, .int 0), (0, .ref h)]) hx hb dX10_save_1 rfl hl (by decide) rfl (fun ls hl => ?_)
  have E_2_26_2 : ∀ (x1_1 : Int32) (f_2 : Nat → Int32) (H : Heap) (locs : List Loc) (ls : Array Slot), (some ((h_s_f (0 : Int32).toNatClampNeg), f_2, 1)) = some z → va_P D vwCl [(h, .inr (7, [.ref h_s, .ref h_aside, .ref h_past, .int h_pasts, .ref h_snapshot, .int h_isKept, .ref h_pad, .int h_length, .ref h_steps, .int h_many, .int h_value, .ref h_summed, .ref h_plus, .ref h_parts])), (h_s, .inl (cI, 65, .inl h_s_f)), (h_aside, .inl (cI, 65, .inl h_aside_f)), (h_past, .inl (cI, 260, .inl h_past_f)), (h_snapshot, .inl (cI, 65, .inl f_2)), (h_pad, .inl (cI, 80, .inl h_pad_f)), (h_steps, .inl (cI, 320, .inl h_steps_f)), (h_summed, .inl (cI, 81, .inl h_summed_f)), (h_plus, .inl (cI, 81, .inl h_plus_f)), (h_parts, .inl (cI, 392, .inl h_parts_f))] H → va_D A [(h, .inr (7, [.ref h_s, .ref h_aside, .ref h_past, .int h_pasts, .ref h_snapshot, .int h_isKept, .ref h_pad, .int h_length, .ref h_steps, .int h_many, .int h_value, .ref h_summed, .ref h_plus, .ref h_parts])), (h_s, .inl (cI, 65, .inl h_s_f)), (h_aside, .inl (cI, 65, .inl h_aside_f)), (h_past, .inl (cI, 260, .inl h_past_f)), (h_snapshot, .inl (cI, 65, .inl f_2)), (h_pad, .inl (cI, 80, .inl h_pad_f)), (h_steps, .inl (cI, 320, .inl h_steps_f)), (h_summed, .inl (cI, 81, .inl h_summed_f)), (h_plus, .inl (cI, 81, .inl h_plus_f)), (h_parts, .inl (cI, 392, .inl h_parts_f))] → va_S A s.heap H locs → lv_has ls 2 [(1, .int x1_1), (0, .ref h)] → W p l e (headSpec wsX10_save ({ frames := 0, cells := 0, slots := 0, locals := 0 } : Room)).room s m (([.ref h] : List Value).toArray) below meth c H locs 0 0 (MQ below (wQ D (some (.int z.1)) A (fun (u : Unit) => [(h, .inr (7, [.ref h_s, .ref h_aside, .ref h_past, .int h_pasts, .ref h_snapshot, .int z.2.2, .ref h_pad, .int h_length, .ref h_steps, .int h_many, .int h_value, .ref h_summed, .ref h_plus, .ref h_parts])), (h_s, .inl (cI, 65, .inl h_s_f)), (h_aside, .inl (cI, 65, .inl h_aside_f)), (h_past, .inl (cI, 260, .inl h_past_f)), (h_snapshot, .inl (cI, 65, .inl z.2.1)), (h_pad, .inl (cI, 80, .inl h_pad_f)), (h_steps, .inl (cI, 320, .inl h_steps_f)), (h_summed, .inl (cI, 81, .inl h_summed_f)), (h_plus, .inl (cI, 81, .inl h_plus_f)), (h_parts, .inl (cI, 392, .inl h_parts_f))])) (([.ref h] : List Value).toArray) s 0 0 A) (F0 m 26 ls []) := by
    intro x1_1 f_2 H locs ls h0 hP hD hS hl
    refine lv_aload_n hx hb dX10_save_26 rfl (lv_at hl 1 rfl) ?_
    refine lv_iconst (v := 1) hx hb dX10_save_27 (by decide) ?_
    refine va_put (D := D) (ci := 7) (v := .int 1) (ty := .boolean) (C := RX10) (T := TX10) (N := 14) hx hb hts hi_X10 tyX10 tyX10_ok nmX10 hown hK hP hD hS 0 rfl rfl 5 (by decide) hf_191 (fun _ h9 => h9) rfl (by decide +kernel) rfl rfl (Nat.le_of_ble_eq_true rfl) dX10_save_28 (fun H locs hP hD hS => ?_)
    have hP : va_P D vwCl [(h, .inr (7, [.ref h_s, .ref h_aside, .ref h_past, .int h_pasts, .ref h_snapshot, .int 1, .ref h_pad, .int h_length, .ref h_steps, .int h_many, .int h_value, .ref h_summed, .ref h_plus, .ref h_parts])), (h_s, .inl (cI, 65, .inl h_s_f)), (h_aside, .inl (cI, 65, .inl h_aside_f)), (h_past, .inl (cI, 260, .inl h_past_f)), (h_snapshot, .inl (cI, 65, .inl f_2)), (h_pad, .inl (cI, 80, .inl h_pad_f)), (h_steps, .inl (cI, 320, .inl h_steps_f)), (h_summed, .inl (cI, 81, .inl h_summed_f)), (h_plus, .inl (cI, 81, .inl h_plus_f)), (h_parts, .inl (cI, 392, .inl h_parts_f))] H := hP
    have hD : va_D A [(h, .inr (7, [.ref h_s, .ref h_aside, .ref h_past, .int h_pasts, .ref h_snapshot, .int 1, .ref h_pad, .int h_length, .ref h_steps, .int h_many, .int h_value, .ref h_summed, .ref h_plus, .ref h_parts])), (h_s, .inl (cI, 65, .inl h_s_f)), (h_aside, .inl (cI, 65, .inl h_aside_f)), (h_past, .inl (cI, 260, .inl h_past_f)), (h_snapshot, .inl (cI, 65, .inl f_2)), (h_pad, .inl (cI, 80, .inl h_pad_f)), (h_steps, .inl (cI, 320, .inl h_steps_f)), (h_summed, .inl (cI, 81, .inl h_summed_f)), (h_plus, .inl (cI, 81, .inl h_plus_f)), (h_parts, .inl (cI, 392, .inl h_parts_f))] := hD
    refine lv_aload_n hx hb dX10_save_31 rfl (lv_at hl 1 rfl) ?_
    refine va_get (D := D) (ci := 7) (v := .ref h_s) (C := RX10) (T := TX10) (N := 14) hx hb hts hi_X10 hown hK hP 0 rfl rfl 0 (by decide) hf_7 (fun _ h9 => h9) rfl dX10_save_32 ?_
    refine lv_iconst (v := 0) hx hb dX10_save_35 (by decide) ?_
    refine va_iald hx hb hK hP 1 0 rfl rfl (by unfold vp_in; decide) dX10_save_36 ?_
    have e0 := Option.some.inj h0
    subst e0
    exact W.iret (v := (h_s_f (0 : Int32).toNatClampNeg)) hx hb hr (fun t ht hW => wr_end () ht hP hD hS) hS.2.2 dX10_save_37
  have L_2_5 : ∀ (F2 : Nat) (x1_4 : Int32) (f_5 : Nat → Int32) (H : Heap) (locs : List Loc) (ls : Array Slot), mX10_save_L2 h_s_f (fun (x1_1 : Int32) (f_2 : Nat → Int32) => some ((h_s_f (0 : Int32).toNatClampNeg), f_2, 1)) F2 x1_4 f_5 = some z → va_P D vwCl [(h, .inr (7, [.ref h_s, .ref h_aside, .ref h_past, .int h_pasts, .ref h_snapshot, .int h_isKept, .ref h_pad, .int h_length, .ref h_steps, .int h_many, .int h_value, .ref h_summed, .ref h_plus, .ref h_parts])), (h_s, .inl (cI, 65, .inl h_s_f)), (h_aside, .inl (cI, 65, .inl h_aside_f)), (h_past, .inl (cI, 260, .inl h_past_f)), (h_snapshot, .inl (cI, 65, .inl f_5)), (h_pad, .inl (cI, 80, .inl h_pad_f)), (h_steps, .inl (cI, 320, .inl h_steps_f)), (h_summed, .inl (cI, 81, .inl h_summed_f)), (h_plus, .inl (cI, 81, .inl h_plus_f)), (h_parts, .inl (cI, 392, .inl h_parts_f))] H → va_D A [(h, .inr (7, [.ref h_s, .ref h_aside, .ref h_past, .int h_pasts, .ref h_snapshot, .int h_isKept, .ref h_pad, .int h_length, .ref h_steps, .int h_many, .int h_value, .ref h_summed, .ref h_plus, .ref h_parts])), (h_s, .inl (cI, 65, .inl h_s_f)), (h_aside, .inl (cI, 65, .inl h_aside_f)), (h_past, .inl (cI, 260, .inl h_past_f)), (h_snapshot, .inl (cI, 65, .inl f_5)), (h_pad, .inl (cI, 80, .inl h_pad_f)), (h_steps, .inl (cI, 320, .inl h_steps_f)), (h_summed, .inl (cI, 81, .inl h_summed_f)), (h_plus, .inl (cI, 81, .inl h_plus_f)), (h_parts, .inl (cI, 392, .inl h_parts_f))] → va_S A s.heap H locs → lv_has ls 2 [(1, .int x1_4), (0, .ref h)] → W p l e (headSpec wsX10_save ({ frames := 0, cells := 0, slots := 0, locals := 0 } : Room)).room s m (([.ref h] : List Value).toArray) below meth c H locs 0 0 (MQ below (wQ D (some (.int z.1)) A (fun (u : Unit) => [(h, .inr (7, [.ref h_s, .ref h_aside, .ref h_past, .int h_pasts, .ref h_snapshot, .int z.2.2, .ref h_pad, .int h_length, .ref h_steps, .int h_many, .int h_value, .ref h_summed, .ref h_plus, .ref h_parts])), (h_s, .inl (cI, 65, .inl h_s_f)), (h_aside, .inl (cI, 65, .inl h_aside_f)), (h_past, .inl (cI, 260, .inl h_past_f)), (h_snapshot, .inl (cI, 65, .inl z.2.1)), (h_pad, .inl (cI, 80, .inl h_pad_f)), (h_steps, .inl (cI, 320, .inl h_steps_f)), (h_summed, .inl (cI, 81, .inl h_summed_f)), (h_plus, .inl (cI, 81, .inl h_plus_f)), (h_parts, .inl (cI, 392, .inl h_parts_f))])) (([.ref h] : List Value).toArray) s 0 0 A) (F0 m 2 ls []) := by
    intro F2
    induction F2 with
    | zero => intro x1_4 f_5 H locs ls h0 hP hD hS hl; cases h0
    | succ F2 ih2 =>
      intro x1_4 f_5 H locs ls h0 hP hD hS hl
      rw [mX10_save_L2] at h0
      refine lv_iload_n hx hb dX10_save_2 rfl (lv_at hl 0 rfl) ?_
      refine lv_bipush (v := 65) hx hb dX10_save_3 (by decide) ?_
      refine lv_icmp_ge (tgt := 26) hx hb dX10_save_5 (by decide) (fun c9 => ?_) (fun c9 => ?_)
      · have h0 := it_t c9 h0
        exact E_2_26_2 x1_4 f_5 _ _ ls h0 hP hD hS hl
      · have h0 := it_f c9 h0
        refine lv_aload_n hx hb dX10_save_8 rfl (lv_at hl 1 rfl) ?_
        refine va_get (D := D) (ci := 7) (v := .ref h_snapshot) (C := RX10) (T := TX10) (N := 14) hx hb hts hi_X10 hown hK hP 0 rfl rfl 4 (by decide) hf_19 (fun _ h9 => h9) rfl dX10_save_9 ?_
        refine lv_iload_n hx hb dX10_save_12 rfl (lv_at hl 0 rfl) ?_
        refine lv_aload_n hx hb dX10_save_13 rfl (lv_at hl 1 rfl) ?_
        refine va_get (D := D) (ci := 7) (v := .ref h_s) (C := RX10) (T := TX10) (N := 14) hx hb hts hi_X10 hown hK hP 0 rfl rfl 0 (by decide) hf_7 (fun _ h9 => h9) rfl dX10_save_14 ?_
        refine lv_iload_n hx hb dX10_save_17 rfl (lv_at hl 0 rfl) ?_
        obtain ⟨g0, h0⟩ := gd_ok h0
        refine va_iald hx hb hK hP 1 0 rfl rfl (inb_ok g0) dX10_save_18 ?_
        obtain ⟨g0, h0⟩ := gd_ok h0
        refine va_iast hx hb hK hP hD hS 4 0 rfl rfl (inb_ok g0) dX10_save_19 (fun H locs hP hD hS => ?_)
        have hP : va_P D vwCl [(h, .inr (7, [.ref h_s, .ref h_aside, .ref h_past, .int h_pasts, .ref h_snapshot, .int h_isKept, .ref h_pad, .int h_length, .ref h_steps, .int h_many, .int h_value, .ref h_summed, .ref h_plus, .ref h_parts])), (h_s, .inl (cI, 65, .inl h_s_f)), (h_aside, .inl (cI, 65, .inl h_aside_f)), (h_past, .inl (cI, 260, .inl h_past_f)), (h_snapshot, .inl (cI, 65, .inl (upd f_5 (x1_4 : Int32).toNatClampNeg (h_s_f (x1_4 : Int32).toNatClampNeg)))), (h_pad, .inl (cI, 80, .inl h_pad_f)), (h_steps, .inl (cI, 320, .inl h_steps_f)), (h_summed, .inl (cI, 81, .inl h_summed_f)), (h_plus, .inl (cI, 81, .inl h_plus_f)), (h_parts, .inl (cI, 392, .inl h_parts_f))] H := hP
        have hD : va_D A [(h, .inr (7, [.ref h_s, .ref h_aside, .ref h_past, .int h_pasts, .ref h_snapshot, .int h_isKept, .ref h_pad, .int h_length, .ref h_steps, .int h_many, .int h_value, .ref h_summed, .ref h_plus, .ref h_parts])), (h_s, .inl (cI, 65, .inl h_s_f)), (h_aside, .inl (cI, 65, .inl h_aside_f)), (h_past, .inl (cI, 260, .inl h_past_f)), (h_snapshot, .inl (cI, 65, .inl (upd f_5 (x1_4 : Int32).toNatClampNeg (h_s_f (x1_4 : Int32).toNatClampNeg)))), (h_pad, .inl (cI, 80, .inl h_pad_f)), (h_steps, .inl (cI, 320, .inl h_steps_f)), (h_summed, .inl (cI, 81, .inl h_summed_f)), (h_plus, .inl (cI, 81, .inl h_plus_f)), (h_parts, .inl (cI, 392, .inl h_parts_f))] := hD
        refine lv_iinc (v := (x1_4 + 1)) (lv' := [(1, .int (x1_4 + 1)), (0, .ref h)]) hx hb dX10_save_20 hl (k := 0) rfl rfl (by decide) rfl (fun ls hl => ?_)
        refine lv_goto (tgt := 2) hx hb dX10_save_23 (by decide) ?_
        exact ih2 (x1_4 + 1) (upd f_5 (x1_4 : Int32).toNatClampNeg (h_s_f (x1_4 : Int32).toNatClampNeg)) _ _ ls h0 hP hD hS hl
  exact L_2_5 FU 0 h_snapshot_f _ _ ls h0 hP hD hS hl
noncomputable def mX10_swap (h_s_f : Nat → Int32) (h_aside_f : Nat → Int32) (h_past_f : Nat → Int32) (h_pasts : Int32) (p1 : Int32) (p2 : Int32) (p3 : Int32) (p4 : Int32) : Option (Int32 × (Nat → Int32) × (Nat → Int32) × (Nat → Int32) × Int32) :=
  bd (mX10_bar h_s_f p1 p2 p3 p4) (fun z_1 => if z_1 = 0 then (bd (mX10_records h_s_f h_aside_f h_past_f h_pasts) (fun z_2 => bd (mX10_triples h_s_f) (fun z_3 => bd (mX10_swaps h_s_f p1 p2 p3 p4) (fun z_4 => bd (mX10_triples z_4) (fun z_5 => some (((z_5 - z_3) + 1000), z_4, z_2.1, z_2.2.1, z_2.2.2)))))) else (some (z_1, h_s_f, h_aside_f, h_past_f, h_pasts)))
set_option maxHeartbeats 8000000 in
set_option maxRecDepth 100000 in
theorem kX10_swap (l : Launch) (D : va_G) (cI cC cT : ClassId) (h h_s h_aside h_past h_snapshot h_pad h_steps h_summed h_plus h_parts : Nat) (h_s_f : Nat → Int32) (h_aside_f : Nat → Int32) (h_past_f : Nat → Int32) (h_pasts : Int32) (h_snapshot_f : Nat → Int32) (h_isKept : Int32) (h_pad_f : Nat → Int32) (h_length : Int32) (h_steps_f : Nat → Int32) (h_many : Int32) (h_value : Int32) (h_summed_f : Nat → Int32) (h_plus_f : Nat → Int32) (h_parts_f : Nat → Int32) (p1 : Int32) (p2 : Int32) (p3 : Int32) (p4 : Int32) (sz : Nat) (z : Int32 × (Nat → Int32) × (Nat → Int32) × (Nat → Int32) × Int32) (h0 : mX10_swap h_s_f h_aside_f h_past_f h_pasts p1 p2 p3 p4 = some z) : Met l yX10_swap wsX10_swap ({ frames := 5, cells := 0, slots := 0, locals := 112 } : Room) (va_Pc [.ref h, .int p1, .int p2, .int p3, .int p4] (wP D cI cC cT [(h, .inr (7, [.ref h_s, .ref h_aside, .ref h_past, .int h_pasts, .ref h_snapshot, .int h_isKept, .ref h_pad, .int h_length, .ref h_steps, .int h_many, .int h_value, .ref h_summed, .ref h_plus, .ref h_parts])), (h_s, .inl (cI, 65, .inl h_s_f)), (h_aside, .inl (cI, 65, .inl h_aside_f)), (h_past, .inl (cI, 260, .inl h_past_f)), (h_snapshot, .inl (cI, 65, .inl h_snapshot_f)), (h_pad, .inl (cI, 80, .inl h_pad_f)), (h_steps, .inl (cI, 320, .inl h_steps_f)), (h_summed, .inl (cI, 81, .inl h_summed_f)), (h_plus, .inl (cI, 81, .inl h_plus_f)), (h_parts, .inl (cI, 392, .inl h_parts_f))] sz)) (wQ D (some (.int z.1)) (va_A [(h, .inr (7, [.ref h_s, .ref h_aside, .ref h_past, .int h_pasts, .ref h_snapshot, .int h_isKept, .ref h_pad, .int h_length, .ref h_steps, .int h_many, .int h_value, .ref h_summed, .ref h_plus, .ref h_parts])), (h_s, .inl (cI, 65, .inl h_s_f)), (h_aside, .inl (cI, 65, .inl h_aside_f)), (h_past, .inl (cI, 260, .inl h_past_f)), (h_snapshot, .inl (cI, 65, .inl h_snapshot_f)), (h_pad, .inl (cI, 80, .inl h_pad_f)), (h_steps, .inl (cI, 320, .inl h_steps_f)), (h_summed, .inl (cI, 81, .inl h_summed_f)), (h_plus, .inl (cI, 81, .inl h_plus_f)), (h_parts, .inl (cI, 392, .inl h_parts_f))] sz) (fun (u : Unit) => [(h, .inr (7, [.ref h_s, .ref h_aside, .ref h_past, .int z.2.2.2.2, .ref h_snapshot, .int h_isKept, .ref h_pad, .int h_length, .ref h_steps, .int h_many, .int h_value, .ref h_summed, .ref h_plus, .ref h_parts])), (h_s, .inl (cI, 65, .inl z.2.1)), (h_aside, .inl (cI, 65, .inl z.2.2.1)), (h_past, .inl (cI, 260, .inl z.2.2.2.1)), (h_snapshot, .inl (cI, 65, .inl h_snapshot_f)), (h_pad, .inl (cI, 80, .inl h_pad_f)), (h_steps, .inl (cI, 320, .inl h_steps_f)), (h_summed, .inl (cI, 81, .inl h_summed_f)), (h_plus, .inl (cI, 81, .inl h_plus_f)), (h_parts, .inl (cI, 392, .inl h_parts_f))])) 0 0 (va_A [(h, .inr (7, [.ref h_s, .ref h_aside, .ref h_past, .int h_pasts, .ref h_snapshot, .int h_isKept, .ref h_pad, .int h_length, .ref h_steps, .int h_many, .int h_value, .ref h_summed, .ref h_plus, .ref h_parts])), (h_s, .inl (cI, 65, .inl h_s_f)), (h_aside, .inl (cI, 65, .inl h_aside_f)), (h_past, .inl (cI, 260, .inl h_past_f)), (h_snapshot, .inl (cI, 65, .inl h_snapshot_f)), (h_pad, .inl (cI, 80, .inl h_pad_f)), (h_steps, .inl (cI, 320, .inl h_steps_f)), (h_summed, .inl (cI, 81, .inl h_summed_f)), (h_plus, .inl (cI, 81, .inl h_plus_f)), (h_parts, .inl (cI, 392, .inl h_parts_f))] sz) := by
  refine Met.ofW (cc := cX10_swap) (maxL := 7) (ret := (some .int)) (by decide) rfl ?_
  intro p e s m args below meth c s₁ B hml hv
  obtain ⟨rfl, hsz, hP, hE, hD0⟩ := hv
  have hx := B.exec
  have hb := B.bytes
  have hr := B.returns
  have hts := atoms_spec (ws := wsX10_swap) B.pre
  have hown : s.vm.findClass RX10 = some m.cls := findClass_of_methodNamed B.named
  have hlocks := B.notSynchronized
  have hK := hE.1
  have hcf : CallFix p m c cX10_swap 7 s ([.ref h, .int p1, .int p2, .int p3, .int p4] : List Value).toArray wsX10_swap RX10 := ⟨hx, hb, hml, hown, hts⟩
  subst hsz
  have hD := hD0.self (sz := s.heap.size)
  generalize hAe : va_A [(h, .inr (7, [.ref h_s, .ref h_aside, .ref h_past, .int h_pasts, .ref h_snapshot, .int h_isKept, .ref h_pad, .int h_length, .ref h_steps, .int h_many, .int h_value, .ref h_summed, .ref h_plus, .ref h_parts])), (h_s, .inl (cI, 65, .inl h_s_f)), (h_aside, .inl (cI, 65, .inl h_aside_f)), (h_past, .inl (cI, 260, .inl h_past_f)), (h_snapshot, .inl (cI, 65, .inl h_snapshot_f)), (h_pad, .inl (cI, 80, .inl h_pad_f)), (h_steps, .inl (cI, 320, .inl h_steps_f)), (h_summed, .inl (cI, 81, .inl h_summed_f)), (h_plus, .inl (cI, 81, .inl h_plus_f)), (h_parts, .inl (cI, 392, .inl h_parts_f))] s.heap.size = A at hD ⊢
  have hA : ∀ q : Nat, s.heap.size ≤ q → A q := fun q h => by rw [← hAe]; exact Or.inr h
  have hS : va_S A s.heap s.heap [] := va_S.rf
  have hP : va_P D vwCl [(h, .inr (7, [.ref h_s, .ref h_aside, .ref h_past, .int h_pasts, .ref h_snapshot, .int h_isKept, .ref h_pad, .int h_length, .ref h_steps, .int h_many, .int h_value, .ref h_summed, .ref h_plus, .ref h_parts])), (h_s, .inl (cI, 65, .inl h_s_f)), (h_aside, .inl (cI, 65, .inl h_aside_f)), (h_past, .inl (cI, 260, .inl h_past_f)), (h_snapshot, .inl (cI, 65, .inl h_snapshot_f)), (h_pad, .inl (cI, 80, .inl h_pad_f)), (h_steps, .inl (cI, 320, .inl h_steps_f)), (h_summed, .inl (cI, 81, .inl h_summed_f)), (h_plus, .inl (cI, 81, .inl h_plus_f)), (h_parts, .inl (cI, 392, .inl h_parts_f))] s.heap := hP
  have hl := lv_entry ([.ref h, .int p1, .int p2, .int p3, .int p4]) (n := 7) (Nat.le_of_ble_eq_true rfl)
  rw [lg_entry_eq]
  generalize (lg_sl ([.ref h, .int p1, .int p2, .int p3, .int p4]) ++ List.replicate (7 - (lg_sl ([.ref h, .int p1, .int p2, .int p3, .int p4])).length) Slot.unset).toArray = ls at hl ⊢
  have hl : lv_has ls 7 [(0, .ref h), (1, .int p1), (2, .int p2), (3, .int p3), (4, .int p4)] := hl
  unfold mX10_swap at h0
  refine lv_aload_n hx hb dX10_swap_0 rfl (lv_at hl 0 rfl) ?_
  refine lv_iload_n hx hb dX10_swap_1 rfl (lv_at hl 1 rfl) ?_
  refine lv_iload_n hx hb dX10_swap_2 rfl (lv_at hl 2 rfl) ?_
  refine lv_iload_n hx hb dX10_swap_3 rfl (lv_at hl 3 rfl) ?_
  refine lv_iload hx hb dX10_swap_4 (lv_at hl 4 rfl) ?_
  obtain ⟨z_1, hz, h0⟩ := bd_ok h0
  refine ro_V (As := [.int p1, .int p2, .int p3, .int p4]) (rest := []) (wc := [(h, .inr (7, [.ref h_s, .ref h_aside, .ref h_past, .int h_pasts, .ref h_snapshot, .int h_isKept, .ref h_pad, .int h_length, .ref h_steps, .int h_many, .int h_value, .ref h_summed, .ref h_plus, .ref h_parts])), (h_s, .inl (cI, 65, .inl h_s_f)), (h_aside, .inl (cI, 65, .inl h_aside_f)), (h_past, .inl (cI, 260, .inl h_past_f)), (h_snapshot, .inl (cI, 65, .inl h_snapshot_f)), (h_pad, .inl (cI, 80, .inl h_pad_f)), (h_steps, .inl (cI, 320, .inl h_steps_f)), (h_summed, .inl (cI, 81, .inl h_summed_f)), (h_plus, .inl (cI, 81, .inl h_plus_f)), (h_parts, .inl (cI, 392, .inl h_parts_f))]) hcf (kX10_bar l D cI cC cT h h_s h_aside h_past h_snapshot h_pad h_steps h_summed h_plus h_parts h_s_f h_aside_f h_past_f h_pasts h_snapshot_f h_isKept h_pad_f h_length h_steps_f h_many h_value h_summed_f h_plus_f h_parts_f p1 p2 p3 p4 z_1 hz) (cwV 4 hts gX10_swap_X10_bar rfl rfl rfl (by decide +kernel) ⟨Nat.le_of_ble_eq_true rfl, Nat.le_of_ble_eq_true rfl⟩) hE (hP.sub [0, 1, 2, 3, 4, 5, 6, 7, 8, 9] rfl) (va_recv hK hP (ci := 7) (q0 := 0) rfl rfl) rfl hl.1 rfl (Nat.le_of_ble_eq_true rfl) dX10_swap_6 ⟨Nat.le_of_ble_eq_true rfl, Nat.le_of_ble_eq_true rfl⟩ ?_
  refine W.eq (g2 := F0 m 9 ls [.int z_1]) rfl ?_
  refine lv_istore (lv' := [(5, .int z_1), (0, .ref h), (1, .int p1), (2, .int p2), (3, .int p3), (4, .int p4)]) hx hb dX10_swap_9 hl (by decide) rfl (fun ls hl => ?_)
  refine lv_iload hx hb dX10_swap_11 (lv_at hl 0 rfl) ?_
  refine lv_if_eq (tgt := 19) hx hb dX10_swap_13 (by decide) (fun c9 => ?_) (fun c9 => ?_)
  · have h0 := it_t c9 h0
    refine lv_aload_n hx hb dX10_swap_19 rfl (lv_at hl 1 rfl) ?_
    obtain ⟨z_2, hz, h0⟩ := bd_ok h0
    refine wr_V (As := []) (rest := []) (wc := [(h, .inr (7, [.ref h_s, .ref h_aside, .ref h_past, .int h_pasts, .ref h_snapshot, .int h_isKept, .ref h_pad, .int h_length, .ref h_steps, .int h_many, .int h_value, .ref h_summed, .ref h_plus, .ref h_parts])), (h_s, .inl (cI, 65, .inl h_s_f)), (h_aside, .inl (cI, 65, .inl h_aside_f)), (h_past, .inl (cI, 260, .inl h_past_f)), (h_snapshot, .inl (cI, 65, .inl h_snapshot_f)), (h_pad, .inl (cI, 80, .inl h_pad_f)), (h_steps, .inl (cI, 320, .inl h_steps_f)), (h_summed, .inl (cI, 81, .inl h_summed_f)), (h_plus, .inl (cI, 81, .inl h_plus_f)), (h_parts, .inl (cI, 392, .inl h_parts_f))]) (wr := []) hcf (kX10_records l D cI cC cT h h_s h_aside h_past h_snapshot h_pad h_steps h_summed h_plus h_parts h_s_f h_aside_f h_past_f h_pasts h_snapshot_f h_isKept h_pad_f h_length h_steps_f h_many h_value h_summed_f h_plus_f h_parts_f _ z_2 hz) (cwV 0 hts gX10_swap_X10_records rfl rfl rfl (by decide +kernel) ⟨Nat.le_of_ble_eq_true rfl, Nat.le_of_ble_eq_true rfl⟩) hE hP hD hS hA [0, 1, 2, 3, 4, 5, 6, 7, 8, 9] [] (hP.sub [0, 1, 2, 3, 4, 5, 6, 7, 8, 9] rfl) (hD.sub [0, 1, 2, 3, 4, 5, 6, 7, 8, 9] (by decide) rfl) (va_recv hK hP (ci := 7) (q0 := 0) rfl rfl) rfl rfl (by decide) (by decide) rfl hl.1 rfl (Nat.le_of_ble_eq_true rfl) dX10_swap_20 ⟨Nat.le_of_ble_eq_true rfl, Nat.le_of_ble_eq_true rfl⟩ (fun u H locs hP hD hS => ?_)
    have hP : va_P D vwCl [(h, .inr (7, [.ref h_s, .ref h_aside, .ref h_past, .int z_2.2.2, .ref h_snapshot, .int h_isKept, .ref h_pad, .int h_length, .ref h_steps, .int h_many, .int h_value, .ref h_summed, .ref h_plus, .ref h_parts])), (h_s, .inl (cI, 65, .inl h_s_f)), (h_aside, .inl (cI, 65, .inl z_2.1)), (h_past, .inl (cI, 260, .inl z_2.2.1)), (h_snapshot, .inl (cI, 65, .inl h_snapshot_f)), (h_pad, .inl (cI, 80, .inl h_pad_f)), (h_steps, .inl (cI, 320, .inl h_steps_f)), (h_summed, .inl (cI, 81, .inl h_summed_f)), (h_plus, .inl (cI, 81, .inl h_plus_f)), (h_parts, .inl (cI, 392, .inl h_parts_f))] H := hP
    have hD : va_D A [(h, .inr (7, [.ref h_s, .ref h_aside, .ref h_past, .int z_2.2.2, .ref h_snapshot, .int h_isKept, .ref h_pad, .int h_length, .ref h_steps, .int h_many, .int h_value, .ref h_summed, .ref h_plus, .ref h_parts])), (h_s, .inl (cI, 65, .inl h_s_f)), (h_aside, .inl (cI, 65, .inl z_2.1)), (h_past, .inl (cI, 260, .inl z_2.2.1)), (h_snapshot, .inl (cI, 65, .inl h_snapshot_f)), (h_pad, .inl (cI, 80, .inl h_pad_f)), (h_steps, .inl (cI, 320, .inl h_steps_f)), (h_summed, .inl (cI, 81, .inl h_summed_f)), (h_plus, .inl (cI, 81, .inl h_plus_f)), (h_parts, .inl (cI, 392, .inl h_parts_f))] := hD
    refine W.eq (g2 := F0 m 23 ls []) rfl ?_
    refine lv_aload_n hx hb dX10_swap_23 rfl (lv_at hl 1 rfl) ?_
    obtain ⟨z_3, hz, h0⟩ := bd_ok h0
    refine ro_V (As := []) (rest := []) (wc := [(h, .inr (7, [.ref h_s, .ref h_aside, .ref h_past, .int z_2.2.2, .ref h_snapshot, .int h_isKept, .ref h_pad, .int h_length, .ref h_steps, .int h_many, .int h_value, .ref h_summed, .ref h_plus, .ref h_parts])), (h_s, .inl (cI, 65, .inl h_s_f)), (h_aside, .inl (cI, 65, .inl z_2.1)), (h_past, .inl (cI, 260, .inl z_2.2.1)), (h_snapshot, .inl (cI, 65, .inl h_snapshot_f)), (h_pad, .inl (cI, 80, .inl h_pad_f)), (h_steps, .inl (cI, 320, .inl h_steps_f)), (h_summed, .inl (cI, 81, .inl h_summed_f)), (h_plus, .inl (cI, 81, .inl h_plus_f)), (h_parts, .inl (cI, 392, .inl h_parts_f))]) hcf (kX10_triples l D cI cC cT h h_s h_aside h_past h_snapshot h_pad h_steps h_summed h_plus h_parts h_s_f z_2.1 z_2.2.1 z_2.2.2 h_snapshot_f h_isKept h_pad_f h_length h_steps_f h_many h_value h_summed_f h_plus_f h_parts_f z_3 hz) (cwV 0 hts gX10_swap_X10_triples rfl rfl rfl (by decide +kernel) ⟨Nat.le_of_ble_eq_true rfl, Nat.le_of_ble_eq_true rfl⟩) hE (hP.sub [0, 1, 2, 3, 4, 5, 6, 7, 8, 9] rfl) (va_recv hK hP (ci := 7) (q0 := 0) rfl rfl) rfl hl.1 rfl (Nat.le_of_ble_eq_true rfl) dX10_swap_24 ⟨Nat.le_of_ble_eq_true rfl, Nat.le_of_ble_eq_true rfl⟩ ?_
    refine W.eq (g2 := F0 m 27 ls [.int z_3]) rfl ?_
    refine lv_istore (lv' := [(6, .int z_3), (5, .int z_1), (0, .ref h), (1, .int p1), (2, .int p2), (3, .int p3), (4, .int p4)]) hx hb dX10_swap_27 hl (by decide) rfl (fun ls hl => ?_)
    refine lv_aload_n hx hb dX10_swap_29 rfl (lv_at hl 2 rfl) ?_
    refine lv_iload_n hx hb dX10_swap_30 rfl (lv_at hl 3 rfl) ?_
    refine lv_iload_n hx hb dX10_swap_31 rfl (lv_at hl 4 rfl) ?_
    refine lv_iload_n hx hb dX10_swap_32 rfl (lv_at hl 5 rfl) ?_
    refine lv_iload hx hb dX10_swap_33 (lv_at hl 6 rfl) ?_
    obtain ⟨z_4, hz, h0⟩ := bd_ok h0
    refine wr_V (As := [.int p1, .int p2, .int p3, .int p4]) (rest := []) (wc := [(h, .inr (7, [.ref h_s, .ref h_aside, .ref h_past, .int z_2.2.2, .ref h_snapshot, .int h_isKept, .ref h_pad, .int h_length, .ref h_steps, .int h_many, .int h_value, .ref h_summed, .ref h_plus, .ref h_parts])), (h_s, .inl (cI, 65, .inl h_s_f)), (h_aside, .inl (cI, 65, .inl z_2.1)), (h_past, .inl (cI, 260, .inl z_2.2.1)), (h_snapshot, .inl (cI, 65, .inl h_snapshot_f)), (h_pad, .inl (cI, 80, .inl h_pad_f)), (h_steps, .inl (cI, 320, .inl h_steps_f)), (h_summed, .inl (cI, 81, .inl h_summed_f)), (h_plus, .inl (cI, 81, .inl h_plus_f)), (h_parts, .inl (cI, 392, .inl h_parts_f))]) (wr := []) hcf (kX10_swaps l D cI cC cT h h_s h_aside h_past h_snapshot h_pad h_steps h_summed h_plus h_parts h_s_f z_2.1 z_2.2.1 z_2.2.2 h_snapshot_f h_isKept h_pad_f h_length h_steps_f h_many h_value h_summed_f h_plus_f h_parts_f p1 p2 p3 p4 _ z_4 hz) (cwV 4 hts gX10_swap_X10_swaps rfl rfl rfl (by decide +kernel) ⟨Nat.le_of_ble_eq_true rfl, Nat.le_of_ble_eq_true rfl⟩) hE hP hD hS hA [0, 1, 2, 3, 4, 5, 6, 7, 8, 9] [] (hP.sub [0, 1, 2, 3, 4, 5, 6, 7, 8, 9] rfl) (hD.sub [0, 1, 2, 3, 4, 5, 6, 7, 8, 9] (by decide) rfl) (va_recv hK hP (ci := 7) (q0 := 0) rfl rfl) rfl rfl (by decide) (by decide) rfl hl.1 rfl (Nat.le_of_ble_eq_true rfl) dX10_swap_35 ⟨Nat.le_of_ble_eq_true rfl, Nat.le_of_ble_eq_true rfl⟩ (fun u H locs hP hD hS => ?_)
    have hP : va_P D vwCl [(h, .inr (7, [.ref h_s, .ref h_aside, .ref h_past, .int z_2.2.2, .ref h_snapshot, .int h_isKept, .ref h_pad, .int h_length, .ref h_steps, .int h_many, .int h_value, .ref h_summed, .ref h_plus, .ref h_parts])), (h_s, .inl (cI, 65, .inl z_4)), (h_aside, .inl (cI, 65, .inl z_2.1)), (h_past, .inl (cI, 260, .inl z_2.2.1)), (h_snapshot, .inl (cI, 65, .inl h_snapshot_f)), (h_pad, .inl (cI, 80, .inl h_pad_f)), (h_steps, .inl (cI, 320, .inl h_steps_f)), (h_summed, .inl (cI, 81, .inl h_summed_f)), (h_plus, .inl (cI, 81, .inl h_plus_f)), (h_parts, .inl (cI, 392, .inl h_parts_f))] H := hP
    have hD : va_D A [(h, .inr (7, [.ref h_s, .ref h_aside, .ref h_past, .int z_2.2.2, .ref h_snapshot, .int h_isKept, .ref h_pad, .int h_length, .ref h_steps, .int h_many, .int h_value, .ref h_summed, .ref h_plus, .ref h_parts])), (h_s, .inl (cI, 65, .inl z_4)), (h_aside, .inl (cI, 65, .inl z_2.1)), (h_past, .inl (cI, 260, .inl z_2.2.1)), (h_snapshot, .inl (cI, 65, .inl h_snapshot_f)), (h_pad, .inl (cI, 80, .inl h_pad_f)), (h_steps, .inl (cI, 320, .inl h_steps_f)), (h_summed, .inl (cI, 81, .inl h_summed_f)), (h_plus, .inl (cI, 81, .inl h_plus_f)), (h_parts, .inl (cI, 392, .inl h_parts_f))] := hD
    refine W.eq (g2 := F0 m 38 ls []) rfl ?_
    refine lv_aload_n hx hb dX10_swap_38 rfl (lv_at hl 2 rfl) ?_
    obtain ⟨z_5, hz, h0⟩ := bd_ok h0
    refine ro_V (As := []) (rest := []) (wc := [(h, .inr (7, [.ref h_s, .ref h_aside, .ref h_past, .int z_2.2.2, .ref h_snapshot, .int h_isKept, .ref h_pad, .int h_length, .ref h_steps, .int h_many, .int h_value, .ref h_summed, .ref h_plus, .ref h_parts])), (h_s, .inl (cI, 65, .inl z_4)), (h_aside, .inl (cI, 65, .inl z_2.1)), (h_past, .inl (cI, 260, .inl z_2.2.1)), (h_snapshot, .inl (cI, 65, .inl h_snapshot_f)), (h_pad, .inl (cI, 80, .inl h_pad_f)), (h_steps, .inl (cI, 320, .inl h_steps_f)), (h_summed, .inl (cI, 81, .inl h_summed_f)), (h_plus, .inl (cI, 81, .inl h_plus_f)), (h_parts, .inl (cI, 392, .inl h_parts_f))]) hcf (kX10_triples l D cI cC cT h h_s h_aside h_past h_snapshot h_pad h_steps h_summed h_plus h_parts z_4 z_2.1 z_2.2.1 z_2.2.2 h_snapshot_f h_isKept h_pad_f h_length h_steps_f h_many h_value h_summed_f h_plus_f h_parts_f z_5 hz) (cwV 0 hts gX10_swap_X10_triples rfl rfl rfl (by decide +kernel) ⟨Nat.le_of_ble_eq_true rfl, Nat.le_of_ble_eq_true rfl⟩) hE (hP.sub [0, 1, 2, 3, 4, 5, 6, 7, 8, 9] rfl) (va_recv hK hP (ci := 7) (q0 := 0) rfl rfl) rfl hl.1 rfl (Nat.le_of_ble_eq_true rfl) dX10_swap_39 ⟨Nat.le_of_ble_eq_true rfl, Nat.le_of_ble_eq_true rfl⟩ ?_
    refine W.eq (g2 := F0 m 42 ls [.int z_5]) rfl ?_
    refine lv_iload hx hb dX10_swap_42 (lv_at hl 0 rfl) ?_
    refine lv_isub hx hb dX10_swap_44 ?_
    refine lv_sipush (v := 1000) hx hb dX10_swap_45 (by decide) ?_
    refine lv_iadd hx hb dX10_swap_48 ?_
    have e0 := Option.some.inj h0
    subst e0
    exact W.iret (v := ((z_5 - z_3) + 1000)) hx hb hr (fun t ht hW => wr_end () ht hP hD hS) hS.2.2 dX10_swap_49
  · have h0 := it_f c9 h0
    refine lv_iload hx hb dX10_swap_16 (lv_at hl 0 rfl) ?_
    have e0 := Option.some.inj h0
    subst e0
    exact W.iret (v := z_1) hx hb hr (fun t ht hW => wr_end () ht hP hD hS) hS.2.2 dX10_swap_18
noncomputable def mX10_undo_L22 (h_past_f : Nat → Int32) (h_pasts : Int32) (k22_54 : Int32 → (Nat → Int32) → Option (Int32 × (Nat → Int32) × Int32)) : Nat → Int32 → (Nat → Int32) → Option (Int32 × (Nat → Int32) × Int32)
  | 0, _, _ => none
  | F + 1, x1_4, f_5 => if (65 : Int32) ≤ x1_4 then (k22_54 x1_4 f_5) else (gd (inb (((65 : Int32) * (h_pasts - 1)) + x1_4) 260) (gd (inb x1_4 65) (mX10_undo_L22 h_past_f h_pasts k22_54 F (x1_4 + 1) (upd f_5 (x1_4 : Int32).toNatClampNeg (h_past_f ((((65 : Int32) * (h_pasts - 1)) + x1_4) : Int32).toNatClampNeg)))))
noncomputable def mX10_undo (h_s_f : Nat → Int32) (h_past_f : Nat → Int32) (h_pasts : Int32) : Option (Int32 × (Nat → Int32) × Int32) :=
  if h_pasts = 0 then (some ((-2), h_s_f, h_pasts)) else (mX10_undo_L22 h_past_f h_pasts (fun (x1_1 : Int32) (f_2 : Nat → Int32) => some ((h_pasts - 1), f_2, (h_pasts - 1))) FU 0 h_s_f)
set_option maxHeartbeats 8000000 in
set_option maxRecDepth 100000 in
theorem kX10_undo (l : Launch) (D : va_G) (cI cC cT : ClassId) (h h_s h_aside h_past h_snapshot h_pad h_steps h_summed h_plus h_parts : Nat) (h_s_f : Nat → Int32) (h_aside_f : Nat → Int32) (h_past_f : Nat → Int32) (h_pasts : Int32) (h_snapshot_f : Nat → Int32) (h_isKept : Int32) (h_pad_f : Nat → Int32) (h_length : Int32) (h_steps_f : Nat → Int32) (h_many : Int32) (h_value : Int32) (h_summed_f : Nat → Int32) (h_plus_f : Nat → Int32) (h_parts_f : Nat → Int32) (sz : Nat) (z : Int32 × (Nat → Int32) × Int32) (h0 : mX10_undo h_s_f h_past_f h_pasts = some z) : Met l yX10_undo wsX10_undo ({ frames := 0, cells := 0, slots := 0, locals := 0 } : Room) (va_Pc [.ref h] (wP D cI cC cT [(h, .inr (7, [.ref h_s, .ref h_aside, .ref h_past, .int h_pasts, .ref h_snapshot, .int h_isKept, .ref h_pad, .int h_length, .ref h_steps, .int h_many, .int h_value, .ref h_summed, .ref h_plus, .ref h_parts])), (h_s, .inl (cI, 65, .inl h_s_f)), (h_aside, .inl (cI, 65, .inl h_aside_f)), (h_past, .inl (cI, 260, .inl h_past_f)), (h_snapshot, .inl (cI, 65, .inl h_snapshot_f)), (h_pad, .inl (cI, 80, .inl h_pad_f)), (h_steps, .inl (cI, 320, .inl h_steps_f)), (h_summed, .inl (cI, 81, .inl h_summed_f)), (h_plus, .inl (cI, 81, .inl h_plus_f)), (h_parts, .inl (cI, 392, .inl h_parts_f))] sz)) (wQ D (some (.int z.1)) (va_A [(h, .inr (7, [.ref h_s, .ref h_aside, .ref h_past, .int h_pasts, .ref h_snapshot, .int h_isKept, .ref h_pad, .int h_length, .ref h_steps, .int h_many, .int h_value, .ref h_summed, .ref h_plus, .ref h_parts])), (h_s, .inl (cI, 65, .inl h_s_f)), (h_aside, .inl (cI, 65, .inl h_aside_f)), (h_past, .inl (cI, 260, .inl h_past_f)), (h_snapshot, .inl (cI, 65, .inl h_snapshot_f)), (h_pad, .inl (cI, 80, .inl h_pad_f)), (h_steps, .inl (cI, 320, .inl h_steps_f)), (h_summed, .inl (cI, 81, .inl h_summed_f)), (h_plus, .inl (cI, 81, .inl h_plus_f)), (h_parts, .inl (cI, 392, .inl h_parts_f))] sz) (fun (u : Unit) => [(h, .inr (7, [.ref h_s, .ref h_aside, .ref h_past, .int z.2.2, .ref h_snapshot, .int h_isKept, .ref h_pad, .int h_length, .ref h_steps, .int h_many, .int h_value, .ref h_summed, .ref h_plus, .ref h_parts])), (h_s, .inl (cI, 65, .inl z.2.1)), (h_aside, .inl (cI, 65, .inl h_aside_f)), (h_past, .inl (cI, 260, .inl h_past_f)), (h_snapshot, .inl (cI, 65, .inl h_snapshot_f)), (h_pad, .inl (cI, 80, .inl h_pad_f)), (h_steps, .inl (cI, 320, .inl h_steps_f)), (h_summed, .inl (cI, 81, .inl h_summed_f)), (h_plus, .inl (cI, 81, .inl h_plus_f)), (h_parts, .inl (cI, 392, .inl h_parts_f))])) 0 0 (va_A [(h, .inr (7, [.ref h_s, .ref h_aside, .ref h_past, .int h_pasts, .ref h_snapshot, .int h_isKept, .ref h_pad, .int h_length, .ref h_steps, .int h_many, .int h_value, .ref h_summed, .ref h_plus, .ref h_parts])), (h_s, .inl (cI, 65, .inl h_s_f)), (h_aside, .inl (cI, 65, .inl h_aside_f)), (h_past, .inl (cI, 260, .inl h_past_f)), (h_snapshot, .inl (cI, 65, .inl h_snapshot_f)), (h_pad, .inl (cI, 80, .inl h_pad_f)), (h_steps, .inl (cI, 320, .inl h_steps_f)), (h_summed, .inl (cI, 81, .inl h_summed_f)), (h_plus, .inl (cI, 81, .inl h_plus_f)), (h_parts, .inl (cI, 392, .inl h_parts_f))] sz) := by
  refine Met.ofW (cc := cX10_undo) (maxL := 2) (ret := (some .int)) (by decide) rfl ?_
  intro p e s m args below meth c s₁ B hml hv
  obtain ⟨rfl, hsz, hP, hE, hD0⟩ := hv
  have hx := B.exec
  have hb := B.bytes
  have hr := B.returns
  have hts := atoms_spec (ws := wsX10_undo) B.pre
  have hown : s.vm.findClass RX10 = some m.cls := findClass_of_methodNamed B.named
  have hlocks := B.notSynchronized
  have hK := hE.1
  have hcf : CallFix p m c cX10_undo 2 s ([.ref h] : List Value).toArray wsX10_undo RX10 := ⟨hx, hb, hml, hown, hts⟩
  subst hsz
  have hD := hD0.self (sz := s.heap.size)
  generalize hAe : va_A [(h, .inr (7, [.ref h_s, .ref h_aside, .ref h_past, .int h_pasts, .ref h_snapshot, .int h_isKept, .ref h_pad, .int h_length, .ref h_steps, .int h_many, .int h_value, .ref h_summed, .ref h_plus, .ref h_parts])), (h_s, .inl (cI, 65, .inl h_s_f)), (h_aside, .inl (cI, 65, .inl h_aside_f)), (h_past, .inl (cI, 260, .inl h_past_f)), (h_snapshot, .inl (cI, 65, .inl h_snapshot_f)), (h_pad, .inl (cI, 80, .inl h_pad_f)), (h_steps, .inl (cI, 320, .inl h_steps_f)), (h_summed, .inl (cI, 81, .inl h_summed_f)), (h_plus, .inl (cI, 81, .inl h_plus_f)), (h_parts, .inl (cI, 392, .inl h_parts_f))] s.heap.size = A at hD ⊢
  have hA : ∀ q : Nat, s.heap.size ≤ q → A q := fun q h => by rw [← hAe]; exact Or.inr h
  have hS : va_S A s.heap s.heap [] := va_S.rf
  have hP : va_P D vwCl [(h, .inr (7, [.ref h_s, .ref h_aside, .ref h_past, .int h_pasts, .ref h_snapshot, .int h_isKept, .ref h_pad, .int h_length, .ref h_steps, .int h_many, .int h_value, .ref h_summed, .ref h_plus, .ref h_parts])), (h_s, .inl (cI, 65, .inl h_s_f)), (h_aside, .inl (cI, 65, .inl h_aside_f)), (h_past, .inl (cI, 260, .inl h_past_f)), (h_snapshot, .inl (cI, 65, .inl h_snapshot_f)), (h_pad, .inl (cI, 80, .inl h_pad_f)), (h_steps, .inl (cI, 320, .inl h_steps_f)), (h_summed, .inl (cI, 81, .inl h_summed_f)), (h_plus, .inl (cI, 81, .inl h_plus_f)), (h_parts, .inl (cI, 392, .inl h_parts_f))] s.heap := hP
  have hf_49 := hts (.fieldLink RX10 49 "CrookedSumsModel" "pasts" "I") (by decide +kernel)
  have hi_X10 := (show ∀ w ∈ u_ws RX10 TX10 14, w ∈ wsX10_undo from by decide +kernel)
  have hf_7 := hts (.fieldLink RX10 7 "CrookedSumsModel" "s" "[I") (by decide +kernel)
  have hf_16 := hts (.fieldLink RX10 16 "CrookedSumsModel" "past" "[I") (by decide +kernel)
  have hl := lv_entry ([.ref h]) (n := 2) (Nat.le_of_ble_eq_true rfl)
  rw [lg_entry_eq]
  generalize (lg_sl ([.ref h]) ++ List.replicate (2 - (lg_sl ([.ref h])).length) Slot.unset).toArray = ls at hl ⊢
  have hl : lv_has ls 2 [(0, .ref h)] := hl
  unfold mX10_undo at h0
  refine lv_aload_n hx hb dX10_undo_0 rfl (lv_at hl 0 rfl) ?_
  refine va_get (D := D) (ci := 7) (v := .int h_pasts) (C := RX10) (T := TX10) (N := 14) hx hb hts hi_X10 hown hK hP 0 rfl rfl 3 (by decide) hf_49 (fun _ h9 => h9) rfl dX10_undo_1 ?_
  refine lv_if_ne (tgt := 10) hx hb dX10_undo_4 (by decide) (fun c9 => ?_) (fun c9 => ?_)
  · have h0 := it_f c9 h0
    refine lv_aload_n hx hb dX10_undo_10 rfl (lv_at hl 0 rfl) ?_
    refine lv_dup hx hb dX10_undo_11 rfl ?_
    refine va_get (D := D) (ci := 7) (v := .int h_pasts) (C := RX10) (T := TX10) (N := 14) hx hb hts hi_X10 hown hK hP 0 rfl rfl 3 (by decide) hf_49 (fun _ h9 => h9) rfl dX10_undo_12 ?_
    refine lv_iconst (v := 1) hx hb dX10_undo_15 (by decide) ?_
    refine lv_isub hx hb dX10_undo_16 ?_
    refine va_put (D := D) (ci := 7) (v := .int (h_pasts - 1)) (ty := .int) (C := RX10) (T := TX10) (N := 14) hx hb hts hi_X10 tyX10 tyX10_ok nmX10 hown hK hP hD hS 0 rfl rfl 3 (by decide) hf_49 (fun _ h9 => h9) rfl (by decide +kernel) rfl rfl (Nat.le_of_ble_eq_true rfl) dX10_undo_17 (fun H locs hP hD hS => ?_)
    have hP : va_P D vwCl [(h, .inr (7, [.ref h_s, .ref h_aside, .ref h_past, .int (h_pasts - 1), .ref h_snapshot, .int h_isKept, .ref h_pad, .int h_length, .ref h_steps, .int h_many, .int h_value, .ref h_summed, .ref h_plus, .ref h_parts])), (h_s, .inl (cI, 65, .inl h_s_f)), (h_aside, .inl (cI, 65, .inl h_aside_f)), (h_past, .inl (cI, 260, .inl h_past_f)), (h_snapshot, .inl (cI, 65, .inl h_snapshot_f)), (h_pad, .inl (cI, 80, .inl h_pad_f)), (h_steps, .inl (cI, 320, .inl h_steps_f)), (h_summed, .inl (cI, 81, .inl h_summed_f)), (h_plus, .inl (cI, 81, .inl h_plus_f)), (h_parts, .inl (cI, 392, .inl h_parts_f))] H := hP
    have hD : va_D A [(h, .inr (7, [.ref h_s, .ref h_aside, .ref h_past, .int (h_pasts - 1), .ref h_snapshot, .int h_isKept, .ref h_pad, .int h_length, .ref h_steps, .int h_many, .int h_value, .ref h_summed, .ref h_plus, .ref h_parts])), (h_s, .inl (cI, 65, .inl h_s_f)), (h_aside, .inl (cI, 65, .inl h_aside_f)), (h_past, .inl (cI, 260, .inl h_past_f)), (h_snapshot, .inl (cI, 65, .inl h_snapshot_f)), (h_pad, .inl (cI, 80, .inl h_pad_f)), (h_steps, .inl (cI, 320, .inl h_steps_f)), (h_summed, .inl (cI, 81, .inl h_summed_f)), (h_plus, .inl (cI, 81, .inl h_plus_f)), (h_parts, .inl (cI, 392, .inl h_parts_f))] := hD
    refine lv_iconst (v := 0) hx hb dX10_undo_20 (by decide) ?_
    refine lv_istore_n (lv' := [(1, .int 0), (0, .ref h)]) hx hb dX10_undo_21 rfl hl (by decide) rfl (fun ls hl => ?_)
    have E_22_54_2 : ∀ (x1_1 : Int32) (f_2 : Nat → Int32) (H : Heap) (locs : List Loc) (ls : Array Slot), (some ((h_pasts - 1), f_2, (h_pasts - 1))) = some z → va_P D vwCl [(h, .inr (7, [.ref h_s, .ref h_aside, .ref h_past, .int (h_pasts - 1), .ref h_snapshot, .int h_isKept, .ref h_pad, .int h_length, .ref h_steps, .int h_many, .int h_value, .ref h_summed, .ref h_plus, .ref h_parts])), (h_s, .inl (cI, 65, .inl f_2)), (h_aside, .inl (cI, 65, .inl h_aside_f)), (h_past, .inl (cI, 260, .inl h_past_f)), (h_snapshot, .inl (cI, 65, .inl h_snapshot_f)), (h_pad, .inl (cI, 80, .inl h_pad_f)), (h_steps, .inl (cI, 320, .inl h_steps_f)), (h_summed, .inl (cI, 81, .inl h_summed_f)), (h_plus, .inl (cI, 81, .inl h_plus_f)), (h_parts, .inl (cI, 392, .inl h_parts_f))] H → va_D A [(h, .inr (7, [.ref h_s, .ref h_aside, .ref h_past, .int (h_pasts - 1), .ref h_snapshot, .int h_isKept, .ref h_pad, .int h_length, .ref h_steps, .int h_many, .int h_value, .ref h_summed, .ref h_plus, .ref h_parts])), (h_s, .inl (cI, 65, .inl f_2)), (h_aside, .inl (cI, 65, .inl h_aside_f)), (h_past, .inl (cI, 260, .inl h_past_f)), (h_snapshot, .inl (cI, 65, .inl h_snapshot_f)), (h_pad, .inl (cI, 80, .inl h_pad_f)), (h_steps, .inl (cI, 320, .inl h_steps_f)), (h_summed, .inl (cI, 81, .inl h_summed_f)), (h_plus, .inl (cI, 81, .inl h_plus_f)), (h_parts, .inl (cI, 392, .inl h_parts_f))] → va_S A s.heap H locs → lv_has ls 2 [(1, .int x1_1), (0, .ref h)] → W p l e (headSpec wsX10_undo ({ frames := 0, cells := 0, slots := 0, locals := 0 } : Room)).room s m (([.ref h] : List Value).toArray) below meth c H locs 0 0 (MQ below (wQ D (some (.int z.1)) A (fun (u : Unit) => [(h, .inr (7, [.ref h_s, .ref h_aside, .ref h_past, .int z.2.2, .ref h_snapshot, .int h_isKept, .ref h_pad, .int h_length, .ref h_steps, .int h_many, .int h_value, .ref h_summed, .ref h_plus, .ref h_parts])), (h_s, .inl (cI, 65, .inl z.2.1)), (h_aside, .inl (cI, 65, .inl h_aside_f)), (h_past, .inl (cI, 260, .inl h_past_f)), (h_snapshot, .inl (cI, 65, .inl h_snapshot_f)), (h_pad, .inl (cI, 80, .inl h_pad_f)), (h_steps, .inl (cI, 320, .inl h_steps_f)), (h_summed, .inl (cI, 81, .inl h_summed_f)), (h_plus, .inl (cI, 81, .inl h_plus_f)), (h_parts, .inl (cI, 392, .inl h_parts_f))])) (([.ref h] : List Value).toArray) s 0 0 A) (F0 m 54 ls []) := by
      intro x1_1 f_2 H locs ls h0 hP hD hS hl
      refine lv_aload_n hx hb dX10_undo_54 rfl (lv_at hl 1 rfl) ?_
      refine va_get (D := D) (ci := 7) (v := .int (h_pasts - 1)) (C := RX10) (T := TX10) (N := 14) hx hb hts hi_X10 hown hK hP 0 rfl rfl 3 (by decide) hf_49 (fun _ h9 => h9) rfl dX10_undo_55 ?_
      have e0 := Option.some.inj h0
      subst e0
      exact W.iret (v := (h_pasts - 1)) hx hb hr (fun t ht hW => wr_end () ht hP hD hS) hS.2.2 dX10_undo_58
    have L_22_5 : ∀ (F22 : Nat) (x1_4 : Int32) (f_5 : Nat → Int32) (H : Heap) (locs : List Loc) (ls : Array Slot), mX10_undo_L22 h_past_f h_pasts (fun (x1_1 : Int32) (f_2 : Nat → Int32) => some ((h_pasts - 1), f_2, (h_pasts - 1))) F22 x1_4 f_5 = some z → va_P D vwCl [(h, .inr (7, [.ref h_s, .ref h_aside, .ref h_past, .int (h_pasts - 1), .ref h_snapshot, .int h_isKept, .ref h_pad, .int h_length, .ref h_steps, .int h_many, .int h_value, .ref h_summed, .ref h_plus, .ref h_parts])), (h_s, .inl (cI, 65, .inl f_5)), (h_aside, .inl (cI, 65, .inl h_aside_f)), (h_past, .inl (cI, 260, .inl h_past_f)), (h_snapshot, .inl (cI, 65, .inl h_snapshot_f)), (h_pad, .inl (cI, 80, .inl h_pad_f)), (h_steps, .inl (cI, 320, .inl h_steps_f)), (h_summed, .inl (cI, 81, .inl h_summed_f)), (h_plus, .inl (cI, 81, .inl h_plus_f)), (h_parts, .inl (cI, 392, .inl h_parts_f))] H → va_D A [(h, .inr (7, [.ref h_s, .ref h_aside, .ref h_past, .int (h_pasts - 1), .ref h_snapshot, .int h_isKept, .ref h_pad, .int h_length, .ref h_steps, .int h_many, .int h_value, .ref h_summed, .ref h_plus, .ref h_parts])), (h_s, .inl (cI, 65, .inl f_5)), (h_aside, .inl (cI, 65, .inl h_aside_f)), (h_past, .inl (cI, 260, .inl h_past_f)), (h_snapshot, .inl (cI, 65, .inl h_snapshot_f)), (h_pad, .inl (cI, 80, .inl h_pad_f)), (h_steps, .inl (cI, 320, .inl h_steps_f)), (h_summed, .inl (cI, 81, .inl h_summed_f)), (h_plus, .inl (cI, 81, .inl h_plus_f)), (h_parts, .inl (cI, 392, .inl h_parts_f))] → va_S A s.heap H locs → lv_has ls 2 [(1, .int x1_4), (0, .ref h)] → W p l e (headSpec wsX10_undo ({ frames := 0, cells := 0, slots := 0, locals := 0 } : Room)).room s m (([.ref h] : List Value).toArray) below meth c H locs 0 0 (MQ below (wQ D (some (.int z.1)) A (fun (u : Unit) => [(h, .inr (7, [.ref h_s, .ref h_aside, .ref h_past, .int z.2.2, .ref h_snapshot, .int h_isKept, .ref h_pad, .int h_length, .ref h_steps, .int h_many, .int h_value, .ref h_summed, .ref h_plus, .ref h_parts])), (h_s, .inl (cI, 65, .inl z.2.1)), (h_aside, .inl (cI, 65, .inl h_aside_f)), (h_past, .inl (cI, 260, .inl h_past_f)), (h_snapshot, .inl (cI, 65, .inl h_snapshot_f)), (h_pad, .inl (cI, 80, .inl h_pad_f)), (h_steps, .inl (cI, 320, .inl h_steps_f)), (h_summed, .inl (cI, 81, .inl h_summed_f)), (h_plus, .inl (cI, 81, .inl h_plus_f)), (h_parts, .inl (cI, 392, .inl h_parts_f))])) (([.ref h] : List Value).toArray) s 0 0 A) (F0 m 22 ls []) := by
      intro F22
      induction F22 with
      | zero => intro x1_4 f_5 H locs ls h0 hP hD hS hl; cases h0
      | succ F22 ih22 =>
        intro x1_4 f_5 H locs ls h0 hP hD hS hl
        rw [mX10_undo_L22] at h0
        refine lv_iload_n hx hb dX10_undo_22 rfl (lv_at hl 0 rfl) ?_
        refine lv_bipush (v := 65) hx hb dX10_undo_23 (by decide) ?_
        refine lv_icmp_ge (tgt := 54) hx hb dX10_undo_25 (by decide) (fun c9 => ?_) (fun c9 => ?_)
        · have h0 := it_t c9 h0
          exact E_22_54_2 x1_4 f_5 _ _ ls h0 hP hD hS hl
        · have h0 := it_f c9 h0
          refine lv_aload_n hx hb dX10_undo_28 rfl (lv_at hl 1 rfl) ?_
          refine va_get (D := D) (ci := 7) (v := .ref h_s) (C := RX10) (T := TX10) (N := 14) hx hb hts hi_X10 hown hK hP 0 rfl rfl 0 (by decide) hf_7 (fun _ h9 => h9) rfl dX10_undo_29 ?_
          refine lv_iload_n hx hb dX10_undo_32 rfl (lv_at hl 0 rfl) ?_
          refine lv_aload_n hx hb dX10_undo_33 rfl (lv_at hl 1 rfl) ?_
          refine va_get (D := D) (ci := 7) (v := .ref h_past) (C := RX10) (T := TX10) (N := 14) hx hb hts hi_X10 hown hK hP 0 rfl rfl 2 (by decide) hf_16 (fun _ h9 => h9) rfl dX10_undo_34 ?_
          refine lv_bipush (v := 65) hx hb dX10_undo_37 (by decide) ?_
          refine lv_aload_n hx hb dX10_undo_39 rfl (lv_at hl 1 rfl) ?_
          refine va_get (D := D) (ci := 7) (v := .int (h_pasts - 1)) (C := RX10) (T := TX10) (N := 14) hx hb hts hi_X10 hown hK hP 0 rfl rfl 3 (by decide) hf_49 (fun _ h9 => h9) rfl dX10_undo_40 ?_
          refine lv_imul hx hb dX10_undo_43 ?_
          refine lv_iload_n hx hb dX10_undo_44 rfl (lv_at hl 0 rfl) ?_
          refine lv_iadd hx hb dX10_undo_45 ?_
          obtain ⟨g0, h0⟩ := gd_ok h0
          refine va_iald hx hb hK hP 3 0 rfl rfl (inb_ok g0) dX10_undo_46 ?_
          obtain ⟨g0, h0⟩ := gd_ok h0
          refine va_iast hx hb hK hP hD hS 1 0 rfl rfl (inb_ok g0) dX10_undo_47 (fun H locs hP hD hS => ?_)
          have hP : va_P D vwCl [(h, .inr (7, [.ref h_s, .ref h_aside, .ref h_past, .int (h_pasts - 1), .ref h_snapshot, .int h_isKept, .ref h_pad, .int h_length, .ref h_steps, .int h_many, .int h_value, .ref h_summed, .ref h_plus, .ref h_parts])), (h_s, .inl (cI, 65, .inl (upd f_5 (x1_4 : Int32).toNatClampNeg (h_past_f ((((65 : Int32) * (h_pasts - 1)) + x1_4) : Int32).toNatClampNeg)))), (h_aside, .inl (cI, 65, .inl h_aside_f)), (h_past, .inl (cI, 260, .inl h_past_f)), (h_snapshot, .inl (cI, 65, .inl h_snapshot_f)), (h_pad, .inl (cI, 80, .inl h_pad_f)), (h_steps, .inl (cI, 320, .inl h_steps_f)), (h_summed, .inl (cI, 81, .inl h_summed_f)), (h_plus, .inl (cI, 81, .inl h_plus_f)), (h_parts, .inl (cI, 392, .inl h_parts_f))] H := hP
          have hD : va_D A [(h, .inr (7, [.ref h_s, .ref h_aside, .ref h_past, .int (h_pasts - 1), .ref h_snapshot, .int h_isKept, .ref h_pad, .int h_length, .ref h_steps, .int h_many, .int h_value, .ref h_summed, .ref h_plus, .ref h_parts])), (h_s, .inl (cI, 65, .inl (upd f_5 (x1_4 : Int32).toNatClampNeg (h_past_f ((((65 : Int32) * (h_pasts - 1)) + x1_4) : Int32).toNatClampNeg)))), (h_aside, .inl (cI, 65, .inl h_aside_f)), (h_past, .inl (cI, 260, .inl h_past_f)), (h_snapshot, .inl (cI, 65, .inl h_snapshot_f)), (h_pad, .inl (cI, 80, .inl h_pad_f)), (h_steps, .inl (cI, 320, .inl h_steps_f)), (h_summed, .inl (cI, 81, .inl h_summed_f)), (h_plus, .inl (cI, 81, .inl h_plus_f)), (h_parts, .inl (cI, 392, .inl h_parts_f))] := hD
          refine lv_iinc (v := (x1_4 + 1)) (lv' := [(1, .int (x1_4 + 1)), (0, .ref h)]) hx hb dX10_undo_48 hl (k := 0) rfl rfl (by decide) rfl (fun ls hl => ?_)
          refine lv_goto (tgt := 22) hx hb dX10_undo_51 (by decide) ?_
          exact ih22 (x1_4 + 1) (upd f_5 (x1_4 : Int32).toNatClampNeg (h_past_f ((((65 : Int32) * (h_pasts - 1)) + x1_4) : Int32).toNatClampNeg)) _ _ ls h0 hP hD hS hl
    exact L_22_5 FU 0 h_s_f _ _ ls h0 hP hD hS hl
  · have h0 := it_t c9 h0
    refine lv_bipush (v := (-2)) hx hb dX10_undo_7 (by decide) ?_
    have e0 := Option.some.inj h0
    subst e0
    exact W.iret (v := (-2)) hx hb hr (fun t ht hW => wr_end () ht hP hD hS) hS.2.2 dX10_undo_9
