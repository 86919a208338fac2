noncomputable def mX10_sumFault_L18 (h_s_f : Nat → Int32) (h_pad_f : Nat → Int32) (h_length : Int32) (h_value : Int32) (k18_158 : Int32 → Int32 → Int32 → Int32 → (Nat → Int32) → (Nat → Int32) → (Nat → Int32) → Option (Int32 × (Nat → Int32) × Int32 × Int32 × (Nat → Int32) × (Nat → Int32))) : Nat → Int32 → Int32 → Int32 → Int32 → (Nat → Int32) → (Nat → Int32) → (Nat → Int32) → Option (Int32 × (Nat → Int32) × Int32 × Int32 × (Nat → Int32) × (Nat → Int32))
  | 0, _, _, _, _, _, _, _ => none
  | F + 1, x3_9, x2_10, x1_11, y_12, f_13, f_14, f_15 => if h_length ≤ x3_9 then (k18_158 x3_9 x2_10 x1_11 y_12 f_13 f_14 f_15) else (if x2_10 = 0 then (if x2_10 = 0 then (if x2_10 = 0 then (gd (inb x3_9 80) (if (h_pad_f (x3_9 : Int32).toNatClampNeg) = 43 then (gd (inb x1_11 81) (mX10_sumFault_L18 h_s_f h_pad_f h_length h_value k18_158 F (x3_9 + 1) 1 x1_11 y_12 f_13 f_14 (upd f_15 (x1_11 : Int32).toNatClampNeg x3_9))) else (if x2_10 = 0 then (gd (inb x3_9 80) (if (h_pad_f (x3_9 : Int32).toNatClampNeg) = 41 then (if x1_11 ≤ 0 then (some (x3_9, f_13, y_12, h_value, f_14, f_15)) else (gd (inb ((x1_11 + (-1)) + 1) 81) (bd (mX10_comes h_s_f f_13 y_12 f_14 f_15 (x1_11 + (-1)) (f_14 (((x1_11 + (-1)) + 1) : Int32).toNatClampNeg)) (fun z_17 => mX10_sumFault_L18 h_s_f h_pad_f h_length h_value k18_158 F (x3_9 + 1) x2_10 (x1_11 + (-1)) z_17.2.1 z_17.1 z_17.2.2 f_15)))) else (some (x3_9, f_13, y_12, h_value, f_14, f_15)))) else (some (x3_9, f_13, y_12, h_value, f_14, f_15))))) else (if x2_10 = 0 then (gd (inb x3_9 80) (if (h_pad_f (x3_9 : Int32).toNatClampNeg) = 41 then (if x1_11 ≤ 0 then (some (x3_9, f_13, y_12, h_value, f_14, f_15)) else (gd (inb ((x1_11 + (-1)) + 1) 81) (bd (mX10_comes h_s_f f_13 y_12 f_14 f_15 (x1_11 + (-1)) (f_14 (((x1_11 + (-1)) + 1) : Int32).toNatClampNeg)) (fun z_16 => mX10_sumFault_L18 h_s_f h_pad_f h_length h_value k18_158 F (x3_9 + 1) x2_10 (x1_11 + (-1)) z_16.2.1 z_16.1 z_16.2.2 f_15)))) else (some (x3_9, f_13, y_12, h_value, f_14, f_15)))) else (some (x3_9, f_13, y_12, h_value, f_14, f_15)))) else (bd (mX10_isTokenAt h_s_f h_pad_f x3_9) (fun z_18 => if z_18 = 0 then (if x2_10 = 0 then (gd (inb x3_9 80) (if (h_pad_f (x3_9 : Int32).toNatClampNeg) = 43 then (gd (inb x1_11 81) (mX10_sumFault_L18 h_s_f h_pad_f h_length h_value k18_158 F (x3_9 + 1) 1 x1_11 y_12 f_13 f_14 (upd f_15 (x1_11 : Int32).toNatClampNeg x3_9))) else (if x2_10 = 0 then (gd (inb x3_9 80) (if (h_pad_f (x3_9 : Int32).toNatClampNeg) = 41 then (if x1_11 ≤ 0 then (some (x3_9, f_13, y_12, h_value, f_14, f_15)) else (gd (inb ((x1_11 + (-1)) + 1) 81) (bd (mX10_comes h_s_f f_13 y_12 f_14 f_15 (x1_11 + (-1)) (f_14 (((x1_11 + (-1)) + 1) : Int32).toNatClampNeg)) (fun z_20 => mX10_sumFault_L18 h_s_f h_pad_f h_length h_value k18_158 F (x3_9 + 1) x2_10 (x1_11 + (-1)) z_20.2.1 z_20.1 z_20.2.2 f_15)))) else (some (x3_9, f_13, y_12, h_value, f_14, f_15)))) else (some (x3_9, f_13, y_12, h_value, f_14, f_15))))) else (if x2_10 = 0 then (gd (inb x3_9 80) (if (h_pad_f (x3_9 : Int32).toNatClampNeg) = 41 then (if x1_11 ≤ 0 then (some (x3_9, f_13, y_12, h_value, f_14, f_15)) else (gd (inb ((x1_11 + (-1)) + 1) 81) (bd (mX10_comes h_s_f f_13 y_12 f_14 f_15 (x1_11 + (-1)) (f_14 (((x1_11 + (-1)) + 1) : Int32).toNatClampNeg)) (fun z_19 => mX10_sumFault_L18 h_s_f h_pad_f h_length h_value k18_158 F (x3_9 + 1) x2_10 (x1_11 + (-1)) z_19.2.1 z_19.1 z_19.2.2 f_15)))) else (some (x3_9, f_13, y_12, h_value, f_14, f_15)))) else (some (x3_9, f_13, y_12, h_value, f_14, f_15)))) else (gd (inb x3_9 80) (bd (mX10_comes h_s_f f_13 y_12 f_14 f_15 x1_11 ((h_pad_f (x3_9 : Int32).toNatClampNeg) - 48)) (fun z_21 => mX10_sumFault_L18 h_s_f h_pad_f h_length h_value k18_158 F (x3_9 + 1) 0 x1_11 z_21.2.1 z_21.1 z_21.2.2 f_15)))))) else (gd (inb x3_9 80) (if (h_pad_f (x3_9 : Int32).toNatClampNeg) = 40 then (gd (inb (x1_11 + 1) 81) (mX10_sumFault_L18 h_s_f h_pad_f h_length h_value k18_158 F (x3_9 + 1) x2_10 (x1_11 + 1) y_12 f_13 f_14 (upd f_15 ((x1_11 + 1) : Int32).toNatClampNeg (-1)))) else (if x2_10 = 0 then (if x2_10 = 0 then (gd (inb x3_9 80) (if (h_pad_f (x3_9 : Int32).toNatClampNeg) = 43 then (gd (inb x1_11 81) (mX10_sumFault_L18 h_s_f h_pad_f h_length h_value k18_158 F (x3_9 + 1) 1 x1_11 y_12 f_13 f_14 (upd f_15 (x1_11 : Int32).toNatClampNeg x3_9))) else (if x2_10 = 0 then (gd (inb x3_9 80) (if (h_pad_f (x3_9 : Int32).toNatClampNeg) = 41 then (if x1_11 ≤ 0 then (some (x3_9, f_13, y_12, h_value, f_14, f_15)) else (gd (inb ((x1_11 + (-1)) + 1) 81) (bd (mX10_comes h_s_f f_13 y_12 f_14 f_15 (x1_11 + (-1)) (f_14 (((x1_11 + (-1)) + 1) : Int32).toNatClampNeg)) (fun z_23 => mX10_sumFault_L18 h_s_f h_pad_f h_length h_value k18_158 F (x3_9 + 1) x2_10 (x1_11 + (-1)) z_23.2.1 z_23.1 z_23.2.2 f_15)))) else (some (x3_9, f_13, y_12, h_value, f_14, f_15)))) else (some (x3_9, f_13, y_12, h_value, f_14, f_15))))) else (if x2_10 = 0 then (gd (inb x3_9 80) (if (h_pad_f (x3_9 : Int32).toNatClampNeg) = 41 then (if x1_11 ≤ 0 then (some (x3_9, f_13, y_12, h_value, f_14, f_15)) else (gd (inb ((x1_11 + (-1)) + 1) 81) (bd (mX10_comes h_s_f f_13 y_12 f_14 f_15 (x1_11 + (-1)) (f_14 (((x1_11 + (-1)) + 1) : Int32).toNatClampNeg)) (fun z_22 => mX10_sumFault_L18 h_s_f h_pad_f h_length h_value k18_158 F (x3_9 + 1) x2_10 (x1_11 + (-1)) z_22.2.1 z_22.1 z_22.2.2 f_15)))) else (some (x3_9, f_13, y_12, h_value, f_14, f_15)))) else (some (x3_9, f_13, y_12, h_value, f_14, f_15)))) else (bd (mX10_isTokenAt h_s_f h_pad_f x3_9) (fun z_24 => if z_24 = 0 then (if x2_10 = 0 then (gd (inb x3_9 80) (if (h_pad_f (x3_9 : Int32).toNatClampNeg) = 43 then (gd (inb x1_11 81) (mX10_sumFault_L18 h_s_f h_pad_f h_length h_value k18_158 F (x3_9 + 1) 1 x1_11 y_12 f_13 f_14 (upd f_15 (x1_11 : Int32).toNatClampNeg x3_9))) else (if x2_10 = 0 then (gd (inb x3_9 80) (if (h_pad_f (x3_9 : Int32).toNatClampNeg) = 41 then (if x1_11 ≤ 0 then (some (x3_9, f_13, y_12, h_value, f_14, f_15)) else (gd (inb ((x1_11 + (-1)) + 1) 81) (bd (mX10_comes h_s_f f_13 y_12 f_14 f_15 (x1_11 + (-1)) (f_14 (((x1_11 + (-1)) + 1) : Int32).toNatClampNeg)) (fun z_26 => mX10_sumFault_L18 h_s_f h_pad_f h_length h_value k18_158 F (x3_9 + 1) x2_10 (x1_11 + (-1)) z_26.2.1 z_26.1 z_26.2.2 f_15)))) else (some (x3_9, f_13, y_12, h_value, f_14, f_15)))) else (some (x3_9, f_13, y_12, h_value, f_14, f_15))))) else (if x2_10 = 0 then (gd (inb x3_9 80) (if (h_pad_f (x3_9 : Int32).toNatClampNeg) = 41 then (if x1_11 ≤ 0 then (some (x3_9, f_13, y_12, h_value, f_14, f_15)) else (gd (inb ((x1_11 + (-1)) + 1) 81) (bd (mX10_comes h_s_f f_13 y_12 f_14 f_15 (x1_11 + (-1)) (f_14 (((x1_11 + (-1)) + 1) : Int32).toNatClampNeg)) (fun z_25 => mX10_sumFault_L18 h_s_f h_pad_f h_length h_value k18_158 F (x3_9 + 1) x2_10 (x1_11 + (-1)) z_25.2.1 z_25.1 z_25.2.2 f_15)))) else (some (x3_9, f_13, y_12, h_value, f_14, f_15)))) else (some (x3_9, f_13, y_12, h_value, f_14, f_15)))) else (gd (inb x3_9 80) (bd (mX10_comes h_s_f f_13 y_12 f_14 f_15 x1_11 ((h_pad_f (x3_9 : Int32).toNatClampNeg) - 48)) (fun z_27 => mX10_sumFault_L18 h_s_f h_pad_f h_length h_value k18_158 F (x3_9 + 1) 0 x1_11 z_27.2.1 z_27.1 z_27.2.2 f_15)))))))))
noncomputable def mX10_sumFault (h_s_f : Nat → Int32) (h_pad_f : Nat → Int32) (h_length : Int32) (h_steps_f : Nat → Int32) (h_value : Int32) (h_summed_f : Nat → Int32) (h_plus_f : Nat → Int32) : Option (Int32 × (Nat → Int32) × Int32 × Int32 × (Nat → Int32) × (Nat → Int32)) :=
  mX10_sumFault_L18 h_s_f h_pad_f h_length h_value (fun (x3_1 : Int32) (x2_2 : Int32) (x1_3 : Int32) (y_4 : Int32) (f_5 : Nat → Int32) (f_6 : Nat → Int32) (f_7 : Nat → Int32) => if x2_2 = 0 then (if x1_3 ≤ 0 then (some ((-1), f_5, y_4, (f_6 (0 : Int32).toNatClampNeg), f_6, f_7)) else (some (h_length, f_5, y_4, (f_6 (0 : Int32).toNatClampNeg), f_6, f_7))) else (some (h_length, f_5, y_4, (f_6 (0 : Int32).toNatClampNeg), f_6, f_7))) FU 0 1 0 0 h_steps_f h_summed_f (upd h_plus_f (0 : Int32).toNatClampNeg (-1))
set_option maxHeartbeats 8000000 in
set_option maxRecDepth 100000 in
theorem kX10_sumFault (l : Launch) (D : va_G) (cI cC cT : ClassId) (h h_s h_aside h_past h_snapshot h_pad h_steps h_summed h_plus h_parts : Nat) (h_s_f : Nat → Int32) (h_aside_f : Nat → Int32) (h_past_f : Nat → Int32) (h_pasts : Int32) (h_snapshot_f : Nat → Int32) (h_isKept : Int32) (h_pad_f : Nat → Int32) (h_length : Int32) (h_steps_f : Nat → Int32) (h_many : Int32) (h_value : Int32) (h_summed_f : Nat → Int32) (h_plus_f : Nat → Int32) (h_parts_f : Nat → Int32) (sz : Nat) (z : Int32 × (Nat → Int32) × Int32 × Int32 × (Nat → Int32) × (Nat → Int32)) (h0 : mX10_sumFault h_s_f h_pad_f h_length h_steps_f h_value h_summed_f h_plus_f = some z) : Met l yX10_sumFault wsX10_sumFault ({ frames := 3, cells := 0, slots := 0, locals := 65 } : Room) (va_Pc [.ref h] (wP D cI cC cT [(h, .inr (7, [.ref h_s, .ref h_aside, .ref h_past, .int h_pasts, .ref h_snapshot, .int h_isKept, .ref h_pad, .int h_length, .ref h_steps, .int h_many, .int h_value, .ref h_summed, .ref h_plus, .ref h_parts])), (h_s, .inl (cI, 65, .inl h_s_f)), (h_aside, .inl (cI, 65, .inl h_aside_f)), (h_past, .inl (cI, 260, .inl h_past_f)), (h_snapshot, .inl (cI, 65, .inl h_snapshot_f)), (h_pad, .inl (cI, 80, .inl h_pad_f)), (h_steps, .inl (cI, 320, .inl h_steps_f)), (h_summed, .inl (cI, 81, .inl h_summed_f)), (h_plus, .inl (cI, 81, .inl h_plus_f)), (h_parts, .inl (cI, 392, .inl h_parts_f))] sz)) (wQ D (some (.int z.1)) (va_A [(h, .inr (7, [.ref h_s, .ref h_aside, .ref h_past, .int h_pasts, .ref h_snapshot, .int h_isKept, .ref h_pad, .int h_length, .ref h_steps, .int h_many, .int h_value, .ref h_summed, .ref h_plus, .ref h_parts])), (h_s, .inl (cI, 65, .inl h_s_f)), (h_aside, .inl (cI, 65, .inl h_aside_f)), (h_past, .inl (cI, 260, .inl h_past_f)), (h_snapshot, .inl (cI, 65, .inl h_snapshot_f)), (h_pad, .inl (cI, 80, .inl h_pad_f)), (h_steps, .inl (cI, 320, .inl h_steps_f)), (h_summed, .inl (cI, 81, .inl h_summed_f)), (h_plus, .inl (cI, 81, .inl h_plus_f)), (h_parts, .inl (cI, 392, .inl h_parts_f))] sz) (fun (u : Unit) => [(h, .inr (7, [.ref h_s, .ref h_aside, .ref h_past, .int h_pasts, .ref h_snapshot, .int h_isKept, .ref h_pad, .int h_length, .ref h_steps, .int z.2.2.1, .int z.2.2.2.1, .ref h_summed, .ref h_plus, .ref h_parts])), (h_s, .inl (cI, 65, .inl h_s_f)), (h_aside, .inl (cI, 65, .inl h_aside_f)), (h_past, .inl (cI, 260, .inl h_past_f)), (h_snapshot, .inl (cI, 65, .inl h_snapshot_f)), (h_pad, .inl (cI, 80, .inl h_pad_f)), (h_steps, .inl (cI, 320, .inl z.2.1)), (h_summed, .inl (cI, 81, .inl z.2.2.2.2.1)), (h_plus, .inl (cI, 81, .inl z.2.2.2.2.2)), (h_parts, .inl (cI, 392, .inl h_parts_f))])) 0 0 (va_A [(h, .inr (7, [.ref h_s, .ref h_aside, .ref h_past, .int h_pasts, .ref h_snapshot, .int h_isKept, .ref h_pad, .int h_length, .ref h_steps, .int h_many, .int h_value, .ref h_summed, .ref h_plus, .ref h_parts])), (h_s, .inl (cI, 65, .inl h_s_f)), (h_aside, .inl (cI, 65, .inl h_aside_f)), (h_past, .inl (cI, 260, .inl h_past_f)), (h_snapshot, .inl (cI, 65, .inl h_snapshot_f)), (h_pad, .inl (cI, 80, .inl h_pad_f)), (h_steps, .inl (cI, 320, .inl h_steps_f)), (h_summed, .inl (cI, 81, .inl h_summed_f)), (h_plus, .inl (cI, 81, .inl h_plus_f)), (h_parts, .inl (cI, 392, .inl h_parts_f))] sz) := by
  refine Met.ofW (cc := cX10_sumFault) (maxL := 4) (ret := (some .int)) (by decide) rfl ?_
  intro p e s m args below meth c s₁ B hml hv
  obtain ⟨rfl, hsz, hP, hE, hD0⟩ := hv
  have hx := B.exec
  have hb := B.bytes
  have hr := B.returns
  have hts := atoms_spec (ws := wsX10_sumFault) B.pre
  have hown : s.vm.findClass RX10 = some m.cls := findClass_of_methodNamed B.named
  have hlocks := B.notSynchronized
  have hK := hE.1
  have hcf : CallFix p m c cX10_sumFault 4 s ([.ref h] : List Value).toArray wsX10_sumFault RX10 := ⟨hx, hb, hml, hown, hts⟩
  subst hsz
  have hD := hD0.self (sz := s.heap.size)
  generalize hAe : va_A [(h, .inr (7, [.ref h_s, .ref h_aside, .ref h_past, .int h_pasts, .ref h_snapshot, .int h_isKept, .ref h_pad, .int h_length, .ref h_steps, .int h_many, .int h_value, .ref h_summed, .ref h_plus, .ref h_parts])), (h_s, .inl (cI, 65, .inl h_s_f)), (h_aside, .inl (cI, 65, .inl h_aside_f)), (h_past, .inl (cI, 260, .inl h_past_f)), (h_snapshot, .inl (cI, 65, .inl h_snapshot_f)), (h_pad, .inl (cI, 80, .inl h_pad_f)), (h_steps, .inl (cI, 320, .inl h_steps_f)), (h_summed, .inl (cI, 81, .inl h_summed_f)), (h_plus, .inl (cI, 81, .inl h_plus_f)), (h_parts, .inl (cI, 392, .inl h_parts_f))] s.heap.size = A at hD ⊢
  have hA : ∀ q : Nat, s.heap.size ≤ q → A q := fun q h => by rw [← hAe]; exact Or.inr h
  have hS : va_S A s.heap s.heap [] := va_S.rf
  have hP : va_P D vwCl [(h, .inr (7, [.ref h_s, .ref h_aside, .ref h_past, .int h_pasts, .ref h_snapshot, .int h_isKept, .ref h_pad, .int h_length, .ref h_steps, .int h_many, .int h_value, .ref h_summed, .ref h_plus, .ref h_parts])), (h_s, .inl (cI, 65, .inl h_s_f)), (h_aside, .inl (cI, 65, .inl h_aside_f)), (h_past, .inl (cI, 260, .inl h_past_f)), (h_snapshot, .inl (cI, 65, .inl h_snapshot_f)), (h_pad, .inl (cI, 80, .inl h_pad_f)), (h_steps, .inl (cI, 320, .inl h_steps_f)), (h_summed, .inl (cI, 81, .inl h_summed_f)), (h_plus, .inl (cI, 81, .inl h_plus_f)), (h_parts, .inl (cI, 392, .inl h_parts_f))] s.heap := hP
  have hf_120 := hts (.fieldLink RX10 120 "CrookedSumsModel" "many" "I") (by decide +kernel)
  have hi_X10 := (show ∀ w ∈ u_ws RX10 TX10 14, w ∈ wsX10_sumFault from by decide +kernel)
  have hf_31 := hts (.fieldLink RX10 31 "CrookedSumsModel" "plus" "[I") (by decide +kernel)
  have hf_28 := hts (.fieldLink RX10 28 "CrookedSumsModel" "summed" "[I") (by decide +kernel)
  have hf_126 := hts (.fieldLink RX10 126 "CrookedSumsModel" "value" "I") (by decide +kernel)
  have hf_111 := hts (.fieldLink RX10 111 "CrookedSumsModel" "length" "I") (by decide +kernel)
  have hf_22 := hts (.fieldLink RX10 22 "CrookedSumsModel" "pad" "[I") (by decide +kernel)
  have hl := lv_entry ([.ref h]) (n := 4) (Nat.le_of_ble_eq_true rfl)
  rw [lg_entry_eq]
  generalize (lg_sl ([.ref h]) ++ List.replicate (4 - (lg_sl ([.ref h])).length) Slot.unset).toArray = ls at hl ⊢
  have hl : lv_has ls 4 [(0, .ref h)] := hl
  unfold mX10_sumFault at h0
  refine lv_iconst (v := 0) hx hb dX10_sumFault_0 (by decide) ?_
  refine lv_istore_n (lv' := [(1, .int 0), (0, .ref h)]) hx hb dX10_sumFault_1 rfl hl (by decide) rfl (fun ls hl => ?_)
  refine lv_iconst (v := 1) hx hb dX10_sumFault_2 (by decide) ?_
  refine lv_istore_n (lv' := [(2, .int 1), (1, .int 0), (0, .ref h)]) hx hb dX10_sumFault_3 rfl hl (by decide) rfl (fun ls hl => ?_)
  refine lv_aload_n hx hb dX10_sumFault_4 rfl (lv_at hl 2 rfl) ?_
  refine lv_iconst (v := 0) hx hb dX10_sumFault_5 (by decide) ?_
  refine va_put (D := D) (ci := 7) (v := .int 0) (ty := .int) (C := RX10) (T := TX10) (N := 14) hx hb hts hi_X10 tyX10 tyX10_ok nmX10 hown hK hP hD hS 0 rfl rfl 9 (by decide) hf_120 (fun _ h9 => h9) rfl (by decide +kernel) rfl rfl (Nat.le_of_ble_eq_true rfl) dX10_sumFault_6 (fun H locs hP hD hS => ?_)
  have hP : va_P D vwCl [(h, .inr (7, [.ref h_s, .ref h_aside, .ref h_past, .int h_pasts, .ref h_snapshot, .int h_isKept, .ref h_pad, .int h_length, .ref h_steps, .int 0, .int h_value, .ref h_summed, .ref h_plus, .ref h_parts])), (h_s, .inl (cI, 65, .inl h_s_f)), (h_aside, .inl (cI, 65, .inl h_aside_f)), (h_past, .inl (cI, 260, .inl h_past_f)), (h_snapshot, .inl (cI, 65, .inl h_snapshot_f)), (h_pad, .inl (cI, 80, .inl h_pad_f)), (h_steps, .inl (cI, 320, .inl h_steps_f)), (h_summed, .inl (cI, 81, .inl h_summed_f)), (h_plus, .inl (cI, 81, .inl h_plus_f)), (h_parts, .inl (cI, 392, .inl h_parts_f))] H := hP
  have hD : va_D A [(h, .inr (7, [.ref h_s, .ref h_aside, .ref h_past, .int h_pasts, .ref h_snapshot, .int h_isKept, .ref h_pad, .int h_length, .ref h_steps, .int 0, .int h_value, .ref h_summed, .ref h_plus, .ref h_parts])), (h_s, .inl (cI, 65, .inl h_s_f)), (h_aside, .inl (cI, 65, .inl h_aside_f)), (h_past, .inl (cI, 260, .inl h_past_f)), (h_snapshot, .inl (cI, 65, .inl h_snapshot_f)), (h_pad, .inl (cI, 80, .inl h_pad_f)), (h_steps, .inl (cI, 320, .inl h_steps_f)), (h_summed, .inl (cI, 81, .inl h_summed_f)), (h_plus, .inl (cI, 81, .inl h_plus_f)), (h_parts, .inl (cI, 392, .inl h_parts_f))] := hD
  refine lv_aload_n hx hb dX10_sumFault_9 rfl (lv_at hl 2 rfl) ?_
  refine va_get (D := D) (ci := 7) (v := .ref h_plus) (C := RX10) (T := TX10) (N := 14) hx hb hts hi_X10 hown hK hP 0 rfl rfl 12 (by decide) hf_31 (fun _ h9 => h9) rfl dX10_sumFault_10 ?_
  refine lv_iconst (v := 0) hx hb dX10_sumFault_13 (by decide) ?_
  refine lv_iconst (v := (-1)) hx hb dX10_sumFault_14 (by decide) ?_
  refine va_iast hx hb hK hP hD hS 8 0 rfl rfl (by unfold vp_in; decide) dX10_sumFault_15 (fun H locs hP hD hS => ?_)
  have hP : va_P D vwCl [(h, .inr (7, [.ref h_s, .ref h_aside, .ref h_past, .int h_pasts, .ref h_snapshot, .int h_isKept, .ref h_pad, .int h_length, .ref h_steps, .int 0, .int h_value, .ref h_summed, .ref h_plus, .ref h_parts])), (h_s, .inl (cI, 65, .inl h_s_f)), (h_aside, .inl (cI, 65, .inl h_aside_f)), (h_past, .inl (cI, 260, .inl h_past_f)), (h_snapshot, .inl (cI, 65, .inl h_snapshot_f)), (h_pad, .inl (cI, 80, .inl h_pad_f)), (h_steps, .inl (cI, 320, .inl h_steps_f)), (h_summed, .inl (cI, 81, .inl h_summed_f)), (h_plus, .inl (cI, 81, .inl (upd h_plus_f (0 : Int32).toNatClampNeg (-1)))), (h_parts, .inl (cI, 392, .inl h_parts_f))] H := hP
  have hD : va_D A [(h, .inr (7, [.ref h_s, .ref h_aside, .ref h_past, .int h_pasts, .ref h_snapshot, .int h_isKept, .ref h_pad, .int h_length, .ref h_steps, .int 0, .int h_value, .ref h_summed, .ref h_plus, .ref h_parts])), (h_s, .inl (cI, 65, .inl h_s_f)), (h_aside, .inl (cI, 65, .inl h_aside_f)), (h_past, .inl (cI, 260, .inl h_past_f)), (h_snapshot, .inl (cI, 65, .inl h_snapshot_f)), (h_pad, .inl (cI, 80, .inl h_pad_f)), (h_steps, .inl (cI, 320, .inl h_steps_f)), (h_summed, .inl (cI, 81, .inl h_summed_f)), (h_plus, .inl (cI, 81, .inl (upd h_plus_f (0 : Int32).toNatClampNeg (-1)))), (h_parts, .inl (cI, 392, .inl h_parts_f))] := hD
  refine lv_iconst (v := 0) hx hb dX10_sumFault_16 (by decide) ?_
  refine lv_istore_n (lv' := [(3, .int 0), (2, .int 1), (1, .int 0), (0, .ref h)]) hx hb dX10_sumFault_17 rfl hl (by decide) rfl (fun ls hl => ?_)
  have E_18_158_7 : ∀ (x3_1 : Int32) (x2_2 : Int32) (x1_3 : Int32) (y_4 : Int32) (f_5 : Nat → Int32) (f_6 : Nat → Int32) (f_7 : Nat → Int32) (H : Heap) (locs : List Loc) (ls : Array Slot), (if x2_2 = 0 then (if x1_3 ≤ 0 then (some ((-1), f_5, y_4, (f_6 (0 : Int32).toNatClampNeg), f_6, f_7)) else (some (h_length, f_5, y_4, (f_6 (0 : Int32).toNatClampNeg), f_6, f_7))) else (some (h_length, f_5, y_4, (f_6 (0 : Int32).toNatClampNeg), f_6, f_7))) = some z → va_P D vwCl [(h, .inr (7, [.ref h_s, .ref h_aside, .ref h_past, .int h_pasts, .ref h_snapshot, .int h_isKept, .ref h_pad, .int h_length, .ref h_steps, .int y_4, .int h_value, .ref h_summed, .ref h_plus, .ref h_parts])), (h_s, .inl (cI, 65, .inl h_s_f)), (h_aside, .inl (cI, 65, .inl h_aside_f)), (h_past, .inl (cI, 260, .inl h_past_f)), (h_snapshot, .inl (cI, 65, .inl h_snapshot_f)), (h_pad, .inl (cI, 80, .inl h_pad_f)), (h_steps, .inl (cI, 320, .inl f_5)), (h_summed, .inl (cI, 81, .inl f_6)), (h_plus, .inl (cI, 81, .inl f_7)), (h_parts, .inl (cI, 392, .inl h_parts_f))] H → va_D A [(h, .inr (7, [.ref h_s, .ref h_aside, .ref h_past, .int h_pasts, .ref h_snapshot, .int h_isKept, .ref h_pad, .int h_length, .ref h_steps, .int y_4, .int h_value, .ref h_summed, .ref h_plus, .ref h_parts])), (h_s, .inl (cI, 65, .inl h_s_f)), (h_aside, .inl (cI, 65, .inl h_aside_f)), (h_past, .inl (cI, 260, .inl h_past_f)), (h_snapshot, .inl (cI, 65, .inl h_snapshot_f)), (h_pad, .inl (cI, 80, .inl h_pad_f)), (h_steps, .inl (cI, 320, .inl f_5)), (h_summed, .inl (cI, 81, .inl f_6)), (h_plus, .inl (cI, 81, .inl f_7)), (h_parts, .inl (cI, 392, .inl h_parts_f))] → va_S A s.heap H locs → lv_has ls 4 [(3, .int x3_1), (2, .int x2_2), (1, .int x1_3), (0, .ref h)] → W p l e (headSpec wsX10_sumFault ({ frames := 3, cells := 0, slots := 0, locals := 65 } : Room)).room s m (([.ref h] : List Value).toArray) below meth c H locs 0 0 (MQ below (wQ D (some (.int z.1)) A (fun (u : Unit) => [(h, .inr (7, [.ref h_s, .ref h_aside, .ref h_past, .int h_pasts, .ref h_snapshot, .int h_isKept, .ref h_pad, .int h_length, .ref h_steps, .int z.2.2.1, .int z.2.2.2.1, .ref h_summed, .ref h_plus, .ref h_parts])), (h_s, .inl (cI, 65, .inl h_s_f)), (h_aside, .inl (cI, 65, .inl h_aside_f)), (h_past, .inl (cI, 260, .inl h_past_f)), (h_snapshot, .inl (cI, 65, .inl h_snapshot_f)), (h_pad, .inl (cI, 80, .inl h_pad_f)), (h_steps, .inl (cI, 320, .inl z.2.1)), (h_summed, .inl (cI, 81, .inl z.2.2.2.2.1)), (h_plus, .inl (cI, 81, .inl z.2.2.2.2.2)), (h_parts, .inl (cI, 392, .inl h_parts_f))])) (([.ref h] : List Value).toArray) s 0 0 A) (F0 m 158 ls []) := by
    intro x3_1 x2_2 x1_3 y_4 f_5 f_6 f_7 H locs ls h0 hP hD hS hl
    refine lv_aload_n hx hb dX10_sumFault_158 rfl (lv_at hl 3 rfl) ?_
    refine lv_aload_n hx hb dX10_sumFault_159 rfl (lv_at hl 3 rfl) ?_
    refine va_get (D := D) (ci := 7) (v := .ref h_summed) (C := RX10) (T := TX10) (N := 14) hx hb hts hi_X10 hown hK hP 0 rfl rfl 11 (by decide) hf_28 (fun _ h9 => h9) rfl dX10_sumFault_160 ?_
    refine lv_iconst (v := 0) hx hb dX10_sumFault_163 (by decide) ?_
    refine va_iald hx hb hK hP 7 0 rfl rfl (by unfold vp_in; decide) dX10_sumFault_164 ?_
    refine va_put (D := D) (ci := 7) (v := .int (f_6 (0 : Int32).toNatClampNeg)) (ty := .int) (C := RX10) (T := TX10) (N := 14) hx hb hts hi_X10 tyX10 tyX10_ok nmX10 hown hK hP hD hS 0 rfl rfl 10 (by decide) hf_126 (fun _ h9 => h9) rfl (by decide +kernel) rfl rfl (Nat.le_of_ble_eq_true rfl) dX10_sumFault_165 (fun H locs hP hD hS => ?_)
    have hP : va_P D vwCl [(h, .inr (7, [.ref h_s, .ref h_aside, .ref h_past, .int h_pasts, .ref h_snapshot, .int h_isKept, .ref h_pad, .int h_length, .ref h_steps, .int y_4, .int (f_6 (0 : Int32).toNatClampNeg), .ref h_summed, .ref h_plus, .ref h_parts])), (h_s, .inl (cI, 65, .inl h_s_f)), (h_aside, .inl (cI, 65, .inl h_aside_f)), (h_past, .inl (cI, 260, .inl h_past_f)), (h_snapshot, .inl (cI, 65, .inl h_snapshot_f)), (h_pad, .inl (cI, 80, .inl h_pad_f)), (h_steps, .inl (cI, 320, .inl f_5)), (h_summed, .inl (cI, 81, .inl f_6)), (h_plus, .inl (cI, 81, .inl f_7)), (h_parts, .inl (cI, 392, .inl h_parts_f))] H := hP
    have hD : va_D A [(h, .inr (7, [.ref h_s, .ref h_aside, .ref h_past, .int h_pasts, .ref h_snapshot, .int h_isKept, .ref h_pad, .int h_length, .ref h_steps, .int y_4, .int (f_6 (0 : Int32).toNatClampNeg), .ref h_summed, .ref h_plus, .ref h_parts])), (h_s, .inl (cI, 65, .inl h_s_f)), (h_aside, .inl (cI, 65, .inl h_aside_f)), (h_past, .inl (cI, 260, .inl h_past_f)), (h_snapshot, .inl (cI, 65, .inl h_snapshot_f)), (h_pad, .inl (cI, 80, .inl h_pad_f)), (h_steps, .inl (cI, 320, .inl f_5)), (h_summed, .inl (cI, 81, .inl f_6)), (h_plus, .inl (cI, 81, .inl f_7)), (h_parts, .inl (cI, 392, .inl h_parts_f))] := hD
    refine lv_iload_n hx hb dX10_sumFault_168 rfl (lv_at hl 1 rfl) ?_
    refine lv_if_ne (tgt := 176) hx hb dX10_sumFault_169 (by decide) (fun c9 => ?_) (fun c9 => ?_)
    · have h0 := it_f c9 h0
      refine lv_aload_n hx hb dX10_sumFault_176 rfl (lv_at hl 3 rfl) ?_
      refine va_get (D := D) (ci := 7) (v := .int h_length) (C := RX10) (T := TX10) (N := 14) hx hb hts hi_X10 hown hK hP 0 rfl rfl 7 (by decide) hf_111 (fun _ h9 => h9) rfl dX10_sumFault_177 ?_
      refine lv_goto (tgt := 184) hx hb dX10_sumFault_180 (by decide) ?_
      have e0 := Option.some.inj h0
      subst e0
      exact W.iret (v := h_length) hx hb hr (fun t ht hW => wr_end () ht hP hD hS) hS.2.2 dX10_sumFault_184
    · have h0 := it_t c9 h0
      refine lv_iload_n hx hb dX10_sumFault_172 rfl (lv_at hl 2 rfl) ?_
      refine lv_if_le (tgt := 183) hx hb dX10_sumFault_173 (by decide) (fun c9 => ?_) (fun c9 => ?_)
      · have h0 := it_t c9 h0
        refine lv_iconst (v := (-1)) hx hb dX10_sumFault_183 (by decide) ?_
        have e0 := Option.some.inj h0
        subst e0
        exact W.iret (v := (-1)) hx hb hr (fun t ht hW => wr_end () ht hP hD hS) hS.2.2 dX10_sumFault_184
      · have h0 := it_f c9 h0
        refine lv_aload_n hx hb dX10_sumFault_176 rfl (lv_at hl 3 rfl) ?_
        refine va_get (D := D) (ci := 7) (v := .int h_length) (C := RX10) (T := TX10) (N := 14) hx hb hts hi_X10 hown hK hP 0 rfl rfl 7 (by decide) hf_111 (fun _ h9 => h9) rfl dX10_sumFault_177 ?_
        refine lv_goto (tgt := 184) hx hb dX10_sumFault_180 (by decide) ?_
        have e0 := Option.some.inj h0
        subst e0
        exact W.iret (v := h_length) hx hb hr (fun t ht hW => wr_end () ht hP hD hS) hS.2.2 dX10_sumFault_184
  have L_18_27 : ∀ (F18 : Nat) (x3_9 : Int32) (x2_10 : Int32) (x1_11 : Int32) (y_12 : Int32) (f_13 : Nat → Int32) (f_14 : Nat → Int32) (f_15 : Nat → Int32) (H : Heap) (locs : List Loc) (ls : Array Slot), mX10_sumFault_L18 h_s_f h_pad_f h_length h_value (fun (x3_1 : Int32) (x2_2 : Int32) (x1_3 : Int32) (y_4 : Int32) (f_5 : Nat → Int32) (f_6 : Nat → Int32) (f_7 : Nat → Int32) => if x2_2 = 0 then (if x1_3 ≤ 0 then (some ((-1), f_5, y_4, (f_6 (0 : Int32).toNatClampNeg), f_6, f_7)) else (some (h_length, f_5, y_4, (f_6 (0 : Int32).toNatClampNeg), f_6, f_7))) else (some (h_length, f_5, y_4, (f_6 (0 : Int32).toNatClampNeg), f_6, f_7))) F18 x3_9 x2_10 x1_11 y_12 f_13 f_14 f_15 = some z → va_P D vwCl [(h, .inr (7, [.ref h_s, .ref h_aside, .ref h_past, .int h_pasts, .ref h_snapshot, .int h_isKept, .ref h_pad, .int h_length, .ref h_steps, .int y_12, .int h_value, .ref h_summed, .ref h_plus, .ref h_parts])), (h_s, .inl (cI, 65, .inl h_s_f)), (h_aside, .inl (cI, 65, .inl h_aside_f)), (h_past, .inl (cI, 260, .inl h_past_f)), (h_snapshot, .inl (cI, 65, .inl h_snapshot_f)), (h_pad, .inl (cI, 80, .inl h_pad_f)), (h_steps, .inl (cI, 320, .inl f_13)), (h_summed, .inl (cI, 81, .inl f_14)), (h_plus, .inl (cI, 81, .inl f_15)), (h_parts, .inl (cI, 392, .inl h_parts_f))] H → va_D A [(h, .inr (7, [.ref h_s, .ref h_aside, .ref h_past, .int h_pasts, .ref h_snapshot, .int h_isKept, .ref h_pad, .int h_length, .ref h_steps, .int y_12, .int h_value, .ref h_summed, .ref h_plus, .ref h_parts])), (h_s, .inl (cI, 65, .inl h_s_f)), (h_aside, .inl (cI, 65, .inl h_aside_f)), (h_past, .inl (cI, 260, .inl h_past_f)), (h_snapshot, .inl (cI, 65, .inl h_snapshot_f)), (h_pad, .inl (cI, 80, .inl h_pad_f)), (h_steps, .inl (cI, 320, .inl f_13)), (h_summed, .inl (cI, 81, .inl f_14)), (h_plus, .inl (cI, 81, .inl f_15)), (h_parts, .inl (cI, 392, .inl h_parts_f))] → va_S A s.heap H locs → lv_has ls 4 [(3, .int x3_9), (2, .int x2_10), (1, .int x1_11), (0, .ref h)] → W p l e (headSpec wsX10_sumFault ({ frames := 3, cells := 0, slots := 0, locals := 65 } : Room)).room s m (([.ref h] : List Value).toArray) below meth c H locs 0 0 (MQ below (wQ D (some (.int z.1)) A (fun (u : Unit) => [(h, .inr (7, [.ref h_s, .ref h_aside, .ref h_past, .int h_pasts, .ref h_snapshot, .int h_isKept, .ref h_pad, .int h_length, .ref h_steps, .int z.2.2.1, .int z.2.2.2.1, .ref h_summed, .ref h_plus, .ref h_parts])), (h_s, .inl (cI, 65, .inl h_s_f)), (h_aside, .inl (cI, 65, .inl h_aside_f)), (h_past, .inl (cI, 260, .inl h_past_f)), (h_snapshot, .inl (cI, 65, .inl h_snapshot_f)), (h_pad, .inl (cI, 80, .inl h_pad_f)), (h_steps, .inl (cI, 320, .inl z.2.1)), (h_summed, .inl (cI, 81, .inl z.2.2.2.2.1)), (h_plus, .inl (cI, 81, .inl z.2.2.2.2.2)), (h_parts, .inl (cI, 392, .inl h_parts_f))])) (([.ref h] : List Value).toArray) s 0 0 A) (F0 m 18 ls []) := by
    intro F18
    induction F18 with
    | zero => intro x3_9 x2_10 x1_11 y_12 f_13 f_14 f_15 H locs ls h0 hP hD hS hl; cases h0
    | succ F18 ih18 =>
      intro x3_9 x2_10 x1_11 y_12 f_13 f_14 f_15 H locs ls h0 hP hD hS hl
      rw [mX10_sumFault_L18] at h0
      refine lv_iload_n hx hb dX10_sumFault_18 rfl (lv_at hl 0 rfl) ?_
      refine lv_aload_n hx hb dX10_sumFault_19 rfl (lv_at hl 3 rfl) ?_
      refine va_get (D := D) (ci := 7) (v := .int h_length) (C := RX10) (T := TX10) (N := 14) hx hb hts hi_X10 hown hK hP 0 rfl rfl 7 (by decide) hf_111 (fun _ h9 => h9) rfl dX10_sumFault_20 ?_
      refine lv_icmp_ge (tgt := 158) hx hb dX10_sumFault_23 (by decide) (fun c9 => ?_) (fun c9 => ?_)
      · have h0 := it_t c9 h0
        exact E_18_158_7 x3_9 x2_10 x1_11 y_12 f_13 f_14 f_15 _ _ ls h0 hP hD hS hl
      · have h0 := it_f c9 h0
        refine lv_iload_n hx hb dX10_sumFault_26 rfl (lv_at hl 1 rfl) ?_
        refine lv_if_eq (tgt := 54) hx hb dX10_sumFault_27 (by decide) (fun c9 => ?_) (fun c9 => ?_)
        · have h0 := it_t c9 h0
          refine lv_iload_n hx hb dX10_sumFault_54 rfl (lv_at hl 1 rfl) ?_
          refine lv_if_eq (tgt := 85) hx hb dX10_sumFault_55 (by decide) (fun c9 => ?_) (fun c9 => ?_)
          · have h0 := it_t c9 h0
            refine lv_iload_n hx hb dX10_sumFault_85 rfl (lv_at hl 1 rfl) ?_
            refine lv_if_ne (tgt := 112) hx hb dX10_sumFault_86 (by decide) (fun c9 => ?_) (fun c9 => ?_)
            · have h0 := it_f c9 h0
              refine lv_iload_n hx hb dX10_sumFault_112 rfl (lv_at hl 1 rfl) ?_
              refine lv_if_ne (tgt := 150) hx hb dX10_sumFault_113 (by decide) (fun c9 => ?_) (fun c9 => ?_)
              · have h0 := it_f c9 h0
                refine lv_iload_n hx hb dX10_sumFault_150 rfl (lv_at hl 0 rfl) ?_
                have e0 := Option.some.inj h0
                subst e0
                exact W.iret (v := x3_9) hx hb hr (fun t ht hW => wr_end () ht hP hD hS) hS.2.2 dX10_sumFault_151
              · have h0 := it_t c9 h0
                refine lv_aload_n hx hb dX10_sumFault_116 rfl (lv_at hl 3 rfl) ?_
                refine va_get (D := D) (ci := 7) (v := .ref h_pad) (C := RX10) (T := TX10) (N := 14) hx hb hts hi_X10 hown hK hP 0 rfl rfl 6 (by decide) hf_22 (fun _ h9 => h9) rfl dX10_sumFault_117 ?_
                refine lv_iload_n hx hb dX10_sumFault_120 rfl (lv_at hl 0 rfl) ?_
                obtain ⟨g0, h0⟩ := gd_ok h0
                refine va_iald hx hb hK hP 5 0 rfl rfl (inb_ok g0) dX10_sumFault_121 ?_
                refine lv_bipush (v := 41) hx hb dX10_sumFault_122 (by decide) ?_
                refine lv_icmp_ne (tgt := 150) hx hb dX10_sumFault_124 (by decide) (fun c9 => ?_) (fun c9 => ?_)
                · have h0 := it_f c9 h0
                  refine lv_iload_n hx hb dX10_sumFault_150 rfl (lv_at hl 0 rfl) ?_
                  have e0 := Option.some.inj h0
                  subst e0
                  exact W.iret (v := x3_9) hx hb hr (fun t ht hW => wr_end () ht hP hD hS) hS.2.2 dX10_sumFault_151
                · have h0 := it_t c9 h0
                  refine lv_iload_n hx hb dX10_sumFault_127 rfl (lv_at hl 2 rfl) ?_
                  refine lv_if_le (tgt := 150) hx hb dX10_sumFault_128 (by decide) (fun c9 => ?_) (fun c9 => ?_)
                  · have h0 := it_t c9 h0
                    refine lv_iload_n hx hb dX10_sumFault_150 rfl (lv_at hl 0 rfl) ?_
                    have e0 := Option.some.inj h0
                    subst e0
                    exact W.iret (v := x3_9) hx hb hr (fun t ht hW => wr_end () ht hP hD hS) hS.2.2 dX10_sumFault_151
                  · have h0 := it_f c9 h0
                    refine lv_iinc (v := (x1_11 + (-1))) (lv' := [(1, .int (x1_11 + (-1))), (3, .int x3_9), (2, .int x2_10), (0, .ref h)]) hx hb dX10_sumFault_131 hl (k := 2) rfl rfl (by decide) rfl (fun ls hl => ?_)
                    refine lv_aload_n hx hb dX10_sumFault_134 rfl (lv_at hl 3 rfl) ?_
                    refine lv_iload_n hx hb dX10_sumFault_135 rfl (lv_at hl 0 rfl) ?_
                    refine lv_aload_n hx hb dX10_sumFault_136 rfl (lv_at hl 3 rfl) ?_
                    refine va_get (D := D) (ci := 7) (v := .ref h_summed) (C := RX10) (T := TX10) (N := 14) hx hb hts hi_X10 hown hK hP 0 rfl rfl 11 (by decide) hf_28 (fun _ h9 => h9) rfl dX10_sumFault_137 ?_
                    refine lv_iload_n hx hb dX10_sumFault_140 rfl (lv_at hl 0 rfl) ?_
                    refine lv_iconst (v := 1) hx hb dX10_sumFault_141 (by decide) ?_
                    refine lv_iadd hx hb dX10_sumFault_142 ?_
                    obtain ⟨g0, h0⟩ := gd_ok h0
                    refine va_iald hx hb hK hP 7 0 rfl rfl (inb_ok g0) dX10_sumFault_143 ?_
                    obtain ⟨z_16, hz, h0⟩ := bd_ok h0
                    refine wr_V (As := [.int (x1_11 + (-1)), .int (f_14 (((x1_11 + (-1)) + 1) : Int32).toNatClampNeg)]) (rest := []) (wc := [(h, .inr (7, [.ref h_s, .ref h_aside, .ref h_past, .int h_pasts, .ref h_snapshot, .int h_isKept, .ref h_pad, .int h_length, .ref h_steps, .int y_12, .int h_value, .ref h_summed, .ref h_plus, .ref h_parts])), (h_s, .inl (cI, 65, .inl h_s_f)), (h_aside, .inl (cI, 65, .inl h_aside_f)), (h_past, .inl (cI, 260, .inl h_past_f)), (h_snapshot, .inl (cI, 65, .inl h_snapshot_f)), (h_pad, .inl (cI, 80, .inl h_pad_f)), (h_steps, .inl (cI, 320, .inl f_13)), (h_summed, .inl (cI, 81, .inl f_14)), (h_plus, .inl (cI, 81, .inl f_15)), (h_parts, .inl (cI, 392, .inl h_parts_f))]) (wr := []) hcf (kX10_comes l D cI cC cT h h_s h_aside h_past h_snapshot h_pad h_steps h_summed h_plus h_parts h_s_f h_aside_f h_past_f h_pasts h_snapshot_f h_isKept h_pad_f h_length f_13 y_12 h_value f_14 f_15 h_parts_f (x1_11 + (-1)) (f_14 (((x1_11 + (-1)) + 1) : Int32).toNatClampNeg) _ z_16 hz) (cwV 2 hts gX10_sumFault_X10_comes rfl rfl rfl (by decide +kernel) ⟨Nat.le_of_ble_eq_true rfl, Nat.le_of_ble_eq_true rfl⟩) hE hP hD hS hA [0, 1, 2, 3, 4, 5, 6, 7, 8, 9] [] (hP.sub [0, 1, 2, 3, 4, 5, 6, 7, 8, 9] rfl) (hD.sub [0, 1, 2, 3, 4, 5, 6, 7, 8, 9] (by decide) rfl) (va_recv hK hP (ci := 7) (q0 := 0) rfl rfl) rfl rfl (by decide) (by decide) rfl hl.1 rfl (Nat.le_of_ble_eq_true rfl) dX10_sumFault_144 ⟨Nat.le_of_ble_eq_true rfl, Nat.le_of_ble_eq_true rfl⟩ (fun u H locs hP hD hS => ?_)
                    have hP : va_P D vwCl [(h, .inr (7, [.ref h_s, .ref h_aside, .ref h_past, .int h_pasts, .ref h_snapshot, .int h_isKept, .ref h_pad, .int h_length, .ref h_steps, .int z_16.2.1, .int h_value, .ref h_summed, .ref h_plus, .ref h_parts])), (h_s, .inl (cI, 65, .inl h_s_f)), (h_aside, .inl (cI, 65, .inl h_aside_f)), (h_past, .inl (cI, 260, .inl h_past_f)), (h_snapshot, .inl (cI, 65, .inl h_snapshot_f)), (h_pad, .inl (cI, 80, .inl h_pad_f)), (h_steps, .inl (cI, 320, .inl z_16.1)), (h_summed, .inl (cI, 81, .inl z_16.2.2)), (h_plus, .inl (cI, 81, .inl f_15)), (h_parts, .inl (cI, 392, .inl h_parts_f))] H := hP
                    have hD : va_D A [(h, .inr (7, [.ref h_s, .ref h_aside, .ref h_past, .int h_pasts, .ref h_snapshot, .int h_isKept, .ref h_pad, .int h_length, .ref h_steps, .int z_16.2.1, .int h_value, .ref h_summed, .ref h_plus, .ref h_parts])), (h_s, .inl (cI, 65, .inl h_s_f)), (h_aside, .inl (cI, 65, .inl h_aside_f)), (h_past, .inl (cI, 260, .inl h_past_f)), (h_snapshot, .inl (cI, 65, .inl h_snapshot_f)), (h_pad, .inl (cI, 80, .inl h_pad_f)), (h_steps, .inl (cI, 320, .inl z_16.1)), (h_summed, .inl (cI, 81, .inl z_16.2.2)), (h_plus, .inl (cI, 81, .inl f_15)), (h_parts, .inl (cI, 392, .inl h_parts_f))] := hD
                    refine W.eq (g2 := F0 m 147 ls []) rfl ?_
                    refine lv_goto (tgt := 152) hx hb dX10_sumFault_147 (by decide) ?_
                    refine lv_iinc (v := (x3_9 + 1)) (lv' := [(3, .int (x3_9 + 1)), (1, .int (x1_11 + (-1))), (2, .int x2_10), (0, .ref h)]) hx hb dX10_sumFault_152 hl (k := 1) rfl rfl (by decide) rfl (fun ls hl => ?_)
                    refine lv_goto (tgt := 18) hx hb dX10_sumFault_155 (by decide) ?_
                    exact ih18 (x3_9 + 1) x2_10 (x1_11 + (-1)) z_16.2.1 z_16.1 z_16.2.2 f_15 _ _ ls h0 hP hD hS (lv_sub hl [0, 2, 1, 3] rfl)
            · have h0 := it_t c9 h0
              refine lv_aload_n hx hb dX10_sumFault_89 rfl (lv_at hl 3 rfl) ?_
              refine va_get (D := D) (ci := 7) (v := .ref h_pad) (C := RX10) (T := TX10) (N := 14) hx hb hts hi_X10 hown hK hP 0 rfl rfl 6 (by decide) hf_22 (fun _ h9 => h9) rfl dX10_sumFault_90 ?_
              refine lv_iload_n hx hb dX10_sumFault_93 rfl (lv_at hl 0 rfl) ?_
              obtain ⟨g0, h0⟩ := gd_ok h0
              refine va_iald hx hb hK hP 5 0 rfl rfl (inb_ok g0) dX10_sumFault_94 ?_
              refine lv_bipush (v := 43) hx hb dX10_sumFault_95 (by decide) ?_
              refine lv_icmp_ne (tgt := 112) hx hb dX10_sumFault_97 (by decide) (fun c9 => ?_) (fun c9 => ?_)
              · have h0 := it_f c9 h0
                refine lv_iload_n hx hb dX10_sumFault_112 rfl (lv_at hl 1 rfl) ?_
                refine lv_if_ne (tgt := 150) hx hb dX10_sumFault_113 (by decide) (fun c9 => ?_) (fun c9 => ?_)
                · have h0 := it_f c9 h0
                  refine lv_iload_n hx hb dX10_sumFault_150 rfl (lv_at hl 0 rfl) ?_
                  have e0 := Option.some.inj h0
                  subst e0
                  exact W.iret (v := x3_9) hx hb hr (fun t ht hW => wr_end () ht hP hD hS) hS.2.2 dX10_sumFault_151
                · have h0 := it_t c9 h0
                  refine lv_aload_n hx hb dX10_sumFault_116 rfl (lv_at hl 3 rfl) ?_
                  refine va_get (D := D) (ci := 7) (v := .ref h_pad) (C := RX10) (T := TX10) (N := 14) hx hb hts hi_X10 hown hK hP 0 rfl rfl 6 (by decide) hf_22 (fun _ h9 => h9) rfl dX10_sumFault_117 ?_
                  refine lv_iload_n hx hb dX10_sumFault_120 rfl (lv_at hl 0 rfl) ?_
                  obtain ⟨g0, h0⟩ := gd_ok h0
                  refine va_iald hx hb hK hP 5 0 rfl rfl (inb_ok g0) dX10_sumFault_121 ?_
                  refine lv_bipush (v := 41) hx hb dX10_sumFault_122 (by decide) ?_
                  refine lv_icmp_ne (tgt := 150) hx hb dX10_sumFault_124 (by decide) (fun c9 => ?_) (fun c9 => ?_)
                  · have h0 := it_f c9 h0
                    refine lv_iload_n hx hb dX10_sumFault_150 rfl (lv_at hl 0 rfl) ?_
                    have e0 := Option.some.inj h0
                    subst e0
                    exact W.iret (v := x3_9) hx hb hr (fun t ht hW => wr_end () ht hP hD hS) hS.2.2 dX10_sumFault_151
                  · have h0 := it_t c9 h0
                    refine lv_iload_n hx hb dX10_sumFault_127 rfl (lv_at hl 2 rfl) ?_
                    refine lv_if_le (tgt := 150) hx hb dX10_sumFault_128 (by decide) (fun c9 => ?_) (fun c9 => ?_)
                    · have h0 := it_t c9 h0
                      refine lv_iload_n hx hb dX10_sumFault_150 rfl (lv_at hl 0 rfl) ?_
                      have e0 := Option.some.inj h0
                      subst e0
                      exact W.iret (v := x3_9) hx hb hr (fun t ht hW => wr_end () ht hP hD hS) hS.2.2 dX10_sumFault_151
                    · have h0 := it_f c9 h0
                      refine lv_iinc (v := (x1_11 + (-1))) (lv' := [(1, .int (x1_11 + (-1))), (3, .int x3_9), (2, .int x2_10), (0, .ref h)]) hx hb dX10_sumFault_131 hl (k := 2) rfl rfl (by decide) rfl (fun ls hl => ?_)
                      refine lv_aload_n hx hb dX10_sumFault_134 rfl (lv_at hl 3 rfl) ?_
                      refine lv_iload_n hx hb dX10_sumFault_135 rfl (lv_at hl 0 rfl) ?_
                      refine lv_aload_n hx hb dX10_sumFault_136 rfl (lv_at hl 3 rfl) ?_
                      refine va_get (D := D) (ci := 7) (v := .ref h_summed) (C := RX10) (T := TX10) (N := 14) hx hb hts hi_X10 hown hK hP 0 rfl rfl 11 (by decide) hf_28 (fun _ h9 => h9) rfl dX10_sumFault_137 ?_
                      refine lv_iload_n hx hb dX10_sumFault_140 rfl (lv_at hl 0 rfl) ?_
                      refine lv_iconst (v := 1) hx hb dX10_sumFault_141 (by decide) ?_
                      refine lv_iadd hx hb dX10_sumFault_142 ?_
                      obtain ⟨g0, h0⟩ := gd_ok h0
                      refine va_iald hx hb hK hP 7 0 rfl rfl (inb_ok g0) dX10_sumFault_143 ?_
                      obtain ⟨z_17, hz, h0⟩ := bd_ok h0
                      refine wr_V (As := [.int (x1_11 + (-1)), .int (f_14 (((x1_11 + (-1)) + 1) : Int32).toNatClampNeg)]) (rest := []) (wc := [(h, .inr (7, [.ref h_s, .ref h_aside, .ref h_past, .int h_pasts, .ref h_snapshot, .int h_isKept, .ref h_pad, .int h_length, .ref h_steps, .int y_12, .int h_value, .ref h_summed, .ref h_plus, .ref h_parts])), (h_s, .inl (cI, 65, .inl h_s_f)), (h_aside, .inl (cI, 65, .inl h_aside_f)), (h_past, .inl (cI, 260, .inl h_past_f)), (h_snapshot, .inl (cI, 65, .inl h_snapshot_f)), (h_pad, .inl (cI, 80, .inl h_pad_f)), (h_steps, .inl (cI, 320, .inl f_13)), (h_summed, .inl (cI, 81, .inl f_14)), (h_plus, .inl (cI, 81, .inl f_15)), (h_parts, .inl (cI, 392, .inl h_parts_f))]) (wr := []) hcf (kX10_comes l D cI cC cT h h_s h_aside h_past h_snapshot h_pad h_steps h_summed h_plus h_parts h_s_f h_aside_f h_past_f h_pasts h_snapshot_f h_isKept h_pad_f h_length f_13 y_12 h_value f_14 f_15 h_parts_f (x1_11 + (-1)) (f_14 (((x1_11 + (-1)) + 1) : Int32).toNatClampNeg) _ z_17 hz) (cwV 2 hts gX10_sumFault_X10_comes rfl rfl rfl (by decide +kernel) ⟨Nat.le_of_ble_eq_true rfl, Nat.le_of_ble_eq_true rfl⟩) hE hP hD hS hA [0, 1, 2, 3, 4, 5, 6, 7, 8, 9] [] (hP.sub [0, 1, 2, 3, 4, 5, 6, 7, 8, 9] rfl) (hD.sub [0, 1, 2, 3, 4, 5, 6, 7, 8, 9] (by decide) rfl) (va_recv hK hP (ci := 7) (q0 := 0) rfl rfl) rfl rfl (by decide) (by decide) rfl hl.1 rfl (Nat.le_of_ble_eq_true rfl) dX10_sumFault_144 ⟨Nat.le_of_ble_eq_true rfl, Nat.le_of_ble_eq_true rfl⟩ (fun u H locs hP hD hS => ?_)
                      have hP : va_P D vwCl [(h, .inr (7, [.ref h_s, .ref h_aside, .ref h_past, .int h_pasts, .ref h_snapshot, .int h_isKept, .ref h_pad, .int h_length, .ref h_steps, .int z_17.2.1, .int h_value, .ref h_summed, .ref h_plus, .ref h_parts])), (h_s, .inl (cI, 65, .inl h_s_f)), (h_aside, .inl (cI, 65, .inl h_aside_f)), (h_past, .inl (cI, 260, .inl h_past_f)), (h_snapshot, .inl (cI, 65, .inl h_snapshot_f)), (h_pad, .inl (cI, 80, .inl h_pad_f)), (h_steps, .inl (cI, 320, .inl z_17.1)), (h_summed, .inl (cI, 81, .inl z_17.2.2)), (h_plus, .inl (cI, 81, .inl f_15)), (h_parts, .inl (cI, 392, .inl h_parts_f))] H := hP
                      have hD : va_D A [(h, .inr (7, [.ref h_s, .ref h_aside, .ref h_past, .int h_pasts, .ref h_snapshot, .int h_isKept, .ref h_pad, .int h_length, .ref h_steps, .int z_17.2.1, .int h_value, .ref h_summed, .ref h_plus, .ref h_parts])), (h_s, .inl (cI, 65, .inl h_s_f)), (h_aside, .inl (cI, 65, .inl h_aside_f)), (h_past, .inl (cI, 260, .inl h_past_f)), (h_snapshot, .inl (cI, 65, .inl h_snapshot_f)), (h_pad, .inl (cI, 80, .inl h_pad_f)), (h_steps, .inl (cI, 320, .inl z_17.1)), (h_summed, .inl (cI, 81, .inl z_17.2.2)), (h_plus, .inl (cI, 81, .inl f_15)), (h_parts, .inl (cI, 392, .inl h_parts_f))] := hD
                      refine W.eq (g2 := F0 m 147 ls []) rfl ?_
                      refine lv_goto (tgt := 152) hx hb dX10_sumFault_147 (by decide) ?_
                      refine lv_iinc (v := (x3_9 + 1)) (lv' := [(3, .int (x3_9 + 1)), (1, .int (x1_11 + (-1))), (2, .int x2_10), (0, .ref h)]) hx hb dX10_sumFault_152 hl (k := 1) rfl rfl (by decide) rfl (fun ls hl => ?_)
                      refine lv_goto (tgt := 18) hx hb dX10_sumFault_155 (by decide) ?_
                      exact ih18 (x3_9 + 1) x2_10 (x1_11 + (-1)) z_17.2.1 z_17.1 z_17.2.2 f_15 _ _ ls h0 hP hD hS (lv_sub hl [0, 2, 1, 3] rfl)
              · have h0 := it_t c9 h0
                refine lv_aload_n hx hb dX10_sumFault_100 rfl (lv_at hl 3 rfl) ?_
                refine va_get (D := D) (ci := 7) (v := .ref h_plus) (C := RX10) (T := TX10) (N := 14) hx hb hts hi_X10 hown hK hP 0 rfl rfl 12 (by decide) hf_31 (fun _ h9 => h9) rfl dX10_sumFault_101 ?_
                refine lv_iload_n hx hb dX10_sumFault_104 rfl (lv_at hl 2 rfl) ?_
                refine lv_iload_n hx hb dX10_sumFault_105 rfl (lv_at hl 0 rfl) ?_
                obtain ⟨g0, h0⟩ := gd_ok h0
                refine va_iast hx hb hK hP hD hS 8 0 rfl rfl (inb_ok g0) dX10_sumFault_106 (fun H locs hP hD hS => ?_)
                have hP : va_P D vwCl [(h, .inr (7, [.ref h_s, .ref h_aside, .ref h_past, .int h_pasts, .ref h_snapshot, .int h_isKept, .ref h_pad, .int h_length, .ref h_steps, .int y_12, .int h_value, .ref h_summed, .ref h_plus, .ref h_parts])), (h_s, .inl (cI, 65, .inl h_s_f)), (h_aside, .inl (cI, 65, .inl h_aside_f)), (h_past, .inl (cI, 260, .inl h_past_f)), (h_snapshot, .inl (cI, 65, .inl h_snapshot_f)), (h_pad, .inl (cI, 80, .inl h_pad_f)), (h_steps, .inl (cI, 320, .inl f_13)), (h_summed, .inl (cI, 81, .inl f_14)), (h_plus, .inl (cI, 81, .inl (upd f_15 (x1_11 : Int32).toNatClampNeg x3_9))), (h_parts, .inl (cI, 392, .inl h_parts_f))] H := hP
                have hD : va_D A [(h, .inr (7, [.ref h_s, .ref h_aside, .ref h_past, .int h_pasts, .ref h_snapshot, .int h_isKept, .ref h_pad, .int h_length, .ref h_steps, .int y_12, .int h_value, .ref h_summed, .ref h_plus, .ref h_parts])), (h_s, .inl (cI, 65, .inl h_s_f)), (h_aside, .inl (cI, 65, .inl h_aside_f)), (h_past, .inl (cI, 260, .inl h_past_f)), (h_snapshot, .inl (cI, 65, .inl h_snapshot_f)), (h_pad, .inl (cI, 80, .inl h_pad_f)), (h_steps, .inl (cI, 320, .inl f_13)), (h_summed, .inl (cI, 81, .inl f_14)), (h_plus, .inl (cI, 81, .inl (upd f_15 (x1_11 : Int32).toNatClampNeg x3_9))), (h_parts, .inl (cI, 392, .inl h_parts_f))] := hD
                refine lv_iconst (v := 1) hx hb dX10_sumFault_107 (by decide) ?_
                refine lv_istore_n (lv' := [(2, .int 1), (3, .int x3_9), (1, .int x1_11), (0, .ref h)]) hx hb dX10_sumFault_108 rfl hl (by decide) rfl (fun ls hl => ?_)
                refine lv_goto (tgt := 152) hx hb dX10_sumFault_109 (by decide) ?_
                refine lv_iinc (v := (x3_9 + 1)) (lv' := [(3, .int (x3_9 + 1)), (2, .int 1), (1, .int x1_11), (0, .ref h)]) hx hb dX10_sumFault_152 hl (k := 1) rfl rfl (by decide) rfl (fun ls hl => ?_)
                refine lv_goto (tgt := 18) hx hb dX10_sumFault_155 (by decide) ?_
                exact ih18 (x3_9 + 1) 1 x1_11 y_12 f_13 f_14 (upd f_15 (x1_11 : Int32).toNatClampNeg x3_9) _ _ ls h0 hP hD hS hl
          · have h0 := it_f c9 h0
            refine lv_aload_n hx hb dX10_sumFault_58 rfl (lv_at hl 3 rfl) ?_
            refine lv_iload_n hx hb dX10_sumFault_59 rfl (lv_at hl 0 rfl) ?_
            obtain ⟨z_18, hz, h0⟩ := bd_ok h0
            refine ro_V (As := [.int x3_9]) (rest := []) (wc := [(h, .inr (7, [.ref h_s, .ref h_aside, .ref h_past, .int h_pasts, .ref h_snapshot, .int h_isKept, .ref h_pad, .int h_length, .ref h_steps, .int y_12, .int h_value, .ref h_summed, .ref h_plus, .ref h_parts])), (h_s, .inl (cI, 65, .inl h_s_f)), (h_aside, .inl (cI, 65, .inl h_aside_f)), (h_past, .inl (cI, 260, .inl h_past_f)), (h_snapshot, .inl (cI, 65, .inl h_snapshot_f)), (h_pad, .inl (cI, 80, .inl h_pad_f)), (h_steps, .inl (cI, 320, .inl f_13)), (h_summed, .inl (cI, 81, .inl f_14)), (h_plus, .inl (cI, 81, .inl f_15)), (h_parts, .inl (cI, 392, .inl h_parts_f))]) hcf (kX10_isTokenAt l D cI cC cT h h_s h_aside h_past h_snapshot h_pad h_steps h_summed h_plus h_parts h_s_f h_aside_f h_past_f h_pasts h_snapshot_f h_isKept h_pad_f h_length f_13 y_12 h_value f_14 f_15 h_parts_f x3_9 z_18 hz) (cwV 1 hts gX10_sumFault_X10_isTokenAt rfl rfl rfl (by decide +kernel) ⟨Nat.le_of_ble_eq_true rfl, Nat.le_of_ble_eq_true rfl⟩) hE (hP.sub [0, 1, 2, 3, 4, 5, 6, 7, 8, 9] rfl) (va_recv hK hP (ci := 7) (q0 := 0) rfl rfl) rfl hl.1 rfl (Nat.le_of_ble_eq_true rfl) dX10_sumFault_60 ⟨Nat.le_of_ble_eq_true rfl, Nat.le_of_ble_eq_true rfl⟩ ?_
            refine W.eq (g2 := F0 m 63 ls [.int z_18]) rfl ?_
            refine lv_if_eq (tgt := 85) hx hb dX10_sumFault_63 (by decide) (fun c9 => ?_) (fun c9 => ?_)
            · have h0 := it_t c9 h0
              refine lv_iload_n hx hb dX10_sumFault_85 rfl (lv_at hl 1 rfl) ?_
              refine lv_if_ne (tgt := 112) hx hb dX10_sumFault_86 (by decide) (fun c9 => ?_) (fun c9 => ?_)
              · have h0 := it_f c9 h0
                refine lv_iload_n hx hb dX10_sumFault_112 rfl (lv_at hl 1 rfl) ?_
                refine lv_if_ne (tgt := 150) hx hb dX10_sumFault_113 (by decide) (fun c9 => ?_) (fun c9 => ?_)
                · have h0 := it_f c9 h0
                  refine lv_iload_n hx hb dX10_sumFault_150 rfl (lv_at hl 0 rfl) ?_
                  have e0 := Option.some.inj h0
                  subst e0
                  exact W.iret (v := x3_9) hx hb hr (fun t ht hW => wr_end () ht hP hD hS) hS.2.2 dX10_sumFault_151
                · have h0 := it_t c9 h0
                  refine lv_aload_n hx hb dX10_sumFault_116 rfl (lv_at hl 3 rfl) ?_
                  refine va_get (D := D) (ci := 7) (v := .ref h_pad) (C := RX10) (T := TX10) (N := 14) hx hb hts hi_X10 hown hK hP 0 rfl rfl 6 (by decide) hf_22 (fun _ h9 => h9) rfl dX10_sumFault_117 ?_
                  refine lv_iload_n hx hb dX10_sumFault_120 rfl (lv_at hl 0 rfl) ?_
                  obtain ⟨g0, h0⟩ := gd_ok h0
                  refine va_iald hx hb hK hP 5 0 rfl rfl (inb_ok g0) dX10_sumFault_121 ?_
                  refine lv_bipush (v := 41) hx hb dX10_sumFault_122 (by decide) ?_
                  refine lv_icmp_ne (tgt := 150) hx hb dX10_sumFault_124 (by decide) (fun c9 => ?_) (fun c9 => ?_)
                  · have h0 := it_f c9 h0
                    refine lv_iload_n hx hb dX10_sumFault_150 rfl (lv_at hl 0 rfl) ?_
                    have e0 := Option.some.inj h0
                    subst e0
                    exact W.iret (v := x3_9) hx hb hr (fun t ht hW => wr_end () ht hP hD hS) hS.2.2 dX10_sumFault_151
                  · have h0 := it_t c9 h0
                    refine lv_iload_n hx hb dX10_sumFault_127 rfl (lv_at hl 2 rfl) ?_
                    refine lv_if_le (tgt := 150) hx hb dX10_sumFault_128 (by decide) (fun c9 => ?_) (fun c9 => ?_)
                    · have h0 := it_t c9 h0
                      refine lv_iload_n hx hb dX10_sumFault_150 rfl (lv_at hl 0 rfl) ?_
                      have e0 := Option.some.inj h0
                      subst e0
                      exact W.iret (v := x3_9) hx hb hr (fun t ht hW => wr_end () ht hP hD hS) hS.2.2 dX10_sumFault_151
                    · have h0 := it_f c9 h0
                      refine lv_iinc (v := (x1_11 + (-1))) (lv' := [(1, .int (x1_11 + (-1))), (3, .int x3_9), (2, .int x2_10), (0, .ref h)]) hx hb dX10_sumFault_131 hl (k := 2) rfl rfl (by decide) rfl (fun ls hl => ?_)
                      refine lv_aload_n hx hb dX10_sumFault_134 rfl (lv_at hl 3 rfl) ?_
                      refine lv_iload_n hx hb dX10_sumFault_135 rfl (lv_at hl 0 rfl) ?_
                      refine lv_aload_n hx hb dX10_sumFault_136 rfl (lv_at hl 3 rfl) ?_
                      refine va_get (D := D) (ci := 7) (v := .ref h_summed) (C := RX10) (T := TX10) (N := 14) hx hb hts hi_X10 hown hK hP 0 rfl rfl 11 (by decide) hf_28 (fun _ h9 => h9) rfl dX10_sumFault_137 ?_
                      refine lv_iload_n hx hb dX10_sumFault_140 rfl (lv_at hl 0 rfl) ?_
                      refine lv_iconst (v := 1) hx hb dX10_sumFault_141 (by decide) ?_
                      refine lv_iadd hx hb dX10_sumFault_142 ?_
                      obtain ⟨g0, h0⟩ := gd_ok h0
                      refine va_iald hx hb hK hP 7 0 rfl rfl (inb_ok g0) dX10_sumFault_143 ?_
                      obtain ⟨z_19, hz, h0⟩ := bd_ok h0
                      refine wr_V (As := [.int (x1_11 + (-1)), .int (f_14 (((x1_11 + (-1)) + 1) : Int32).toNatClampNeg)]) (rest := []) (wc := [(h, .inr (7, [.ref h_s, .ref h_aside, .ref h_past, .int h_pasts, .ref h_snapshot, .int h_isKept, .ref h_pad, .int h_length, .ref h_steps, .int y_12, .int h_value, .ref h_summed, .ref h_plus, .ref h_parts])), (h_s, .inl (cI, 65, .inl h_s_f)), (h_aside, .inl (cI, 65, .inl h_aside_f)), (h_past, .inl (cI, 260, .inl h_past_f)), (h_snapshot, .inl (cI, 65, .inl h_snapshot_f)), (h_pad, .inl (cI, 80, .inl h_pad_f)), (h_steps, .inl (cI, 320, .inl f_13)), (h_summed, .inl (cI, 81, .inl f_14)), (h_plus, .inl (cI, 81, .inl f_15)), (h_parts, .inl (cI, 392, .inl h_parts_f))]) (wr := []) hcf (kX10_comes l D cI cC cT h h_s h_aside h_past h_snapshot h_pad h_steps h_summed h_plus h_parts h_s_f h_aside_f h_past_f h_pasts h_snapshot_f h_isKept h_pad_f h_length f_13 y_12 h_value f_14 f_15 h_parts_f (x1_11 + (-1)) (f_14 (((x1_11 + (-1)) + 1) : Int32).toNatClampNeg) _ z_19 hz) (cwV 2 hts gX10_sumFault_X10_comes rfl rfl rfl (by decide +kernel) ⟨Nat.le_of_ble_eq_true rfl, Nat.le_of_ble_eq_true rfl⟩) hE hP hD hS hA [0, 1, 2, 3, 4, 5, 6, 7, 8, 9] [] (hP.sub [0, 1, 2, 3, 4, 5, 6, 7, 8, 9] rfl) (hD.sub [0, 1, 2, 3, 4, 5, 6, 7, 8, 9] (by decide) rfl) (va_recv hK hP (ci := 7) (q0 := 0) rfl rfl) rfl rfl (by decide) (by decide) rfl hl.1 rfl (Nat.le_of_ble_eq_true rfl) dX10_sumFault_144 ⟨Nat.le_of_ble_eq_true rfl, Nat.le_of_ble_eq_true rfl⟩ (fun u H locs hP hD hS => ?_)
                      have hP : va_P D vwCl [(h, .inr (7, [.ref h_s, .ref h_aside, .ref h_past, .int h_pasts, .ref h_snapshot, .int h_isKept, .ref h_pad, .int h_length, .ref h_steps, .int z_19.2.1, .int h_value, .ref h_summed, .ref h_plus, .ref h_parts])), (h_s, .inl (cI, 65, .inl h_s_f)), (h_aside, .inl (cI, 65, .inl h_aside_f)), (h_past, .inl (cI, 260, .inl h_past_f)), (h_snapshot, .inl (cI, 65, .inl h_snapshot_f)), (h_pad, .inl (cI, 80, .inl h_pad_f)), (h_steps, .inl (cI, 320, .inl z_19.1)), (h_summed, .inl (cI, 81, .inl z_19.2.2)), (h_plus, .inl (cI, 81, .inl f_15)), (h_parts, .inl (cI, 392, .inl h_parts_f))] H := hP
                      have hD : va_D A [(h, .inr (7, [.ref h_s, .ref h_aside, .ref h_past, .int h_pasts, .ref h_snapshot, .int h_isKept, .ref h_pad, .int h_length, .ref h_steps, .int z_19.2.1, .int h_value, .ref h_summed, .ref h_plus, .ref h_parts])), (h_s, .inl (cI, 65, .inl h_s_f)), (h_aside, .inl (cI, 65, .inl h_aside_f)), (h_past, .inl (cI, 260, .inl h_past_f)), (h_snapshot, .inl (cI, 65, .inl h_snapshot_f)), (h_pad, .inl (cI, 80, .inl h_pad_f)), (h_steps, .inl (cI, 320, .inl z_19.1)), (h_summed, .inl (cI, 81, .inl z_19.2.2)), (h_plus, .inl (cI, 81, .inl f_15)), (h_parts, .inl (cI, 392, .inl h_parts_f))] := hD
                      refine W.eq (g2 := F0 m 147 ls []) rfl ?_
                      refine lv_goto (tgt := 152) hx hb dX10_sumFault_147 (by decide) ?_
                      refine lv_iinc (v := (x3_9 + 1)) (lv' := [(3, .int (x3_9 + 1)), (1, .int (x1_11 + (-1))), (2, .int x2_10), (0, .ref h)]) hx hb dX10_sumFault_152 hl (k := 1) rfl rfl (by decide) rfl (fun ls hl => ?_)
                      refine lv_goto (tgt := 18) hx hb dX10_sumFault_155 (by decide) ?_
                      exact ih18 (x3_9 + 1) x2_10 (x1_11 + (-1)) z_19.2.1 z_19.1 z_19.2.2 f_15 _ _ ls h0 hP hD hS (lv_sub hl [0, 2, 1, 3] rfl)
              · have h0 := it_t c9 h0
                refine lv_aload_n hx hb dX10_sumFault_89 rfl (lv_at hl 3 rfl) ?_
                refine va_get (D := D) (ci := 7) (v := .ref h_pad) (C := RX10) (T := TX10) (N := 14) hx hb hts hi_X10 hown hK hP 0 rfl rfl 6 (by decide) hf_22 (fun _ h9 => h9) rfl dX10_sumFault_90 ?_
                refine lv_iload_n hx hb dX10_sumFault_93 rfl (lv_at hl 0 rfl) ?_
                obtain ⟨g0, h0⟩ := gd_ok h0
                refine va_iald hx hb hK hP 5 0 rfl rfl (inb_ok g0) dX10_sumFault_94 ?_
                refine lv_bipush (v := 43) hx hb dX10_sumFault_95 (by decide) ?_
                refine lv_icmp_ne (tgt := 112) hx hb dX10_sumFault_97 (by decide) (fun c9 => ?_) (fun c9 => ?_)
                · have h0 := it_f c9 h0
                  refine lv_iload_n hx hb dX10_sumFault_112 rfl (lv_at hl 1 rfl) ?_
                  refine lv_if_ne (tgt := 150) hx hb dX10_sumFault_113 (by decide) (fun c9 => ?_) (fun c9 => ?_)
                  · have h0 := it_f c9 h0
                    refine lv_iload_n hx hb dX10_sumFault_150 rfl (lv_at hl 0 rfl) ?_
                    have e0 := Option.some.inj h0
                    subst e0
                    exact W.iret (v := x3_9) hx hb hr (fun t ht hW => wr_end () ht hP hD hS) hS.2.2 dX10_sumFault_151
                  · have h0 := it_t c9 h0
                    refine lv_aload_n hx hb dX10_sumFault_116 rfl (lv_at hl 3 rfl) ?_
                    refine va_get (D := D) (ci := 7) (v := .ref h_pad) (C := RX10) (T := TX10) (N := 14) hx hb hts hi_X10 hown hK hP 0 rfl rfl 6 (by decide) hf_22 (fun _ h9 => h9) rfl dX10_sumFault_117 ?_
                    refine lv_iload_n hx hb dX10_sumFault_120 rfl (lv_at hl 0 rfl) ?_
                    obtain ⟨g0, h0⟩ := gd_ok h0
                    refine va_iald hx hb hK hP 5 0 rfl rfl (inb_ok g0) dX10_sumFault_121 ?_
                    refine lv_bipush (v := 41) hx hb dX10_sumFault_122 (by decide) ?_
                    refine lv_icmp_ne (tgt := 150) hx hb dX10_sumFault_124 (by decide) (fun c9 => ?_) (fun c9 => ?_)
                    · have h0 := it_f c9 h0
                      refine lv_iload_n hx hb dX10_sumFault_150 rfl (lv_at hl 0 rfl) ?_
                      have e0 := Option.some.inj h0
                      subst e0
                      exact W.iret (v := x3_9) hx hb hr (fun t ht hW => wr_end () ht hP hD hS) hS.2.2 dX10_sumFault_151
                    · have h0 := it_t c9 h0
                      refine lv_iload_n hx hb dX10_sumFault_127 rfl (lv_at hl 2 rfl) ?_
                      refine lv_if_le (tgt := 150) hx hb dX10_sumFault_128 (by decide) (fun c9 => ?_) (fun c9 => ?_)
                      · have h0 := it_t c9 h0
                        refine lv_iload_n hx hb dX10_sumFault_150 rfl (lv_at hl 0 rfl) ?_
                        have e0 := Option.some.inj h0
                        subst e0
                        exact W.iret (v := x3_9) hx hb hr (fun t ht hW => wr_end () ht hP hD hS) hS.2.2 dX10_sumFault_151
                      · have h0 := it_f c9 h0
                        refine lv_iinc (v := (x1_11 + (-1))) (lv' := [(1, .int (x1_11 + (-1))), (3, .int x3_9), (2, .int x2_10), (0, .ref h)]) hx hb dX10_sumFault_131 hl (k := 2) rfl rfl (by decide) rfl (fun ls hl => ?_)
                        refine lv_aload_n hx hb dX10_sumFault_134 rfl (lv_at hl 3 rfl) ?_
                        refine lv_iload_n hx hb dX10_sumFault_135 rfl (lv_at hl 0 rfl) ?_
                        refine lv_aload_n hx hb dX10_sumFault_136 rfl (lv_at hl 3 rfl) ?_
                        refine va_get (D := D) (ci := 7) (v := .ref h_summed) (C := RX10) (T := TX10) (N := 14) hx hb hts hi_X10 hown hK hP 0 rfl rfl 11 (by decide) hf_28 (fun _ h9 => h9) rfl dX10_sumFault_137 ?_
                        refine lv_iload_n hx hb dX10_sumFault_140 rfl (lv_at hl 0 rfl) ?_
                        refine lv_iconst (v := 1) hx hb dX10_sumFault_141 (by decide) ?_
                        refine lv_iadd hx hb dX10_sumFault_142 ?_
                        obtain ⟨g0, h0⟩ := gd_ok h0
                        refine va_iald hx hb hK hP 7 0 rfl rfl (inb_ok g0) dX10_sumFault_143 ?_
                        obtain ⟨z_20, hz, h0⟩ := bd_ok h0
                        refine wr_V (As := [.int (x1_11 + (-1)), .int (f_14 (((x1_11 + (-1)) + 1) : Int32).toNatClampNeg)]) (rest := []) (wc := [(h, .inr (7, [.ref h_s, .ref h_aside, .ref h_past, .int h_pasts, .ref h_snapshot, .int h_isKept, .ref h_pad, .int h_length, .ref h_steps, .int y_12, .int h_value, .ref h_summed, .ref h_plus, .ref h_parts])), (h_s, .inl (cI, 65, .inl h_s_f)), (h_aside, .inl (cI, 65, .inl h_aside_f)), (h_past, .inl (cI, 260, .inl h_past_f)), (h_snapshot, .inl (cI, 65, .inl h_snapshot_f)), (h_pad, .inl (cI, 80, .inl h_pad_f)), (h_steps, .inl (cI, 320, .inl f_13)), (h_summed, .inl (cI, 81, .inl f_14)), (h_plus, .inl (cI, 81, .inl f_15)), (h_parts, .inl (cI, 392, .inl h_parts_f))]) (wr := []) hcf (kX10_comes l D cI cC cT h h_s h_aside h_past h_snapshot h_pad h_steps h_summed h_plus h_parts h_s_f h_aside_f h_past_f h_pasts h_snapshot_f h_isKept h_pad_f h_length f_13 y_12 h_value f_14 f_15 h_parts_f (x1_11 + (-1)) (f_14 (((x1_11 + (-1)) + 1) : Int32).toNatClampNeg) _ z_20 hz) (cwV 2 hts gX10_sumFault_X10_comes rfl rfl rfl (by decide +kernel) ⟨Nat.le_of_ble_eq_true rfl, Nat.le_of_ble_eq_true rfl⟩) hE hP hD hS hA [0, 1, 2, 3, 4, 5, 6, 7, 8, 9] [] (hP.sub [0, 1, 2, 3, 4, 5, 6, 7, 8, 9] rfl) (hD.sub [0, 1, 2, 3, 4, 5, 6, 7, 8, 9] (by decide) rfl) (va_recv hK hP (ci := 7) (q0 := 0) rfl rfl) rfl rfl (by decide) (by decide) rfl hl.1 rfl (Nat.le_of_ble_eq_true rfl) dX10_sumFault_144 ⟨Nat.le_of_ble_eq_true rfl, Nat.le_of_ble_eq_true rfl⟩ (fun u H locs hP hD hS => ?_)
                        have hP : va_P D vwCl [(h, .inr (7, [.ref h_s, .ref h_aside, .ref h_past, .int h_pasts, .ref h_snapshot, .int h_isKept, .ref h_pad, .int h_length, .ref h_steps, .int z_20.2.1, .int h_value, .ref h_summed, .ref h_plus, .ref h_parts])), (h_s, .inl (cI, 65, .inl h_s_f)), (h_aside, .inl (cI, 65, .inl h_aside_f)), (h_past, .inl (cI, 260, .inl h_past_f)), (h_snapshot, .inl (cI, 65, .inl h_snapshot_f)), (h_pad, .inl (cI, 80, .inl h_pad_f)), (h_steps, .inl (cI, 320, .inl z_20.1)), (h_summed, .inl (cI, 81, .inl z_20.2.2)), (h_plus, .inl (cI, 81, .inl f_15)), (h_parts, .inl (cI, 392, .inl h_parts_f))] H := hP
                        have hD : va_D A [(h, .inr (7, [.ref h_s, .ref h_aside, .ref h_past, .int h_pasts, .ref h_snapshot, .int h_isKept, .ref h_pad, .int h_length, .ref h_steps, .int z_20.2.1, .int h_value, .ref h_summed, .ref h_plus, .ref h_parts])), (h_s, .inl (cI, 65, .inl h_s_f)), (h_aside, .inl (cI, 65, .inl h_aside_f)), (h_past, .inl (cI, 260, .inl h_past_f)), (h_snapshot, .inl (cI, 65, .inl h_snapshot_f)), (h_pad, .inl (cI, 80, .inl h_pad_f)), (h_steps, .inl (cI, 320, .inl z_20.1)), (h_summed, .inl (cI, 81, .inl z_20.2.2)), (h_plus, .inl (cI, 81, .inl f_15)), (h_parts, .inl (cI, 392, .inl h_parts_f))] := hD
                        refine W.eq (g2 := F0 m 147 ls []) rfl ?_
                        refine lv_goto (tgt := 152) hx hb dX10_sumFault_147 (by decide) ?_
                        refine lv_iinc (v := (x3_9 + 1)) (lv' := [(3, .int (x3_9 + 1)), (1, .int (x1_11 + (-1))), (2, .int x2_10), (0, .ref h)]) hx hb dX10_sumFault_152 hl (k := 1) rfl rfl (by decide) rfl (fun ls hl => ?_)
                        refine lv_goto (tgt := 18) hx hb dX10_sumFault_155 (by decide) ?_
                        exact ih18 (x3_9 + 1) x2_10 (x1_11 + (-1)) z_20.2.1 z_20.1 z_20.2.2 f_15 _ _ ls h0 hP hD hS (lv_sub hl [0, 2, 1, 3] rfl)
                · have h0 := it_t c9 h0
                  refine lv_aload_n hx hb dX10_sumFault_100 rfl (lv_at hl 3 rfl) ?_
                  refine va_get (D := D) (ci := 7) (v := .ref h_plus) (C := RX10) (T := TX10) (N := 14) hx hb hts hi_X10 hown hK hP 0 rfl rfl 12 (by decide) hf_31 (fun _ h9 => h9) rfl dX10_sumFault_101 ?_
                  refine lv_iload_n hx hb dX10_sumFault_104 rfl (lv_at hl 2 rfl) ?_
                  refine lv_iload_n hx hb dX10_sumFault_105 rfl (lv_at hl 0 rfl) ?_
                  obtain ⟨g0, h0⟩ := gd_ok h0
                  refine va_iast hx hb hK hP hD hS 8 0 rfl rfl (inb_ok g0) dX10_sumFault_106 (fun H locs hP hD hS => ?_)
                  have hP : va_P D vwCl [(h, .inr (7, [.ref h_s, .ref h_aside, .ref h_past, .int h_pasts, .ref h_snapshot, .int h_isKept, .ref h_pad, .int h_length, .ref h_steps, .int y_12, .int h_value, .ref h_summed, .ref h_plus, .ref h_parts])), (h_s, .inl (cI, 65, .inl h_s_f)), (h_aside, .inl (cI, 65, .inl h_aside_f)), (h_past, .inl (cI, 260, .inl h_past_f)), (h_snapshot, .inl (cI, 65, .inl h_snapshot_f)), (h_pad, .inl (cI, 80, .inl h_pad_f)), (h_steps, .inl (cI, 320, .inl f_13)), (h_summed, .inl (cI, 81, .inl f_14)), (h_plus, .inl (cI, 81, .inl (upd f_15 (x1_11 : Int32).toNatClampNeg x3_9))), (h_parts, .inl (cI, 392, .inl h_parts_f))] H := hP
                  have hD : va_D A [(h, .inr (7, [.ref h_s, .ref h_aside, .ref h_past, .int h_pasts, .ref h_snapshot, .int h_isKept, .ref h_pad, .int h_length, .ref h_steps, .int y_12, .int h_value, .ref h_summed, .ref h_plus, .ref h_parts])), (h_s, .inl (cI, 65, .inl h_s_f)), (h_aside, .inl (cI, 65, .inl h_aside_f)), (h_past, .inl (cI, 260, .inl h_past_f)), (h_snapshot, .inl (cI, 65, .inl h_snapshot_f)), (h_pad, .inl (cI, 80, .inl h_pad_f)), (h_steps, .inl (cI, 320, .inl f_13)), (h_summed, .inl (cI, 81, .inl f_14)), (h_plus, .inl (cI, 81, .inl (upd f_15 (x1_11 : Int32).toNatClampNeg x3_9))), (h_parts, .inl (cI, 392, .inl h_parts_f))] := hD
                  refine lv_iconst (v := 1) hx hb dX10_sumFault_107 (by decide) ?_
                  refine lv_istore_n (lv' := [(2, .int 1), (3, .int x3_9), (1, .int x1_11), (0, .ref h)]) hx hb dX10_sumFault_108 rfl hl (by decide) rfl (fun ls hl => ?_)
                  refine lv_goto (tgt := 152) hx hb dX10_sumFault_109 (by decide) ?_
                  refine lv_iinc (v := (x3_9 + 1)) (lv' := [(3, .int (x3_9 + 1)), (2, .int 1), (1, .int x1_11), (0, .ref h)]) hx hb dX10_sumFault_152 hl (k := 1) rfl rfl (by decide) rfl (fun ls hl => ?_)
                  refine lv_goto (tgt := 18) hx hb dX10_sumFault_155 (by decide) ?_
                  exact ih18 (x3_9 + 1) 1 x1_11 y_12 f_13 f_14 (upd f_15 (x1_11 : Int32).toNatClampNeg x3_9) _ _ ls h0 hP hD hS hl
            · have h0 := it_f c9 h0
              refine lv_aload_n hx hb dX10_sumFault_66 rfl (lv_at hl 3 rfl) ?_
              refine lv_iload_n hx hb dX10_sumFault_67 rfl (lv_at hl 2 rfl) ?_
              refine lv_aload_n hx hb dX10_sumFault_68 rfl (lv_at hl 3 rfl) ?_
              refine va_get (D := D) (ci := 7) (v := .ref h_pad) (C := RX10) (T := TX10) (N := 14) hx hb hts hi_X10 hown hK hP 0 rfl rfl 6 (by decide) hf_22 (fun _ h9 => h9) rfl dX10_sumFault_69 ?_
              refine lv_iload_n hx hb dX10_sumFault_72 rfl (lv_at hl 0 rfl) ?_
              obtain ⟨g0, h0⟩ := gd_ok h0
              refine va_iald hx hb hK hP 5 0 rfl rfl (inb_ok g0) dX10_sumFault_73 ?_
              refine lv_bipush (v := 48) hx hb dX10_sumFault_74 (by decide) ?_
              refine lv_isub hx hb dX10_sumFault_76 ?_
              obtain ⟨z_21, hz, h0⟩ := bd_ok h0
              refine wr_V (As := [.int x1_11, .int ((h_pad_f (x3_9 : Int32).toNatClampNeg) - 48)]) (rest := []) (wc := [(h, .inr (7, [.ref h_s, .ref h_aside, .ref h_past, .int h_pasts, .ref h_snapshot, .int h_isKept, .ref h_pad, .int h_length, .ref h_steps, .int y_12, .int h_value, .ref h_summed, .ref h_plus, .ref h_parts])), (h_s, .inl (cI, 65, .inl h_s_f)), (h_aside, .inl (cI, 65, .inl h_aside_f)), (h_past, .inl (cI, 260, .inl h_past_f)), (h_snapshot, .inl (cI, 65, .inl h_snapshot_f)), (h_pad, .inl (cI, 80, .inl h_pad_f)), (h_steps, .inl (cI, 320, .inl f_13)), (h_summed, .inl (cI, 81, .inl f_14)), (h_plus, .inl (cI, 81, .inl f_15)), (h_parts, .inl (cI, 392, .inl h_parts_f))]) (wr := []) hcf (kX10_comes l D cI cC cT h h_s h_aside h_past h_snapshot h_pad h_steps h_summed h_plus h_parts h_s_f h_aside_f h_past_f h_pasts h_snapshot_f h_isKept h_pad_f h_length f_13 y_12 h_value f_14 f_15 h_parts_f x1_11 ((h_pad_f (x3_9 : Int32).toNatClampNeg) - 48) _ z_21 hz) (cwV 2 hts gX10_sumFault_X10_comes rfl rfl rfl (by decide +kernel) ⟨Nat.le_of_ble_eq_true rfl, Nat.le_of_ble_eq_true rfl⟩) hE hP hD hS hA [0, 1, 2, 3, 4, 5, 6, 7, 8, 9] [] (hP.sub [0, 1, 2, 3, 4, 5, 6, 7, 8, 9] rfl) (hD.sub [0, 1, 2, 3, 4, 5, 6, 7, 8, 9] (by decide) rfl) (va_recv hK hP (ci := 7) (q0 := 0) rfl rfl) rfl rfl (by decide) (by decide) rfl hl.1 rfl (Nat.le_of_ble_eq_true rfl) dX10_sumFault_77 ⟨Nat.le_of_ble_eq_true rfl, Nat.le_of_ble_eq_true rfl⟩ (fun u H locs hP hD hS => ?_)
              have hP : va_P D vwCl [(h, .inr (7, [.ref h_s, .ref h_aside, .ref h_past, .int h_pasts, .ref h_snapshot, .int h_isKept, .ref h_pad, .int h_length, .ref h_steps, .int z_21.2.1, .int h_value, .ref h_summed, .ref h_plus, .ref h_parts])), (h_s, .inl (cI, 65, .inl h_s_f)), (h_aside, .inl (cI, 65, .inl h_aside_f)), (h_past, .inl (cI, 260, .inl h_past_f)), (h_snapshot, .inl (cI, 65, .inl h_snapshot_f)), (h_pad, .inl (cI, 80, .inl h_pad_f)), (h_steps, .inl (cI, 320, .inl z_21.1)), (h_summed, .inl (cI, 81, .inl z_21.2.2)), (h_plus, .inl (cI, 81, .inl f_15)), (h_parts, .inl (cI, 392, .inl h_parts_f))] H := hP
              have hD : va_D A [(h, .inr (7, [.ref h_s, .ref h_aside, .ref h_past, .int h_pasts, .ref h_snapshot, .int h_isKept, .ref h_pad, .int h_length, .ref h_steps, .int z_21.2.1, .int h_value, .ref h_summed, .ref h_plus, .ref h_parts])), (h_s, .inl (cI, 65, .inl h_s_f)), (h_aside, .inl (cI, 65, .inl h_aside_f)), (h_past, .inl (cI, 260, .inl h_past_f)), (h_snapshot, .inl (cI, 65, .inl h_snapshot_f)), (h_pad, .inl (cI, 80, .inl h_pad_f)), (h_steps, .inl (cI, 320, .inl z_21.1)), (h_summed, .inl (cI, 81, .inl z_21.2.2)), (h_plus, .inl (cI, 81, .inl f_15)), (h_parts, .inl (cI, 392, .inl h_parts_f))] := hD
              refine W.eq (g2 := F0 m 80 ls []) rfl ?_
              refine lv_iconst (v := 0) hx hb dX10_sumFault_80 (by decide) ?_
              refine lv_istore_n (lv' := [(2, .int 0), (3, .int x3_9), (1, .int x1_11), (0, .ref h)]) hx hb dX10_sumFault_81 rfl hl (by decide) rfl (fun ls hl => ?_)
              refine lv_goto (tgt := 152) hx hb dX10_sumFault_82 (by decide) ?_
              refine lv_iinc (v := (x3_9 + 1)) (lv' := [(3, .int (x3_9 + 1)), (2, .int 0), (1, .int x1_11), (0, .ref h)]) hx hb dX10_sumFault_152 hl (k := 1) rfl rfl (by decide) rfl (fun ls hl => ?_)
              refine lv_goto (tgt := 18) hx hb dX10_sumFault_155 (by decide) ?_
              exact ih18 (x3_9 + 1) 0 x1_11 z_21.2.1 z_21.1 z_21.2.2 f_15 _ _ ls h0 hP hD hS hl
        · have h0 := it_f c9 h0
          refine lv_aload_n hx hb dX10_sumFault_30 rfl (lv_at hl 3 rfl) ?_
          refine va_get (D := D) (ci := 7) (v := .ref h_pad) (C := RX10) (T := TX10) (N := 14) hx hb hts hi_X10 hown hK hP 0 rfl rfl 6 (by decide) hf_22 (fun _ h9 => h9) rfl dX10_sumFault_31 ?_
          refine lv_iload_n hx hb dX10_sumFault_34 rfl (lv_at hl 0 rfl) ?_
          obtain ⟨g0, h0⟩ := gd_ok h0
          refine va_iald hx hb hK hP 5 0 rfl rfl (inb_ok g0) dX10_sumFault_35 ?_
          refine lv_bipush (v := 40) hx hb dX10_sumFault_36 (by decide) ?_
          refine lv_icmp_ne (tgt := 54) hx hb dX10_sumFault_38 (by decide) (fun c9 => ?_) (fun c9 => ?_)
          · have h0 := it_f c9 h0
            refine lv_iload_n hx hb dX10_sumFault_54 rfl (lv_at hl 1 rfl) ?_
            refine lv_if_eq (tgt := 85) hx hb dX10_sumFault_55 (by decide) (fun c9 => ?_) (fun c9 => ?_)
            · have h0 := it_t c9 h0
              refine lv_iload_n hx hb dX10_sumFault_85 rfl (lv_at hl 1 rfl) ?_
              refine lv_if_ne (tgt := 112) hx hb dX10_sumFault_86 (by decide) (fun c9 => ?_) (fun c9 => ?_)
              · have h0 := it_f c9 h0
                refine lv_iload_n hx hb dX10_sumFault_112 rfl (lv_at hl 1 rfl) ?_
                refine lv_if_ne (tgt := 150) hx hb dX10_sumFault_113 (by decide) (fun c9 => ?_) (fun c9 => ?_)
                · have h0 := it_f c9 h0
                  refine lv_iload_n hx hb dX10_sumFault_150 rfl (lv_at hl 0 rfl) ?_
                  have e0 := Option.some.inj h0
                  subst e0
                  exact W.iret (v := x3_9) hx hb hr (fun t ht hW => wr_end () ht hP hD hS) hS.2.2 dX10_sumFault_151
                · have h0 := it_t c9 h0
                  refine lv_aload_n hx hb dX10_sumFault_116 rfl (lv_at hl 3 rfl) ?_
                  refine va_get (D := D) (ci := 7) (v := .ref h_pad) (C := RX10) (T := TX10) (N := 14) hx hb hts hi_X10 hown hK hP 0 rfl rfl 6 (by decide) hf_22 (fun _ h9 => h9) rfl dX10_sumFault_117 ?_
                  refine lv_iload_n hx hb dX10_sumFault_120 rfl (lv_at hl 0 rfl) ?_
                  obtain ⟨g0, h0⟩ := gd_ok h0
                  refine va_iald hx hb hK hP 5 0 rfl rfl (inb_ok g0) dX10_sumFault_121 ?_
                  refine lv_bipush (v := 41) hx hb dX10_sumFault_122 (by decide) ?_
                  refine lv_icmp_ne (tgt := 150) hx hb dX10_sumFault_124 (by decide) (fun c9 => ?_) (fun c9 => ?_)
                  · have h0 := it_f c9 h0
                    refine lv_iload_n hx hb dX10_sumFault_150 rfl (lv_at hl 0 rfl) ?_
                    have e0 := Option.some.inj h0
                    subst e0
                    exact W.iret (v := x3_9) hx hb hr (fun t ht hW => wr_end () ht hP hD hS) hS.2.2 dX10_sumFault_151
                  · have h0 := it_t c9 h0
                    refine lv_iload_n hx hb dX10_sumFault_127 rfl (lv_at hl 2 rfl) ?_
                    refine lv_if_le (tgt := 150) hx hb dX10_sumFault_128 (by decide) (fun c9 => ?_) (fun c9 => ?_)
                    · have h0 := it_t c9 h0
                      refine lv_iload_n hx hb dX10_sumFault_150 rfl (lv_at hl 0 rfl) ?_
                      have e0 := Option.some.inj h0
                      subst e0
                      exact W.iret (v := x3_9) hx hb hr (fun t ht hW => wr_end () ht hP hD hS) hS.2.2 dX10_sumFault_151
                    · have h0 := it_f c9 h0
                      refine lv_iinc (v := (x1_11 + (-1))) (lv' := [(1, .int (x1_11 + (-1))), (3, .int x3_9), (2, .int x2_10), (0, .ref h)]) hx hb dX10_sumFault_131 hl (k := 2) rfl rfl (by decide) rfl (fun ls hl => ?_)
                      refine lv_aload_n hx hb dX10_sumFault_134 rfl (lv_at hl 3 rfl) ?_
                      refine lv_iload_n hx hb dX10_sumFault_135 rfl (lv_at hl 0 rfl) ?_
                      refine lv_aload_n hx hb dX10_sumFault_136 rfl (lv_at hl 3 rfl) ?_
                      refine va_get (D := D) (ci := 7) (v := .ref h_summed) (C := RX10) (T := TX10) (N := 14) hx hb hts hi_X10 hown hK hP 0 rfl rfl 11 (by decide) hf_28 (fun _ h9 => h9) rfl dX10_sumFault_137 ?_
                      refine lv_iload_n hx hb dX10_sumFault_140 rfl (lv_at hl 0 rfl) ?_
                      refine lv_iconst (v := 1) hx hb dX10_sumFault_141 (by decide) ?_
                      refine lv_iadd hx hb dX10_sumFault_142 ?_
                      obtain ⟨g0, h0⟩ := gd_ok h0
                      refine va_iald hx hb hK hP 7 0 rfl rfl (inb_ok g0) dX10_sumFault_143 ?_
                      obtain ⟨z_22, hz, h0⟩ := bd_ok h0
                      refine wr_V (As := [.int (x1_11 + (-1)), .int (f_14 (((x1_11 + (-1)) + 1) : Int32).toNatClampNeg)]) (rest := []) (wc := [(h, .inr (7, [.ref h_s, .ref h_aside, .ref h_past, .int h_pasts, .ref h_snapshot, .int h_isKept, .ref h_pad, .int h_length, .ref h_steps, .int y_12, .int h_value, .ref h_summed, .ref h_plus, .ref h_parts])), (h_s, .inl (cI, 65, .inl h_s_f)), (h_aside, .inl (cI, 65, .inl h_aside_f)), (h_past, .inl (cI, 260, .inl h_past_f)), (h_snapshot, .inl (cI, 65, .inl h_snapshot_f)), (h_pad, .inl (cI, 80, .inl h_pad_f)), (h_steps, .inl (cI, 320, .inl f_13)), (h_summed, .inl (cI, 81, .inl f_14)), (h_plus, .inl (cI, 81, .inl f_15)), (h_parts, .inl (cI, 392, .inl h_parts_f))]) (wr := []) hcf (kX10_comes l D cI cC cT h h_s h_aside h_past h_snapshot h_pad h_steps h_summed h_plus h_parts h_s_f h_aside_f h_past_f h_pasts h_snapshot_f h_isKept h_pad_f h_length f_13 y_12 h_value f_14 f_15 h_parts_f (x1_11 + (-1)) (f_14 (((x1_11 + (-1)) + 1) : Int32).toNatClampNeg) _ z_22 hz) (cwV 2 hts gX10_sumFault_X10_comes rfl rfl rfl (by decide +kernel) ⟨Nat.le_of_ble_eq_true rfl, Nat.le_of_ble_eq_true rfl⟩) hE hP hD hS hA [0, 1, 2, 3, 4, 5, 6, 7, 8, 9] [] (hP.sub [0, 1, 2, 3, 4, 5, 6, 7, 8, 9] rfl) (hD.sub [0, 1, 2, 3, 4, 5, 6, 7, 8, 9] (by decide) rfl) (va_recv hK hP (ci := 7) (q0 := 0) rfl rfl) rfl rfl (by decide) (by decide) rfl hl.1 rfl (Nat.le_of_ble_eq_true rfl) dX10_sumFault_144 ⟨Nat.le_of_ble_eq_true rfl, Nat.le_of_ble_eq_true rfl⟩ (fun u H locs hP hD hS => ?_)
                      have hP : va_P D vwCl [(h, .inr (7, [.ref h_s, .ref h_aside, .ref h_past, .int h_pasts, .ref h_snapshot, .int h_isKept, .ref h_pad, .int h_length, .ref h_steps, .int z_22.2.1, .int h_value, .ref h_summed, .ref h_plus, .ref h_parts])), (h_s, .inl (cI, 65, .inl h_s_f)), (h_aside, .inl (cI, 65, .inl h_aside_f)), (h_past, .inl (cI, 260, .inl h_past_f)), (h_snapshot, .inl (cI, 65, .inl h_snapshot_f)), (h_pad, .inl (cI, 80, .inl h_pad_f)), (h_steps, .inl (cI, 320, .inl z_22.1)), (h_summed, .inl (cI, 81, .inl z_22.2.2)), (h_plus, .inl (cI, 81, .inl f_15)), (h_parts, .inl (cI, 392, .inl h_parts_f))] H := hP
                      have hD : va_D A [(h, .inr (7, [.ref h_s, .ref h_aside, .ref h_past, .int h_pasts, .ref h_snapshot, .int h_isKept, .ref h_pad, .int h_length, .ref h_steps, .int z_22.2.1, .int h_value, .ref h_summed, .ref h_plus, .ref h_parts])), (h_s, .inl (cI, 65, .inl h_s_f)), (h_aside, .inl (cI, 65, .inl h_aside_f)), (h_past, .inl (cI, 260, .inl h_past_f)), (h_snapshot, .inl (cI, 65, .inl h_snapshot_f)), (h_pad, .inl (cI, 80, .inl h_pad_f)), (h_steps, .inl (cI, 320, .inl z_22.1)), (h_summed, .inl (cI, 81, .inl z_22.2.2)), (h_plus, .inl (cI, 81, .inl f_15)), (h_parts, .inl (cI, 392, .inl h_parts_f))] := hD
                      refine W.eq (g2 := F0 m 147 ls []) rfl ?_
                      refine lv_goto (tgt := 152) hx hb dX10_sumFault_147 (by decide) ?_
                      refine lv_iinc (v := (x3_9 + 1)) (lv' := [(3, .int (x3_9 + 1)), (1, .int (x1_11 + (-1))), (2, .int x2_10), (0, .ref h)]) hx hb dX10_sumFault_152 hl (k := 1) rfl rfl (by decide) rfl (fun ls hl => ?_)
                      refine lv_goto (tgt := 18) hx hb dX10_sumFault_155 (by decide) ?_
                      exact ih18 (x3_9 + 1) x2_10 (x1_11 + (-1)) z_22.2.1 z_22.1 z_22.2.2 f_15 _ _ ls h0 hP hD hS (lv_sub hl [0, 2, 1, 3] rfl)
              · have h0 := it_t c9 h0
                refine lv_aload_n hx hb dX10_sumFault_89 rfl (lv_at hl 3 rfl) ?_
                refine va_get (D := D) (ci := 7) (v := .ref h_pad) (C := RX10) (T := TX10) (N := 14) hx hb hts hi_X10 hown hK hP 0 rfl rfl 6 (by decide) hf_22 (fun _ h9 => h9) rfl dX10_sumFault_90 ?_
                refine lv_iload_n hx hb dX10_sumFault_93 rfl (lv_at hl 0 rfl) ?_
                obtain ⟨g0, h0⟩ := gd_ok h0
                refine va_iald hx hb hK hP 5 0 rfl rfl (inb_ok g0) dX10_sumFault_94 ?_
                refine lv_bipush (v := 43) hx hb dX10_sumFault_95 (by decide) ?_
                refine lv_icmp_ne (tgt := 112) hx hb dX10_sumFault_97 (by decide) (fun c9 => ?_) (fun c9 => ?_)
                · have h0 := it_f c9 h0
                  refine lv_iload_n hx hb dX10_sumFault_112 rfl (lv_at hl 1 rfl) ?_
                  refine lv_if_ne (tgt := 150) hx hb dX10_sumFault_113 (by decide) (fun c9 => ?_) (fun c9 => ?_)
                  · have h0 := it_f c9 h0
                    refine lv_iload_n hx hb dX10_sumFault_150 rfl (lv_at hl 0 rfl) ?_
                    have e0 := Option.some.inj h0
                    subst e0
                    exact W.iret (v := x3_9) hx hb hr (fun t ht hW => wr_end () ht hP hD hS) hS.2.2 dX10_sumFault_151
                  · have h0 := it_t c9 h0
                    refine lv_aload_n hx hb dX10_sumFault_116 rfl (lv_at hl 3 rfl) ?_
                    refine va_get (D := D) (ci := 7) (v := .ref h_pad) (C := RX10) (T := TX10) (N := 14) hx hb hts hi_X10 hown hK hP 0 rfl rfl 6 (by decide) hf_22 (fun _ h9 => h9) rfl dX10_sumFault_117 ?_
                    refine lv_iload_n hx hb dX10_sumFault_120 rfl (lv_at hl 0 rfl) ?_
                    obtain ⟨g0, h0⟩ := gd_ok h0
                    refine va_iald hx hb hK hP 5 0 rfl rfl (inb_ok g0) dX10_sumFault_121 ?_
                    refine lv_bipush (v := 41) hx hb dX10_sumFault_122 (by decide) ?_
                    refine lv_icmp_ne (tgt := 150) hx hb dX10_sumFault_124 (by decide) (fun c9 => ?_) (fun c9 => ?_)
                    · have h0 := it_f c9 h0
                      refine lv_iload_n hx hb dX10_sumFault_150 rfl (lv_at hl 0 rfl) ?_
                      have e0 := Option.some.inj h0
                      subst e0
                      exact W.iret (v := x3_9) hx hb hr (fun t ht hW => wr_end () ht hP hD hS) hS.2.2 dX10_sumFault_151
                    · have h0 := it_t c9 h0
                      refine lv_iload_n hx hb dX10_sumFault_127 rfl (lv_at hl 2 rfl) ?_
                      refine lv_if_le (tgt := 150) hx hb dX10_sumFault_128 (by decide) (fun c9 => ?_) (fun c9 => ?_)
                      · have h0 := it_t c9 h0
                        refine lv_iload_n hx hb dX10_sumFault_150 rfl (lv_at hl 0 rfl) ?_
                        have e0 := Option.some.inj h0
                        subst e0
                        exact W.iret (v := x3_9) hx hb hr (fun t ht hW => wr_end () ht hP hD hS) hS.2.2 dX10_sumFault_151
                      · have h0 := it_f c9 h0
                        refine lv_iinc (v := (x1_11 + (-1))) (lv' := [(1, .int (x1_11 + (-1))), (3, .int x3_9), (2, .int x2_10), (0, .ref h)]) hx hb dX10_sumFault_131 hl (k := 2) rfl rfl (by decide) rfl (fun ls hl => ?_)
                        refine lv_aload_n hx hb dX10_sumFault_134 rfl (lv_at hl 3 rfl) ?_
                        refine lv_iload_n hx hb dX10_sumFault_135 rfl (lv_at hl 0 rfl) ?_
                        refine lv_aload_n hx hb dX10_sumFault_136 rfl (lv_at hl 3 rfl) ?_
                        refine va_get (D := D) (ci := 7) (v := .ref h_summed) (C := RX10) (T := TX10) (N := 14) hx hb hts hi_X10 hown hK hP 0 rfl rfl 11 (by decide) hf_28 (fun _ h9 => h9) rfl dX10_sumFault_137 ?_
                        refine lv_iload_n hx hb dX10_sumFault_140 rfl (lv_at hl 0 rfl) ?_
                        refine lv_iconst (v := 1) hx hb dX10_sumFault_141 (by decide) ?_
                        refine lv_iadd hx hb dX10_sumFault_142 ?_
                        obtain ⟨g0, h0⟩ := gd_ok h0
                        refine va_iald hx hb hK hP 7 0 rfl rfl (inb_ok g0) dX10_sumFault_143 ?_
                        obtain ⟨z_23, hz, h0⟩ := bd_ok h0
                        refine wr_V (As := [.int (x1_11 + (-1)), .int (f_14 (((x1_11 + (-1)) + 1) : Int32).toNatClampNeg)]) (rest := []) (wc := [(h, .inr (7, [.ref h_s, .ref h_aside, .ref h_past, .int h_pasts, .ref h_snapshot, .int h_isKept, .ref h_pad, .int h_length, .ref h_steps, .int y_12, .int h_value, .ref h_summed, .ref h_plus, .ref h_parts])), (h_s, .inl (cI, 65, .inl h_s_f)), (h_aside, .inl (cI, 65, .inl h_aside_f)), (h_past, .inl (cI, 260, .inl h_past_f)), (h_snapshot, .inl (cI, 65, .inl h_snapshot_f)), (h_pad, .inl (cI, 80, .inl h_pad_f)), (h_steps, .inl (cI, 320, .inl f_13)), (h_summed, .inl (cI, 81, .inl f_14)), (h_plus, .inl (cI, 81, .inl f_15)), (h_parts, .inl (cI, 392, .inl h_parts_f))]) (wr := []) hcf (kX10_comes l D cI cC cT h h_s h_aside h_past h_snapshot h_pad h_steps h_summed h_plus h_parts h_s_f h_aside_f h_past_f h_pasts h_snapshot_f h_isKept h_pad_f h_length f_13 y_12 h_value f_14 f_15 h_parts_f (x1_11 + (-1)) (f_14 (((x1_11 + (-1)) + 1) : Int32).toNatClampNeg) _ z_23 hz) (cwV 2 hts gX10_sumFault_X10_comes rfl rfl rfl (by decide +kernel) ⟨Nat.le_of_ble_eq_true rfl, Nat.le_of_ble_eq_true rfl⟩) hE hP hD hS hA [0, 1, 2, 3, 4, 5, 6, 7, 8, 9] [] (hP.sub [0, 1, 2, 3, 4, 5, 6, 7, 8, 9] rfl) (hD.sub [0, 1, 2, 3, 4, 5, 6, 7, 8, 9] (by decide) rfl) (va_recv hK hP (ci := 7) (q0 := 0) rfl rfl) rfl rfl (by decide) (by decide) rfl hl.1 rfl (Nat.le_of_ble_eq_true rfl) dX10_sumFault_144 ⟨Nat.le_of_ble_eq_true rfl, Nat.le_of_ble_eq_true rfl⟩ (fun u H locs hP hD hS => ?_)
                        have hP : va_P D vwCl [(h, .inr (7, [.ref h_s, .ref h_aside, .ref h_past, .int h_pasts, .ref h_snapshot, .int h_isKept, .ref h_pad, .int h_length, .ref h_steps, .int z_23.2.1, .int h_value, .ref h_summed, .ref h_plus, .ref h_parts])), (h_s, .inl (cI, 65, .inl h_s_f)), (h_aside, .inl (cI, 65, .inl h_aside_f)), (h_past, .inl (cI, 260, .inl h_past_f)), (h_snapshot, .inl (cI, 65, .inl h_snapshot_f)), (h_pad, .inl (cI, 80, .inl h_pad_f)), (h_steps, .inl (cI, 320, .inl z_23.1)), (h_summed, .inl (cI, 81, .inl z_23.2.2)), (h_plus, .inl (cI, 81, .inl f_15)), (h_parts, .inl (cI, 392, .inl h_parts_f))] H := hP
                        have hD : va_D A [(h, .inr (7, [.ref h_s, .ref h_aside, .ref h_past, .int h_pasts, .ref h_snapshot, .int h_isKept, .ref h_pad, .int h_length, .ref h_steps, .int z_23.2.1, .int h_value, .ref h_summed, .ref h_plus, .ref h_parts])), (h_s, .inl (cI, 65, .inl h_s_f)), (h_aside, .inl (cI, 65, .inl h_aside_f)), (h_past, .inl (cI, 260, .inl h_past_f)), (h_snapshot, .inl (cI, 65, .inl h_snapshot_f)), (h_pad, .inl (cI, 80, .inl h_pad_f)), (h_steps, .inl (cI, 320, .inl z_23.1)), (h_summed, .inl (cI, 81, .inl z_23.2.2)), (h_plus, .inl (cI, 81, .inl f_15)), (h_parts, .inl (cI, 392, .inl h_parts_f))] := hD
                        refine W.eq (g2 := F0 m 147 ls []) rfl ?_
                        refine lv_goto (tgt := 152) hx hb dX10_sumFault_147 (by decide) ?_
                        refine lv_iinc (v := (x3_9 + 1)) (lv' := [(3, .int (x3_9 + 1)), (1, .int (x1_11 + (-1))), (2, .int x2_10), (0, .ref h)]) hx hb dX10_sumFault_152 hl (k := 1) rfl rfl (by decide) rfl (fun ls hl => ?_)
                        refine lv_goto (tgt := 18) hx hb dX10_sumFault_155 (by decide) ?_
                        exact ih18 (x3_9 + 1) x2_10 (x1_11 + (-1)) z_23.2.1 z_23.1 z_23.2.2 f_15 _ _ ls h0 hP hD hS (lv_sub hl [0, 2, 1, 3] rfl)
                · have h0 := it_t c9 h0
                  refine lv_aload_n hx hb dX10_sumFault_100 rfl (lv_at hl 3 rfl) ?_
                  refine va_get (D := D) (ci := 7) (v := .ref h_plus) (C := RX10) (T := TX10) (N := 14) hx hb hts hi_X10 hown hK hP 0 rfl rfl 12 (by decide) hf_31 (fun _ h9 => h9) rfl dX10_sumFault_101 ?_
                  refine lv_iload_n hx hb dX10_sumFault_104 rfl (lv_at hl 2 rfl) ?_
                  refine lv_iload_n hx hb dX10_sumFault_105 rfl (lv_at hl 0 rfl) ?_
                  obtain ⟨g0, h0⟩ := gd_ok h0
                  refine va_iast hx hb hK hP hD hS 8 0 rfl rfl (inb_ok g0) dX10_sumFault_106 (fun H locs hP hD hS => ?_)
                  have hP : va_P D vwCl [(h, .inr (7, [.ref h_s, .ref h_aside, .ref h_past, .int h_pasts, .ref h_snapshot, .int h_isKept, .ref h_pad, .int h_length, .ref h_steps, .int y_12, .int h_value, .ref h_summed, .ref h_plus, .ref h_parts])), (h_s, .inl (cI, 65, .inl h_s_f)), (h_aside, .inl (cI, 65, .inl h_aside_f)), (h_past, .inl (cI, 260, .inl h_past_f)), (h_snapshot, .inl (cI, 65, .inl h_snapshot_f)), (h_pad, .inl (cI, 80, .inl h_pad_f)), (h_steps, .inl (cI, 320, .inl f_13)), (h_summed, .inl (cI, 81, .inl f_14)), (h_plus, .inl (cI, 81, .inl (upd f_15 (x1_11 : Int32).toNatClampNeg x3_9))), (h_parts, .inl (cI, 392, .inl h_parts_f))] H := hP
                  have hD : va_D A [(h, .inr (7, [.ref h_s, .ref h_aside, .ref h_past, .int h_pasts, .ref h_snapshot, .int h_isKept, .ref h_pad, .int h_length, .ref h_steps, .int y_12, .int h_value, .ref h_summed, .ref h_plus, .ref h_parts])), (h_s, .inl (cI, 65, .inl h_s_f)), (h_aside, .inl (cI, 65, .inl h_aside_f)), (h_past, .inl (cI, 260, .inl h_past_f)), (h_snapshot, .inl (cI, 65, .inl h_snapshot_f)), (h_pad, .inl (cI, 80, .inl h_pad_f)), (h_steps, .inl (cI, 320, .inl f_13)), (h_summed, .inl (cI, 81, .inl f_14)), (h_plus, .inl (cI, 81, .inl (upd f_15 (x1_11 : Int32).toNatClampNeg x3_9))), (h_parts, .inl (cI, 392, .inl h_parts_f))] := hD
                  refine lv_iconst (v := 1) hx hb dX10_sumFault_107 (by decide) ?_
                  refine lv_istore_n (lv' := [(2, .int 1), (3, .int x3_9), (1, .int x1_11), (0, .ref h)]) hx hb dX10_sumFault_108 rfl hl (by decide) rfl (fun ls hl => ?_)
                  refine lv_goto (tgt := 152) hx hb dX10_sumFault_109 (by decide) ?_
                  refine lv_iinc (v := (x3_9 + 1)) (lv' := [(3, .int (x3_9 + 1)), (2, .int 1), (1, .int x1_11), (0, .ref h)]) hx hb dX10_sumFault_152 hl (k := 1) rfl rfl (by decide) rfl (fun ls hl => ?_)
                  refine lv_goto (tgt := 18) hx hb dX10_sumFault_155 (by decide) ?_
                  exact ih18 (x3_9 + 1) 1 x1_11 y_12 f_13 f_14 (upd f_15 (x1_11 : Int32).toNatClampNeg x3_9) _ _ ls h0 hP hD hS hl
            · have h0 := it_f c9 h0
              refine lv_aload_n hx hb dX10_sumFault_58 rfl (lv_at hl 3 rfl) ?_
              refine lv_iload_n hx hb dX10_sumFault_59 rfl (lv_at hl 0 rfl) ?_
              obtain ⟨z_24, hz, h0⟩ := bd_ok h0
              refine ro_V (As := [.int x3_9]) (rest := []) (wc := [(h, .inr (7, [.ref h_s, .ref h_aside, .ref h_past, .int h_pasts, .ref h_snapshot, .int h_isKept, .ref h_pad, .int h_length, .ref h_steps, .int y_12, .int h_value, .ref h_summed, .ref h_plus, .ref h_parts])), (h_s, .inl (cI, 65, .inl h_s_f)), (h_aside, .inl (cI, 65, .inl h_aside_f)), (h_past, .inl (cI, 260, .inl h_past_f)), (h_snapshot, .inl (cI, 65, .inl h_snapshot_f)), (h_pad, .inl (cI, 80, .inl h_pad_f)), (h_steps, .inl (cI, 320, .inl f_13)), (h_summed, .inl (cI, 81, .inl f_14)), (h_plus, .inl (cI, 81, .inl f_15)), (h_parts, .inl (cI, 392, .inl h_parts_f))]) hcf (kX10_isTokenAt l D cI cC cT h h_s h_aside h_past h_snapshot h_pad h_steps h_summed h_plus h_parts h_s_f h_aside_f h_past_f h_pasts h_snapshot_f h_isKept h_pad_f h_length f_13 y_12 h_value f_14 f_15 h_parts_f x3_9 z_24 hz) (cwV 1 hts gX10_sumFault_X10_isTokenAt rfl rfl rfl (by decide +kernel) ⟨Nat.le_of_ble_eq_true rfl, Nat.le_of_ble_eq_true rfl⟩) hE (hP.sub [0, 1, 2, 3, 4, 5, 6, 7, 8, 9] rfl) (va_recv hK hP (ci := 7) (q0 := 0) rfl rfl) rfl hl.1 rfl (Nat.le_of_ble_eq_true rfl) dX10_sumFault_60 ⟨Nat.le_of_ble_eq_true rfl, Nat.le_of_ble_eq_true rfl⟩ ?_
              refine W.eq (g2 := F0 m 63 ls [.int z_24]) rfl ?_
              refine lv_if_eq (tgt := 85) hx hb dX10_sumFault_63 (by decide) (fun c9 => ?_) (fun c9 => ?_)
              · have h0 := it_t c9 h0
                refine lv_iload_n hx hb dX10_sumFault_85 rfl (lv_at hl 1 rfl) ?_
                refine lv_if_ne (tgt := 112) hx hb dX10_sumFault_86 (by decide) (fun c9 => ?_) (fun c9 => ?_)
                · have h0 := it_f c9 h0
                  refine lv_iload_n hx hb dX10_sumFault_112 rfl (lv_at hl 1 rfl) ?_
                  refine lv_if_ne (tgt := 150) hx hb dX10_sumFault_113 (by decide) (fun c9 => ?_) (fun c9 => ?_)
                  · have h0 := it_f c9 h0
                    refine lv_iload_n hx hb dX10_sumFault_150 rfl (lv_at hl 0 rfl) ?_
                    have e0 := Option.some.inj h0
                    subst e0
                    exact W.iret (v := x3_9) hx hb hr (fun t ht hW => wr_end () ht hP hD hS) hS.2.2 dX10_sumFault_151
                  · have h0 := it_t c9 h0
                    refine lv_aload_n hx hb dX10_sumFault_116 rfl (lv_at hl 3 rfl) ?_
                    refine va_get (D := D) (ci := 7) (v := .ref h_pad) (C := RX10) (T := TX10) (N := 14) hx hb hts hi_X10 hown hK hP 0 rfl rfl 6 (by decide) hf_22 (fun _ h9 => h9) rfl dX10_sumFault_117 ?_
                    refine lv_iload_n hx hb dX10_sumFault_120 rfl (lv_at hl 0 rfl) ?_
                    obtain ⟨g0, h0⟩ := gd_ok h0
                    refine va_iald hx hb hK hP 5 0 rfl rfl (inb_ok g0) dX10_sumFault_121 ?_
                    refine lv_bipush (v := 41) hx hb dX10_sumFault_122 (by decide) ?_
                    refine lv_icmp_ne (tgt := 150) hx hb dX10_sumFault_124 (by decide) (fun c9 => ?_) (fun c9 => ?_)
                    · have h0 := it_f c9 h0
                      refine lv_iload_n hx hb dX10_sumFault_150 rfl (lv_at hl 0 rfl) ?_
                      have e0 := Option.some.inj h0
                      subst e0
                      exact W.iret (v := x3_9) hx hb hr (fun t ht hW => wr_end () ht hP hD hS) hS.2.2 dX10_sumFault_151
                    · have h0 := it_t c9 h0
                      refine lv_iload_n hx hb dX10_sumFault_127 rfl (lv_at hl 2 rfl) ?_
                      refine lv_if_le (tgt := 150) hx hb dX10_sumFault_128 (by decide) (fun c9 => ?_) (fun c9 => ?_)
                      · have h0 := it_t c9 h0
                        refine lv_iload_n hx hb dX10_sumFault_150 rfl (lv_at hl 0 rfl) ?_
                        have e0 := Option.some.inj h0
                        subst e0
                        exact W.iret (v := x3_9) hx hb hr (fun t ht hW => wr_end () ht hP hD hS) hS.2.2 dX10_sumFault_151
                      · have h0 := it_f c9 h0
                        refine lv_iinc (v := (x1_11 + (-1))) (lv' := [(1, .int (x1_11 + (-1))), (3, .int x3_9), (2, .int x2_10), (0, .ref h)]) hx hb dX10_sumFault_131 hl (k := 2) rfl rfl (by decide) rfl (fun ls hl => ?_)
                        refine lv_aload_n hx hb dX10_sumFault_134 rfl (lv_at hl 3 rfl) ?_
                        refine lv_iload_n hx hb dX10_sumFault_135 rfl (lv_at hl 0 rfl) ?_
                        refine lv_aload_n hx hb dX10_sumFault_136 rfl (lv_at hl 3 rfl) ?_
                        refine va_get (D := D) (ci := 7) (v := .ref h_summed) (C := RX10) (T := TX10) (N := 14) hx hb hts hi_X10 hown hK hP 0 rfl rfl 11 (by decide) hf_28 (fun _ h9 => h9) rfl dX10_sumFault_137 ?_
                        refine lv_iload_n hx hb dX10_sumFault_140 rfl (lv_at hl 0 rfl) ?_
                        refine lv_iconst (v := 1) hx hb dX10_sumFault_141 (by decide) ?_
                        refine lv_iadd hx hb dX10_sumFault_142 ?_
                        obtain ⟨g0, h0⟩ := gd_ok h0
                        refine va_iald hx hb hK hP 7 0 rfl rfl (inb_ok g0) dX10_sumFault_143 ?_
                        obtain ⟨z_25, hz, h0⟩ := bd_ok h0
                        refine wr_V (As := [.int (x1_11 + (-1)), .int (f_14 (((x1_11 + (-1)) + 1) : Int32).toNatClampNeg)]) (rest := []) (wc := [(h, .inr (7, [.ref h_s, .ref h_aside, .ref h_past, .int h_pasts, .ref h_snapshot, .int h_isKept, .ref h_pad, .int h_length, .ref h_steps, .int y_12, .int h_value, .ref h_summed, .ref h_plus, .ref h_parts])), (h_s, .inl (cI, 65, .inl h_s_f)), (h_aside, .inl (cI, 65, .inl h_aside_f)), (h_past, .inl (cI, 260, .inl h_past_f)), (h_snapshot, .inl (cI, 65, .inl h_snapshot_f)), (h_pad, .inl (cI, 80, .inl h_pad_f)), (h_steps, .inl (cI, 320, .inl f_13)), (h_summed, .inl (cI, 81, .inl f_14)), (h_plus, .inl (cI, 81, .inl f_15)), (h_parts, .inl (cI, 392, .inl h_parts_f))]) (wr := []) hcf (kX10_comes l D cI cC cT h h_s h_aside h_past h_snapshot h_pad h_steps h_summed h_plus h_parts h_s_f h_aside_f h_past_f h_pasts h_snapshot_f h_isKept h_pad_f h_length f_13 y_12 h_value f_14 f_15 h_parts_f (x1_11 + (-1)) (f_14 (((x1_11 + (-1)) + 1) : Int32).toNatClampNeg) _ z_25 hz) (cwV 2 hts gX10_sumFault_X10_comes rfl rfl rfl (by decide +kernel) ⟨Nat.le_of_ble_eq_true rfl, Nat.le_of_ble_eq_true rfl⟩) hE hP hD hS hA [0, 1, 2, 3, 4, 5, 6, 7, 8, 9] [] (hP.sub [0, 1, 2, 3, 4, 5, 6, 7, 8, 9] rfl) (hD.sub [0, 1, 2, 3, 4, 5, 6, 7, 8, 9] (by decide) rfl) (va_recv hK hP (ci := 7) (q0 := 0) rfl rfl) rfl rfl (by decide) (by decide) rfl hl.1 rfl (Nat.le_of_ble_eq_true rfl) dX10_sumFault_144 ⟨Nat.le_of_ble_eq_true rfl, Nat.le_of_ble_eq_true rfl⟩ (fun u H locs hP hD hS => ?_)
                        have hP : va_P D vwCl [(h, .inr (7, [.ref h_s, .ref h_aside, .ref h_past, .int h_pasts, .ref h_snapshot, .int h_isKept, .ref h_pad, .int h_length, .ref h_steps, .int z_25.2.1, .int h_value, .ref h_summed, .ref h_plus, .ref h_parts])), (h_s, .inl (cI, 65, .inl h_s_f)), (h_aside, .inl (cI, 65, .inl h_aside_f)), (h_past, .inl (cI, 260, .inl h_past_f)), (h_snapshot, .inl (cI, 65, .inl h_snapshot_f)), (h_pad, .inl (cI, 80, .inl h_pad_f)), (h_steps, .inl (cI, 320, .inl z_25.1)), (h_summed, .inl (cI, 81, .inl z_25.2.2)), (h_plus, .inl (cI, 81, .inl f_15)), (h_parts, .inl (cI, 392, .inl h_parts_f))] H := hP
                        have hD : va_D A [(h, .inr (7, [.ref h_s, .ref h_aside, .ref h_past, .int h_pasts, .ref h_snapshot, .int h_isKept, .ref h_pad, .int h_length, .ref h_steps, .int z_25.2.1, .int h_value, .ref h_summed, .ref h_plus, .ref h_parts])), (h_s, .inl (cI, 65, .inl h_s_f)), (h_aside, .inl (cI, 65, .inl h_aside_f)), (h_past, .inl (cI, 260, .inl h_past_f)), (h_snapshot, .inl (cI, 65, .inl h_snapshot_f)), (h_pad, .inl (cI, 80, .inl h_pad_f)), (h_steps, .inl (cI, 320, .inl z_25.1)), (h_summed, .inl (cI, 81, .inl z_25.2.2)), (h_plus, .inl (cI, 81, .inl f_15)), (h_parts, .inl (cI, 392, .inl h_parts_f))] := hD
                        refine W.eq (g2 := F0 m 147 ls []) rfl ?_
                        refine lv_goto (tgt := 152) hx hb dX10_sumFault_147 (by decide) ?_
                        refine lv_iinc (v := (x3_9 + 1)) (lv' := [(3, .int (x3_9 + 1)), (1, .int (x1_11 + (-1))), (2, .int x2_10), (0, .ref h)]) hx hb dX10_sumFault_152 hl (k := 1) rfl rfl (by decide) rfl (fun ls hl => ?_)
                        refine lv_goto (tgt := 18) hx hb dX10_sumFault_155 (by decide) ?_
                        exact ih18 (x3_9 + 1) x2_10 (x1_11 + (-1)) z_25.2.1 z_25.1 z_25.2.2 f_15 _ _ ls h0 hP hD hS (lv_sub hl [0, 2, 1, 3] rfl)
                · have h0 := it_t c9 h0
                  refine lv_aload_n hx hb dX10_sumFault_89 rfl (lv_at hl 3 rfl) ?_
                  refine va_get (D := D) (ci := 7) (v := .ref h_pad) (C := RX10) (T := TX10) (N := 14) hx hb hts hi_X10 hown hK hP 0 rfl rfl 6 (by decide) hf_22 (fun _ h9 => h9) rfl dX10_sumFault_90 ?_
                  refine lv_iload_n hx hb dX10_sumFault_93 rfl (lv_at hl 0 rfl) ?_
                  obtain ⟨g0, h0⟩ := gd_ok h0
                  refine va_iald hx hb hK hP 5 0 rfl rfl (inb_ok g0) dX10_sumFault_94 ?_
                  refine lv_bipush (v := 43) hx hb dX10_sumFault_95 (by decide) ?_
                  refine lv_icmp_ne (tgt := 112) hx hb dX10_sumFault_97 (by decide) (fun c9 => ?_) (fun c9 => ?_)
                  · have h0 := it_f c9 h0
                    refine lv_iload_n hx hb dX10_sumFault_112 rfl (lv_at hl 1 rfl) ?_
                    refine lv_if_ne (tgt := 150) hx hb dX10_sumFault_113 (by decide) (fun c9 => ?_) (fun c9 => ?_)
                    · have h0 := it_f c9 h0
                      refine lv_iload_n hx hb dX10_sumFault_150 rfl (lv_at hl 0 rfl) ?_
                      have e0 := Option.some.inj h0
                      subst e0
                      exact W.iret (v := x3_9) hx hb hr (fun t ht hW => wr_end () ht hP hD hS) hS.2.2 dX10_sumFault_151
                    · have h0 := it_t c9 h0
                      refine lv_aload_n hx hb dX10_sumFault_116 rfl (lv_at hl 3 rfl) ?_
                      refine va_get (D := D) (ci := 7) (v := .ref h_pad) (C := RX10) (T := TX10) (N := 14) hx hb hts hi_X10 hown hK hP 0 rfl rfl 6 (by decide) hf_22 (fun _ h9 => h9) rfl dX10_sumFault_117 ?_
                      refine lv_iload_n hx hb dX10_sumFault_120 rfl (lv_at hl 0 rfl) ?_
                      obtain ⟨g0, h0⟩ := gd_ok h0
                      refine va_iald hx hb hK hP 5 0 rfl rfl (inb_ok g0) dX10_sumFault_121 ?_
                      refine lv_bipush (v := 41) hx hb dX10_sumFault_122 (by decide) ?_
                      refine lv_icmp_ne (tgt := 150) hx hb dX10_sumFault_124 (by decide) (fun c9 => ?_) (fun c9 => ?_)
                      · have h0 := it_f c9 h0
                        refine lv_iload_n hx hb dX10_sumFault_150 rfl (lv_at hl 0 rfl) ?_
                        have e0 := Option.some.inj h0
                        subst e0
                        exact W.iret (v := x3_9) hx hb hr (fun t ht hW => wr_end () ht hP hD hS) hS.2.2 dX10_sumFault_151
                      · have h0 := it_t c9 h0
                        refine lv_iload_n hx hb dX10_sumFault_127 rfl (lv_at hl 2 rfl) ?_
                        refine lv_if_le (tgt := 150) hx hb dX10_sumFault_128 (by decide) (fun c9 => ?_) (fun c9 => ?_)
                        · have h0 := it_t c9 h0
                          refine lv_iload_n hx hb dX10_sumFault_150 rfl (lv_at hl 0 rfl) ?_
                          have e0 := Option.some.inj h0
                          subst e0
                          exact W.iret (v := x3_9) hx hb hr (fun t ht hW => wr_end () ht hP hD hS) hS.2.2 dX10_sumFault_151
                        · have h0 := it_f c9 h0
                          refine lv_iinc (v := (x1_11 + (-1))) (lv' := [(1, .int (x1_11 + (-1))), (3, .int x3_9), (2, .int x2_10), (0, .ref h)]) hx hb dX10_sumFault_131 hl (k := 2) rfl rfl (by decide) rfl (fun ls hl => ?_)
                          refine lv_aload_n hx hb dX10_sumFault_134 rfl (lv_at hl 3 rfl) ?_
                          refine lv_iload_n hx hb dX10_sumFault_135 rfl (lv_at hl 0 rfl) ?_
                          refine lv_aload_n hx hb dX10_sumFault_136 rfl (lv_at hl 3 rfl) ?_
                          refine va_get (D := D) (ci := 7) (v := .ref h_summed) (C := RX10) (T := TX10) (N := 14) hx hb hts hi_X10 hown hK hP 0 rfl rfl 11 (by decide) hf_28 (fun _ h9 => h9) rfl dX10_sumFault_137 ?_
                          refine lv_iload_n hx hb dX10_sumFault_140 rfl (lv_at hl 0 rfl) ?_
                          refine lv_iconst (v := 1) hx hb dX10_sumFault_141 (by decide) ?_
                          refine lv_iadd hx hb dX10_sumFault_142 ?_
                          obtain ⟨g0, h0⟩ := gd_ok h0
                          refine va_iald hx hb hK hP 7 0 rfl rfl (inb_ok g0) dX10_sumFault_143 ?_
                          obtain ⟨z_26, hz, h0⟩ := bd_ok h0
                          refine wr_V (As := [.int (x1_11 + (-1)), .int (f_14 (((x1_11 + (-1)) + 1) : Int32).toNatClampNeg)]) (rest := []) (wc := [(h, .inr (7, [.ref h_s, .ref h_aside, .ref h_past, .int h_pasts, .ref h_snapshot, .int h_isKept, .ref h_pad, .int h_length, .ref h_steps, .int y_12, .int h_value, .ref h_summed, .ref h_plus, .ref h_parts])), (h_s, .inl (cI, 65, .inl h_s_f)), (h_aside, .inl (cI, 65, .inl h_aside_f)), (h_past, .inl (cI, 260, .inl h_past_f)), (h_snapshot, .inl (cI, 65, .inl h_snapshot_f)), (h_pad, .inl (cI, 80, .inl h_pad_f)), (h_steps, .inl (cI, 320, .inl f_13)), (h_summed, .inl (cI, 81, .inl f_14)), (h_plus, .inl (cI, 81, .inl f_15)), (h_parts, .inl (cI, 392, .inl h_parts_f))]) (wr := []) hcf (kX10_comes l D cI cC cT h h_s h_aside h_past h_snapshot h_pad h_steps h_summed h_plus h_parts h_s_f h_aside_f h_past_f h_pasts h_snapshot_f h_isKept h_pad_f h_length f_13 y_12 h_value f_14 f_15 h_parts_f (x1_11 + (-1)) (f_14 (((x1_11 + (-1)) + 1) : Int32).toNatClampNeg) _ z_26 hz) (cwV 2 hts gX10_sumFault_X10_comes rfl rfl rfl (by decide +kernel) ⟨Nat.le_of_ble_eq_true rfl, Nat.le_of_ble_eq_true rfl⟩) hE hP hD hS hA [0, 1, 2, 3, 4, 5, 6, 7, 8, 9] [] (hP.sub [0, 1, 2, 3, 4, 5, 6, 7, 8, 9] rfl) (hD.sub [0, 1, 2, 3, 4, 5, 6, 7, 8, 9] (by decide) rfl) (va_recv hK hP (ci := 7) (q0 := 0) rfl rfl) rfl rfl (by decide) (by decide) rfl hl.1 rfl (Nat.le_of_ble_eq_true rfl) dX10_sumFault_144 ⟨Nat.le_of_ble_eq_true rfl, Nat.le_of_ble_eq_true rfl⟩ (fun u H locs hP hD hS => ?_)
                          have hP : va_P D vwCl [(h, .inr (7, [.ref h_s, .ref h_aside, .ref h_past, .int h_pasts, .ref h_snapshot, .int h_isKept, .ref h_pad, .int h_length, .ref h_steps, .int z_26.2.1, .int h_value, .ref h_summed, .ref h_plus, .ref h_parts])), (h_s, .inl (cI, 65, .inl h_s_f)), (h_aside, .inl (cI, 65, .inl h_aside_f)), (h_past, .inl (cI, 260, .inl h_past_f)), (h_snapshot, .inl (cI, 65, .inl h_snapshot_f)), (h_pad, .inl (cI, 80, .inl h_pad_f)), (h_steps, .inl (cI, 320, .inl z_26.1)), (h_summed, .inl (cI, 81, .inl z_26.2.2)), (h_plus, .inl (cI, 81, .inl f_15)), (h_parts, .inl (cI, 392, .inl h_parts_f))] H := hP
                          have hD : va_D A [(h, .inr (7, [.ref h_s, .ref h_aside, .ref h_past, .int h_pasts, .ref h_snapshot, .int h_isKept, .ref h_pad, .int h_length, .ref h_steps, .int z_26.2.1, .int h_value, .ref h_summed, .ref h_plus, .ref h_parts])), (h_s, .inl (cI, 65, .inl h_s_f)), (h_aside, .inl (cI, 65, .inl h_aside_f)), (h_past, .inl (cI, 260, .inl h_past_f)), (h_snapshot, .inl (cI, 65, .inl h_snapshot_f)), (h_pad, .inl (cI, 80, .inl h_pad_f)), (h_steps, .inl (cI, 320, .inl z_26.1)), (h_summed, .inl (cI, 81, .inl z_26.2.2)), (h_plus, .inl (cI, 81, .inl f_15)), (h_parts, .inl (cI, 392, .inl h_parts_f))] := hD
                          refine W.eq (g2 := F0 m 147 ls []) rfl ?_
                          refine lv_goto (tgt := 152) hx hb dX10_sumFault_147 (by decide) ?_
                          refine lv_iinc (v := (x3_9 + 1)) (lv' := [(3, .int (x3_9 + 1)), (1, .int (x1_11 + (-1))), (2, .int x2_10), (0, .ref h)]) hx hb dX10_sumFault_152 hl (k := 1) rfl rfl (by decide) rfl (fun ls hl => ?_)
                          refine lv_goto (tgt := 18) hx hb dX10_sumFault_155 (by decide) ?_
                          exact ih18 (x3_9 + 1) x2_10 (x1_11 + (-1)) z_26.2.1 z_26.1 z_26.2.2 f_15 _ _ ls h0 hP hD hS (lv_sub hl [0, 2, 1, 3] rfl)
                  · have h0 := it_t c9 h0
                    refine lv_aload_n hx hb dX10_sumFault_100 rfl (lv_at hl 3 rfl) ?_
                    refine va_get (D := D) (ci := 7) (v := .ref h_plus) (C := RX10) (T := TX10) (N := 14) hx hb hts hi_X10 hown hK hP 0 rfl rfl 12 (by decide) hf_31 (fun _ h9 => h9) rfl dX10_sumFault_101 ?_
                    refine lv_iload_n hx hb dX10_sumFault_104 rfl (lv_at hl 2 rfl) ?_
                    refine lv_iload_n hx hb dX10_sumFault_105 rfl (lv_at hl 0 rfl) ?_
                    obtain ⟨g0, h0⟩ := gd_ok h0
                    refine va_iast hx hb hK hP hD hS 8 0 rfl rfl (inb_ok g0) dX10_sumFault_106 (fun H locs hP hD hS => ?_)
                    have hP : va_P D vwCl [(h, .inr (7, [.ref h_s, .ref h_aside, .ref h_past, .int h_pasts, .ref h_snapshot, .int h_isKept, .ref h_pad, .int h_length, .ref h_steps, .int y_12, .int h_value, .ref h_summed, .ref h_plus, .ref h_parts])), (h_s, .inl (cI, 65, .inl h_s_f)), (h_aside, .inl (cI, 65, .inl h_aside_f)), (h_past, .inl (cI, 260, .inl h_past_f)), (h_snapshot, .inl (cI, 65, .inl h_snapshot_f)), (h_pad, .inl (cI, 80, .inl h_pad_f)), (h_steps, .inl (cI, 320, .inl f_13)), (h_summed, .inl (cI, 81, .inl f_14)), (h_plus, .inl (cI, 81, .inl (upd f_15 (x1_11 : Int32).toNatClampNeg x3_9))), (h_parts, .inl (cI, 392, .inl h_parts_f))] H := hP
                    have hD : va_D A [(h, .inr (7, [.ref h_s, .ref h_aside, .ref h_past, .int h_pasts, .ref h_snapshot, .int h_isKept, .ref h_pad, .int h_length, .ref h_steps, .int y_12, .int h_value, .ref h_summed, .ref h_plus, .ref h_parts])), (h_s, .inl (cI, 65, .inl h_s_f)), (h_aside, .inl (cI, 65, .inl h_aside_f)), (h_past, .inl (cI, 260, .inl h_past_f)), (h_snapshot, .inl (cI, 65, .inl h_snapshot_f)), (h_pad, .inl (cI, 80, .inl h_pad_f)), (h_steps, .inl (cI, 320, .inl f_13)), (h_summed, .inl (cI, 81, .inl f_14)), (h_plus, .inl (cI, 81, .inl (upd f_15 (x1_11 : Int32).toNatClampNeg x3_9))), (h_parts, .inl (cI, 392, .inl h_parts_f))] := hD
                    refine lv_iconst (v := 1) hx hb dX10_sumFault_107 (by decide) ?_
                    refine lv_istore_n (lv' := [(2, .int 1), (3, .int x3_9), (1, .int x1_11), (0, .ref h)]) hx hb dX10_sumFault_108 rfl hl (by decide) rfl (fun ls hl => ?_)
                    refine lv_goto (tgt := 152) hx hb dX10_sumFault_109 (by decide) ?_
                    refine lv_iinc (v := (x3_9 + 1)) (lv' := [(3, .int (x3_9 + 1)), (2, .int 1), (1, .int x1_11), (0, .ref h)]) hx hb dX10_sumFault_152 hl (k := 1) rfl rfl (by decide) rfl (fun ls hl => ?_)
                    refine lv_goto (tgt := 18) hx hb dX10_sumFault_155 (by decide) ?_
                    exact ih18 (x3_9 + 1) 1 x1_11 y_12 f_13 f_14 (upd f_15 (x1_11 : Int32).toNatClampNeg x3_9) _ _ ls h0 hP hD hS hl
              · have h0 := it_f c9 h0
                refine lv_aload_n hx hb dX10_sumFault_66 rfl (lv_at hl 3 rfl) ?_
                refine lv_iload_n hx hb dX10_sumFault_67 rfl (lv_at hl 2 rfl) ?_
                refine lv_aload_n hx hb dX10_sumFault_68 rfl (lv_at hl 3 rfl) ?_
                refine va_get (D := D) (ci := 7) (v := .ref h_pad) (C := RX10) (T := TX10) (N := 14) hx hb hts hi_X10 hown hK hP 0 rfl rfl 6 (by decide) hf_22 (fun _ h9 => h9) rfl dX10_sumFault_69 ?_
                refine lv_iload_n hx hb dX10_sumFault_72 rfl (lv_at hl 0 rfl) ?_
                obtain ⟨g0, h0⟩ := gd_ok h0
                refine va_iald hx hb hK hP 5 0 rfl rfl (inb_ok g0) dX10_sumFault_73 ?_
                refine lv_bipush (v := 48) hx hb dX10_sumFault_74 (by decide) ?_
                refine lv_isub hx hb dX10_sumFault_76 ?_
                obtain ⟨z_27, hz, h0⟩ := bd_ok h0
                refine wr_V (As := [.int x1_11, .int ((h_pad_f (x3_9 : Int32).toNatClampNeg) - 48)]) (rest := []) (wc := [(h, .inr (7, [.ref h_s, .ref h_aside, .ref h_past, .int h_pasts, .ref h_snapshot, .int h_isKept, .ref h_pad, .int h_length, .ref h_steps, .int y_12, .int h_value, .ref h_summed, .ref h_plus, .ref h_parts])), (h_s, .inl (cI, 65, .inl h_s_f)), (h_aside, .inl (cI, 65, .inl h_aside_f)), (h_past, .inl (cI, 260, .inl h_past_f)), (h_snapshot, .inl (cI, 65, .inl h_snapshot_f)), (h_pad, .inl (cI, 80, .inl h_pad_f)), (h_steps, .inl (cI, 320, .inl f_13)), (h_summed, .inl (cI, 81, .inl f_14)), (h_plus, .inl (cI, 81, .inl f_15)), (h_parts, .inl (cI, 392, .inl h_parts_f))]) (wr := []) hcf (kX10_comes l D cI cC cT h h_s h_aside h_past h_snapshot h_pad h_steps h_summed h_plus h_parts h_s_f h_aside_f h_past_f h_pasts h_snapshot_f h_isKept h_pad_f h_length f_13 y_12 h_value f_14 f_15 h_parts_f x1_11 ((h_pad_f (x3_9 : Int32).toNatClampNeg) - 48) _ z_27 hz) (cwV 2 hts gX10_sumFault_X10_comes rfl rfl rfl (by decide +kernel) ⟨Nat.le_of_ble_eq_true rfl, Nat.le_of_ble_eq_true rfl⟩) hE hP hD hS hA [0, 1, 2, 3, 4, 5, 6, 7, 8, 9] [] (hP.sub [0, 1, 2, 3, 4, 5, 6, 7, 8, 9] rfl) (hD.sub [0, 1, 2, 3, 4, 5, 6, 7, 8, 9] (by decide) rfl) (va_recv hK hP (ci := 7) (q0 := 0) rfl rfl) rfl rfl (by decide) (by decide) rfl hl.1 rfl (Nat.le_of_ble_eq_true rfl) dX10_sumFault_77 ⟨Nat.le_of_ble_eq_true rfl, Nat.le_of_ble_eq_true rfl⟩ (fun u H locs hP hD hS => ?_)
                have hP : va_P D vwCl [(h, .inr (7, [.ref h_s, .ref h_aside, .ref h_past, .int h_pasts, .ref h_snapshot, .int h_isKept, .ref h_pad, .int h_length, .ref h_steps, .int z_27.2.1, .int h_value, .ref h_summed, .ref h_plus, .ref h_parts])), (h_s, .inl (cI, 65, .inl h_s_f)), (h_aside, .inl (cI, 65, .inl h_aside_f)), (h_past, .inl (cI, 260, .inl h_past_f)), (h_snapshot, .inl (cI, 65, .inl h_snapshot_f)), (h_pad, .inl (cI, 80, .inl h_pad_f)), (h_steps, .inl (cI, 320, .inl z_27.1)), (h_summed, .inl (cI, 81, .inl z_27.2.2)), (h_plus, .inl (cI, 81, .inl f_15)), (h_parts, .inl (cI, 392, .inl h_parts_f))] H := hP
                have hD : va_D A [(h, .inr (7, [.ref h_s, .ref h_aside, .ref h_past, .int h_pasts, .ref h_snapshot, .int h_isKept, .ref h_pad, .int h_length, .ref h_steps, .int z_27.2.1, .int h_value, .ref h_summed, .ref h_plus, .ref h_parts])), (h_s, .inl (cI, 65, .inl h_s_f)), (h_aside, .inl (cI, 65, .inl h_aside_f)), (h_past, .inl (cI, 260, .inl h_past_f)), (h_snapshot, .inl (cI, 65, .inl h_snapshot_f)), (h_pad, .inl (cI, 80, .inl h_pad_f)), (h_steps, .inl (cI, 320, .inl z_27.1)), (h_summed, .inl (cI, 81, .inl z_27.2.2)), (h_plus, .inl (cI, 81, .inl f_15)), (h_parts, .inl (cI, 392, .inl h_parts_f))] := hD
                refine W.eq (g2 := F0 m 80 ls []) rfl ?_
                refine lv_iconst (v := 0) hx hb dX10_sumFault_80 (by decide) ?_
                refine lv_istore_n (lv' := [(2, .int 0), (3, .int x3_9), (1, .int x1_11), (0, .ref h)]) hx hb dX10_sumFault_81 rfl hl (by decide) rfl (fun ls hl => ?_)
                refine lv_goto (tgt := 152) hx hb dX10_sumFault_82 (by decide) ?_
                refine lv_iinc (v := (x3_9 + 1)) (lv' := [(3, .int (x3_9 + 1)), (2, .int 0), (1, .int x1_11), (0, .ref h)]) hx hb dX10_sumFault_152 hl (k := 1) rfl rfl (by decide) rfl (fun ls hl => ?_)
                refine lv_goto (tgt := 18) hx hb dX10_sumFault_155 (by decide) ?_
                exact ih18 (x3_9 + 1) 0 x1_11 z_27.2.1 z_27.1 z_27.2.2 f_15 _ _ ls h0 hP hD hS hl
          · have h0 := it_t c9 h0
            refine lv_iinc (v := (x1_11 + 1)) (lv' := [(1, .int (x1_11 + 1)), (3, .int x3_9), (2, .int x2_10), (0, .ref h)]) hx hb dX10_sumFault_41 hl (k := 2) rfl rfl (by decide) rfl (fun ls hl => ?_)
            refine lv_aload_n hx hb dX10_sumFault_44 rfl (lv_at hl 3 rfl) ?_
            refine va_get (D := D) (ci := 7) (v := .ref h_plus) (C := RX10) (T := TX10) (N := 14) hx hb hts hi_X10 hown hK hP 0 rfl rfl 12 (by decide) hf_31 (fun _ h9 => h9) rfl dX10_sumFault_45 ?_
            refine lv_iload_n hx hb dX10_sumFault_48 rfl (lv_at hl 0 rfl) ?_
            refine lv_iconst (v := (-1)) hx hb dX10_sumFault_49 (by decide) ?_
            obtain ⟨g0, h0⟩ := gd_ok h0
            refine va_iast hx hb hK hP hD hS 8 0 rfl rfl (inb_ok g0) dX10_sumFault_50 (fun H locs hP hD hS => ?_)
            have hP : va_P D vwCl [(h, .inr (7, [.ref h_s, .ref h_aside, .ref h_past, .int h_pasts, .ref h_snapshot, .int h_isKept, .ref h_pad, .int h_length, .ref h_steps, .int y_12, .int h_value, .ref h_summed, .ref h_plus, .ref h_parts])), (h_s, .inl (cI, 65, .inl h_s_f)), (h_aside, .inl (cI, 65, .inl h_aside_f)), (h_past, .inl (cI, 260, .inl h_past_f)), (h_snapshot, .inl (cI, 65, .inl h_snapshot_f)), (h_pad, .inl (cI, 80, .inl h_pad_f)), (h_steps, .inl (cI, 320, .inl f_13)), (h_summed, .inl (cI, 81, .inl f_14)), (h_plus, .inl (cI, 81, .inl (upd f_15 ((x1_11 + 1) : Int32).toNatClampNeg (-1)))), (h_parts, .inl (cI, 392, .inl h_parts_f))] H := hP
            have hD : va_D A [(h, .inr (7, [.ref h_s, .ref h_aside, .ref h_past, .int h_pasts, .ref h_snapshot, .int h_isKept, .ref h_pad, .int h_length, .ref h_steps, .int y_12, .int h_value, .ref h_summed, .ref h_plus, .ref h_parts])), (h_s, .inl (cI, 65, .inl h_s_f)), (h_aside, .inl (cI, 65, .inl h_aside_f)), (h_past, .inl (cI, 260, .inl h_past_f)), (h_snapshot, .inl (cI, 65, .inl h_snapshot_f)), (h_pad, .inl (cI, 80, .inl h_pad_f)), (h_steps, .inl (cI, 320, .inl f_13)), (h_summed, .inl (cI, 81, .inl f_14)), (h_plus, .inl (cI, 81, .inl (upd f_15 ((x1_11 + 1) : Int32).toNatClampNeg (-1)))), (h_parts, .inl (cI, 392, .inl h_parts_f))] := hD
            refine lv_goto (tgt := 152) hx hb dX10_sumFault_51 (by decide) ?_
            refine lv_iinc (v := (x3_9 + 1)) (lv' := [(3, .int (x3_9 + 1)), (1, .int (x1_11 + 1)), (2, .int x2_10), (0, .ref h)]) hx hb dX10_sumFault_152 hl (k := 1) rfl rfl (by decide) rfl (fun ls hl => ?_)
            refine lv_goto (tgt := 18) hx hb dX10_sumFault_155 (by decide) ?_
            exact ih18 (x3_9 + 1) x2_10 (x1_11 + 1) y_12 f_13 f_14 (upd f_15 ((x1_11 + 1) : Int32).toNatClampNeg (-1)) _ _ ls h0 hP hD hS (lv_sub hl [0, 2, 1, 3] rfl)
  exact L_18_27 FU 0 1 0 0 h_steps_f h_summed_f (upd h_plus_f (0 : Int32).toNatClampNeg (-1)) _ _ ls h0 hP hD hS hl
noncomputable def mX10_fault (h_s_f : Nat → Int32) (h_pad_f : Nat → Int32) (h_length : Int32) (h_steps_f : Nat → Int32) (h_many : Int32) (h_value : Int32) (h_summed_f : Nat → Int32) (h_plus_f : Nat → Int32) (p1 : Int32) : Option (Int32 × (Nat → Int32) × Int32 × Int32 × (Nat → Int32) × (Nat → Int32)) :=
  bd (mX10_in p1 0 2) (fun z_1 => if z_1 = 0 then (some ((-1), h_steps_f, h_many, h_value, h_summed_f, h_plus_f)) else (if p1 = 0 then (bd (mX10_tableFault h_s_f h_pad_f h_length) (fun z_4 => if z_4 = (-1) then (some ((-4), h_steps_f, h_many, h_value, h_summed_f, h_plus_f)) else (some (z_4, h_steps_f, h_many, h_value, h_summed_f, h_plus_f)))) else (if p1 = 1 then (bd (mX10_sumFault h_s_f h_pad_f h_length h_steps_f h_value h_summed_f h_plus_f) (fun z_3 => if z_3.1 = (-1) then (some ((-4), z_3.2.1, z_3.2.2.1, z_3.2.2.2.1, z_3.2.2.2.2.1, z_3.2.2.2.2.2)) else (some (z_3.1, z_3.2.1, z_3.2.2.1, z_3.2.2.2.1, z_3.2.2.2.2.1, z_3.2.2.2.2.2)))) else (bd (mX10_rowFault h_s_f h_pad_f h_length) (fun z_2 => if z_2 = (-1) then (some ((-4), h_steps_f, h_many, h_value, h_summed_f, h_plus_f)) else (some (z_2, h_steps_f, h_many, h_value, h_summed_f, h_plus_f)))))))
set_option maxHeartbeats 8000000 in
set_option maxRecDepth 100000 in
theorem kX10_fault (l : Launch) (D : va_G) (cI cC cT : ClassId) (h h_s h_aside h_past h_snapshot h_pad h_steps h_summed h_plus h_parts : Nat) (h_s_f : Nat → Int32) (h_aside_f : Nat → Int32) (h_past_f : Nat → Int32) (h_pasts : Int32) (h_snapshot_f : Nat → Int32) (h_isKept : Int32) (h_pad_f : Nat → Int32) (h_length : Int32) (h_steps_f : Nat → Int32) (h_many : Int32) (h_value : Int32) (h_summed_f : Nat → Int32) (h_plus_f : Nat → Int32) (h_parts_f : Nat → Int32) (p1 : Int32) (sz : Nat) (z : Int32 × (Nat → Int32) × Int32 × Int32 × (Nat → Int32) × (Nat → Int32)) (h0 : mX10_fault h_s_f h_pad_f h_length h_steps_f h_many h_value h_summed_f h_plus_f p1 = some z) : Met l yX10_fault wsX10_fault ({ frames := 4, cells := 0, slots := 0, locals := 88 } : Room) (va_Pc [.ref h, .int p1] (wP D cI cC cT [(h, .inr (7, [.ref h_s, .ref h_aside, .ref h_past, .int h_pasts, .ref h_snapshot, .int h_isKept, .ref h_pad, .int h_length, .ref h_steps, .int h_many, .int h_value, .ref h_summed, .ref h_plus, .ref h_parts])), (h_s, .inl (cI, 65, .inl h_s_f)), (h_aside, .inl (cI, 65, .inl h_aside_f)), (h_past, .inl (cI, 260, .inl h_past_f)), (h_snapshot, .inl (cI, 65, .inl h_snapshot_f)), (h_pad, .inl (cI, 80, .inl h_pad_f)), (h_steps, .inl (cI, 320, .inl h_steps_f)), (h_summed, .inl (cI, 81, .inl h_summed_f)), (h_plus, .inl (cI, 81, .inl h_plus_f)), (h_parts, .inl (cI, 392, .inl h_parts_f))] sz)) (wQ D (some (.int z.1)) (va_A [(h, .inr (7, [.ref h_s, .ref h_aside, .ref h_past, .int h_pasts, .ref h_snapshot, .int h_isKept, .ref h_pad, .int h_length, .ref h_steps, .int h_many, .int h_value, .ref h_summed, .ref h_plus, .ref h_parts])), (h_s, .inl (cI, 65, .inl h_s_f)), (h_aside, .inl (cI, 65, .inl h_aside_f)), (h_past, .inl (cI, 260, .inl h_past_f)), (h_snapshot, .inl (cI, 65, .inl h_snapshot_f)), (h_pad, .inl (cI, 80, .inl h_pad_f)), (h_steps, .inl (cI, 320, .inl h_steps_f)), (h_summed, .inl (cI, 81, .inl h_summed_f)), (h_plus, .inl (cI, 81, .inl h_plus_f)), (h_parts, .inl (cI, 392, .inl h_parts_f))] sz) (fun (u : Unit) => [(h, .inr (7, [.ref h_s, .ref h_aside, .ref h_past, .int h_pasts, .ref h_snapshot, .int h_isKept, .ref h_pad, .int h_length, .ref h_steps, .int z.2.2.1, .int z.2.2.2.1, .ref h_summed, .ref h_plus, .ref h_parts])), (h_s, .inl (cI, 65, .inl h_s_f)), (h_aside, .inl (cI, 65, .inl h_aside_f)), (h_past, .inl (cI, 260, .inl h_past_f)), (h_snapshot, .inl (cI, 65, .inl h_snapshot_f)), (h_pad, .inl (cI, 80, .inl h_pad_f)), (h_steps, .inl (cI, 320, .inl z.2.1)), (h_summed, .inl (cI, 81, .inl z.2.2.2.2.1)), (h_plus, .inl (cI, 81, .inl z.2.2.2.2.2)), (h_parts, .inl (cI, 392, .inl h_parts_f))])) 0 0 (va_A [(h, .inr (7, [.ref h_s, .ref h_aside, .ref h_past, .int h_pasts, .ref h_snapshot, .int h_isKept, .ref h_pad, .int h_length, .ref h_steps, .int h_many, .int h_value, .ref h_summed, .ref h_plus, .ref h_parts])), (h_s, .inl (cI, 65, .inl h_s_f)), (h_aside, .inl (cI, 65, .inl h_aside_f)), (h_past, .inl (cI, 260, .inl h_past_f)), (h_snapshot, .inl (cI, 65, .inl h_snapshot_f)), (h_pad, .inl (cI, 80, .inl h_pad_f)), (h_steps, .inl (cI, 320, .inl h_steps_f)), (h_summed, .inl (cI, 81, .inl h_summed_f)), (h_plus, .inl (cI, 81, .inl h_plus_f)), (h_parts, .inl (cI, 392, .inl h_parts_f))] sz) := by
  refine Met.ofW (cc := cX10_fault) (maxL := 3) (ret := (some .int)) (by decide) rfl ?_
  intro p e s m args below meth c s₁ B hml hv
  obtain ⟨rfl, hsz, hP, hE, hD0⟩ := hv
  have hx := B.exec
  have hb := B.bytes
  have hr := B.returns
  have hts := atoms_spec (ws := wsX10_fault) B.pre
  have hown : s.vm.findClass RX10 = some m.cls := findClass_of_methodNamed B.named
  have hlocks := B.notSynchronized
  have hK := hE.1
  have hcf : CallFix p m c cX10_fault 3 s ([.ref h, .int p1] : List Value).toArray wsX10_fault RX10 := ⟨hx, hb, hml, hown, hts⟩
  subst hsz
  have hD := hD0.self (sz := s.heap.size)
  generalize hAe : va_A [(h, .inr (7, [.ref h_s, .ref h_aside, .ref h_past, .int h_pasts, .ref h_snapshot, .int h_isKept, .ref h_pad, .int h_length, .ref h_steps, .int h_many, .int h_value, .ref h_summed, .ref h_plus, .ref h_parts])), (h_s, .inl (cI, 65, .inl h_s_f)), (h_aside, .inl (cI, 65, .inl h_aside_f)), (h_past, .inl (cI, 260, .inl h_past_f)), (h_snapshot, .inl (cI, 65, .inl h_snapshot_f)), (h_pad, .inl (cI, 80, .inl h_pad_f)), (h_steps, .inl (cI, 320, .inl h_steps_f)), (h_summed, .inl (cI, 81, .inl h_summed_f)), (h_plus, .inl (cI, 81, .inl h_plus_f)), (h_parts, .inl (cI, 392, .inl h_parts_f))] s.heap.size = A at hD ⊢
  have hA : ∀ q : Nat, s.heap.size ≤ q → A q := fun q h => by rw [← hAe]; exact Or.inr h
  have hS : va_S A s.heap s.heap [] := va_S.rf
  have hP : va_P D vwCl [(h, .inr (7, [.ref h_s, .ref h_aside, .ref h_past, .int h_pasts, .ref h_snapshot, .int h_isKept, .ref h_pad, .int h_length, .ref h_steps, .int h_many, .int h_value, .ref h_summed, .ref h_plus, .ref h_parts])), (h_s, .inl (cI, 65, .inl h_s_f)), (h_aside, .inl (cI, 65, .inl h_aside_f)), (h_past, .inl (cI, 260, .inl h_past_f)), (h_snapshot, .inl (cI, 65, .inl h_snapshot_f)), (h_pad, .inl (cI, 80, .inl h_pad_f)), (h_steps, .inl (cI, 320, .inl h_steps_f)), (h_summed, .inl (cI, 81, .inl h_summed_f)), (h_plus, .inl (cI, 81, .inl h_plus_f)), (h_parts, .inl (cI, 392, .inl h_parts_f))] s.heap := hP
  have hl := lv_entry ([.ref h, .int p1]) (n := 3) (Nat.le_of_ble_eq_true rfl)
  rw [lg_entry_eq]
  generalize (lg_sl ([.ref h, .int p1]) ++ List.replicate (3 - (lg_sl ([.ref h, .int p1])).length) Slot.unset).toArray = ls at hl ⊢
  have hl : lv_has ls 3 [(0, .ref h), (1, .int p1)] := hl
  unfold mX10_fault at h0
  refine lv_iload_n hx hb dX10_fault_0 rfl (lv_at hl 1 rfl) ?_
  refine lv_iconst (v := 0) hx hb dX10_fault_1 (by decide) ?_
  refine lv_iconst (v := 2) hx hb dX10_fault_2 (by decide) ?_
  obtain ⟨z_1, hz, h0⟩ := bd_ok h0
  refine ro_S (As := [.int p1, .int 0, .int 2]) (rest := []) (wc := []) hcf (kX10_in l D cI cC cT p1 0 2 z_1 hz) (va_cwS 3 hts gX10_fault_X10_in rfl rfl rfl (by decide +kernel) ⟨Nat.le_of_ble_eq_true rfl, Nat.le_of_ble_eq_true rfl⟩) hE (hP.sub [] rfl) rfl hl.1 rfl (Nat.le_of_ble_eq_true rfl) dX10_fault_3 ⟨Nat.le_of_ble_eq_true rfl, Nat.le_of_ble_eq_true rfl⟩ ?_
  refine W.eq (g2 := F0 m 6 ls [.int z_1]) rfl ?_
  refine lv_if_ne (tgt := 11) hx hb dX10_fault_6 (by decide) (fun c9 => ?_) (fun c9 => ?_)
  · have h0 := it_f c9 h0
    refine lv_iload_n hx hb dX10_fault_11 rfl (lv_at hl 1 rfl) ?_
    refine lv_if_ne (tgt := 22) hx hb dX10_fault_12 (by decide) (fun c9 => ?_) (fun c9 => ?_)
    · have h0 := it_f c9 h0
      refine lv_iload_n hx hb dX10_fault_22 rfl (lv_at hl 1 rfl) ?_
      refine lv_iconst (v := 1) hx hb dX10_fault_23 (by decide) ?_
      refine lv_icmp_ne (tgt := 34) hx hb dX10_fault_24 (by decide) (fun c9 => ?_) (fun c9 => ?_)
      · have h0 := it_f c9 h0
        refine lv_aload_n hx hb dX10_fault_34 rfl (lv_at hl 0 rfl) ?_
        obtain ⟨z_2, hz, h0⟩ := bd_ok h0
        refine ro_V (As := []) (rest := []) (wc := [(h, .inr (7, [.ref h_s, .ref h_aside, .ref h_past, .int h_pasts, .ref h_snapshot, .int h_isKept, .ref h_pad, .int h_length, .ref h_steps, .int h_many, .int h_value, .ref h_summed, .ref h_plus, .ref h_parts])), (h_s, .inl (cI, 65, .inl h_s_f)), (h_aside, .inl (cI, 65, .inl h_aside_f)), (h_past, .inl (cI, 260, .inl h_past_f)), (h_snapshot, .inl (cI, 65, .inl h_snapshot_f)), (h_pad, .inl (cI, 80, .inl h_pad_f)), (h_steps, .inl (cI, 320, .inl h_steps_f)), (h_summed, .inl (cI, 81, .inl h_summed_f)), (h_plus, .inl (cI, 81, .inl h_plus_f)), (h_parts, .inl (cI, 392, .inl h_parts_f))]) hcf (kX10_rowFault l D cI cC cT h h_s h_aside h_past h_snapshot h_pad h_steps h_summed h_plus h_parts h_s_f h_aside_f h_past_f h_pasts h_snapshot_f h_isKept h_pad_f h_length h_steps_f h_many h_value h_summed_f h_plus_f h_parts_f z_2 hz) (cwV 0 hts gX10_fault_X10_rowFault rfl rfl rfl (by decide +kernel) ⟨Nat.le_of_ble_eq_true rfl, Nat.le_of_ble_eq_true rfl⟩) hE (hP.sub [0, 1, 2, 3, 4, 5, 6, 7, 8, 9] rfl) (va_recv hK hP (ci := 7) (q0 := 0) rfl rfl) rfl hl.1 rfl (Nat.le_of_ble_eq_true rfl) dX10_fault_35 ⟨Nat.le_of_ble_eq_true rfl, Nat.le_of_ble_eq_true rfl⟩ ?_
        refine W.eq (g2 := F0 m 38 ls [.int z_2]) rfl ?_
        refine lv_istore_n (lv' := [(2, .int z_2), (0, .ref h), (1, .int p1)]) hx hb dX10_fault_38 rfl hl (by decide) rfl (fun ls hl => ?_)
        refine lv_iload_n hx hb dX10_fault_39 rfl (lv_at hl 0 rfl) ?_
        refine lv_iconst (v := (-1)) hx hb dX10_fault_40 (by decide) ?_
        refine lv_icmp_ne (tgt := 49) hx hb dX10_fault_41 (by decide) (fun c9 => ?_) (fun c9 => ?_)
        · have h0 := it_f c9 h0
          refine lv_iload_n hx hb dX10_fault_49 rfl (lv_at hl 0 rfl) ?_
          have e0 := Option.some.inj h0
          subst e0
          exact W.iret (v := z_2) hx hb hr (fun t ht hW => wr_end () ht hP hD hS) hS.2.2 dX10_fault_50
        · have h0 := it_t c9 h0
          refine lv_bipush (v := (-4)) hx hb dX10_fault_44 (by decide) ?_
          refine lv_goto (tgt := 50) hx hb dX10_fault_46 (by decide) ?_
          have e0 := Option.some.inj h0
          subst e0
          exact W.iret (v := (-4)) hx hb hr (fun t ht hW => wr_end () ht hP hD hS) hS.2.2 dX10_fault_50
      · have h0 := it_t c9 h0
        refine lv_aload_n hx hb dX10_fault_27 rfl (lv_at hl 0 rfl) ?_
        obtain ⟨z_3, hz, h0⟩ := bd_ok h0
        refine wr_V (As := []) (rest := []) (wc := [(h, .inr (7, [.ref h_s, .ref h_aside, .ref h_past, .int h_pasts, .ref h_snapshot, .int h_isKept, .ref h_pad, .int h_length, .ref h_steps, .int h_many, .int h_value, .ref h_summed, .ref h_plus, .ref h_parts])), (h_s, .inl (cI, 65, .inl h_s_f)), (h_aside, .inl (cI, 65, .inl h_aside_f)), (h_past, .inl (cI, 260, .inl h_past_f)), (h_snapshot, .inl (cI, 65, .inl h_snapshot_f)), (h_pad, .inl (cI, 80, .inl h_pad_f)), (h_steps, .inl (cI, 320, .inl h_steps_f)), (h_summed, .inl (cI, 81, .inl h_summed_f)), (h_plus, .inl (cI, 81, .inl h_plus_f)), (h_parts, .inl (cI, 392, .inl h_parts_f))]) (wr := []) hcf (kX10_sumFault l D cI cC cT h h_s h_aside h_past h_snapshot h_pad h_steps h_summed h_plus h_parts h_s_f h_aside_f h_past_f h_pasts h_snapshot_f h_isKept h_pad_f h_length h_steps_f h_many h_value h_summed_f h_plus_f h_parts_f _ z_3 hz) (cwV 0 hts gX10_fault_X10_sumFault rfl rfl rfl (by decide +kernel) ⟨Nat.le_of_ble_eq_true rfl, Nat.le_of_ble_eq_true rfl⟩) hE hP hD hS hA [0, 1, 2, 3, 4, 5, 6, 7, 8, 9] [] (hP.sub [0, 1, 2, 3, 4, 5, 6, 7, 8, 9] rfl) (hD.sub [0, 1, 2, 3, 4, 5, 6, 7, 8, 9] (by decide) rfl) (va_recv hK hP (ci := 7) (q0 := 0) rfl rfl) rfl rfl (by decide) (by decide) rfl hl.1 rfl (Nat.le_of_ble_eq_true rfl) dX10_fault_28 ⟨Nat.le_of_ble_eq_true rfl, Nat.le_of_ble_eq_true rfl⟩ (fun u H locs hP hD hS => ?_)
        have hP : va_P D vwCl [(h, .inr (7, [.ref h_s, .ref h_aside, .ref h_past, .int h_pasts, .ref h_snapshot, .int h_isKept, .ref h_pad, .int h_length, .ref h_steps, .int z_3.2.2.1, .int z_3.2.2.2.1, .ref h_summed, .ref h_plus, .ref h_parts])), (h_s, .inl (cI, 65, .inl h_s_f)), (h_aside, .inl (cI, 65, .inl h_aside_f)), (h_past, .inl (cI, 260, .inl h_past_f)), (h_snapshot, .inl (cI, 65, .inl h_snapshot_f)), (h_pad, .inl (cI, 80, .inl h_pad_f)), (h_steps, .inl (cI, 320, .inl z_3.2.1)), (h_summed, .inl (cI, 81, .inl z_3.2.2.2.2.1)), (h_plus, .inl (cI, 81, .inl z_3.2.2.2.2.2)), (h_parts, .inl (cI, 392, .inl h_parts_f))] H := hP
        have hD : va_D A [(h, .inr (7, [.ref h_s, .ref h_aside, .ref h_past, .int h_pasts, .ref h_snapshot, .int h_isKept, .ref h_pad, .int h_length, .ref h_steps, .int z_3.2.2.1, .int z_3.2.2.2.1, .ref h_summed, .ref h_plus, .ref h_parts])), (h_s, .inl (cI, 65, .inl h_s_f)), (h_aside, .inl (cI, 65, .inl h_aside_f)), (h_past, .inl (cI, 260, .inl h_past_f)), (h_snapshot, .inl (cI, 65, .inl h_snapshot_f)), (h_pad, .inl (cI, 80, .inl h_pad_f)), (h_steps, .inl (cI, 320, .inl z_3.2.1)), (h_summed, .inl (cI, 81, .inl z_3.2.2.2.2.1)), (h_plus, .inl (cI, 81, .inl z_3.2.2.2.2.2)), (h_parts, .inl (cI, 392, .inl h_parts_f))] := hD
        refine W.eq (g2 := F0 m 31 ls [.int z_3.1]) rfl ?_
        refine lv_goto (tgt := 38) hx hb dX10_fault_31 (by decide) ?_
        refine lv_istore_n (lv' := [(2, .int z_3.1), (0, .ref h), (1, .int p1)]) hx hb dX10_fault_38 rfl hl (by decide) rfl (fun ls hl => ?_)
        refine lv_iload_n hx hb dX10_fault_39 rfl (lv_at hl 0 rfl) ?_
        refine lv_iconst (v := (-1)) hx hb dX10_fault_40 (by decide) ?_
        refine lv_icmp_ne (tgt := 49) hx hb dX10_fault_41 (by decide) (fun c9 => ?_) (fun c9 => ?_)
        · have h0 := it_f c9 h0
          refine lv_iload_n hx hb dX10_fault_49 rfl (lv_at hl 0 rfl) ?_
          have e0 := Option.some.inj h0
          subst e0
          exact W.iret (v := z_3.1) hx hb hr (fun t ht hW => wr_end () ht hP hD hS) hS.2.2 dX10_fault_50
        · have h0 := it_t c9 h0
          refine lv_bipush (v := (-4)) hx hb dX10_fault_44 (by decide) ?_
          refine lv_goto (tgt := 50) hx hb dX10_fault_46 (by decide) ?_
          have e0 := Option.some.inj h0
          subst e0
          exact W.iret (v := (-4)) hx hb hr (fun t ht hW => wr_end () ht hP hD hS) hS.2.2 dX10_fault_50
    · have h0 := it_t c9 h0
      refine lv_aload_n hx hb dX10_fault_15 rfl (lv_at hl 0 rfl) ?_
      obtain ⟨z_4, hz, h0⟩ := bd_ok h0
      refine ro_V (As := []) (rest := []) (wc := [(h, .inr (7, [.ref h_s, .ref h_aside, .ref h_past, .int h_pasts, .ref h_snapshot, .int h_isKept, .ref h_pad, .int h_length, .ref h_steps, .int h_many, .int h_value, .ref h_summed, .ref h_plus, .ref h_parts])), (h_s, .inl (cI, 65, .inl h_s_f)), (h_aside, .inl (cI, 65, .inl h_aside_f)), (h_past, .inl (cI, 260, .inl h_past_f)), (h_snapshot, .inl (cI, 65, .inl h_snapshot_f)), (h_pad, .inl (cI, 80, .inl h_pad_f)), (h_steps, .inl (cI, 320, .inl h_steps_f)), (h_summed, .inl (cI, 81, .inl h_summed_f)), (h_plus, .inl (cI, 81, .inl h_plus_f)), (h_parts, .inl (cI, 392, .inl h_parts_f))]) hcf (kX10_tableFault l D cI cC cT h h_s h_aside h_past h_snapshot h_pad h_steps h_summed h_plus h_parts h_s_f h_aside_f h_past_f h_pasts h_snapshot_f h_isKept h_pad_f h_length h_steps_f h_many h_value h_summed_f h_plus_f h_parts_f z_4 hz) (cwV 0 hts gX10_fault_X10_tableFault rfl rfl rfl (by decide +kernel) ⟨Nat.le_of_ble_eq_true rfl, Nat.le_of_ble_eq_true rfl⟩) hE (hP.sub [0, 1, 2, 3, 4, 5, 6, 7, 8, 9] rfl) (va_recv hK hP (ci := 7) (q0 := 0) rfl rfl) rfl hl.1 rfl (Nat.le_of_ble_eq_true rfl) dX10_fault_16 ⟨Nat.le_of_ble_eq_true rfl, Nat.le_of_ble_eq_true rfl⟩ ?_
      refine W.eq (g2 := F0 m 19 ls [.int z_4]) rfl ?_
      refine lv_goto (tgt := 38) hx hb dX10_fault_19 (by decide) ?_
      refine lv_istore_n (lv' := [(2, .int z_4), (0, .ref h), (1, .int p1)]) hx hb dX10_fault_38 rfl hl (by decide) rfl (fun ls hl => ?_)
      refine lv_iload_n hx hb dX10_fault_39 rfl (lv_at hl 0 rfl) ?_
      refine lv_iconst (v := (-1)) hx hb dX10_fault_40 (by decide) ?_
      refine lv_icmp_ne (tgt := 49) hx hb dX10_fault_41 (by decide) (fun c9 => ?_) (fun c9 => ?_)
      · have h0 := it_f c9 h0
        refine lv_iload_n hx hb dX10_fault_49 rfl (lv_at hl 0 rfl) ?_
        have e0 := Option.some.inj h0
        subst e0
        exact W.iret (v := z_4) hx hb hr (fun t ht hW => wr_end () ht hP hD hS) hS.2.2 dX10_fault_50
      · have h0 := it_t c9 h0
        refine lv_bipush (v := (-4)) hx hb dX10_fault_44 (by decide) ?_
        refine lv_goto (tgt := 50) hx hb dX10_fault_46 (by decide) ?_
        have e0 := Option.some.inj h0
        subst e0
        exact W.iret (v := (-4)) hx hb hr (fun t ht hW => wr_end () ht hP hD hS) hS.2.2 dX10_fault_50
  · have h0 := it_t c9 h0
    refine lv_iconst (v := (-1)) hx hb dX10_fault_9 (by decide) ?_
    have e0 := Option.some.inj h0
    subst e0
    exact W.iret (v := (-1)) hx hb hr (fun t ht hW => wr_end () ht hP hD hS) hS.2.2 dX10_fault_10
noncomputable def mX10_step (h_s_f : Nat → Int32) (h_pad_f : Nat → Int32) (h_length : Int32) (h_steps_f : Nat → Int32) (h_many : Int32) (h_value : Int32) (h_summed_f : Nat → Int32) (h_plus_f : Nat → Int32) (p1 : Int32) (p2 : Int32) : Option (Int32 × (Nat → Int32) × Int32 × Int32 × (Nat → Int32) × (Nat → Int32)) :=
  if p1 < 0 then (some ((-1), h_steps_f, h_many, h_value, h_summed_f, h_plus_f)) else (bd (mX10_in p2 0 3) (fun z_1 => if z_1 = 0 then (some ((-1), h_steps_f, h_many, h_value, h_summed_f, h_plus_f)) else (bd (mX10_sumFault h_s_f h_pad_f h_length h_steps_f h_value h_summed_f h_plus_f) (fun z_2 => if z_2.1 = (-1) then (if z_2.2.2.1 ≤ p1 then (some ((-4), z_2.2.1, z_2.2.2.1, z_2.2.2.2.1, z_2.2.2.2.2.1, z_2.2.2.2.2.2)) else (gd (inb (((4 : Int32) * p1) + p2) 320) (some ((z_2.2.1 ((((4 : Int32) * p1) + p2) : Int32).toNatClampNeg), z_2.2.1, z_2.2.2.1, z_2.2.2.2.1, z_2.2.2.2.2.1, z_2.2.2.2.2.2)))) else (some ((-2), z_2.2.1, z_2.2.2.1, z_2.2.2.2.1, z_2.2.2.2.2.1, z_2.2.2.2.2.2))))))
set_option maxHeartbeats 8000000 in
set_option maxRecDepth 100000 in
theorem kX10_step (l : Launch) (D : va_G) (cI cC cT : ClassId) (h h_s h_aside h_past h_snapshot h_pad h_steps h_summed h_plus h_parts : Nat) (h_s_f : Nat → Int32) (h_aside_f : Nat → Int32) (h_past_f : Nat → Int32) (h_pasts : Int32) (h_snapshot_f : Nat → Int32) (h_isKept : Int32) (h_pad_f : Nat → Int32) (h_length : Int32) (h_steps_f : Nat → Int32) (h_many : Int32) (h_value : Int32) (h_summed_f : Nat → Int32) (h_plus_f : Nat → Int32) (h_parts_f : Nat → Int32) (p1 : Int32) (p2 : Int32) (sz : Nat) (z : Int32 × (Nat → Int32) × Int32 × Int32 × (Nat → Int32) × (Nat → Int32)) (h0 : mX10_step h_s_f h_pad_f h_length h_steps_f h_many h_value h_summed_f h_plus_f p1 p2 = some z) : Met l yX10_step wsX10_step ({ frames := 4, cells := 0, slots := 0, locals := 88 } : Room) (va_Pc [.ref h, .int p1, .int p2] (wP D cI cC cT [(h, .inr (7, [.ref h_s, .ref h_aside, .ref h_past, .int h_pasts, .ref h_snapshot, .int h_isKept, .ref h_pad, .int h_length, .ref h_steps, .int h_many, .int h_value, .ref h_summed, .ref h_plus, .ref h_parts])), (h_s, .inl (cI, 65, .inl h_s_f)), (h_aside, .inl (cI, 65, .inl h_aside_f)), (h_past, .inl (cI, 260, .inl h_past_f)), (h_snapshot, .inl (cI, 65, .inl h_snapshot_f)), (h_pad, .inl (cI, 80, .inl h_pad_f)), (h_steps, .inl (cI, 320, .inl h_steps_f)), (h_summed, .inl (cI, 81, .inl h_summed_f)), (h_plus, .inl (cI, 81, .inl h_plus_f)), (h_parts, .inl (cI, 392, .inl h_parts_f))] sz)) (wQ D (some (.int z.1)) (va_A [(h, .inr (7, [.ref h_s, .ref h_aside, .ref h_past, .int h_pasts, .ref h_snapshot, .int h_isKept, .ref h_pad, .int h_length, .ref h_steps, .int h_many, .int h_value, .ref h_summed, .ref h_plus, .ref h_parts])), (h_s, .inl (cI, 65, .inl h_s_f)), (h_aside, .inl (cI, 65, .inl h_aside_f)), (h_past, .inl (cI, 260, .inl h_past_f)), (h_snapshot, .inl (cI, 65, .inl h_snapshot_f)), (h_pad, .inl (cI, 80, .inl h_pad_f)), (h_steps, .inl (cI, 320, .inl h_steps_f)), (h_summed, .inl (cI, 81, .inl h_summed_f)), (h_plus, .inl (cI, 81, .inl h_plus_f)), (h_parts, .inl (cI, 392, .inl h_parts_f))] sz) (fun (u : Unit) => [(h, .inr (7, [.ref h_s, .ref h_aside, .ref h_past, .int h_pasts, .ref h_snapshot, .int h_isKept, .ref h_pad, .int h_length, .ref h_steps, .int z.2.2.1, .int z.2.2.2.1, .ref h_summed, .ref h_plus, .ref h_parts])), (h_s, .inl (cI, 65, .inl h_s_f)), (h_aside, .inl (cI, 65, .inl h_aside_f)), (h_past, .inl (cI, 260, .inl h_past_f)), (h_snapshot, .inl (cI, 65, .inl h_snapshot_f)), (h_pad, .inl (cI, 80, .inl h_pad_f)), (h_steps, .inl (cI, 320, .inl z.2.1)), (h_summed, .inl (cI, 81, .inl z.2.2.2.2.1)), (h_plus, .inl (cI, 81, .inl z.2.2.2.2.2)), (h_parts, .inl (cI, 392, .inl h_parts_f))])) 0 0 (va_A [(h, .inr (7, [.ref h_s, .ref h_aside, .ref h_past, .int h_pasts, .ref h_snapshot, .int h_isKept, .ref h_pad, .int h_length, .ref h_steps, .int h_many, .int h_value, .ref h_summed, .ref h_plus, .ref h_parts])), (h_s, .inl (cI, 65, .inl h_s_f)), (h_aside, .inl (cI, 65, .inl h_aside_f)), (h_past, .inl (cI, 260, .inl h_past_f)), (h_snapshot, .inl (cI, 65, .inl h_snapshot_f)), (h_pad, .inl (cI, 80, .inl h_pad_f)), (h_steps, .inl (cI, 320, .inl h_steps_f)), (h_summed, .inl (cI, 81, .inl h_summed_f)), (h_plus, .inl (cI, 81, .inl h_plus_f)), (h_parts, .inl (cI, 392, .inl h_parts_f))] sz) := by
  refine Met.ofW (cc := cX10_step) (maxL := 3) (ret := (some .int)) (by decide) rfl ?_
  intro p e s m args below meth c s₁ B hml hv
  obtain ⟨rfl, hsz, hP, hE, hD0⟩ := hv
  have hx := B.exec
  have hb := B.bytes
  have hr := B.returns
  have hts := atoms_spec (ws := wsX10_step) B.pre
  have hown : s.vm.findClass RX10 = some m.cls := findClass_of_methodNamed B.named
  have hlocks := B.notSynchronized
  have hK := hE.1
  have hcf : CallFix p m c cX10_step 3 s ([.ref h, .int p1, .int p2] : List Value).toArray wsX10_step RX10 := ⟨hx, hb, hml, hown, hts⟩
  subst hsz
  have hD := hD0.self (sz := s.heap.size)
  generalize hAe : va_A [(h, .inr (7, [.ref h_s, .ref h_aside, .ref h_past, .int h_pasts, .ref h_snapshot, .int h_isKept, .ref h_pad, .int h_length, .ref h_steps, .int h_many, .int h_value, .ref h_summed, .ref h_plus, .ref h_parts])), (h_s, .inl (cI, 65, .inl h_s_f)), (h_aside, .inl (cI, 65, .inl h_aside_f)), (h_past, .inl (cI, 260, .inl h_past_f)), (h_snapshot, .inl (cI, 65, .inl h_snapshot_f)), (h_pad, .inl (cI, 80, .inl h_pad_f)), (h_steps, .inl (cI, 320, .inl h_steps_f)), (h_summed, .inl (cI, 81, .inl h_summed_f)), (h_plus, .inl (cI, 81, .inl h_plus_f)), (h_parts, .inl (cI, 392, .inl h_parts_f))] s.heap.size = A at hD ⊢
  have hA : ∀ q : Nat, s.heap.size ≤ q → A q := fun q h => by rw [← hAe]; exact Or.inr h
  have hS : va_S A s.heap s.heap [] := va_S.rf
  have hP : va_P D vwCl [(h, .inr (7, [.ref h_s, .ref h_aside, .ref h_past, .int h_pasts, .ref h_snapshot, .int h_isKept, .ref h_pad, .int h_length, .ref h_steps, .int h_many, .int h_value, .ref h_summed, .ref h_plus, .ref h_parts])), (h_s, .inl (cI, 65, .inl h_s_f)), (h_aside, .inl (cI, 65, .inl h_aside_f)), (h_past, .inl (cI, 260, .inl h_past_f)), (h_snapshot, .inl (cI, 65, .inl h_snapshot_f)), (h_pad, .inl (cI, 80, .inl h_pad_f)), (h_steps, .inl (cI, 320, .inl h_steps_f)), (h_summed, .inl (cI, 81, .inl h_summed_f)), (h_plus, .inl (cI, 81, .inl h_plus_f)), (h_parts, .inl (cI, 392, .inl h_parts_f))] s.heap := hP
  have hf_120 := hts (.fieldLink RX10 120 "CrookedSumsModel" "many" "I") (by decide +kernel)
  have hi_X10 := (show ∀ w ∈ u_ws RX10 TX10 14, w ∈ wsX10_step from by decide +kernel)
  have hf_25 := hts (.fieldLink RX10 25 "CrookedSumsModel" "steps" "[I") (by decide +kernel)
  have hl := lv_entry ([.ref h, .int p1, .int p2]) (n := 3) (Nat.le_of_ble_eq_true rfl)
  rw [lg_entry_eq]
  generalize (lg_sl ([.ref h, .int p1, .int p2]) ++ List.replicate (3 - (lg_sl ([.ref h, .int p1, .int p2])).length) Slot.unset).toArray = ls at hl ⊢
  have hl : lv_has ls 3 [(0, .ref h), (1, .int p1), (2, .int p2)] := hl
  unfold mX10_step at h0
  refine lv_iload_n hx hb dX10_step_0 rfl (lv_at hl 1 rfl) ?_
  refine lv_if_lt (tgt := 13) hx hb dX10_step_1 (by decide) (fun c9 => ?_) (fun c9 => ?_)
  · have h0 := it_t c9 h0
    refine lv_iconst (v := (-1)) hx hb dX10_step_13 (by decide) ?_
    have e0 := Option.some.inj h0
    subst e0
    exact W.iret (v := (-1)) hx hb hr (fun t ht hW => wr_end () ht hP hD hS) hS.2.2 dX10_step_14
  · have h0 := it_f c9 h0
    refine lv_iload_n hx hb dX10_step_4 rfl (lv_at hl 2 rfl) ?_
    refine lv_iconst (v := 0) hx hb dX10_step_5 (by decide) ?_
    refine lv_iconst (v := 3) hx hb dX10_step_6 (by decide) ?_
    obtain ⟨z_1, hz, h0⟩ := bd_ok h0
    refine ro_S (As := [.int p2, .int 0, .int 3]) (rest := []) (wc := []) hcf (kX10_in l D cI cC cT p2 0 3 z_1 hz) (va_cwS 3 hts gX10_step_X10_in rfl rfl rfl (by decide +kernel) ⟨Nat.le_of_ble_eq_true rfl, Nat.le_of_ble_eq_true rfl⟩) hE (hP.sub [] rfl) rfl hl.1 rfl (Nat.le_of_ble_eq_true rfl) dX10_step_7 ⟨Nat.le_of_ble_eq_true rfl, Nat.le_of_ble_eq_true rfl⟩ ?_
    refine W.eq (g2 := F0 m 10 ls [.int z_1]) rfl ?_
    refine lv_if_ne (tgt := 15) hx hb dX10_step_10 (by decide) (fun c9 => ?_) (fun c9 => ?_)
    · have h0 := it_f c9 h0
      refine lv_aload_n hx hb dX10_step_15 rfl (lv_at hl 0 rfl) ?_
      obtain ⟨z_2, hz, h0⟩ := bd_ok h0
      refine wr_V (As := []) (rest := []) (wc := [(h, .inr (7, [.ref h_s, .ref h_aside, .ref h_past, .int h_pasts, .ref h_snapshot, .int h_isKept, .ref h_pad, .int h_length, .ref h_steps, .int h_many, .int h_value, .ref h_summed, .ref h_plus, .ref h_parts])), (h_s, .inl (cI, 65, .inl h_s_f)), (h_aside, .inl (cI, 65, .inl h_aside_f)), (h_past, .inl (cI, 260, .inl h_past_f)), (h_snapshot, .inl (cI, 65, .inl h_snapshot_f)), (h_pad, .inl (cI, 80, .inl h_pad_f)), (h_steps, .inl (cI, 320, .inl h_steps_f)), (h_summed, .inl (cI, 81, .inl h_summed_f)), (h_plus, .inl (cI, 81, .inl h_plus_f)), (h_parts, .inl (cI, 392, .inl h_parts_f))]) (wr := []) hcf (kX10_sumFault l D cI cC cT h h_s h_aside h_past h_snapshot h_pad h_steps h_summed h_plus h_parts h_s_f h_aside_f h_past_f h_pasts h_snapshot_f h_isKept h_pad_f h_length h_steps_f h_many h_value h_summed_f h_plus_f h_parts_f _ z_2 hz) (cwV 0 hts gX10_step_X10_sumFault rfl rfl rfl (by decide +kernel) ⟨Nat.le_of_ble_eq_true rfl, Nat.le_of_ble_eq_true rfl⟩) hE hP hD hS hA [0, 1, 2, 3, 4, 5, 6, 7, 8, 9] [] (hP.sub [0, 1, 2, 3, 4, 5, 6, 7, 8, 9] rfl) (hD.sub [0, 1, 2, 3, 4, 5, 6, 7, 8, 9] (by decide) rfl) (va_recv hK hP (ci := 7) (q0 := 0) rfl rfl) rfl rfl (by decide) (by decide) rfl hl.1 rfl (Nat.le_of_ble_eq_true rfl) dX10_step_16 ⟨Nat.le_of_ble_eq_true rfl, Nat.le_of_ble_eq_true rfl⟩ (fun u H locs hP hD hS => ?_)
      have hP : va_P D vwCl [(h, .inr (7, [.ref h_s, .ref h_aside, .ref h_past, .int h_pasts, .ref h_snapshot, .int h_isKept, .ref h_pad, .int h_length, .ref h_steps, .int z_2.2.2.1, .int z_2.2.2.2.1, .ref h_summed, .ref h_plus, .ref h_parts])), (h_s, .inl (cI, 65, .inl h_s_f)), (h_aside, .inl (cI, 65, .inl h_aside_f)), (h_past, .inl (cI, 260, .inl h_past_f)), (h_snapshot, .inl (cI, 65, .inl h_snapshot_f)), (h_pad, .inl (cI, 80, .inl h_pad_f)), (h_steps, .inl (cI, 320, .inl z_2.2.1)), (h_summed, .inl (cI, 81, .inl z_2.2.2.2.2.1)), (h_plus, .inl (cI, 81, .inl z_2.2.2.2.2.2)), (h_parts, .inl (cI, 392, .inl h_parts_f))] H := hP
      have hD : va_D A [(h, .inr (7, [.ref h_s, .ref h_aside, .ref h_past, .int h_pasts, .ref h_snapshot, .int h_isKept, .ref h_pad, .int h_length, .ref h_steps, .int z_2.2.2.1, .int z_2.2.2.2.1, .ref h_summed, .ref h_plus, .ref h_parts])), (h_s, .inl (cI, 65, .inl h_s_f)), (h_aside, .inl (cI, 65, .inl h_aside_f)), (h_past, .inl (cI, 260, .inl h_past_f)), (h_snapshot, .inl (cI, 65, .inl h_snapshot_f)), (h_pad, .inl (cI, 80, .inl h_pad_f)), (h_steps, .inl (cI, 320, .inl z_2.2.1)), (h_summed, .inl (cI, 81, .inl z_2.2.2.2.2.1)), (h_plus, .inl (cI, 81, .inl z_2.2.2.2.2.2)), (h_parts, .inl (cI, 392, .inl h_parts_f))] := hD
      refine W.eq (g2 := F0 m 19 ls [.int z_2.1]) rfl ?_
      refine lv_iconst (v := (-1)) hx hb dX10_step_19 (by decide) ?_
      refine lv_icmp_eq (tgt := 26) hx hb dX10_step_20 (by decide) (fun c9 => ?_) (fun c9 => ?_)
      · have h0 := it_t c9 h0
        refine lv_iload_n hx hb dX10_step_26 rfl (lv_at hl 1 rfl) ?_
        refine lv_aload_n hx hb dX10_step_27 rfl (lv_at hl 0 rfl) ?_
        refine va_get (D := D) (ci := 7) (v := .int z_2.2.2.1) (C := RX10) (T := TX10) (N := 14) hx hb hts hi_X10 hown hK hP 0 rfl rfl 9 (by decide) hf_120 (fun _ h9 => h9) rfl dX10_step_28 ?_
        refine lv_icmp_ge (tgt := 47) hx hb dX10_step_31 (by decide) (fun c9 => ?_) (fun c9 => ?_)
        · have h0 := it_t c9 h0
          refine lv_bipush (v := (-4)) hx hb dX10_step_47 (by decide) ?_
          have e0 := Option.some.inj h0
          subst e0
          exact W.iret (v := (-4)) hx hb hr (fun t ht hW => wr_end () ht hP hD hS) hS.2.2 dX10_step_49
        · have h0 := it_f c9 h0
          refine lv_aload_n hx hb dX10_step_34 rfl (lv_at hl 0 rfl) ?_
          refine va_get (D := D) (ci := 7) (v := .ref h_steps) (C := RX10) (T := TX10) (N := 14) hx hb hts hi_X10 hown hK hP 0 rfl rfl 8 (by decide) hf_25 (fun _ h9 => h9) rfl dX10_step_35 ?_
          refine lv_iconst (v := 4) hx hb dX10_step_38 (by decide) ?_
          refine lv_iload_n hx hb dX10_step_39 rfl (lv_at hl 1 rfl) ?_
          refine lv_imul hx hb dX10_step_40 ?_
          refine lv_iload_n hx hb dX10_step_41 rfl (lv_at hl 2 rfl) ?_
          refine lv_iadd hx hb dX10_step_42 ?_
          obtain ⟨g0, h0⟩ := gd_ok h0
          refine va_iald hx hb hK hP 6 0 rfl rfl (inb_ok g0) dX10_step_43 ?_
          refine lv_goto (tgt := 49) hx hb dX10_step_44 (by decide) ?_
          have e0 := Option.some.inj h0
          subst e0
          exact W.iret (v := (z_2.2.1 ((((4 : Int32) * p1) + p2) : Int32).toNatClampNeg)) hx hb hr (fun t ht hW => wr_end () ht hP hD hS) hS.2.2 dX10_step_49
      · have h0 := it_f c9 h0
        refine lv_bipush (v := (-2)) hx hb dX10_step_23 (by decide) ?_
        have e0 := Option.some.inj h0
        subst e0
        exact W.iret (v := (-2)) hx hb hr (fun t ht hW => wr_end () ht hP hD hS) hS.2.2 dX10_step_25
    · have h0 := it_t c9 h0
      refine lv_iconst (v := (-1)) hx hb dX10_step_13 (by decide) ?_
      have e0 := Option.some.inj h0
      subst e0
      exact W.iret (v := (-1)) hx hb hr (fun t ht hW => wr_end () ht hP hD hS) hS.2.2 dX10_step_14
noncomputable def mX10_value (h_s_f : Nat → Int32) (h_pad_f : Nat → Int32) (h_length : Int32) (h_steps_f : Nat → Int32) (h_value : Int32) (h_summed_f : Nat → Int32) (h_plus_f : Nat → Int32) : Option (Int32 × (Nat → Int32) × Int32 × Int32 × (Nat → Int32) × (Nat → Int32)) :=
  bd (mX10_sumFault h_s_f h_pad_f h_length h_steps_f h_value h_summed_f h_plus_f) (fun z_1 => if z_1.1 = (-1) then (some (z_1.2.2.2.1, z_1.2.1, z_1.2.2.1, z_1.2.2.2.1, z_1.2.2.2.2.1, z_1.2.2.2.2.2)) else (some ((-2), z_1.2.1, z_1.2.2.1, z_1.2.2.2.1, z_1.2.2.2.2.1, z_1.2.2.2.2.2)))
set_option maxHeartbeats 8000000 in
set_option maxRecDepth 100000 in
theorem kX10_value (l : Launch) (D : va_G) (cI cC cT : ClassId) (h h_s h_aside h_past h_snapshot h_pad h_steps h_summed h_plus h_parts : Nat) (h_s_f : Nat → Int32) (h_aside_f : Nat → Int32) (h_past_f : Nat → Int32) (h_pasts : Int32) (h_snapshot_f : Nat → Int32) (h_isKept : Int32) (h_pad_f : Nat → Int32) (h_length : Int32) (h_steps_f : Nat → Int32) (h_many : Int32) (h_value : Int32) (h_summed_f : Nat → Int32) (h_plus_f : Nat → Int32) (h_parts_f : Nat → Int32) (sz : Nat) (z : Int32 × (Nat → Int32) × Int32 × Int32 × (Nat → Int32) × (Nat → Int32)) (h0 : mX10_value h_s_f h_pad_f h_length h_steps_f h_value h_summed_f h_plus_f = some z) : Met l yX10_value wsX10_value ({ frames := 4, cells := 0, slots := 0, locals := 88 } : Room) (va_Pc [.ref h] (wP D cI cC cT [(h, .inr (7, [.ref h_s, .ref h_aside, .ref h_past, .int h_pasts, .ref h_snapshot, .int h_isKept, .ref h_pad, .int h_length, .ref h_steps, .int h_many, .int h_value, .ref h_summed, .ref h_plus, .ref h_parts])), (h_s, .inl (cI, 65, .inl h_s_f)), (h_aside, .inl (cI, 65, .inl h_aside_f)), (h_past, .inl (cI, 260, .inl h_past_f)), (h_snapshot, .inl (cI, 65, .inl h_snapshot_f)), (h_pad, .inl (cI, 80, .inl h_pad_f)), (h_steps, .inl (cI, 320, .inl h_steps_f)), (h_summed, .inl (cI, 81, .inl h_summed_f)), (h_plus, .inl (cI, 81, .inl h_plus_f)), (h_parts, .inl (cI, 392, .inl h_parts_f))] sz)) (wQ D (some (.int z.1)) (va_A [(h, .inr (7, [.ref h_s, .ref h_aside, .ref h_past, .int h_pasts, .ref h_snapshot, .int h_isKept, .ref h_pad, .int h_length, .ref h_steps, .int h_many, .int h_value, .ref h_summed, .ref h_plus, .ref h_parts])), (h_s, .inl (cI, 65, .inl h_s_f)), (h_aside, .inl (cI, 65, .inl h_aside_f)), (h_past, .inl (cI, 260, .inl h_past_f)), (h_snapshot, .inl (cI, 65, .inl h_snapshot_f)), (h_pad, .inl (cI, 80, .inl h_pad_f)), (h_steps, .inl (cI, 320, .inl h_steps_f)), (h_summed, .inl (cI, 81, .inl h_summed_f)), (h_plus, .inl (cI, 81, .inl h_plus_f)), (h_parts, .inl (cI, 392, .inl h_parts_f))] sz) (fun (u : Unit) => [(h, .inr (7, [.ref h_s, .ref h_aside, .ref h_past, .int h_pasts, .ref h_snapshot, .int h_isKept, .ref h_pad, .int h_length, .ref h_steps, .int z.2.2.1, .int z.2.2.2.1, .ref h_summed, .ref h_plus, .ref h_parts])), (h_s, .inl (cI, 65, .inl h_s_f)), (h_aside, .inl (cI, 65, .inl h_aside_f)), (h_past, .inl (cI, 260, .inl h_past_f)), (h_snapshot, .inl (cI, 65, .inl h_snapshot_f)), (h_pad, .inl (cI, 80, .inl h_pad_f)), (h_steps, .inl (cI, 320, .inl z.2.1)), (h_summed, .inl (cI, 81, .inl z.2.2.2.2.1)), (h_plus, .inl (cI, 81, .inl z.2.2.2.2.2)), (h_parts, .inl (cI, 392, .inl h_parts_f))])) 0 0 (va_A [(h, .inr (7, [.ref h_s, .ref h_aside, .ref h_past, .int h_pasts, .ref h_snapshot, .int h_isKept, .ref h_pad, .int h_length, .ref h_steps, .int h_many, .int h_value, .ref h_summed, .ref h_plus, .ref h_parts])), (h_s, .inl (cI, 65, .inl h_s_f)), (h_aside, .inl (cI, 65, .inl h_aside_f)), (h_past, .inl (cI, 260, .inl h_past_f)), (h_snapshot, .inl (cI, 65, .inl h_snapshot_f)), (h_pad, .inl (cI, 80, .inl h_pad_f)), (h_steps, .inl (cI, 320, .inl h_steps_f)), (h_summed, .inl (cI, 81, .inl h_summed_f)), (h_plus, .inl (cI, 81, .inl h_plus_f)), (h_parts, .inl (cI, 392, .inl h_parts_f))] sz) := by
  refine Met.ofW (cc := cX10_value) (maxL := 1) (ret := (some .int)) (by decide) rfl ?_
  intro p e s m args below meth c s₁ B hml hv
  obtain ⟨rfl, hsz, hP, hE, hD0⟩ := hv
  have hx := B.exec
  have hb := B.bytes
  have hr := B.returns
  have hts := atoms_spec (ws := wsX10_value) B.pre
  have hown : s.vm.findClass RX10 = some m.cls := findClass_of_methodNamed B.named
  have hlocks := B.notSynchronized
  have hK := hE.1
  have hcf : CallFix p m c cX10_value 1 s ([.ref h] : List Value).toArray wsX10_value RX10 := ⟨hx, hb, hml, hown, hts⟩
  subst hsz
  have hD := hD0.self (sz := s.heap.size)
  generalize hAe : va_A [(h, .inr (7, [.ref h_s, .ref h_aside, .ref h_past, .int h_pasts, .ref h_snapshot, .int h_isKept, .ref h_pad, .int h_length, .ref h_steps, .int h_many, .int h_value, .ref h_summed, .ref h_plus, .ref h_parts])), (h_s, .inl (cI, 65, .inl h_s_f)), (h_aside, .inl (cI, 65, .inl h_aside_f)), (h_past, .inl (cI, 260, .inl h_past_f)), (h_snapshot, .inl (cI, 65, .inl h_snapshot_f)), (h_pad, .inl (cI, 80, .inl h_pad_f)), (h_steps, .inl (cI, 320, .inl h_steps_f)), (h_summed, .inl (cI, 81, .inl h_summed_f)), (h_plus, .inl (cI, 81, .inl h_plus_f)), (h_parts, .inl (cI, 392, .inl h_parts_f))] s.heap.size = A at hD ⊢
  have hA : ∀ q : Nat, s.heap.size ≤ q → A q := fun q h => by rw [← hAe]; exact Or.inr h
  have hS : va_S A s.heap s.heap [] := va_S.rf
  have hP : va_P D vwCl [(h, .inr (7, [.ref h_s, .ref h_aside, .ref h_past, .int h_pasts, .ref h_snapshot, .int h_isKept, .ref h_pad, .int h_length, .ref h_steps, .int h_many, .int h_value, .ref h_summed, .ref h_plus, .ref h_parts])), (h_s, .inl (cI, 65, .inl h_s_f)), (h_aside, .inl (cI, 65, .inl h_aside_f)), (h_past, .inl (cI, 260, .inl h_past_f)), (h_snapshot, .inl (cI, 65, .inl h_snapshot_f)), (h_pad, .inl (cI, 80, .inl h_pad_f)), (h_steps, .inl (cI, 320, .inl h_steps_f)), (h_summed, .inl (cI, 81, .inl h_summed_f)), (h_plus, .inl (cI, 81, .inl h_plus_f)), (h_parts, .inl (cI, 392, .inl h_parts_f))] s.heap := hP
  have hf_126 := hts (.fieldLink RX10 126 "CrookedSumsModel" "value" "I") (by decide +kernel)
  have hi_X10 := (show ∀ w ∈ u_ws RX10 TX10 14, w ∈ wsX10_value from by decide +kernel)
  have hl := lv_entry ([.ref h]) (n := 1) (Nat.le_of_ble_eq_true rfl)
  rw [lg_entry_eq]
  generalize (lg_sl ([.ref h]) ++ List.replicate (1 - (lg_sl ([.ref h])).length) Slot.unset).toArray = ls at hl ⊢
  have hl : lv_has ls 1 [(0, .ref h)] := hl
  unfold mX10_value at h0
  refine lv_aload_n hx hb dX10_value_0 rfl (lv_at hl 0 rfl) ?_
  obtain ⟨z_1, hz, h0⟩ := bd_ok h0
  refine wr_V (As := []) (rest := []) (wc := [(h, .inr (7, [.ref h_s, .ref h_aside, .ref h_past, .int h_pasts, .ref h_snapshot, .int h_isKept, .ref h_pad, .int h_length, .ref h_steps, .int h_many, .int h_value, .ref h_summed, .ref h_plus, .ref h_parts])), (h_s, .inl (cI, 65, .inl h_s_f)), (h_aside, .inl (cI, 65, .inl h_aside_f)), (h_past, .inl (cI, 260, .inl h_past_f)), (h_snapshot, .inl (cI, 65, .inl h_snapshot_f)), (h_pad, .inl (cI, 80, .inl h_pad_f)), (h_steps, .inl (cI, 320, .inl h_steps_f)), (h_summed, .inl (cI, 81, .inl h_summed_f)), (h_plus, .inl (cI, 81, .inl h_plus_f)), (h_parts, .inl (cI, 392, .inl h_parts_f))]) (wr := []) hcf (kX10_sumFault l D cI cC cT h h_s h_aside h_past h_snapshot h_pad h_steps h_summed h_plus h_parts h_s_f h_aside_f h_past_f h_pasts h_snapshot_f h_isKept h_pad_f h_length h_steps_f h_many h_value h_summed_f h_plus_f h_parts_f _ z_1 hz) (cwV 0 hts gX10_value_X10_sumFault rfl rfl rfl (by decide +kernel) ⟨Nat.le_of_ble_eq_true rfl, Nat.le_of_ble_eq_true rfl⟩) hE hP hD hS hA [0, 1, 2, 3, 4, 5, 6, 7, 8, 9] [] (hP.sub [0, 1, 2, 3, 4, 5, 6, 7, 8, 9] rfl) (hD.sub [0, 1, 2, 3, 4, 5, 6, 7, 8, 9] (by decide) rfl) (va_recv hK hP (ci := 7) (q0 := 0) rfl rfl) rfl rfl (by decide) (by decide) rfl hl.1 rfl (Nat.le_of_ble_eq_true rfl) dX10_value_1 ⟨Nat.le_of_ble_eq_true rfl, Nat.le_of_ble_eq_true rfl⟩ (fun u H locs hP hD hS => ?_)
  have hP : va_P D vwCl [(h, .inr (7, [.ref h_s, .ref h_aside, .ref h_past, .int h_pasts, .ref h_snapshot, .int h_isKept, .ref h_pad, .int h_length, .ref h_steps, .int z_1.2.2.1, .int z_1.2.2.2.1, .ref h_summed, .ref h_plus, .ref h_parts])), (h_s, .inl (cI, 65, .inl h_s_f)), (h_aside, .inl (cI, 65, .inl h_aside_f)), (h_past, .inl (cI, 260, .inl h_past_f)), (h_snapshot, .inl (cI, 65, .inl h_snapshot_f)), (h_pad, .inl (cI, 80, .inl h_pad_f)), (h_steps, .inl (cI, 320, .inl z_1.2.1)), (h_summed, .inl (cI, 81, .inl z_1.2.2.2.2.1)), (h_plus, .inl (cI, 81, .inl z_1.2.2.2.2.2)), (h_parts, .inl (cI, 392, .inl h_parts_f))] H := hP
  have hD : va_D A [(h, .inr (7, [.ref h_s, .ref h_aside, .ref h_past, .int h_pasts, .ref h_snapshot, .int h_isKept, .ref h_pad, .int h_length, .ref h_steps, .int z_1.2.2.1, .int z_1.2.2.2.1, .ref h_summed, .ref h_plus, .ref h_parts])), (h_s, .inl (cI, 65, .inl h_s_f)), (h_aside, .inl (cI, 65, .inl h_aside_f)), (h_past, .inl (cI, 260, .inl h_past_f)), (h_snapshot, .inl (cI, 65, .inl h_snapshot_f)), (h_pad, .inl (cI, 80, .inl h_pad_f)), (h_steps, .inl (cI, 320, .inl z_1.2.1)), (h_summed, .inl (cI, 81, .inl z_1.2.2.2.2.1)), (h_plus, .inl (cI, 81, .inl z_1.2.2.2.2.2)), (h_parts, .inl (cI, 392, .inl h_parts_f))] := hD
  refine W.eq (g2 := F0 m 4 ls [.int z_1.1]) rfl ?_
  refine lv_iconst (v := (-1)) hx hb dX10_value_4 (by decide) ?_
  refine lv_icmp_ne (tgt := 15) hx hb dX10_value_5 (by decide) (fun c9 => ?_) (fun c9 => ?_)
  · have h0 := it_f c9 h0
    refine lv_bipush (v := (-2)) hx hb dX10_value_15 (by decide) ?_
    have e0 := Option.some.inj h0
    subst e0
    exact W.iret (v := (-2)) hx hb hr (fun t ht hW => wr_end () ht hP hD hS) hS.2.2 dX10_value_17
  · have h0 := it_t c9 h0
    refine lv_aload_n hx hb dX10_value_8 rfl (lv_at hl 0 rfl) ?_
    refine va_get (D := D) (ci := 7) (v := .int z_1.2.2.2.1) (C := RX10) (T := TX10) (N := 14) hx hb hts hi_X10 hown hK hP 0 rfl rfl 10 (by decide) hf_126 (fun _ h9 => h9) rfl dX10_value_9 ?_
    refine lv_goto (tgt := 17) hx hb dX10_value_12 (by decide) ?_
    have e0 := Option.some.inj h0
    subst e0
    exact W.iret (v := z_1.2.2.2.1) hx hb hr (fun t ht hW => wr_end () ht hP hD hS) hS.2.2 dX10_value_17
