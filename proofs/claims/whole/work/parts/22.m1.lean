noncomputable def mX10_at (p1 : Int32) (p2 : Int32) : Option (Int32) :=
  some ((((1 : Int32) + ((8 : Int32) * p1)) + p2))
set_option maxHeartbeats 8000000 in
set_option maxRecDepth 100000 in
theorem kX10_at (l : Launch) (D : va_G) (cI cC cT : ClassId) (p1 : Int32) (p2 : Int32) (z : Int32) (h0 : mX10_at p1 p2 = some z) : Met l yX10_at wsX10_at ({ frames := 0, cells := 0, slots := 0, locals := 0 } : Room) (va_Pc [.int p1, .int p2] (rP D cI cC cT [])) (rQ (some (.int z))) 0 0 (fun _ => False) := by
  refine Met.ofW (cc := cX10_at) (maxL := 2) (ret := (some .int)) (by decide) rfl ?_
  intro p e s m args below meth c s₁ B hml hv
  obtain ⟨rfl, hP, hE⟩ := hv
  have hx := B.exec
  have hb := B.bytes
  have hr := B.returns
  have hts := atoms_spec (ws := wsX10_at) B.pre
  have hown : s.vm.findClass RX10 = some m.cls := findClass_of_methodNamed B.named
  have hlocks := B.notSynchronized
  have hK := hE.1
  have hcf : CallFix p m c cX10_at 2 s ([.int p1, .int p2] : List Value).toArray wsX10_at RX10 := ⟨hx, hb, hml, hown, hts⟩
  have hP : va_P D vwCl [] s.heap := hP
  have hl := lv_entry ([.int p1, .int p2]) (n := 2) (Nat.le_of_ble_eq_true rfl)
  rw [lg_entry_eq]
  generalize (lg_sl ([.int p1, .int p2]) ++ List.replicate (2 - (lg_sl ([.int p1, .int p2])).length) Slot.unset).toArray = ls at hl ⊢
  have hl : lv_has ls 2 [(0, .int p1), (1, .int p2)] := hl
  unfold mX10_at at h0
  refine lv_iconst (v := 1) hx hb dX10_at_0 (by decide) ?_
  refine lv_bipush (v := 8) hx hb dX10_at_1 (by decide) ?_
  refine lv_iload_n hx hb dX10_at_3 rfl (lv_at hl 0 rfl) ?_
  refine lv_imul hx hb dX10_at_4 ?_
  refine lv_iadd hx hb dX10_at_5 ?_
  refine lv_iload_n hx hb dX10_at_6 rfl (lv_at hl 1 rfl) ?_
  refine lv_iadd hx hb dX10_at_7 ?_
  have e0 := Option.some.inj h0
  subst e0
  exact W.iret (v := (((1 : Int32) + ((8 : Int32) * p1)) + p2)) hx hb hr (fun t ht hW => ⟨rfl, ht⟩) (fun q hq => absurd hq List.not_mem_nil) dX10_at_8
noncomputable def mX10_lays_L18 (p1 : Int32) (p2 : Int32) (x3_4 : Int32) (k18_65 : Int32 → (Nat → Int32) → Option ((Nat → Int32))) : Nat → Int32 → (Nat → Int32) → Option ((Nat → Int32))
  | 0, _, _ => none
  | F + 1, x4_9, f_10 => if (8 : Int32) ≤ x4_9 then (k18_65 x4_9 f_10) else (bd (mX10_at x3_4 x4_9) (fun z_11 => if p1 ≤ x3_4 then (gd (inb z_11 65) (mX10_lays_L18 p1 p2 x3_4 k18_65 F (x4_9 + 1) (upd f_10 (z_11 : Int32).toNatClampNeg 0))) else (if p1 ≤ x4_9 then (gd (inb z_11 65) (mX10_lays_L18 p1 p2 x3_4 k18_65 F (x4_9 + 1) (upd f_10 (z_11 : Int32).toNatClampNeg 0))) else (gd (nzb p1) (gd (inb z_11 65) (mX10_lays_L18 p1 p2 x3_4 k18_65 F (x4_9 + 1) (upd f_10 (z_11 : Int32).toNatClampNeg (((p2 * x3_4) + x4_9) - ((p2 * x3_4) + x4_9) / p1 * p1))))))))
noncomputable def mX10_lays_L9 (p1 : Int32) (p2 : Int32) (k9_71 : Int32 → (Nat → Int32) → Option ((Nat → Int32))) : Nat → Int32 → (Nat → Int32) → Option ((Nat → Int32))
  | 0, _, _ => none
  | F + 1, x3_4, f_5 => if (8 : Int32) ≤ x3_4 then (k9_71 x3_4 f_5) else (mX10_lays_L18 p1 p2 x3_4 (fun (x4_6 : Int32) (f_7 : Nat → Int32) => mX10_lays_L9 p1 p2 k9_71 F (x3_4 + 1) f_7) FU 0 f_5)
noncomputable def mX10_lays (h_s_f : Nat → Int32) (p1 : Int32) (p2 : Int32) : Option ((Nat → Int32)) :=
  mX10_lays_L9 p1 p2 (fun (x3_1 : Int32) (f_2 : Nat → Int32) => some (f_2)) FU 0 (upd h_s_f (0 : Int32).toNatClampNeg p1)
set_option maxHeartbeats 8000000 in
set_option maxRecDepth 100000 in
theorem kX10_lays (l : Launch) (D : va_G) (cI cC cT : ClassId) (h h_s h_aside h_past h_snapshot h_pad h_steps h_summed h_plus h_parts : Nat) (h_s_f : Nat → Int32) (h_aside_f : Nat → Int32) (h_past_f : Nat → Int32) (h_pasts : Int32) (h_snapshot_f : Nat → Int32) (h_isKept : Int32) (h_pad_f : Nat → Int32) (h_length : Int32) (h_steps_f : Nat → Int32) (h_many : Int32) (h_value : Int32) (h_summed_f : Nat → Int32) (h_plus_f : Nat → Int32) (h_parts_f : Nat → Int32) (p1 : Int32) (p2 : Int32) (sz : Nat) (z : (Nat → Int32)) (h0 : mX10_lays h_s_f p1 p2 = some z) : Met l yX10_lays wsX10_lays ({ frames := 1, cells := 0, slots := 0, locals := 21 } : Room) (va_Pc [.ref h, .int p1, .int p2] (wP D cI cC cT [(h, .inr (7, [.ref h_s, .ref h_aside, .ref h_past, .int h_pasts, .ref h_snapshot, .int h_isKept, .ref h_pad, .int h_length, .ref h_steps, .int h_many, .int h_value, .ref h_summed, .ref h_plus, .ref h_parts])), (h_s, .inl (cI, 65, .inl h_s_f)), (h_aside, .inl (cI, 65, .inl h_aside_f)), (h_past, .inl (cI, 260, .inl h_past_f)), (h_snapshot, .inl (cI, 65, .inl h_snapshot_f)), (h_pad, .inl (cI, 80, .inl h_pad_f)), (h_steps, .inl (cI, 320, .inl h_steps_f)), (h_summed, .inl (cI, 81, .inl h_summed_f)), (h_plus, .inl (cI, 81, .inl h_plus_f)), (h_parts, .inl (cI, 392, .inl h_parts_f))] sz)) (wQ D none (va_A [(h, .inr (7, [.ref h_s, .ref h_aside, .ref h_past, .int h_pasts, .ref h_snapshot, .int h_isKept, .ref h_pad, .int h_length, .ref h_steps, .int h_many, .int h_value, .ref h_summed, .ref h_plus, .ref h_parts])), (h_s, .inl (cI, 65, .inl h_s_f)), (h_aside, .inl (cI, 65, .inl h_aside_f)), (h_past, .inl (cI, 260, .inl h_past_f)), (h_snapshot, .inl (cI, 65, .inl h_snapshot_f)), (h_pad, .inl (cI, 80, .inl h_pad_f)), (h_steps, .inl (cI, 320, .inl h_steps_f)), (h_summed, .inl (cI, 81, .inl h_summed_f)), (h_plus, .inl (cI, 81, .inl h_plus_f)), (h_parts, .inl (cI, 392, .inl h_parts_f))] sz) (fun (u : Unit) => [(h, .inr (7, [.ref h_s, .ref h_aside, .ref h_past, .int h_pasts, .ref h_snapshot, .int h_isKept, .ref h_pad, .int h_length, .ref h_steps, .int h_many, .int h_value, .ref h_summed, .ref h_plus, .ref h_parts])), (h_s, .inl (cI, 65, .inl z)), (h_aside, .inl (cI, 65, .inl h_aside_f)), (h_past, .inl (cI, 260, .inl h_past_f)), (h_snapshot, .inl (cI, 65, .inl h_snapshot_f)), (h_pad, .inl (cI, 80, .inl h_pad_f)), (h_steps, .inl (cI, 320, .inl h_steps_f)), (h_summed, .inl (cI, 81, .inl h_summed_f)), (h_plus, .inl (cI, 81, .inl h_plus_f)), (h_parts, .inl (cI, 392, .inl h_parts_f))])) 0 0 (va_A [(h, .inr (7, [.ref h_s, .ref h_aside, .ref h_past, .int h_pasts, .ref h_snapshot, .int h_isKept, .ref h_pad, .int h_length, .ref h_steps, .int h_many, .int h_value, .ref h_summed, .ref h_plus, .ref h_parts])), (h_s, .inl (cI, 65, .inl h_s_f)), (h_aside, .inl (cI, 65, .inl h_aside_f)), (h_past, .inl (cI, 260, .inl h_past_f)), (h_snapshot, .inl (cI, 65, .inl h_snapshot_f)), (h_pad, .inl (cI, 80, .inl h_pad_f)), (h_steps, .inl (cI, 320, .inl h_steps_f)), (h_summed, .inl (cI, 81, .inl h_summed_f)), (h_plus, .inl (cI, 81, .inl h_plus_f)), (h_parts, .inl (cI, 392, .inl h_parts_f))] sz) := by
  refine Met.ofW (cc := cX10_lays) (maxL := 5) (ret := none) (by decide) rfl ?_
  intro p e s m args below meth c s₁ B hml hv
  obtain ⟨rfl, hsz, hP, hE, hD0⟩ := hv
  have hx := B.exec
  have hb := B.bytes
  have hr := B.returns
  have hts := atoms_spec (ws := wsX10_lays) B.pre
  have hown : s.vm.findClass RX10 = some m.cls := findClass_of_methodNamed B.named
  have hlocks := B.notSynchronized
  have hK := hE.1
  have hcf : CallFix p m c cX10_lays 5 s ([.ref h, .int p1, .int p2] : List Value).toArray wsX10_lays RX10 := ⟨hx, hb, hml, hown, hts⟩
  subst hsz
  have hD := hD0.self (sz := s.heap.size)
  generalize hAe : va_A [(h, .inr (7, [.ref h_s, .ref h_aside, .ref h_past, .int h_pasts, .ref h_snapshot, .int h_isKept, .ref h_pad, .int h_length, .ref h_steps, .int h_many, .int h_value, .ref h_summed, .ref h_plus, .ref h_parts])), (h_s, .inl (cI, 65, .inl h_s_f)), (h_aside, .inl (cI, 65, .inl h_aside_f)), (h_past, .inl (cI, 260, .inl h_past_f)), (h_snapshot, .inl (cI, 65, .inl h_snapshot_f)), (h_pad, .inl (cI, 80, .inl h_pad_f)), (h_steps, .inl (cI, 320, .inl h_steps_f)), (h_summed, .inl (cI, 81, .inl h_summed_f)), (h_plus, .inl (cI, 81, .inl h_plus_f)), (h_parts, .inl (cI, 392, .inl h_parts_f))] s.heap.size = A at hD ⊢
  have hA : ∀ q : Nat, s.heap.size ≤ q → A q := fun q h => by rw [← hAe]; exact Or.inr h
  have hS : va_S A s.heap s.heap [] := va_S.rf
  have hP : va_P D vwCl [(h, .inr (7, [.ref h_s, .ref h_aside, .ref h_past, .int h_pasts, .ref h_snapshot, .int h_isKept, .ref h_pad, .int h_length, .ref h_steps, .int h_many, .int h_value, .ref h_summed, .ref h_plus, .ref h_parts])), (h_s, .inl (cI, 65, .inl h_s_f)), (h_aside, .inl (cI, 65, .inl h_aside_f)), (h_past, .inl (cI, 260, .inl h_past_f)), (h_snapshot, .inl (cI, 65, .inl h_snapshot_f)), (h_pad, .inl (cI, 80, .inl h_pad_f)), (h_steps, .inl (cI, 320, .inl h_steps_f)), (h_summed, .inl (cI, 81, .inl h_summed_f)), (h_plus, .inl (cI, 81, .inl h_plus_f)), (h_parts, .inl (cI, 392, .inl h_parts_f))] s.heap := hP
  have hf_7 := hts (.fieldLink RX10 7 "CrookedSumsModel" "s" "[I") (by decide +kernel)
  have hi_X10 := (show ∀ w ∈ u_ws RX10 TX10 14, w ∈ wsX10_lays from by decide +kernel)
  have hl := lv_entry ([.ref h, .int p1, .int p2]) (n := 5) (Nat.le_of_ble_eq_true rfl)
  rw [lg_entry_eq]
  generalize (lg_sl ([.ref h, .int p1, .int p2]) ++ List.replicate (5 - (lg_sl ([.ref h, .int p1, .int p2])).length) Slot.unset).toArray = ls at hl ⊢
  have hl : lv_has ls 5 [(0, .ref h), (1, .int p1), (2, .int p2)] := hl
  unfold mX10_lays at h0
  refine lv_aload_n hx hb dX10_lays_0 rfl (lv_at hl 0 rfl) ?_
  refine va_get (D := D) (ci := 7) (v := .ref h_s) (C := RX10) (T := TX10) (N := 14) hx hb hts hi_X10 hown hK hP 0 rfl rfl 0 (by decide) hf_7 (fun _ h9 => h9) rfl dX10_lays_1 ?_
  refine lv_iconst (v := 0) hx hb dX10_lays_4 (by decide) ?_
  refine lv_iload_n hx hb dX10_lays_5 rfl (lv_at hl 1 rfl) ?_
  refine va_iast hx hb hK hP hD hS 1 0 rfl rfl (by unfold vp_in; decide) dX10_lays_6 (fun H locs hP hD hS => ?_)
  have hP : va_P D vwCl [(h, .inr (7, [.ref h_s, .ref h_aside, .ref h_past, .int h_pasts, .ref h_snapshot, .int h_isKept, .ref h_pad, .int h_length, .ref h_steps, .int h_many, .int h_value, .ref h_summed, .ref h_plus, .ref h_parts])), (h_s, .inl (cI, 65, .inl (upd h_s_f (0 : Int32).toNatClampNeg p1))), (h_aside, .inl (cI, 65, .inl h_aside_f)), (h_past, .inl (cI, 260, .inl h_past_f)), (h_snapshot, .inl (cI, 65, .inl h_snapshot_f)), (h_pad, .inl (cI, 80, .inl h_pad_f)), (h_steps, .inl (cI, 320, .inl h_steps_f)), (h_summed, .inl (cI, 81, .inl h_summed_f)), (h_plus, .inl (cI, 81, .inl h_plus_f)), (h_parts, .inl (cI, 392, .inl h_parts_f))] H := hP
  have hD : va_D A [(h, .inr (7, [.ref h_s, .ref h_aside, .ref h_past, .int h_pasts, .ref h_snapshot, .int h_isKept, .ref h_pad, .int h_length, .ref h_steps, .int h_many, .int h_value, .ref h_summed, .ref h_plus, .ref h_parts])), (h_s, .inl (cI, 65, .inl (upd h_s_f (0 : Int32).toNatClampNeg p1))), (h_aside, .inl (cI, 65, .inl h_aside_f)), (h_past, .inl (cI, 260, .inl h_past_f)), (h_snapshot, .inl (cI, 65, .inl h_snapshot_f)), (h_pad, .inl (cI, 80, .inl h_pad_f)), (h_steps, .inl (cI, 320, .inl h_steps_f)), (h_summed, .inl (cI, 81, .inl h_summed_f)), (h_plus, .inl (cI, 81, .inl h_plus_f)), (h_parts, .inl (cI, 392, .inl h_parts_f))] := hD
  refine lv_iconst (v := 0) hx hb dX10_lays_7 (by decide) ?_
  refine lv_istore_n (lv' := [(3, .int 0), (0, .ref h), (1, .int p1), (2, .int p2)]) hx hb dX10_lays_8 rfl hl (by decide) rfl (fun ls hl => ?_)
  have E_9_71_2 : ∀ (x3_1 : Int32) (f_2 : Nat → Int32) (H : Heap) (locs : List Loc) (ls : Array Slot), (some (f_2)) = some z → va_P D vwCl [(h, .inr (7, [.ref h_s, .ref h_aside, .ref h_past, .int h_pasts, .ref h_snapshot, .int h_isKept, .ref h_pad, .int h_length, .ref h_steps, .int h_many, .int h_value, .ref h_summed, .ref h_plus, .ref h_parts])), (h_s, .inl (cI, 65, .inl f_2)), (h_aside, .inl (cI, 65, .inl h_aside_f)), (h_past, .inl (cI, 260, .inl h_past_f)), (h_snapshot, .inl (cI, 65, .inl h_snapshot_f)), (h_pad, .inl (cI, 80, .inl h_pad_f)), (h_steps, .inl (cI, 320, .inl h_steps_f)), (h_summed, .inl (cI, 81, .inl h_summed_f)), (h_plus, .inl (cI, 81, .inl h_plus_f)), (h_parts, .inl (cI, 392, .inl h_parts_f))] H → va_D A [(h, .inr (7, [.ref h_s, .ref h_aside, .ref h_past, .int h_pasts, .ref h_snapshot, .int h_isKept, .ref h_pad, .int h_length, .ref h_steps, .int h_many, .int h_value, .ref h_summed, .ref h_plus, .ref h_parts])), (h_s, .inl (cI, 65, .inl f_2)), (h_aside, .inl (cI, 65, .inl h_aside_f)), (h_past, .inl (cI, 260, .inl h_past_f)), (h_snapshot, .inl (cI, 65, .inl h_snapshot_f)), (h_pad, .inl (cI, 80, .inl h_pad_f)), (h_steps, .inl (cI, 320, .inl h_steps_f)), (h_summed, .inl (cI, 81, .inl h_summed_f)), (h_plus, .inl (cI, 81, .inl h_plus_f)), (h_parts, .inl (cI, 392, .inl h_parts_f))] → va_S A s.heap H locs → lv_has ls 5 [(3, .int x3_1), (0, .ref h), (1, .int p1), (2, .int p2)] → W p l e (headSpec wsX10_lays ({ frames := 1, cells := 0, slots := 0, locals := 21 } : Room)).room s m (([.ref h, .int p1, .int p2] : List Value).toArray) below meth c H locs 0 0 (MQ below (wQ D none A (fun (u : Unit) => [(h, .inr (7, [.ref h_s, .ref h_aside, .ref h_past, .int h_pasts, .ref h_snapshot, .int h_isKept, .ref h_pad, .int h_length, .ref h_steps, .int h_many, .int h_value, .ref h_summed, .ref h_plus, .ref h_parts])), (h_s, .inl (cI, 65, .inl z)), (h_aside, .inl (cI, 65, .inl h_aside_f)), (h_past, .inl (cI, 260, .inl h_past_f)), (h_snapshot, .inl (cI, 65, .inl h_snapshot_f)), (h_pad, .inl (cI, 80, .inl h_pad_f)), (h_steps, .inl (cI, 320, .inl h_steps_f)), (h_summed, .inl (cI, 81, .inl h_summed_f)), (h_plus, .inl (cI, 81, .inl h_plus_f)), (h_parts, .inl (cI, 392, .inl h_parts_f))])) (([.ref h, .int p1, .int p2] : List Value).toArray) s 0 0 A) (F0 m 71 ls []) := by
    intro x3_1 f_2 H locs ls h0 hP hD hS hl
    have e0 := Option.some.inj h0
    subst e0
    exact W.vret hx hb hr (fun t ht hW => wr_end () ht hP hD hS) hS.2.2 dX10_lays_71
  have L_9_12 : ∀ (F9 : Nat) (x3_4 : Int32) (f_5 : Nat → Int32) (H : Heap) (locs : List Loc) (ls : Array Slot), mX10_lays_L9 p1 p2 (fun (x3_1 : Int32) (f_2 : Nat → Int32) => some (f_2)) F9 x3_4 f_5 = some z → va_P D vwCl [(h, .inr (7, [.ref h_s, .ref h_aside, .ref h_past, .int h_pasts, .ref h_snapshot, .int h_isKept, .ref h_pad, .int h_length, .ref h_steps, .int h_many, .int h_value, .ref h_summed, .ref h_plus, .ref h_parts])), (h_s, .inl (cI, 65, .inl f_5)), (h_aside, .inl (cI, 65, .inl h_aside_f)), (h_past, .inl (cI, 260, .inl h_past_f)), (h_snapshot, .inl (cI, 65, .inl h_snapshot_f)), (h_pad, .inl (cI, 80, .inl h_pad_f)), (h_steps, .inl (cI, 320, .inl h_steps_f)), (h_summed, .inl (cI, 81, .inl h_summed_f)), (h_plus, .inl (cI, 81, .inl h_plus_f)), (h_parts, .inl (cI, 392, .inl h_parts_f))] H → va_D A [(h, .inr (7, [.ref h_s, .ref h_aside, .ref h_past, .int h_pasts, .ref h_snapshot, .int h_isKept, .ref h_pad, .int h_length, .ref h_steps, .int h_many, .int h_value, .ref h_summed, .ref h_plus, .ref h_parts])), (h_s, .inl (cI, 65, .inl f_5)), (h_aside, .inl (cI, 65, .inl h_aside_f)), (h_past, .inl (cI, 260, .inl h_past_f)), (h_snapshot, .inl (cI, 65, .inl h_snapshot_f)), (h_pad, .inl (cI, 80, .inl h_pad_f)), (h_steps, .inl (cI, 320, .inl h_steps_f)), (h_summed, .inl (cI, 81, .inl h_summed_f)), (h_plus, .inl (cI, 81, .inl h_plus_f)), (h_parts, .inl (cI, 392, .inl h_parts_f))] → va_S A s.heap H locs → lv_has ls 5 [(3, .int x3_4), (0, .ref h), (1, .int p1), (2, .int p2)] → W p l e (headSpec wsX10_lays ({ frames := 1, cells := 0, slots := 0, locals := 21 } : Room)).room s m (([.ref h, .int p1, .int p2] : List Value).toArray) below meth c H locs 0 0 (MQ below (wQ D none A (fun (u : Unit) => [(h, .inr (7, [.ref h_s, .ref h_aside, .ref h_past, .int h_pasts, .ref h_snapshot, .int h_isKept, .ref h_pad, .int h_length, .ref h_steps, .int h_many, .int h_value, .ref h_summed, .ref h_plus, .ref h_parts])), (h_s, .inl (cI, 65, .inl z)), (h_aside, .inl (cI, 65, .inl h_aside_f)), (h_past, .inl (cI, 260, .inl h_past_f)), (h_snapshot, .inl (cI, 65, .inl h_snapshot_f)), (h_pad, .inl (cI, 80, .inl h_pad_f)), (h_steps, .inl (cI, 320, .inl h_steps_f)), (h_summed, .inl (cI, 81, .inl h_summed_f)), (h_plus, .inl (cI, 81, .inl h_plus_f)), (h_parts, .inl (cI, 392, .inl h_parts_f))])) (([.ref h, .int p1, .int p2] : List Value).toArray) s 0 0 A) (F0 m 9 ls []) := by
    intro F9
    induction F9 with
    | zero => intro x3_4 f_5 H locs ls h0 hP hD hS hl; cases h0
    | succ F9 ih9 =>
      intro x3_4 f_5 H locs ls h0 hP hD hS hl
      rw [mX10_lays_L9] at h0
      refine lv_iload_n hx hb dX10_lays_9 rfl (lv_at hl 0 rfl) ?_
      refine lv_bipush (v := 8) hx hb dX10_lays_10 (by decide) ?_
      refine lv_icmp_ge (tgt := 71) hx hb dX10_lays_12 (by decide) (fun c9 => ?_) (fun c9 => ?_)
      · have h0 := it_t c9 h0
        exact E_9_71_2 x3_4 f_5 _ _ ls h0 hP hD hS hl
      · have h0 := it_f c9 h0
        refine lv_iconst (v := 0) hx hb dX10_lays_15 (by decide) ?_
        refine lv_istore (lv' := [(4, .int 0), (3, .int x3_4), (0, .ref h), (1, .int p1), (2, .int p2)]) hx hb dX10_lays_16 hl (by decide) rfl (fun ls hl => ?_)
        have E_18_65_7 : ∀ (x4_6 : Int32) (f_7 : Nat → Int32) (H : Heap) (locs : List Loc) (ls : Array Slot), (mX10_lays_L9 p1 p2 (fun (x3_1 : Int32) (f_2 : Nat → Int32) => some (f_2)) F9 (x3_4 + 1) f_7) = some z → va_P D vwCl [(h, .inr (7, [.ref h_s, .ref h_aside, .ref h_past, .int h_pasts, .ref h_snapshot, .int h_isKept, .ref h_pad, .int h_length, .ref h_steps, .int h_many, .int h_value, .ref h_summed, .ref h_plus, .ref h_parts])), (h_s, .inl (cI, 65, .inl f_7)), (h_aside, .inl (cI, 65, .inl h_aside_f)), (h_past, .inl (cI, 260, .inl h_past_f)), (h_snapshot, .inl (cI, 65, .inl h_snapshot_f)), (h_pad, .inl (cI, 80, .inl h_pad_f)), (h_steps, .inl (cI, 320, .inl h_steps_f)), (h_summed, .inl (cI, 81, .inl h_summed_f)), (h_plus, .inl (cI, 81, .inl h_plus_f)), (h_parts, .inl (cI, 392, .inl h_parts_f))] H → va_D A [(h, .inr (7, [.ref h_s, .ref h_aside, .ref h_past, .int h_pasts, .ref h_snapshot, .int h_isKept, .ref h_pad, .int h_length, .ref h_steps, .int h_many, .int h_value, .ref h_summed, .ref h_plus, .ref h_parts])), (h_s, .inl (cI, 65, .inl f_7)), (h_aside, .inl (cI, 65, .inl h_aside_f)), (h_past, .inl (cI, 260, .inl h_past_f)), (h_snapshot, .inl (cI, 65, .inl h_snapshot_f)), (h_pad, .inl (cI, 80, .inl h_pad_f)), (h_steps, .inl (cI, 320, .inl h_steps_f)), (h_summed, .inl (cI, 81, .inl h_summed_f)), (h_plus, .inl (cI, 81, .inl h_plus_f)), (h_parts, .inl (cI, 392, .inl h_parts_f))] → va_S A s.heap H locs → lv_has ls 5 [(4, .int x4_6), (3, .int x3_4), (0, .ref h), (1, .int p1), (2, .int p2)] → W p l e (headSpec wsX10_lays ({ frames := 1, cells := 0, slots := 0, locals := 21 } : Room)).room s m (([.ref h, .int p1, .int p2] : List Value).toArray) below meth c H locs 0 0 (MQ below (wQ D none A (fun (u : Unit) => [(h, .inr (7, [.ref h_s, .ref h_aside, .ref h_past, .int h_pasts, .ref h_snapshot, .int h_isKept, .ref h_pad, .int h_length, .ref h_steps, .int h_many, .int h_value, .ref h_summed, .ref h_plus, .ref h_parts])), (h_s, .inl (cI, 65, .inl z)), (h_aside, .inl (cI, 65, .inl h_aside_f)), (h_past, .inl (cI, 260, .inl h_past_f)), (h_snapshot, .inl (cI, 65, .inl h_snapshot_f)), (h_pad, .inl (cI, 80, .inl h_pad_f)), (h_steps, .inl (cI, 320, .inl h_steps_f)), (h_summed, .inl (cI, 81, .inl h_summed_f)), (h_plus, .inl (cI, 81, .inl h_plus_f)), (h_parts, .inl (cI, 392, .inl h_parts_f))])) (([.ref h, .int p1, .int p2] : List Value).toArray) s 0 0 A) (F0 m 65 ls []) := by
          intro x4_6 f_7 H locs ls h0 hP hD hS hl
          refine lv_iinc (v := (x3_4 + 1)) (lv' := [(3, .int (x3_4 + 1)), (4, .int x4_6), (0, .ref h), (1, .int p1), (2, .int p2)]) hx hb dX10_lays_65 hl (k := 1) rfl rfl (by decide) rfl (fun ls hl => ?_)
          refine lv_goto (tgt := 9) hx hb dX10_lays_68 (by decide) ?_
          exact ih9 (x3_4 + 1) f_7 _ _ ls h0 hP hD hS (lv_sub hl [0, 2, 3, 4] rfl)
        have L_18_11 : ∀ (F18 : Nat) (x4_9 : Int32) (f_10 : Nat → Int32) (H : Heap) (locs : List Loc) (ls : Array Slot), mX10_lays_L18 p1 p2 x3_4 (fun (x4_6 : Int32) (f_7 : Nat → Int32) => mX10_lays_L9 p1 p2 (fun (x3_1 : Int32) (f_2 : Nat → Int32) => some (f_2)) F9 (x3_4 + 1) f_7) F18 x4_9 f_10 = some z → va_P D vwCl [(h, .inr (7, [.ref h_s, .ref h_aside, .ref h_past, .int h_pasts, .ref h_snapshot, .int h_isKept, .ref h_pad, .int h_length, .ref h_steps, .int h_many, .int h_value, .ref h_summed, .ref h_plus, .ref h_parts])), (h_s, .inl (cI, 65, .inl f_10)), (h_aside, .inl (cI, 65, .inl h_aside_f)), (h_past, .inl (cI, 260, .inl h_past_f)), (h_snapshot, .inl (cI, 65, .inl h_snapshot_f)), (h_pad, .inl (cI, 80, .inl h_pad_f)), (h_steps, .inl (cI, 320, .inl h_steps_f)), (h_summed, .inl (cI, 81, .inl h_summed_f)), (h_plus, .inl (cI, 81, .inl h_plus_f)), (h_parts, .inl (cI, 392, .inl h_parts_f))] H → va_D A [(h, .inr (7, [.ref h_s, .ref h_aside, .ref h_past, .int h_pasts, .ref h_snapshot, .int h_isKept, .ref h_pad, .int h_length, .ref h_steps, .int h_many, .int h_value, .ref h_summed, .ref h_plus, .ref h_parts])), (h_s, .inl (cI, 65, .inl f_10)), (h_aside, .inl (cI, 65, .inl h_aside_f)), (h_past, .inl (cI, 260, .inl h_past_f)), (h_snapshot, .inl (cI, 65, .inl h_snapshot_f)), (h_pad, .inl (cI, 80, .inl h_pad_f)), (h_steps, .inl (cI, 320, .inl h_steps_f)), (h_summed, .inl (cI, 81, .inl h_summed_f)), (h_plus, .inl (cI, 81, .inl h_plus_f)), (h_parts, .inl (cI, 392, .inl h_parts_f))] → va_S A s.heap H locs → lv_has ls 5 [(4, .int x4_9), (3, .int x3_4), (0, .ref h), (1, .int p1), (2, .int p2)] → W p l e (headSpec wsX10_lays ({ frames := 1, cells := 0, slots := 0, locals := 21 } : Room)).room s m (([.ref h, .int p1, .int p2] : List Value).toArray) below meth c H locs 0 0 (MQ below (wQ D none A (fun (u : Unit) => [(h, .inr (7, [.ref h_s, .ref h_aside, .ref h_past, .int h_pasts, .ref h_snapshot, .int h_isKept, .ref h_pad, .int h_length, .ref h_steps, .int h_many, .int h_value, .ref h_summed, .ref h_plus, .ref h_parts])), (h_s, .inl (cI, 65, .inl z)), (h_aside, .inl (cI, 65, .inl h_aside_f)), (h_past, .inl (cI, 260, .inl h_past_f)), (h_snapshot, .inl (cI, 65, .inl h_snapshot_f)), (h_pad, .inl (cI, 80, .inl h_pad_f)), (h_steps, .inl (cI, 320, .inl h_steps_f)), (h_summed, .inl (cI, 81, .inl h_summed_f)), (h_plus, .inl (cI, 81, .inl h_plus_f)), (h_parts, .inl (cI, 392, .inl h_parts_f))])) (([.ref h, .int p1, .int p2] : List Value).toArray) s 0 0 A) (F0 m 18 ls []) := by
          intro F18
          induction F18 with
          | zero => intro x4_9 f_10 H locs ls h0 hP hD hS hl; cases h0
          | succ F18 ih18 =>
            intro x4_9 f_10 H locs ls h0 hP hD hS hl
            rw [mX10_lays_L18] at h0
            refine lv_iload hx hb dX10_lays_18 (lv_at hl 0 rfl) ?_
            refine lv_bipush (v := 8) hx hb dX10_lays_20 (by decide) ?_
            refine lv_icmp_ge (tgt := 65) hx hb dX10_lays_22 (by decide) (fun c9 => ?_) (fun c9 => ?_)
            · have h0 := it_t c9 h0
              exact E_18_65_7 x4_9 f_10 _ _ ls h0 hP hD hS hl
            · have h0 := it_f c9 h0
              refine lv_aload_n hx hb dX10_lays_25 rfl (lv_at hl 2 rfl) ?_
              refine va_get (D := D) (ci := 7) (v := .ref h_s) (C := RX10) (T := TX10) (N := 14) hx hb hts hi_X10 hown hK hP 0 rfl rfl 0 (by decide) hf_7 (fun _ h9 => h9) rfl dX10_lays_26 ?_
              refine lv_iload_n hx hb dX10_lays_29 rfl (lv_at hl 1 rfl) ?_
              refine lv_iload hx hb dX10_lays_30 (lv_at hl 0 rfl) ?_
              obtain ⟨z_11, hz, h0⟩ := bd_ok h0
              refine ro_S (As := [.int x3_4, .int x4_9]) (rest := [.ref h_s]) (wc := []) hcf (kX10_at l D cI cC cT x3_4 x4_9 z_11 hz) (va_cwS 2 hts gX10_lays_X10_at rfl rfl rfl (by decide +kernel) ⟨Nat.le_of_ble_eq_true rfl, Nat.le_of_ble_eq_true rfl⟩) hE (hP.sub [] rfl) rfl hl.1 rfl (Nat.le_of_ble_eq_true rfl) dX10_lays_32 ⟨Nat.le_of_ble_eq_true rfl, Nat.le_of_ble_eq_true rfl⟩ ?_
              refine W.eq (g2 := F0 m 35 ls [.int z_11, .ref h_s]) rfl ?_
              refine lv_iload_n hx hb dX10_lays_35 rfl (lv_at hl 1 rfl) ?_
              refine lv_iload_n hx hb dX10_lays_36 rfl (lv_at hl 3 rfl) ?_
              refine lv_icmp_ge (tgt := 57) hx hb dX10_lays_37 (by decide) (fun c9 => ?_) (fun c9 => ?_)
              · have h0 := it_t c9 h0
                refine lv_iconst (v := 0) hx hb dX10_lays_57 (by decide) ?_
                obtain ⟨g0, h0⟩ := gd_ok h0
                refine va_iast hx hb hK hP hD hS 1 0 rfl rfl (inb_ok g0) dX10_lays_58 (fun H locs hP hD hS => ?_)
                have hP : va_P D vwCl [(h, .inr (7, [.ref h_s, .ref h_aside, .ref h_past, .int h_pasts, .ref h_snapshot, .int h_isKept, .ref h_pad, .int h_length, .ref h_steps, .int h_many, .int h_value, .ref h_summed, .ref h_plus, .ref h_parts])), (h_s, .inl (cI, 65, .inl (upd f_10 (z_11 : Int32).toNatClampNeg 0))), (h_aside, .inl (cI, 65, .inl h_aside_f)), (h_past, .inl (cI, 260, .inl h_past_f)), (h_snapshot, .inl (cI, 65, .inl h_snapshot_f)), (h_pad, .inl (cI, 80, .inl h_pad_f)), (h_steps, .inl (cI, 320, .inl h_steps_f)), (h_summed, .inl (cI, 81, .inl h_summed_f)), (h_plus, .inl (cI, 81, .inl h_plus_f)), (h_parts, .inl (cI, 392, .inl h_parts_f))] H := hP
                have hD : va_D A [(h, .inr (7, [.ref h_s, .ref h_aside, .ref h_past, .int h_pasts, .ref h_snapshot, .int h_isKept, .ref h_pad, .int h_length, .ref h_steps, .int h_many, .int h_value, .ref h_summed, .ref h_plus, .ref h_parts])), (h_s, .inl (cI, 65, .inl (upd f_10 (z_11 : Int32).toNatClampNeg 0))), (h_aside, .inl (cI, 65, .inl h_aside_f)), (h_past, .inl (cI, 260, .inl h_past_f)), (h_snapshot, .inl (cI, 65, .inl h_snapshot_f)), (h_pad, .inl (cI, 80, .inl h_pad_f)), (h_steps, .inl (cI, 320, .inl h_steps_f)), (h_summed, .inl (cI, 81, .inl h_summed_f)), (h_plus, .inl (cI, 81, .inl h_plus_f)), (h_parts, .inl (cI, 392, .inl h_parts_f))] := hD
                refine lv_iinc (v := (x4_9 + 1)) (lv' := [(4, .int (x4_9 + 1)), (3, .int x3_4), (0, .ref h), (1, .int p1), (2, .int p2)]) hx hb dX10_lays_59 hl (k := 0) rfl rfl (by decide) rfl (fun ls hl => ?_)
                refine lv_goto (tgt := 18) hx hb dX10_lays_62 (by decide) ?_
                exact ih18 (x4_9 + 1) (upd f_10 (z_11 : Int32).toNatClampNeg 0) _ _ ls h0 hP hD hS hl
              · have h0 := it_f c9 h0
                refine lv_iload hx hb dX10_lays_40 (lv_at hl 0 rfl) ?_
                refine lv_iload_n hx hb dX10_lays_42 rfl (lv_at hl 3 rfl) ?_
                refine lv_icmp_ge (tgt := 57) hx hb dX10_lays_43 (by decide) (fun c9 => ?_) (fun c9 => ?_)
                · have h0 := it_t c9 h0
                  refine lv_iconst (v := 0) hx hb dX10_lays_57 (by decide) ?_
                  obtain ⟨g0, h0⟩ := gd_ok h0
                  refine va_iast hx hb hK hP hD hS 1 0 rfl rfl (inb_ok g0) dX10_lays_58 (fun H locs hP hD hS => ?_)
                  have hP : va_P D vwCl [(h, .inr (7, [.ref h_s, .ref h_aside, .ref h_past, .int h_pasts, .ref h_snapshot, .int h_isKept, .ref h_pad, .int h_length, .ref h_steps, .int h_many, .int h_value, .ref h_summed, .ref h_plus, .ref h_parts])), (h_s, .inl (cI, 65, .inl (upd f_10 (z_11 : Int32).toNatClampNeg 0))), (h_aside, .inl (cI, 65, .inl h_aside_f)), (h_past, .inl (cI, 260, .inl h_past_f)), (h_snapshot, .inl (cI, 65, .inl h_snapshot_f)), (h_pad, .inl (cI, 80, .inl h_pad_f)), (h_steps, .inl (cI, 320, .inl h_steps_f)), (h_summed, .inl (cI, 81, .inl h_summed_f)), (h_plus, .inl (cI, 81, .inl h_plus_f)), (h_parts, .inl (cI, 392, .inl h_parts_f))] H := hP
                  have hD : va_D A [(h, .inr (7, [.ref h_s, .ref h_aside, .ref h_past, .int h_pasts, .ref h_snapshot, .int h_isKept, .ref h_pad, .int h_length, .ref h_steps, .int h_many, .int h_value, .ref h_summed, .ref h_plus, .ref h_parts])), (h_s, .inl (cI, 65, .inl (upd f_10 (z_11 : Int32).toNatClampNeg 0))), (h_aside, .inl (cI, 65, .inl h_aside_f)), (h_past, .inl (cI, 260, .inl h_past_f)), (h_snapshot, .inl (cI, 65, .inl h_snapshot_f)), (h_pad, .inl (cI, 80, .inl h_pad_f)), (h_steps, .inl (cI, 320, .inl h_steps_f)), (h_summed, .inl (cI, 81, .inl h_summed_f)), (h_plus, .inl (cI, 81, .inl h_plus_f)), (h_parts, .inl (cI, 392, .inl h_parts_f))] := hD
                  refine lv_iinc (v := (x4_9 + 1)) (lv' := [(4, .int (x4_9 + 1)), (3, .int x3_4), (0, .ref h), (1, .int p1), (2, .int p2)]) hx hb dX10_lays_59 hl (k := 0) rfl rfl (by decide) rfl (fun ls hl => ?_)
                  refine lv_goto (tgt := 18) hx hb dX10_lays_62 (by decide) ?_
                  exact ih18 (x4_9 + 1) (upd f_10 (z_11 : Int32).toNatClampNeg 0) _ _ ls h0 hP hD hS hl
                · have h0 := it_f c9 h0
                  refine lv_iload_n hx hb dX10_lays_46 rfl (lv_at hl 4 rfl) ?_
                  refine lv_iload_n hx hb dX10_lays_47 rfl (lv_at hl 1 rfl) ?_
                  refine lv_imul hx hb dX10_lays_48 ?_
                  refine lv_iload hx hb dX10_lays_49 (lv_at hl 0 rfl) ?_
                  refine lv_iadd hx hb dX10_lays_51 ?_
                  refine lv_iload_n hx hb dX10_lays_52 rfl (lv_at hl 3 rfl) ?_
                  obtain ⟨g0, h0⟩ := gd_ok h0
                  refine lv_irem hx hb dX10_lays_53 (nzb_ok g0) ?_
                  refine lv_goto (tgt := 58) hx hb dX10_lays_54 (by decide) ?_
                  obtain ⟨g0, h0⟩ := gd_ok h0
                  refine va_iast hx hb hK hP hD hS 1 0 rfl rfl (inb_ok g0) dX10_lays_58 (fun H locs hP hD hS => ?_)
                  have hP : va_P D vwCl [(h, .inr (7, [.ref h_s, .ref h_aside, .ref h_past, .int h_pasts, .ref h_snapshot, .int h_isKept, .ref h_pad, .int h_length, .ref h_steps, .int h_many, .int h_value, .ref h_summed, .ref h_plus, .ref h_parts])), (h_s, .inl (cI, 65, .inl (upd f_10 (z_11 : Int32).toNatClampNeg (((p2 * x3_4) + x4_9) - ((p2 * x3_4) + x4_9) / p1 * p1)))), (h_aside, .inl (cI, 65, .inl h_aside_f)), (h_past, .inl (cI, 260, .inl h_past_f)), (h_snapshot, .inl (cI, 65, .inl h_snapshot_f)), (h_pad, .inl (cI, 80, .inl h_pad_f)), (h_steps, .inl (cI, 320, .inl h_steps_f)), (h_summed, .inl (cI, 81, .inl h_summed_f)), (h_plus, .inl (cI, 81, .inl h_plus_f)), (h_parts, .inl (cI, 392, .inl h_parts_f))] H := hP
                  have hD : va_D A [(h, .inr (7, [.ref h_s, .ref h_aside, .ref h_past, .int h_pasts, .ref h_snapshot, .int h_isKept, .ref h_pad, .int h_length, .ref h_steps, .int h_many, .int h_value, .ref h_summed, .ref h_plus, .ref h_parts])), (h_s, .inl (cI, 65, .inl (upd f_10 (z_11 : Int32).toNatClampNeg (((p2 * x3_4) + x4_9) - ((p2 * x3_4) + x4_9) / p1 * p1)))), (h_aside, .inl (cI, 65, .inl h_aside_f)), (h_past, .inl (cI, 260, .inl h_past_f)), (h_snapshot, .inl (cI, 65, .inl h_snapshot_f)), (h_pad, .inl (cI, 80, .inl h_pad_f)), (h_steps, .inl (cI, 320, .inl h_steps_f)), (h_summed, .inl (cI, 81, .inl h_summed_f)), (h_plus, .inl (cI, 81, .inl h_plus_f)), (h_parts, .inl (cI, 392, .inl h_parts_f))] := hD
                  refine lv_iinc (v := (x4_9 + 1)) (lv' := [(4, .int (x4_9 + 1)), (3, .int x3_4), (0, .ref h), (1, .int p1), (2, .int p2)]) hx hb dX10_lays_59 hl (k := 0) rfl rfl (by decide) rfl (fun ls hl => ?_)
                  refine lv_goto (tgt := 18) hx hb dX10_lays_62 (by decide) ?_
                  exact ih18 (x4_9 + 1) (upd f_10 (z_11 : Int32).toNatClampNeg (((p2 * x3_4) + x4_9) - ((p2 * x3_4) + x4_9) / p1 * p1)) _ _ ls h0 hP hD hS hl
        exact L_18_11 FU 0 f_5 _ _ ls h0 hP hD hS hl
  exact L_9_12 FU 0 (upd h_s_f (0 : Int32).toNatClampNeg p1) _ _ ls h0 hP hD hS hl
noncomputable def mX10_init  : Option ((Nat → Int32) × (Nat → Int32) × (Nat → Int32) × Int32 × (Nat → Int32) × Int32 × (Nat → Int32) × Int32 × (Nat → Int32) × Int32 × Int32 × (Nat → Int32) × (Nat → Int32) × (Nat → Int32)) :=
  bd (mX10_lays (fun _ => 0) 4 1) (fun z_10 => some (z_10, (fun _ => 0), (fun _ => 0), 0, (fun _ => 0), 0, (fun _ => 0), 0, (fun _ => 0), 0, 0, (fun _ => 0), (fun _ => 0), (fun _ => 0)))
set_option maxHeartbeats 8000000 in
set_option maxRecDepth 100000 in
theorem kX10_init (l : Launch) (D : va_G) (cI cC cT : ClassId) (h : Nat) (sz : Nat) (z : (Nat → Int32) × (Nat → Int32) × (Nat → Int32) × Int32 × (Nat → Int32) × Int32 × (Nat → Int32) × Int32 × (Nat → Int32) × Int32 × Int32 × (Nat → Int32) × (Nat → Int32) × (Nat → Int32)) (h0 : mX10_init  = some z) : Met l yX10_init wsX10_init ({ frames := 2, cells := 9, slots := 1409, locals := 45 } : Room) (va_Pc [.ref h] (wP D cI cC cT [(h, .inr (7, [.null, .null, .null, .int 0, .null, .int 0, .null, .int 0, .null, .int 0, .int 0, .null, .null, .null]))] sz)) (wQ D none (va_A [(h, .inr (7, [.null, .null, .null, .int 0, .null, .int 0, .null, .int 0, .null, .int 0, .int 0, .null, .null, .null]))] sz) (fun (u : Nat × Nat × Nat × Nat × Nat × Nat × Nat × Nat × Nat) => [(h, .inr (7, [.ref u.1, .ref u.2.1, .ref u.2.2.1, .int z.2.2.2.1, .ref u.2.2.2.1, .int z.2.2.2.2.2.1, .ref u.2.2.2.2.1, .int z.2.2.2.2.2.2.2.1, .ref u.2.2.2.2.2.1, .int z.2.2.2.2.2.2.2.2.2.1, .int z.2.2.2.2.2.2.2.2.2.2.1, .ref u.2.2.2.2.2.2.1, .ref u.2.2.2.2.2.2.2.1, .ref u.2.2.2.2.2.2.2.2])), (u.1, .inl (cI, 65, .inl z.1)), (u.2.1, .inl (cI, 65, .inl z.2.1)), (u.2.2.1, .inl (cI, 260, .inl z.2.2.1)), (u.2.2.2.1, .inl (cI, 65, .inl z.2.2.2.2.1)), (u.2.2.2.2.1, .inl (cI, 80, .inl z.2.2.2.2.2.2.1)), (u.2.2.2.2.2.1, .inl (cI, 320, .inl z.2.2.2.2.2.2.2.2.1)), (u.2.2.2.2.2.2.1, .inl (cI, 81, .inl z.2.2.2.2.2.2.2.2.2.2.2.1)), (u.2.2.2.2.2.2.2.1, .inl (cI, 81, .inl z.2.2.2.2.2.2.2.2.2.2.2.2.1)), (u.2.2.2.2.2.2.2.2, .inl (cI, 392, .inl z.2.2.2.2.2.2.2.2.2.2.2.2.2))])) 9 1409 (va_A [(h, .inr (7, [.null, .null, .null, .int 0, .null, .int 0, .null, .int 0, .null, .int 0, .int 0, .null, .null, .null]))] sz) := by
  refine Met.ofW (cc := cX10_init) (maxL := 1) (ret := none) (by decide) rfl ?_
  intro p e s m args below meth c s₁ B hml hv
  obtain ⟨rfl, hsz, hP, hE, hD0⟩ := hv
  have hx := B.exec
  have hb := B.bytes
  have hr := B.returns
  have hts := atoms_spec (ws := wsX10_init) B.pre
  have hown : s.vm.findClass RX10 = some m.cls := findClass_of_methodNamed B.named
  have hlocks := B.notSynchronized
  have hK := hE.1
  have hcf : CallFix p m c cX10_init 1 s ([.ref h] : List Value).toArray wsX10_init RX10 := ⟨hx, hb, hml, hown, hts⟩
  have hin : meth.name = "<init>" := (name_of_methodNamed B.named B.method).1
  subst hsz
  have hD := hD0.self (sz := s.heap.size)
  generalize hAe : va_A [(h, .inr (7, [.null, .null, .null, .int 0, .null, .int 0, .null, .int 0, .null, .int 0, .int 0, .null, .null, .null]))] s.heap.size = A at hD ⊢
  have hA : ∀ q : Nat, s.heap.size ≤ q → A q := fun q h => by rw [← hAe]; exact Or.inr h
  have hS : va_S A s.heap s.heap [] := va_S.rf
  have hP : va_P D vwCl [(h, .inr (7, [.null, .null, .null, .int 0, .null, .int 0, .null, .int 0, .null, .int 0, .int 0, .null, .null, .null]))] s.heap := hP
  have hf_7 := hts (.fieldLink RX10 7 "CrookedSumsModel" "s" "[I") (by decide +kernel)
  have hi_X10 := (show ∀ w ∈ u_ws RX10 TX10 14, w ∈ wsX10_init from by decide +kernel)
  have hf_13 := hts (.fieldLink RX10 13 "CrookedSumsModel" "aside" "[I") (by decide +kernel)
  have hf_16 := hts (.fieldLink RX10 16 "CrookedSumsModel" "past" "[I") (by decide +kernel)
  have hf_19 := hts (.fieldLink RX10 19 "CrookedSumsModel" "snapshot" "[I") (by decide +kernel)
  have hf_22 := hts (.fieldLink RX10 22 "CrookedSumsModel" "pad" "[I") (by decide +kernel)
  have hf_25 := hts (.fieldLink RX10 25 "CrookedSumsModel" "steps" "[I") (by decide +kernel)
  have hf_28 := hts (.fieldLink RX10 28 "CrookedSumsModel" "summed" "[I") (by decide +kernel)
  have hf_31 := hts (.fieldLink RX10 31 "CrookedSumsModel" "plus" "[I") (by decide +kernel)
  have hf_34 := hts (.fieldLink RX10 34 "CrookedSumsModel" "parts" "[I") (by decide +kernel)
  have hl := lv_entry ([.ref h]) (n := 1) (Nat.le_of_ble_eq_true rfl)
  rw [lg_entry_eq]
  generalize (lg_sl ([.ref h]) ++ List.replicate (1 - (lg_sl ([.ref h])).length) Slot.unset).toArray = ls at hl ⊢
  have hl : lv_has ls 1 [(0, .ref h)] := hl
  unfold mX10_init at h0
  refine lv_aload_n hx hb dX10_init_0 rfl (lv_at hl 0 rfl) ?_
  refine W.objInit hx hb hown (hts (.methodLink RX10 1 objectInit) (by decide +kernel)) (hts (.instanceMethod objectInit) (by decide +kernel)) (hts (.code objectInit ⟨#[0xb1]⟩ 1 none) (by decide +kernel)) rfl (by rw [hml]; exact hl.1) rfl dX10_init_1 (Nat.le_of_ble_eq_true rfl) (Nat.le_of_ble_eq_true rfl) ?_
  refine W.eq (g2 := F0 m 4 ls []) rfl ?_
  refine lv_aload_n hx hb dX10_init_4 rfl (lv_at hl 0 rfl) ?_
  refine lv_bipush (v := 65) hx hb dX10_init_5 (by decide) ?_
  refine va_newa (atype := .int) (ty := .int) (N' := 65) (a0 := (65, .inl (fun _ => 0))) hx hb (hts (.arrayClass .int) (by decide +kernel)) rfl hK hP hD hS hA (fun cA => rfl) (by decide) (by decide) (Nat.le_of_ble_eq_true rfl) (Nat.le_of_ble_eq_true rfl) (Nat.le_of_ble_eq_true rfl) dX10_init_7 (fun q_1 cA H hK2 hP hD hS => ?_)
  have ecA := eK_int hK hK2
  subst ecA
  have hP : va_P D vwCl [(h, .inr (7, [.null, .null, .null, .int 0, .null, .int 0, .null, .int 0, .null, .int 0, .int 0, .null, .null, .null])), (q_1, .inl (cI, 65, .inl (fun _ => 0)))] H := hP
  have hD : va_D A [(h, .inr (7, [.null, .null, .null, .int 0, .null, .int 0, .null, .int 0, .null, .int 0, .int 0, .null, .null, .null])), (q_1, .inl (cI, 65, .inl (fun _ => 0)))] := hD
  refine va_putF (D := D) (ci := 7) (v := .ref q_1) (ty := (.array .int)) (C := RX10) (T := TX10) (N := 14) hx hb hts hi_X10 tyX10 tyX10_ok nmX10 hown hK hP hD hS 0 rfl rfl 0 (by decide) hf_7 (fun _ h9 => h9) rfl hin rfl (by decide +kernel) rfl rfl (Nat.le_of_ble_eq_true rfl) dX10_init_9 (fun H locs hP hD hS => ?_)
  have hP : va_P D vwCl [(h, .inr (7, [.ref q_1, .null, .null, .int 0, .null, .int 0, .null, .int 0, .null, .int 0, .int 0, .null, .null, .null])), (q_1, .inl (cI, 65, .inl (fun _ => 0)))] H := hP
  have hD : va_D A [(h, .inr (7, [.ref q_1, .null, .null, .int 0, .null, .int 0, .null, .int 0, .null, .int 0, .int 0, .null, .null, .null])), (q_1, .inl (cI, 65, .inl (fun _ => 0)))] := hD
  refine lv_aload_n hx hb dX10_init_12 rfl (lv_at hl 0 rfl) ?_
  refine lv_bipush (v := 65) hx hb dX10_init_13 (by decide) ?_
  refine va_newa (atype := .int) (ty := .int) (N' := 65) (a0 := (65, .inl (fun _ => 0))) hx hb (hts (.arrayClass .int) (by decide +kernel)) rfl hK hP hD hS hA (fun cA => rfl) (by decide) (by decide) (Nat.le_of_ble_eq_true rfl) (Nat.le_of_ble_eq_true rfl) (Nat.le_of_ble_eq_true rfl) dX10_init_15 (fun q_2 cA H hK2 hP hD hS => ?_)
  have ecA := eK_int hK hK2
  subst ecA
  have hP : va_P D vwCl [(h, .inr (7, [.ref q_1, .null, .null, .int 0, .null, .int 0, .null, .int 0, .null, .int 0, .int 0, .null, .null, .null])), (q_1, .inl (cI, 65, .inl (fun _ => 0))), (q_2, .inl (cI, 65, .inl (fun _ => 0)))] H := hP
  have hD : va_D A [(h, .inr (7, [.ref q_1, .null, .null, .int 0, .null, .int 0, .null, .int 0, .null, .int 0, .int 0, .null, .null, .null])), (q_1, .inl (cI, 65, .inl (fun _ => 0))), (q_2, .inl (cI, 65, .inl (fun _ => 0)))] := hD
  refine va_putF (D := D) (ci := 7) (v := .ref q_2) (ty := (.array .int)) (C := RX10) (T := TX10) (N := 14) hx hb hts hi_X10 tyX10 tyX10_ok nmX10 hown hK hP hD hS 0 rfl rfl 1 (by decide) hf_13 (fun _ h9 => h9) rfl hin rfl (by decide +kernel) rfl rfl (Nat.le_of_ble_eq_true rfl) dX10_init_17 (fun H locs hP hD hS => ?_)
  have hP : va_P D vwCl [(h, .inr (7, [.ref q_1, .ref q_2, .null, .int 0, .null, .int 0, .null, .int 0, .null, .int 0, .int 0, .null, .null, .null])), (q_1, .inl (cI, 65, .inl (fun _ => 0))), (q_2, .inl (cI, 65, .inl (fun _ => 0)))] H := hP
  have hD : va_D A [(h, .inr (7, [.ref q_1, .ref q_2, .null, .int 0, .null, .int 0, .null, .int 0, .null, .int 0, .int 0, .null, .null, .null])), (q_1, .inl (cI, 65, .inl (fun _ => 0))), (q_2, .inl (cI, 65, .inl (fun _ => 0)))] := hD
  refine lv_aload_n hx hb dX10_init_20 rfl (lv_at hl 0 rfl) ?_
  refine lv_sipush (v := 260) hx hb dX10_init_21 (by decide) ?_
  refine va_newa (atype := .int) (ty := .int) (N' := 260) (a0 := (260, .inl (fun _ => 0))) hx hb (hts (.arrayClass .int) (by decide +kernel)) rfl hK hP hD hS hA (fun cA => rfl) (by decide) (by decide) (Nat.le_of_ble_eq_true rfl) (Nat.le_of_ble_eq_true rfl) (Nat.le_of_ble_eq_true rfl) dX10_init_24 (fun q_3 cA H hK2 hP hD hS => ?_)
  have ecA := eK_int hK hK2
  subst ecA
  have hP : va_P D vwCl [(h, .inr (7, [.ref q_1, .ref q_2, .null, .int 0, .null, .int 0, .null, .int 0, .null, .int 0, .int 0, .null, .null, .null])), (q_1, .inl (cI, 65, .inl (fun _ => 0))), (q_2, .inl (cI, 65, .inl (fun _ => 0))), (q_3, .inl (cI, 260, .inl (fun _ => 0)))] H := hP
  have hD : va_D A [(h, .inr (7, [.ref q_1, .ref q_2, .null, .int 0, .null, .int 0, .null, .int 0, .null, .int 0, .int 0, .null, .null, .null])), (q_1, .inl (cI, 65, .inl (fun _ => 0))), (q_2, .inl (cI, 65, .inl (fun _ => 0))), (q_3, .inl (cI, 260, .inl (fun _ => 0)))] := hD
  refine va_putF (D := D) (ci := 7) (v := .ref q_3) (ty := (.array .int)) (C := RX10) (T := TX10) (N := 14) hx hb hts hi_X10 tyX10 tyX10_ok nmX10 hown hK hP hD hS 0 rfl rfl 2 (by decide) hf_16 (fun _ h9 => h9) rfl hin rfl (by decide +kernel) rfl rfl (Nat.le_of_ble_eq_true rfl) dX10_init_26 (fun H locs hP hD hS => ?_)
  have hP : va_P D vwCl [(h, .inr (7, [.ref q_1, .ref q_2, .ref q_3, .int 0, .null, .int 0, .null, .int 0, .null, .int 0, .int 0, .null, .null, .null])), (q_1, .inl (cI, 65, .inl (fun _ => 0))), (q_2, .inl (cI, 65, .inl (fun _ => 0))), (q_3, .inl (cI, 260, .inl (fun _ => 0)))] H := hP
  have hD : va_D A [(h, .inr (7, [.ref q_1, .ref q_2, .ref q_3, .int 0, .null, .int 0, .null, .int 0, .null, .int 0, .int 0, .null, .null, .null])), (q_1, .inl (cI, 65, .inl (fun _ => 0))), (q_2, .inl (cI, 65, .inl (fun _ => 0))), (q_3, .inl (cI, 260, .inl (fun _ => 0)))] := hD
  refine lv_aload_n hx hb dX10_init_29 rfl (lv_at hl 0 rfl) ?_
  refine lv_bipush (v := 65) hx hb dX10_init_30 (by decide) ?_
  refine va_newa (atype := .int) (ty := .int) (N' := 65) (a0 := (65, .inl (fun _ => 0))) hx hb (hts (.arrayClass .int) (by decide +kernel)) rfl hK hP hD hS hA (fun cA => rfl) (by decide) (by decide) (Nat.le_of_ble_eq_true rfl) (Nat.le_of_ble_eq_true rfl) (Nat.le_of_ble_eq_true rfl) dX10_init_32 (fun q_4 cA H hK2 hP hD hS => ?_)
  have ecA := eK_int hK hK2
  subst ecA
  have hP : va_P D vwCl [(h, .inr (7, [.ref q_1, .ref q_2, .ref q_3, .int 0, .null, .int 0, .null, .int 0, .null, .int 0, .int 0, .null, .null, .null])), (q_1, .inl (cI, 65, .inl (fun _ => 0))), (q_2, .inl (cI, 65, .inl (fun _ => 0))), (q_3, .inl (cI, 260, .inl (fun _ => 0))), (q_4, .inl (cI, 65, .inl (fun _ => 0)))] H := hP
  have hD : va_D A [(h, .inr (7, [.ref q_1, .ref q_2, .ref q_3, .int 0, .null, .int 0, .null, .int 0, .null, .int 0, .int 0, .null, .null, .null])), (q_1, .inl (cI, 65, .inl (fun _ => 0))), (q_2, .inl (cI, 65, .inl (fun _ => 0))), (q_3, .inl (cI, 260, .inl (fun _ => 0))), (q_4, .inl (cI, 65, .inl (fun _ => 0)))] := hD
  refine va_putF (D := D) (ci := 7) (v := .ref q_4) (ty := (.array .int)) (C := RX10) (T := TX10) (N := 14) hx hb hts hi_X10 tyX10 tyX10_ok nmX10 hown hK hP hD hS 0 rfl rfl 4 (by decide) hf_19 (fun _ h9 => h9) rfl hin rfl (by decide +kernel) rfl rfl (Nat.le_of_ble_eq_true rfl) dX10_init_34 (fun H locs hP hD hS => ?_)
  have hP : va_P D vwCl [(h, .inr (7, [.ref q_1, .ref q_2, .ref q_3, .int 0, .ref q_4, .int 0, .null, .int 0, .null, .int 0, .int 0, .null, .null, .null])), (q_1, .inl (cI, 65, .inl (fun _ => 0))), (q_2, .inl (cI, 65, .inl (fun _ => 0))), (q_3, .inl (cI, 260, .inl (fun _ => 0))), (q_4, .inl (cI, 65, .inl (fun _ => 0)))] H := hP
  have hD : va_D A [(h, .inr (7, [.ref q_1, .ref q_2, .ref q_3, .int 0, .ref q_4, .int 0, .null, .int 0, .null, .int 0, .int 0, .null, .null, .null])), (q_1, .inl (cI, 65, .inl (fun _ => 0))), (q_2, .inl (cI, 65, .inl (fun _ => 0))), (q_3, .inl (cI, 260, .inl (fun _ => 0))), (q_4, .inl (cI, 65, .inl (fun _ => 0)))] := hD
  refine lv_aload_n hx hb dX10_init_37 rfl (lv_at hl 0 rfl) ?_
  refine lv_bipush (v := 80) hx hb dX10_init_38 (by decide) ?_
  refine va_newa (atype := .int) (ty := .int) (N' := 80) (a0 := (80, .inl (fun _ => 0))) hx hb (hts (.arrayClass .int) (by decide +kernel)) rfl hK hP hD hS hA (fun cA => rfl) (by decide) (by decide) (Nat.le_of_ble_eq_true rfl) (Nat.le_of_ble_eq_true rfl) (Nat.le_of_ble_eq_true rfl) dX10_init_40 (fun q_5 cA H hK2 hP hD hS => ?_)
  have ecA := eK_int hK hK2
  subst ecA
  have hP : va_P D vwCl [(h, .inr (7, [.ref q_1, .ref q_2, .ref q_3, .int 0, .ref q_4, .int 0, .null, .int 0, .null, .int 0, .int 0, .null, .null, .null])), (q_1, .inl (cI, 65, .inl (fun _ => 0))), (q_2, .inl (cI, 65, .inl (fun _ => 0))), (q_3, .inl (cI, 260, .inl (fun _ => 0))), (q_4, .inl (cI, 65, .inl (fun _ => 0))), (q_5, .inl (cI, 80, .inl (fun _ => 0)))] H := hP
  have hD : va_D A [(h, .inr (7, [.ref q_1, .ref q_2, .ref q_3, .int 0, .ref q_4, .int 0, .null, .int 0, .null, .int 0, .int 0, .null, .null, .null])), (q_1, .inl (cI, 65, .inl (fun _ => 0))), (q_2, .inl (cI, 65, .inl (fun _ => 0))), (q_3, .inl (cI, 260, .inl (fun _ => 0))), (q_4, .inl (cI, 65, .inl (fun _ => 0))), (q_5, .inl (cI, 80, .inl (fun _ => 0)))] := hD
  refine va_putF (D := D) (ci := 7) (v := .ref q_5) (ty := (.array .int)) (C := RX10) (T := TX10) (N := 14) hx hb hts hi_X10 tyX10 tyX10_ok nmX10 hown hK hP hD hS 0 rfl rfl 6 (by decide) hf_22 (fun _ h9 => h9) rfl hin rfl (by decide +kernel) rfl rfl (Nat.le_of_ble_eq_true rfl) dX10_init_42 (fun H locs hP hD hS => ?_)
  have hP : va_P D vwCl [(h, .inr (7, [.ref q_1, .ref q_2, .ref q_3, .int 0, .ref q_4, .int 0, .ref q_5, .int 0, .null, .int 0, .int 0, .null, .null, .null])), (q_1, .inl (cI, 65, .inl (fun _ => 0))), (q_2, .inl (cI, 65, .inl (fun _ => 0))), (q_3, .inl (cI, 260, .inl (fun _ => 0))), (q_4, .inl (cI, 65, .inl (fun _ => 0))), (q_5, .inl (cI, 80, .inl (fun _ => 0)))] H := hP
  have hD : va_D A [(h, .inr (7, [.ref q_1, .ref q_2, .ref q_3, .int 0, .ref q_4, .int 0, .ref q_5, .int 0, .null, .int 0, .int 0, .null, .null, .null])), (q_1, .inl (cI, 65, .inl (fun _ => 0))), (q_2, .inl (cI, 65, .inl (fun _ => 0))), (q_3, .inl (cI, 260, .inl (fun _ => 0))), (q_4, .inl (cI, 65, .inl (fun _ => 0))), (q_5, .inl (cI, 80, .inl (fun _ => 0)))] := hD
  refine lv_aload_n hx hb dX10_init_45 rfl (lv_at hl 0 rfl) ?_
  refine lv_sipush (v := 320) hx hb dX10_init_46 (by decide) ?_
  refine va_newa (atype := .int) (ty := .int) (N' := 320) (a0 := (320, .inl (fun _ => 0))) hx hb (hts (.arrayClass .int) (by decide +kernel)) rfl hK hP hD hS hA (fun cA => rfl) (by decide) (by decide) (Nat.le_of_ble_eq_true rfl) (Nat.le_of_ble_eq_true rfl) (Nat.le_of_ble_eq_true rfl) dX10_init_49 (fun q_6 cA H hK2 hP hD hS => ?_)
  have ecA := eK_int hK hK2
  subst ecA
  have hP : va_P D vwCl [(h, .inr (7, [.ref q_1, .ref q_2, .ref q_3, .int 0, .ref q_4, .int 0, .ref q_5, .int 0, .null, .int 0, .int 0, .null, .null, .null])), (q_1, .inl (cI, 65, .inl (fun _ => 0))), (q_2, .inl (cI, 65, .inl (fun _ => 0))), (q_3, .inl (cI, 260, .inl (fun _ => 0))), (q_4, .inl (cI, 65, .inl (fun _ => 0))), (q_5, .inl (cI, 80, .inl (fun _ => 0))), (q_6, .inl (cI, 320, .inl (fun _ => 0)))] H := hP
  have hD : va_D A [(h, .inr (7, [.ref q_1, .ref q_2, .ref q_3, .int 0, .ref q_4, .int 0, .ref q_5, .int 0, .null, .int 0, .int 0, .null, .null, .null])), (q_1, .inl (cI, 65, .inl (fun _ => 0))), (q_2, .inl (cI, 65, .inl (fun _ => 0))), (q_3, .inl (cI, 260, .inl (fun _ => 0))), (q_4, .inl (cI, 65, .inl (fun _ => 0))), (q_5, .inl (cI, 80, .inl (fun _ => 0))), (q_6, .inl (cI, 320, .inl (fun _ => 0)))] := hD
  refine va_putF (D := D) (ci := 7) (v := .ref q_6) (ty := (.array .int)) (C := RX10) (T := TX10) (N := 14) hx hb hts hi_X10 tyX10 tyX10_ok nmX10 hown hK hP hD hS 0 rfl rfl 8 (by decide) hf_25 (fun _ h9 => h9) rfl hin rfl (by decide +kernel) rfl rfl (Nat.le_of_ble_eq_true rfl) dX10_init_51 (fun H locs hP hD hS => ?_)
  have hP : va_P D vwCl [(h, .inr (7, [.ref q_1, .ref q_2, .ref q_3, .int 0, .ref q_4, .int 0, .ref q_5, .int 0, .ref q_6, .int 0, .int 0, .null, .null, .null])), (q_1, .inl (cI, 65, .inl (fun _ => 0))), (q_2, .inl (cI, 65, .inl (fun _ => 0))), (q_3, .inl (cI, 260, .inl (fun _ => 0))), (q_4, .inl (cI, 65, .inl (fun _ => 0))), (q_5, .inl (cI, 80, .inl (fun _ => 0))), (q_6, .inl (cI, 320, .inl (fun _ => 0)))] H := hP
  have hD : va_D A [(h, .inr (7, [.ref q_1, .ref q_2, .ref q_3, .int 0, .ref q_4, .int 0, .ref q_5, .int 0, .ref q_6, .int 0, .int 0, .null, .null, .null])), (q_1, .inl (cI, 65, .inl (fun _ => 0))), (q_2, .inl (cI, 65, .inl (fun _ => 0))), (q_3, .inl (cI, 260, .inl (fun _ => 0))), (q_4, .inl (cI, 65, .inl (fun _ => 0))), (q_5, .inl (cI, 80, .inl (fun _ => 0))), (q_6, .inl (cI, 320, .inl (fun _ => 0)))] := hD
  refine lv_aload_n hx hb dX10_init_54 rfl (lv_at hl 0 rfl) ?_
  refine lv_bipush (v := 81) hx hb dX10_init_55 (by decide) ?_
  refine va_newa (atype := .int) (ty := .int) (N' := 81) (a0 := (81, .inl (fun _ => 0))) hx hb (hts (.arrayClass .int) (by decide +kernel)) rfl hK hP hD hS hA (fun cA => rfl) (by decide) (by decide) (Nat.le_of_ble_eq_true rfl) (Nat.le_of_ble_eq_true rfl) (Nat.le_of_ble_eq_true rfl) dX10_init_57 (fun q_7 cA H hK2 hP hD hS => ?_)
  have ecA := eK_int hK hK2
  subst ecA
  have hP : va_P D vwCl [(h, .inr (7, [.ref q_1, .ref q_2, .ref q_3, .int 0, .ref q_4, .int 0, .ref q_5, .int 0, .ref q_6, .int 0, .int 0, .null, .null, .null])), (q_1, .inl (cI, 65, .inl (fun _ => 0))), (q_2, .inl (cI, 65, .inl (fun _ => 0))), (q_3, .inl (cI, 260, .inl (fun _ => 0))), (q_4, .inl (cI, 65, .inl (fun _ => 0))), (q_5, .inl (cI, 80, .inl (fun _ => 0))), (q_6, .inl (cI, 320, .inl (fun _ => 0))), (q_7, .inl (cI, 81, .inl (fun _ => 0)))] H := hP
  have hD : va_D A [(h, .inr (7, [.ref q_1, .ref q_2, .ref q_3, .int 0, .ref q_4, .int 0, .ref q_5, .int 0, .ref q_6, .int 0, .int 0, .null, .null, .null])), (q_1, .inl (cI, 65, .inl (fun _ => 0))), (q_2, .inl (cI, 65, .inl (fun _ => 0))), (q_3, .inl (cI, 260, .inl (fun _ => 0))), (q_4, .inl (cI, 65, .inl (fun _ => 0))), (q_5, .inl (cI, 80, .inl (fun _ => 0))), (q_6, .inl (cI, 320, .inl (fun _ => 0))), (q_7, .inl (cI, 81, .inl (fun _ => 0)))] := hD
  refine va_putF (D := D) (ci := 7) (v := .ref q_7) (ty := (.array .int)) (C := RX10) (T := TX10) (N := 14) hx hb hts hi_X10 tyX10 tyX10_ok nmX10 hown hK hP hD hS 0 rfl rfl 11 (by decide) hf_28 (fun _ h9 => h9) rfl hin rfl (by decide +kernel) rfl rfl (Nat.le_of_ble_eq_true rfl) dX10_init_59 (fun H locs hP hD hS => ?_)
  have hP : va_P D vwCl [(h, .inr (7, [.ref q_1, .ref q_2, .ref q_3, .int 0, .ref q_4, .int 0, .ref q_5, .int 0, .ref q_6, .int 0, .int 0, .ref q_7, .null, .null])), (q_1, .inl (cI, 65, .inl (fun _ => 0))), (q_2, .inl (cI, 65, .inl (fun _ => 0))), (q_3, .inl (cI, 260, .inl (fun _ => 0))), (q_4, .inl (cI, 65, .inl (fun _ => 0))), (q_5, .inl (cI, 80, .inl (fun _ => 0))), (q_6, .inl (cI, 320, .inl (fun _ => 0))), (q_7, .inl (cI, 81, .inl (fun _ => 0)))] H := hP
  have hD : va_D A [(h, .inr (7, [.ref q_1, .ref q_2, .ref q_3, .int 0, .ref q_4, .int 0, .ref q_5, .int 0, .ref q_6, .int 0, .int 0, .ref q_7, .null, .null])), (q_1, .inl (cI, 65, .inl (fun _ => 0))), (q_2, .inl (cI, 65, .inl (fun _ => 0))), (q_3, .inl (cI, 260, .inl (fun _ => 0))), (q_4, .inl (cI, 65, .inl (fun _ => 0))), (q_5, .inl (cI, 80, .inl (fun _ => 0))), (q_6, .inl (cI, 320, .inl (fun _ => 0))), (q_7, .inl (cI, 81, .inl (fun _ => 0)))] := hD
  refine lv_aload_n hx hb dX10_init_62 rfl (lv_at hl 0 rfl) ?_
  refine lv_bipush (v := 81) hx hb dX10_init_63 (by decide) ?_
  refine va_newa (atype := .int) (ty := .int) (N' := 81) (a0 := (81, .inl (fun _ => 0))) hx hb (hts (.arrayClass .int) (by decide +kernel)) rfl hK hP hD hS hA (fun cA => rfl) (by decide) (by decide) (Nat.le_of_ble_eq_true rfl) (Nat.le_of_ble_eq_true rfl) (Nat.le_of_ble_eq_true rfl) dX10_init_65 (fun q_8 cA H hK2 hP hD hS => ?_)
  have ecA := eK_int hK hK2
  subst ecA
  have hP : va_P D vwCl [(h, .inr (7, [.ref q_1, .ref q_2, .ref q_3, .int 0, .ref q_4, .int 0, .ref q_5, .int 0, .ref q_6, .int 0, .int 0, .ref q_7, .null, .null])), (q_1, .inl (cI, 65, .inl (fun _ => 0))), (q_2, .inl (cI, 65, .inl (fun _ => 0))), (q_3, .inl (cI, 260, .inl (fun _ => 0))), (q_4, .inl (cI, 65, .inl (fun _ => 0))), (q_5, .inl (cI, 80, .inl (fun _ => 0))), (q_6, .inl (cI, 320, .inl (fun _ => 0))), (q_7, .inl (cI, 81, .inl (fun _ => 0))), (q_8, .inl (cI, 81, .inl (fun _ => 0)))] H := hP
  have hD : va_D A [(h, .inr (7, [.ref q_1, .ref q_2, .ref q_3, .int 0, .ref q_4, .int 0, .ref q_5, .int 0, .ref q_6, .int 0, .int 0, .ref q_7, .null, .null])), (q_1, .inl (cI, 65, .inl (fun _ => 0))), (q_2, .inl (cI, 65, .inl (fun _ => 0))), (q_3, .inl (cI, 260, .inl (fun _ => 0))), (q_4, .inl (cI, 65, .inl (fun _ => 0))), (q_5, .inl (cI, 80, .inl (fun _ => 0))), (q_6, .inl (cI, 320, .inl (fun _ => 0))), (q_7, .inl (cI, 81, .inl (fun _ => 0))), (q_8, .inl (cI, 81, .inl (fun _ => 0)))] := hD
  refine va_putF (D := D) (ci := 7) (v := .ref q_8) (ty := (.array .int)) (C := RX10) (T := TX10) (N := 14) hx hb hts hi_X10 tyX10 tyX10_ok nmX10 hown hK hP hD hS 0 rfl rfl 12 (by decide) hf_31 (fun _ h9 => h9) rfl hin rfl (by decide +kernel) rfl rfl (Nat.le_of_ble_eq_true rfl) dX10_init_67 (fun H locs hP hD hS => ?_)
  have hP : va_P D vwCl [(h, .inr (7, [.ref q_1, .ref q_2, .ref q_3, .int 0, .ref q_4, .int 0, .ref q_5, .int 0, .ref q_6, .int 0, .int 0, .ref q_7, .ref q_8, .null])), (q_1, .inl (cI, 65, .inl (fun _ => 0))), (q_2, .inl (cI, 65, .inl (fun _ => 0))), (q_3, .inl (cI, 260, .inl (fun _ => 0))), (q_4, .inl (cI, 65, .inl (fun _ => 0))), (q_5, .inl (cI, 80, .inl (fun _ => 0))), (q_6, .inl (cI, 320, .inl (fun _ => 0))), (q_7, .inl (cI, 81, .inl (fun _ => 0))), (q_8, .inl (cI, 81, .inl (fun _ => 0)))] H := hP
  have hD : va_D A [(h, .inr (7, [.ref q_1, .ref q_2, .ref q_3, .int 0, .ref q_4, .int 0, .ref q_5, .int 0, .ref q_6, .int 0, .int 0, .ref q_7, .ref q_8, .null])), (q_1, .inl (cI, 65, .inl (fun _ => 0))), (q_2, .inl (cI, 65, .inl (fun _ => 0))), (q_3, .inl (cI, 260, .inl (fun _ => 0))), (q_4, .inl (cI, 65, .inl (fun _ => 0))), (q_5, .inl (cI, 80, .inl (fun _ => 0))), (q_6, .inl (cI, 320, .inl (fun _ => 0))), (q_7, .inl (cI, 81, .inl (fun _ => 0))), (q_8, .inl (cI, 81, .inl (fun _ => 0)))] := hD
  refine lv_aload_n hx hb dX10_init_70 rfl (lv_at hl 0 rfl) ?_
  refine lv_sipush (v := 392) hx hb dX10_init_71 (by decide) ?_
  refine va_newa (atype := .int) (ty := .int) (N' := 392) (a0 := (392, .inl (fun _ => 0))) hx hb (hts (.arrayClass .int) (by decide +kernel)) rfl hK hP hD hS hA (fun cA => rfl) (by decide) (by decide) (Nat.le_of_ble_eq_true rfl) (Nat.le_of_ble_eq_true rfl) (Nat.le_of_ble_eq_true rfl) dX10_init_74 (fun q_9 cA H hK2 hP hD hS => ?_)
  have ecA := eK_int hK hK2
  subst ecA
  have hP : va_P D vwCl [(h, .inr (7, [.ref q_1, .ref q_2, .ref q_3, .int 0, .ref q_4, .int 0, .ref q_5, .int 0, .ref q_6, .int 0, .int 0, .ref q_7, .ref q_8, .null])), (q_1, .inl (cI, 65, .inl (fun _ => 0))), (q_2, .inl (cI, 65, .inl (fun _ => 0))), (q_3, .inl (cI, 260, .inl (fun _ => 0))), (q_4, .inl (cI, 65, .inl (fun _ => 0))), (q_5, .inl (cI, 80, .inl (fun _ => 0))), (q_6, .inl (cI, 320, .inl (fun _ => 0))), (q_7, .inl (cI, 81, .inl (fun _ => 0))), (q_8, .inl (cI, 81, .inl (fun _ => 0))), (q_9, .inl (cI, 392, .inl (fun _ => 0)))] H := hP
  have hD : va_D A [(h, .inr (7, [.ref q_1, .ref q_2, .ref q_3, .int 0, .ref q_4, .int 0, .ref q_5, .int 0, .ref q_6, .int 0, .int 0, .ref q_7, .ref q_8, .null])), (q_1, .inl (cI, 65, .inl (fun _ => 0))), (q_2, .inl (cI, 65, .inl (fun _ => 0))), (q_3, .inl (cI, 260, .inl (fun _ => 0))), (q_4, .inl (cI, 65, .inl (fun _ => 0))), (q_5, .inl (cI, 80, .inl (fun _ => 0))), (q_6, .inl (cI, 320, .inl (fun _ => 0))), (q_7, .inl (cI, 81, .inl (fun _ => 0))), (q_8, .inl (cI, 81, .inl (fun _ => 0))), (q_9, .inl (cI, 392, .inl (fun _ => 0)))] := hD
  refine va_putF (D := D) (ci := 7) (v := .ref q_9) (ty := (.array .int)) (C := RX10) (T := TX10) (N := 14) hx hb hts hi_X10 tyX10 tyX10_ok nmX10 hown hK hP hD hS 0 rfl rfl 13 (by decide) hf_34 (fun _ h9 => h9) rfl hin rfl (by decide +kernel) rfl rfl (Nat.le_of_ble_eq_true rfl) dX10_init_76 (fun H locs hP hD hS => ?_)
  have hP : va_P D vwCl [(h, .inr (7, [.ref q_1, .ref q_2, .ref q_3, .int 0, .ref q_4, .int 0, .ref q_5, .int 0, .ref q_6, .int 0, .int 0, .ref q_7, .ref q_8, .ref q_9])), (q_1, .inl (cI, 65, .inl (fun _ => 0))), (q_2, .inl (cI, 65, .inl (fun _ => 0))), (q_3, .inl (cI, 260, .inl (fun _ => 0))), (q_4, .inl (cI, 65, .inl (fun _ => 0))), (q_5, .inl (cI, 80, .inl (fun _ => 0))), (q_6, .inl (cI, 320, .inl (fun _ => 0))), (q_7, .inl (cI, 81, .inl (fun _ => 0))), (q_8, .inl (cI, 81, .inl (fun _ => 0))), (q_9, .inl (cI, 392, .inl (fun _ => 0)))] H := hP
  have hD : va_D A [(h, .inr (7, [.ref q_1, .ref q_2, .ref q_3, .int 0, .ref q_4, .int 0, .ref q_5, .int 0, .ref q_6, .int 0, .int 0, .ref q_7, .ref q_8, .ref q_9])), (q_1, .inl (cI, 65, .inl (fun _ => 0))), (q_2, .inl (cI, 65, .inl (fun _ => 0))), (q_3, .inl (cI, 260, .inl (fun _ => 0))), (q_4, .inl (cI, 65, .inl (fun _ => 0))), (q_5, .inl (cI, 80, .inl (fun _ => 0))), (q_6, .inl (cI, 320, .inl (fun _ => 0))), (q_7, .inl (cI, 81, .inl (fun _ => 0))), (q_8, .inl (cI, 81, .inl (fun _ => 0))), (q_9, .inl (cI, 392, .inl (fun _ => 0)))] := hD
  refine lv_aload_n hx hb dX10_init_79 rfl (lv_at hl 0 rfl) ?_
  refine lv_iconst (v := 4) hx hb dX10_init_80 (by decide) ?_
  refine lv_iconst (v := 1) hx hb dX10_init_81 (by decide) ?_
  obtain ⟨z_10, hz, h0⟩ := bd_ok h0
  refine wr_V (As := [.int 4, .int 1]) (rest := []) (wc := [(h, .inr (7, [.ref q_1, .ref q_2, .ref q_3, .int 0, .ref q_4, .int 0, .ref q_5, .int 0, .ref q_6, .int 0, .int 0, .ref q_7, .ref q_8, .ref q_9])), (q_1, .inl (cI, 65, .inl (fun _ => 0))), (q_2, .inl (cI, 65, .inl (fun _ => 0))), (q_3, .inl (cI, 260, .inl (fun _ => 0))), (q_4, .inl (cI, 65, .inl (fun _ => 0))), (q_5, .inl (cI, 80, .inl (fun _ => 0))), (q_6, .inl (cI, 320, .inl (fun _ => 0))), (q_7, .inl (cI, 81, .inl (fun _ => 0))), (q_8, .inl (cI, 81, .inl (fun _ => 0))), (q_9, .inl (cI, 392, .inl (fun _ => 0)))]) (wr := []) hcf (kX10_lays l D cI cC cT h q_1 q_2 q_3 q_4 q_5 q_6 q_7 q_8 q_9 (fun _ => 0) (fun _ => 0) (fun _ => 0) 0 (fun _ => 0) 0 (fun _ => 0) 0 (fun _ => 0) 0 0 (fun _ => 0) (fun _ => 0) (fun _ => 0) 4 1 _ z_10 hz) (cwV 2 hts gX10_init_X10_lays rfl rfl rfl (by decide +kernel) ⟨Nat.le_of_ble_eq_true rfl, Nat.le_of_ble_eq_true rfl⟩) hE hP hD hS hA [0, 1, 2, 3, 4, 5, 6, 7, 8, 9] [] (hP.sub [0, 1, 2, 3, 4, 5, 6, 7, 8, 9] rfl) (hD.sub [0, 1, 2, 3, 4, 5, 6, 7, 8, 9] (by decide) rfl) (va_recv hK hP (ci := 7) (q0 := 0) rfl rfl) rfl rfl (by decide) (by decide) rfl hl.1 rfl (Nat.le_of_ble_eq_true rfl) dX10_init_82 ⟨Nat.le_of_ble_eq_true rfl, Nat.le_of_ble_eq_true rfl⟩ (fun u H locs hP hD hS => ?_)
  have hP : va_P D vwCl [(h, .inr (7, [.ref q_1, .ref q_2, .ref q_3, .int 0, .ref q_4, .int 0, .ref q_5, .int 0, .ref q_6, .int 0, .int 0, .ref q_7, .ref q_8, .ref q_9])), (q_1, .inl (cI, 65, .inl z_10)), (q_2, .inl (cI, 65, .inl (fun _ => 0))), (q_3, .inl (cI, 260, .inl (fun _ => 0))), (q_4, .inl (cI, 65, .inl (fun _ => 0))), (q_5, .inl (cI, 80, .inl (fun _ => 0))), (q_6, .inl (cI, 320, .inl (fun _ => 0))), (q_7, .inl (cI, 81, .inl (fun _ => 0))), (q_8, .inl (cI, 81, .inl (fun _ => 0))), (q_9, .inl (cI, 392, .inl (fun _ => 0)))] H := hP
  have hD : va_D A [(h, .inr (7, [.ref q_1, .ref q_2, .ref q_3, .int 0, .ref q_4, .int 0, .ref q_5, .int 0, .ref q_6, .int 0, .int 0, .ref q_7, .ref q_8, .ref q_9])), (q_1, .inl (cI, 65, .inl z_10)), (q_2, .inl (cI, 65, .inl (fun _ => 0))), (q_3, .inl (cI, 260, .inl (fun _ => 0))), (q_4, .inl (cI, 65, .inl (fun _ => 0))), (q_5, .inl (cI, 80, .inl (fun _ => 0))), (q_6, .inl (cI, 320, .inl (fun _ => 0))), (q_7, .inl (cI, 81, .inl (fun _ => 0))), (q_8, .inl (cI, 81, .inl (fun _ => 0))), (q_9, .inl (cI, 392, .inl (fun _ => 0)))] := hD
  refine W.eq (g2 := F0 m 85 ls []) rfl ?_
  have e0 := Option.some.inj h0
  subst e0
  refine W.widen (k := 9) (n := 1409) (Nat.le_of_ble_eq_true rfl) (Nat.le_of_ble_eq_true rfl) ?_
  exact W.vret hx hb hr (fun t ht hW => wr_end (q_1, q_2, q_3, q_4, q_5, q_6, q_7, q_8, q_9) ht (hP.sub [0, 1, 2, 3, 4, 5, 6, 7, 8, 9] rfl) (hD.sub [0, 1, 2, 3, 4, 5, 6, 7, 8, 9] (by decide) rfl) hS) hS.2.2 dX10_init_85
noncomputable def mX10_plain (h_s_f : Nat → Int32) (p1 : Int32) (p2 : Int32) : Option (Int32) :=
  bd (mX10_at p1 p2) (fun z_1 => gd (inb z_1 65) (some ((h_s_f (z_1 : Int32).toNatClampNeg))))
set_option maxHeartbeats 8000000 in
set_option maxRecDepth 100000 in
theorem kX10_plain (l : Launch) (D : va_G) (cI cC cT : ClassId) (h h_s h_aside h_past h_snapshot h_pad h_steps h_summed h_plus h_parts : Nat) (h_s_f : Nat → Int32) (h_aside_f : Nat → Int32) (h_past_f : Nat → Int32) (h_pasts : Int32) (h_snapshot_f : Nat → Int32) (h_isKept : Int32) (h_pad_f : Nat → Int32) (h_length : Int32) (h_steps_f : Nat → Int32) (h_many : Int32) (h_value : Int32) (h_summed_f : Nat → Int32) (h_plus_f : Nat → Int32) (h_parts_f : Nat → Int32) (p1 : Int32) (p2 : Int32) (z : Int32) (h0 : mX10_plain h_s_f p1 p2 = some z) : Met l yX10_plain wsX10_plain ({ frames := 1, cells := 0, slots := 0, locals := 21 } : Room) (va_Pc [.ref h, .int p1, .int p2] (rP D cI cC cT [(h, .inr (7, [.ref h_s, .ref h_aside, .ref h_past, .int h_pasts, .ref h_snapshot, .int h_isKept, .ref h_pad, .int h_length, .ref h_steps, .int h_many, .int h_value, .ref h_summed, .ref h_plus, .ref h_parts])), (h_s, .inl (cI, 65, .inl h_s_f)), (h_aside, .inl (cI, 65, .inl h_aside_f)), (h_past, .inl (cI, 260, .inl h_past_f)), (h_snapshot, .inl (cI, 65, .inl h_snapshot_f)), (h_pad, .inl (cI, 80, .inl h_pad_f)), (h_steps, .inl (cI, 320, .inl h_steps_f)), (h_summed, .inl (cI, 81, .inl h_summed_f)), (h_plus, .inl (cI, 81, .inl h_plus_f)), (h_parts, .inl (cI, 392, .inl h_parts_f))])) (rQ (some (.int z))) 0 0 (fun _ => False) := by
  refine Met.ofW (cc := cX10_plain) (maxL := 3) (ret := (some .int)) (by decide) rfl ?_
  intro p e s m args below meth c s₁ B hml hv
  obtain ⟨rfl, hP, hE⟩ := hv
  have hx := B.exec
  have hb := B.bytes
  have hr := B.returns
  have hts := atoms_spec (ws := wsX10_plain) B.pre
  have hown : s.vm.findClass RX10 = some m.cls := findClass_of_methodNamed B.named
  have hlocks := B.notSynchronized
  have hK := hE.1
  have hcf : CallFix p m c cX10_plain 3 s ([.ref h, .int p1, .int p2] : List Value).toArray wsX10_plain RX10 := ⟨hx, hb, hml, hown, hts⟩
  have hP : va_P D vwCl [(h, .inr (7, [.ref h_s, .ref h_aside, .ref h_past, .int h_pasts, .ref h_snapshot, .int h_isKept, .ref h_pad, .int h_length, .ref h_steps, .int h_many, .int h_value, .ref h_summed, .ref h_plus, .ref h_parts])), (h_s, .inl (cI, 65, .inl h_s_f)), (h_aside, .inl (cI, 65, .inl h_aside_f)), (h_past, .inl (cI, 260, .inl h_past_f)), (h_snapshot, .inl (cI, 65, .inl h_snapshot_f)), (h_pad, .inl (cI, 80, .inl h_pad_f)), (h_steps, .inl (cI, 320, .inl h_steps_f)), (h_summed, .inl (cI, 81, .inl h_summed_f)), (h_plus, .inl (cI, 81, .inl h_plus_f)), (h_parts, .inl (cI, 392, .inl h_parts_f))] s.heap := hP
  have hf_7 := hts (.fieldLink RX10 7 "CrookedSumsModel" "s" "[I") (by decide +kernel)
  have hi_X10 := (show ∀ w ∈ u_ws RX10 TX10 14, w ∈ wsX10_plain from by decide +kernel)
  have hl := lv_entry ([.ref h, .int p1, .int p2]) (n := 3) (Nat.le_of_ble_eq_true rfl)
  rw [lg_entry_eq]
  generalize (lg_sl ([.ref h, .int p1, .int p2]) ++ List.replicate (3 - (lg_sl ([.ref h, .int p1, .int p2])).length) Slot.unset).toArray = ls at hl ⊢
  have hl : lv_has ls 3 [(0, .ref h), (1, .int p1), (2, .int p2)] := hl
  unfold mX10_plain at h0
  refine lv_aload_n hx hb dX10_plain_0 rfl (lv_at hl 0 rfl) ?_
  refine va_get (D := D) (ci := 7) (v := .ref h_s) (C := RX10) (T := TX10) (N := 14) hx hb hts hi_X10 hown hK hP 0 rfl rfl 0 (by decide) hf_7 (fun _ h9 => h9) rfl dX10_plain_1 ?_
  refine lv_iload_n hx hb dX10_plain_4 rfl (lv_at hl 1 rfl) ?_
  refine lv_iload_n hx hb dX10_plain_5 rfl (lv_at hl 2 rfl) ?_
  obtain ⟨z_1, hz, h0⟩ := bd_ok h0
  refine ro_S (As := [.int p1, .int p2]) (rest := [.ref h_s]) (wc := []) hcf (kX10_at l D cI cC cT p1 p2 z_1 hz) (va_cwS 2 hts gX10_plain_X10_at rfl rfl rfl (by decide +kernel) ⟨Nat.le_of_ble_eq_true rfl, Nat.le_of_ble_eq_true rfl⟩) hE (hP.sub [] rfl) rfl hl.1 rfl (Nat.le_of_ble_eq_true rfl) dX10_plain_6 ⟨Nat.le_of_ble_eq_true rfl, Nat.le_of_ble_eq_true rfl⟩ ?_
  refine W.eq (g2 := F0 m 9 ls [.int z_1, .ref h_s]) rfl ?_
  obtain ⟨g0, h0⟩ := gd_ok h0
  refine va_iald hx hb hK hP 1 0 rfl rfl (inb_ok g0) dX10_plain_9 ?_
  have e0 := Option.some.inj h0
  subst e0
  exact W.iret (v := (h_s_f (z_1 : Int32).toNatClampNeg)) hx hb hr (fun t ht hW => ⟨rfl, ht⟩) (fun q hq => absurd hq List.not_mem_nil) dX10_plain_10
noncomputable def mX10_part (p1 : Int32) (p2 : Int32) (p3 : Int32) : Option (Int32) :=
  some ((((((7 : Int32) * p1) + p2) * 8) + p3))
set_option maxHeartbeats 8000000 in
set_option maxRecDepth 100000 in
theorem kX10_part (l : Launch) (D : va_G) (cI cC cT : ClassId) (p1 : Int32) (p2 : Int32) (p3 : Int32) (z : Int32) (h0 : mX10_part p1 p2 p3 = some z) : Met l yX10_part wsX10_part ({ frames := 0, cells := 0, slots := 0, locals := 0 } : Room) (va_Pc [.int p1, .int p2, .int p3] (rP D cI cC cT [])) (rQ (some (.int z))) 0 0 (fun _ => False) := by
  refine Met.ofW (cc := cX10_part) (maxL := 3) (ret := (some .int)) (by decide) rfl ?_
  intro p e s m args below meth c s₁ B hml hv
  obtain ⟨rfl, hP, hE⟩ := hv
  have hx := B.exec
  have hb := B.bytes
  have hr := B.returns
  have hts := atoms_spec (ws := wsX10_part) B.pre
  have hown : s.vm.findClass RX10 = some m.cls := findClass_of_methodNamed B.named
  have hlocks := B.notSynchronized
  have hK := hE.1
  have hcf : CallFix p m c cX10_part 3 s ([.int p1, .int p2, .int p3] : List Value).toArray wsX10_part RX10 := ⟨hx, hb, hml, hown, hts⟩
  have hP : va_P D vwCl [] s.heap := hP
  have hl := lv_entry ([.int p1, .int p2, .int p3]) (n := 3) (Nat.le_of_ble_eq_true rfl)
  rw [lg_entry_eq]
  generalize (lg_sl ([.int p1, .int p2, .int p3]) ++ List.replicate (3 - (lg_sl ([.int p1, .int p2, .int p3])).length) Slot.unset).toArray = ls at hl ⊢
  have hl : lv_has ls 3 [(0, .int p1), (1, .int p2), (2, .int p3)] := hl
  unfold mX10_part at h0
  refine lv_bipush (v := 7) hx hb dX10_part_0 (by decide) ?_
  refine lv_iload_n hx hb dX10_part_2 rfl (lv_at hl 0 rfl) ?_
  refine lv_imul hx hb dX10_part_3 ?_
  refine lv_iload_n hx hb dX10_part_4 rfl (lv_at hl 1 rfl) ?_
  refine lv_iadd hx hb dX10_part_5 ?_
  refine lv_bipush (v := 8) hx hb dX10_part_6 (by decide) ?_
  refine lv_imul hx hb dX10_part_8 ?_
  refine lv_iload_n hx hb dX10_part_9 rfl (lv_at hl 2 rfl) ?_
  refine lv_iadd hx hb dX10_part_10 ?_
  have e0 := Option.some.inj h0
  subst e0
  exact W.iret (v := (((((7 : Int32) * p1) + p2) * 8) + p3)) hx hb hr (fun t ht hW => ⟨rfl, ht⟩) (fun q hq => absurd hq List.not_mem_nil) dX10_part_11
noncomputable def mX10_adds_L17 (h_s_f : Nat → Int32) (p1 : Int32) (p2 : Int32) (p3 : Int32) (x4_4 : Int32) (k17_82 : Int32 → (Nat → Int32) → Option ((Nat → Int32))) : Nat → Int32 → (Nat → Int32) → Option ((Nat → Int32))
  | 0, _, _ => none
  | F + 1, x5_9, f_10 => if (h_s_f (0 : Int32).toNatClampNeg) ≤ x5_9 then (k17_82 x5_9 f_10) else (bd (mX10_plain h_s_f x4_4 x5_9) (fun z_11 => bd (mX10_part p1 p3 z_11) (fun z_12 => gd (inb z_12 392) (bd (mX10_part p1 p2 x4_4) (fun z_13 => gd (inb z_13 392) (bd (mX10_part (p2 + 1) p3 x5_9) (fun z_14 => gd (inb z_14 392) (gd (inb z_12 392) (mX10_adds_L17 h_s_f p1 p2 p3 x4_4 k17_82 F (x5_9 + 1) (upd f_10 (z_12 : Int32).toNatClampNeg ((f_10 (z_12 : Int32).toNatClampNeg) + ((f_10 (z_13 : Int32).toNatClampNeg) * (f_10 (z_14 : Int32).toNatClampNeg)))))))))))))
noncomputable def mX10_adds_L3 (h_s_f : Nat → Int32) (p1 : Int32) (p2 : Int32) (p3 : Int32) (k3_88 : Int32 → (Nat → Int32) → Option ((Nat → Int32))) : Nat → Int32 → (Nat → Int32) → Option ((Nat → Int32))
  | 0, _, _ => none
  | F + 1, x4_4, f_5 => if (h_s_f (0 : Int32).toNatClampNeg) ≤ x4_4 then (k3_88 x4_4 f_5) else (mX10_adds_L17 h_s_f p1 p2 p3 x4_4 (fun (x5_6 : Int32) (f_7 : Nat → Int32) => mX10_adds_L3 h_s_f p1 p2 p3 k3_88 F (x4_4 + 1) f_7) FU 0 f_5)
noncomputable def mX10_adds (h_s_f : Nat → Int32) (h_parts_f : Nat → Int32) (p1 : Int32) (p2 : Int32) (p3 : Int32) : Option ((Nat → Int32)) :=
  mX10_adds_L3 h_s_f p1 p2 p3 (fun (x4_1 : Int32) (f_2 : Nat → Int32) => some (f_2)) FU 0 h_parts_f
set_option maxHeartbeats 8000000 in
set_option maxRecDepth 100000 in
theorem kX10_adds (l : Launch) (D : va_G) (cI cC cT : ClassId) (h h_s h_aside h_past h_snapshot h_pad h_steps h_summed h_plus h_parts : Nat) (h_s_f : Nat → Int32) (h_aside_f : Nat → Int32) (h_past_f : Nat → Int32) (h_pasts : Int32) (h_snapshot_f : Nat → Int32) (h_isKept : Int32) (h_pad_f : Nat → Int32) (h_length : Int32) (h_steps_f : Nat → Int32) (h_many : Int32) (h_value : Int32) (h_summed_f : Nat → Int32) (h_plus_f : Nat → Int32) (h_parts_f : Nat → Int32) (p1 : Int32) (p2 : Int32) (p3 : Int32) (sz : Nat) (z : (Nat → Int32)) (h0 : mX10_adds h_s_f h_parts_f p1 p2 p3 = some z) : Met l yX10_adds wsX10_adds ({ frames := 2, cells := 0, slots := 0, locals := 43 } : Room) (va_Pc [.ref h, .int p1, .int p2, .int p3] (wP D cI cC cT [(h, .inr (7, [.ref h_s, .ref h_aside, .ref h_past, .int h_pasts, .ref h_snapshot, .int h_isKept, .ref h_pad, .int h_length, .ref h_steps, .int h_many, .int h_value, .ref h_summed, .ref h_plus, .ref h_parts])), (h_s, .inl (cI, 65, .inl h_s_f)), (h_aside, .inl (cI, 65, .inl h_aside_f)), (h_past, .inl (cI, 260, .inl h_past_f)), (h_snapshot, .inl (cI, 65, .inl h_snapshot_f)), (h_pad, .inl (cI, 80, .inl h_pad_f)), (h_steps, .inl (cI, 320, .inl h_steps_f)), (h_summed, .inl (cI, 81, .inl h_summed_f)), (h_plus, .inl (cI, 81, .inl h_plus_f)), (h_parts, .inl (cI, 392, .inl h_parts_f))] sz)) (wQ D none (va_A [(h, .inr (7, [.ref h_s, .ref h_aside, .ref h_past, .int h_pasts, .ref h_snapshot, .int h_isKept, .ref h_pad, .int h_length, .ref h_steps, .int h_many, .int h_value, .ref h_summed, .ref h_plus, .ref h_parts])), (h_s, .inl (cI, 65, .inl h_s_f)), (h_aside, .inl (cI, 65, .inl h_aside_f)), (h_past, .inl (cI, 260, .inl h_past_f)), (h_snapshot, .inl (cI, 65, .inl h_snapshot_f)), (h_pad, .inl (cI, 80, .inl h_pad_f)), (h_steps, .inl (cI, 320, .inl h_steps_f)), (h_summed, .inl (cI, 81, .inl h_summed_f)), (h_plus, .inl (cI, 81, .inl h_plus_f)), (h_parts, .inl (cI, 392, .inl h_parts_f))] sz) (fun (u : Unit) => [(h, .inr (7, [.ref h_s, .ref h_aside, .ref h_past, .int h_pasts, .ref h_snapshot, .int h_isKept, .ref h_pad, .int h_length, .ref h_steps, .int h_many, .int h_value, .ref h_summed, .ref h_plus, .ref h_parts])), (h_s, .inl (cI, 65, .inl h_s_f)), (h_aside, .inl (cI, 65, .inl h_aside_f)), (h_past, .inl (cI, 260, .inl h_past_f)), (h_snapshot, .inl (cI, 65, .inl h_snapshot_f)), (h_pad, .inl (cI, 80, .inl h_pad_f)), (h_steps, .inl (cI, 320, .inl h_steps_f)), (h_summed, .inl (cI, 81, .inl h_summed_f)), (h_plus, .inl (cI, 81, .inl h_plus_f)), (h_parts, .inl (cI, 392, .inl z))])) 0 0 (va_A [(h, .inr (7, [.ref h_s, .ref h_aside, .ref h_past, .int h_pasts, .ref h_snapshot, .int h_isKept, .ref h_pad, .int h_length, .ref h_steps, .int h_many, .int h_value, .ref h_summed, .ref h_plus, .ref h_parts])), (h_s, .inl (cI, 65, .inl h_s_f)), (h_aside, .inl (cI, 65, .inl h_aside_f)), (h_past, .inl (cI, 260, .inl h_past_f)), (h_snapshot, .inl (cI, 65, .inl h_snapshot_f)), (h_pad, .inl (cI, 80, .inl h_pad_f)), (h_steps, .inl (cI, 320, .inl h_steps_f)), (h_summed, .inl (cI, 81, .inl h_summed_f)), (h_plus, .inl (cI, 81, .inl h_plus_f)), (h_parts, .inl (cI, 392, .inl h_parts_f))] sz) := by
  refine Met.ofW (cc := cX10_adds) (maxL := 6) (ret := none) (by decide) rfl ?_
  intro p e s m args below meth c s₁ B hml hv
  obtain ⟨rfl, hsz, hP, hE, hD0⟩ := hv
  have hx := B.exec
  have hb := B.bytes
  have hr := B.returns
  have hts := atoms_spec (ws := wsX10_adds) B.pre
  have hown : s.vm.findClass RX10 = some m.cls := findClass_of_methodNamed B.named
  have hlocks := B.notSynchronized
  have hK := hE.1
  have hcf : CallFix p m c cX10_adds 6 s ([.ref h, .int p1, .int p2, .int p3] : List Value).toArray wsX10_adds RX10 := ⟨hx, hb, hml, hown, hts⟩
  subst hsz
  have hD := hD0.self (sz := s.heap.size)
  generalize hAe : va_A [(h, .inr (7, [.ref h_s, .ref h_aside, .ref h_past, .int h_pasts, .ref h_snapshot, .int h_isKept, .ref h_pad, .int h_length, .ref h_steps, .int h_many, .int h_value, .ref h_summed, .ref h_plus, .ref h_parts])), (h_s, .inl (cI, 65, .inl h_s_f)), (h_aside, .inl (cI, 65, .inl h_aside_f)), (h_past, .inl (cI, 260, .inl h_past_f)), (h_snapshot, .inl (cI, 65, .inl h_snapshot_f)), (h_pad, .inl (cI, 80, .inl h_pad_f)), (h_steps, .inl (cI, 320, .inl h_steps_f)), (h_summed, .inl (cI, 81, .inl h_summed_f)), (h_plus, .inl (cI, 81, .inl h_plus_f)), (h_parts, .inl (cI, 392, .inl h_parts_f))] s.heap.size = A at hD ⊢
  have hA : ∀ q : Nat, s.heap.size ≤ q → A q := fun q h => by rw [← hAe]; exact Or.inr h
  have hS : va_S A s.heap s.heap [] := va_S.rf
  have hP : va_P D vwCl [(h, .inr (7, [.ref h_s, .ref h_aside, .ref h_past, .int h_pasts, .ref h_snapshot, .int h_isKept, .ref h_pad, .int h_length, .ref h_steps, .int h_many, .int h_value, .ref h_summed, .ref h_plus, .ref h_parts])), (h_s, .inl (cI, 65, .inl h_s_f)), (h_aside, .inl (cI, 65, .inl h_aside_f)), (h_past, .inl (cI, 260, .inl h_past_f)), (h_snapshot, .inl (cI, 65, .inl h_snapshot_f)), (h_pad, .inl (cI, 80, .inl h_pad_f)), (h_steps, .inl (cI, 320, .inl h_steps_f)), (h_summed, .inl (cI, 81, .inl h_summed_f)), (h_plus, .inl (cI, 81, .inl h_plus_f)), (h_parts, .inl (cI, 392, .inl h_parts_f))] s.heap := hP
  have hf_7 := hts (.fieldLink RX10 7 "CrookedSumsModel" "s" "[I") (by decide +kernel)
  have hi_X10 := (show ∀ w ∈ u_ws RX10 TX10 14, w ∈ wsX10_adds from by decide +kernel)
  have hf_34 := hts (.fieldLink RX10 34 "CrookedSumsModel" "parts" "[I") (by decide +kernel)
  have hl := lv_entry ([.ref h, .int p1, .int p2, .int p3]) (n := 6) (Nat.le_of_ble_eq_true rfl)
  rw [lg_entry_eq]
  generalize (lg_sl ([.ref h, .int p1, .int p2, .int p3]) ++ List.replicate (6 - (lg_sl ([.ref h, .int p1, .int p2, .int p3])).length) Slot.unset).toArray = ls at hl ⊢
  have hl : lv_has ls 6 [(0, .ref h), (1, .int p1), (2, .int p2), (3, .int p3)] := hl
  unfold mX10_adds at h0
  refine lv_iconst (v := 0) hx hb dX10_adds_0 (by decide) ?_
  refine lv_istore (lv' := [(4, .int 0), (0, .ref h), (1, .int p1), (2, .int p2), (3, .int p3)]) hx hb dX10_adds_1 hl (by decide) rfl (fun ls hl => ?_)
  have E_3_88_2 : ∀ (x4_1 : Int32) (f_2 : Nat → Int32) (H : Heap) (locs : List Loc) (ls : Array Slot), (some (f_2)) = some z → va_P D vwCl [(h, .inr (7, [.ref h_s, .ref h_aside, .ref h_past, .int h_pasts, .ref h_snapshot, .int h_isKept, .ref h_pad, .int h_length, .ref h_steps, .int h_many, .int h_value, .ref h_summed, .ref h_plus, .ref h_parts])), (h_s, .inl (cI, 65, .inl h_s_f)), (h_aside, .inl (cI, 65, .inl h_aside_f)), (h_past, .inl (cI, 260, .inl h_past_f)), (h_snapshot, .inl (cI, 65, .inl h_snapshot_f)), (h_pad, .inl (cI, 80, .inl h_pad_f)), (h_steps, .inl (cI, 320, .inl h_steps_f)), (h_summed, .inl (cI, 81, .inl h_summed_f)), (h_plus, .inl (cI, 81, .inl h_plus_f)), (h_parts, .inl (cI, 392, .inl f_2))] H → va_D A [(h, .inr (7, [.ref h_s, .ref h_aside, .ref h_past, .int h_pasts, .ref h_snapshot, .int h_isKept, .ref h_pad, .int h_length, .ref h_steps, .int h_many, .int h_value, .ref h_summed, .ref h_plus, .ref h_parts])), (h_s, .inl (cI, 65, .inl h_s_f)), (h_aside, .inl (cI, 65, .inl h_aside_f)), (h_past, .inl (cI, 260, .inl h_past_f)), (h_snapshot, .inl (cI, 65, .inl h_snapshot_f)), (h_pad, .inl (cI, 80, .inl h_pad_f)), (h_steps, .inl (cI, 320, .inl h_steps_f)), (h_summed, .inl (cI, 81, .inl h_summed_f)), (h_plus, .inl (cI, 81, .inl h_plus_f)), (h_parts, .inl (cI, 392, .inl f_2))] → va_S A s.heap H locs → lv_has ls 6 [(4, .int x4_1), (0, .ref h), (1, .int p1), (2, .int p2), (3, .int p3)] → W p l e (headSpec wsX10_adds ({ frames := 2, cells := 0, slots := 0, locals := 43 } : Room)).room s m (([.ref h, .int p1, .int p2, .int p3] : List Value).toArray) below meth c H locs 0 0 (MQ below (wQ D none A (fun (u : Unit) => [(h, .inr (7, [.ref h_s, .ref h_aside, .ref h_past, .int h_pasts, .ref h_snapshot, .int h_isKept, .ref h_pad, .int h_length, .ref h_steps, .int h_many, .int h_value, .ref h_summed, .ref h_plus, .ref h_parts])), (h_s, .inl (cI, 65, .inl h_s_f)), (h_aside, .inl (cI, 65, .inl h_aside_f)), (h_past, .inl (cI, 260, .inl h_past_f)), (h_snapshot, .inl (cI, 65, .inl h_snapshot_f)), (h_pad, .inl (cI, 80, .inl h_pad_f)), (h_steps, .inl (cI, 320, .inl h_steps_f)), (h_summed, .inl (cI, 81, .inl h_summed_f)), (h_plus, .inl (cI, 81, .inl h_plus_f)), (h_parts, .inl (cI, 392, .inl z))])) (([.ref h, .int p1, .int p2, .int p3] : List Value).toArray) s 0 0 A) (F0 m 88 ls []) := by
    intro x4_1 f_2 H locs ls h0 hP hD hS hl
    have e0 := Option.some.inj h0
    subst e0
    exact W.vret hx hb hr (fun t ht hW => wr_end () ht hP hD hS) hS.2.2 dX10_adds_88
  have L_3_15 : ∀ (F3 : Nat) (x4_4 : Int32) (f_5 : Nat → Int32) (H : Heap) (locs : List Loc) (ls : Array Slot), mX10_adds_L3 h_s_f p1 p2 p3 (fun (x4_1 : Int32) (f_2 : Nat → Int32) => some (f_2)) F3 x4_4 f_5 = some z → va_P D vwCl [(h, .inr (7, [.ref h_s, .ref h_aside, .ref h_past, .int h_pasts, .ref h_snapshot, .int h_isKept, .ref h_pad, .int h_length, .ref h_steps, .int h_many, .int h_value, .ref h_summed, .ref h_plus, .ref h_parts])), (h_s, .inl (cI, 65, .inl h_s_f)), (h_aside, .inl (cI, 65, .inl h_aside_f)), (h_past, .inl (cI, 260, .inl h_past_f)), (h_snapshot, .inl (cI, 65, .inl h_snapshot_f)), (h_pad, .inl (cI, 80, .inl h_pad_f)), (h_steps, .inl (cI, 320, .inl h_steps_f)), (h_summed, .inl (cI, 81, .inl h_summed_f)), (h_plus, .inl (cI, 81, .inl h_plus_f)), (h_parts, .inl (cI, 392, .inl f_5))] H → va_D A [(h, .inr (7, [.ref h_s, .ref h_aside, .ref h_past, .int h_pasts, .ref h_snapshot, .int h_isKept, .ref h_pad, .int h_length, .ref h_steps, .int h_many, .int h_value, .ref h_summed, .ref h_plus, .ref h_parts])), (h_s, .inl (cI, 65, .inl h_s_f)), (h_aside, .inl (cI, 65, .inl h_aside_f)), (h_past, .inl (cI, 260, .inl h_past_f)), (h_snapshot, .inl (cI, 65, .inl h_snapshot_f)), (h_pad, .inl (cI, 80, .inl h_pad_f)), (h_steps, .inl (cI, 320, .inl h_steps_f)), (h_summed, .inl (cI, 81, .inl h_summed_f)), (h_plus, .inl (cI, 81, .inl h_plus_f)), (h_parts, .inl (cI, 392, .inl f_5))] → va_S A s.heap H locs → lv_has ls 6 [(4, .int x4_4), (0, .ref h), (1, .int p1), (2, .int p2), (3, .int p3)] → W p l e (headSpec wsX10_adds ({ frames := 2, cells := 0, slots := 0, locals := 43 } : Room)).room s m (([.ref h, .int p1, .int p2, .int p3] : List Value).toArray) below meth c H locs 0 0 (MQ below (wQ D none A (fun (u : Unit) => [(h, .inr (7, [.ref h_s, .ref h_aside, .ref h_past, .int h_pasts, .ref h_snapshot, .int h_isKept, .ref h_pad, .int h_length, .ref h_steps, .int h_many, .int h_value, .ref h_summed, .ref h_plus, .ref h_parts])), (h_s, .inl (cI, 65, .inl h_s_f)), (h_aside, .inl (cI, 65, .inl h_aside_f)), (h_past, .inl (cI, 260, .inl h_past_f)), (h_snapshot, .inl (cI, 65, .inl h_snapshot_f)), (h_pad, .inl (cI, 80, .inl h_pad_f)), (h_steps, .inl (cI, 320, .inl h_steps_f)), (h_summed, .inl (cI, 81, .inl h_summed_f)), (h_plus, .inl (cI, 81, .inl h_plus_f)), (h_parts, .inl (cI, 392, .inl z))])) (([.ref h, .int p1, .int p2, .int p3] : List Value).toArray) s 0 0 A) (F0 m 3 ls []) := by
    intro F3
    induction F3 with
    | zero => intro x4_4 f_5 H locs ls h0 hP hD hS hl; cases h0
    | succ F3 ih3 =>
      intro x4_4 f_5 H locs ls h0 hP hD hS hl
      rw [mX10_adds_L3] at h0
      refine lv_iload hx hb dX10_adds_3 (lv_at hl 0 rfl) ?_
      refine lv_aload_n hx hb dX10_adds_5 rfl (lv_at hl 1 rfl) ?_
      refine va_get (D := D) (ci := 7) (v := .ref h_s) (C := RX10) (T := TX10) (N := 14) hx hb hts hi_X10 hown hK hP 0 rfl rfl 0 (by decide) hf_7 (fun _ h9 => h9) rfl dX10_adds_6 ?_
      refine lv_iconst (v := 0) hx hb dX10_adds_9 (by decide) ?_
      refine va_iald hx hb hK hP 1 0 rfl rfl (by unfold vp_in; decide) dX10_adds_10 ?_
      refine lv_icmp_ge (tgt := 88) hx hb dX10_adds_11 (by decide) (fun c9 => ?_) (fun c9 => ?_)
      · have h0 := it_t c9 h0
        exact E_3_88_2 x4_4 f_5 _ _ ls h0 hP hD hS hl
      · have h0 := it_f c9 h0
        refine lv_iconst (v := 0) hx hb dX10_adds_14 (by decide) ?_
        refine lv_istore (lv' := [(5, .int 0), (4, .int x4_4), (0, .ref h), (1, .int p1), (2, .int p2), (3, .int p3)]) hx hb dX10_adds_15 hl (by decide) rfl (fun ls hl => ?_)
        have E_17_82_7 : ∀ (x5_6 : Int32) (f_7 : Nat → Int32) (H : Heap) (locs : List Loc) (ls : Array Slot), (mX10_adds_L3 h_s_f p1 p2 p3 (fun (x4_1 : Int32) (f_2 : Nat → Int32) => some (f_2)) F3 (x4_4 + 1) f_7) = some z → va_P D vwCl [(h, .inr (7, [.ref h_s, .ref h_aside, .ref h_past, .int h_pasts, .ref h_snapshot, .int h_isKept, .ref h_pad, .int h_length, .ref h_steps, .int h_many, .int h_value, .ref h_summed, .ref h_plus, .ref h_parts])), (h_s, .inl (cI, 65, .inl h_s_f)), (h_aside, .inl (cI, 65, .inl h_aside_f)), (h_past, .inl (cI, 260, .inl h_past_f)), (h_snapshot, .inl (cI, 65, .inl h_snapshot_f)), (h_pad, .inl (cI, 80, .inl h_pad_f)), (h_steps, .inl (cI, 320, .inl h_steps_f)), (h_summed, .inl (cI, 81, .inl h_summed_f)), (h_plus, .inl (cI, 81, .inl h_plus_f)), (h_parts, .inl (cI, 392, .inl f_7))] H → va_D A [(h, .inr (7, [.ref h_s, .ref h_aside, .ref h_past, .int h_pasts, .ref h_snapshot, .int h_isKept, .ref h_pad, .int h_length, .ref h_steps, .int h_many, .int h_value, .ref h_summed, .ref h_plus, .ref h_parts])), (h_s, .inl (cI, 65, .inl h_s_f)), (h_aside, .inl (cI, 65, .inl h_aside_f)), (h_past, .inl (cI, 260, .inl h_past_f)), (h_snapshot, .inl (cI, 65, .inl h_snapshot_f)), (h_pad, .inl (cI, 80, .inl h_pad_f)), (h_steps, .inl (cI, 320, .inl h_steps_f)), (h_summed, .inl (cI, 81, .inl h_summed_f)), (h_plus, .inl (cI, 81, .inl h_plus_f)), (h_parts, .inl (cI, 392, .inl f_7))] → va_S A s.heap H locs → lv_has ls 6 [(5, .int x5_6), (4, .int x4_4), (0, .ref h), (1, .int p1), (2, .int p2), (3, .int p3)] → W p l e (headSpec wsX10_adds ({ frames := 2, cells := 0, slots := 0, locals := 43 } : Room)).room s m (([.ref h, .int p1, .int p2, .int p3] : List Value).toArray) below meth c H locs 0 0 (MQ below (wQ D none A (fun (u : Unit) => [(h, .inr (7, [.ref h_s, .ref h_aside, .ref h_past, .int h_pasts, .ref h_snapshot, .int h_isKept, .ref h_pad, .int h_length, .ref h_steps, .int h_many, .int h_value, .ref h_summed, .ref h_plus, .ref h_parts])), (h_s, .inl (cI, 65, .inl h_s_f)), (h_aside, .inl (cI, 65, .inl h_aside_f)), (h_past, .inl (cI, 260, .inl h_past_f)), (h_snapshot, .inl (cI, 65, .inl h_snapshot_f)), (h_pad, .inl (cI, 80, .inl h_pad_f)), (h_steps, .inl (cI, 320, .inl h_steps_f)), (h_summed, .inl (cI, 81, .inl h_summed_f)), (h_plus, .inl (cI, 81, .inl h_plus_f)), (h_parts, .inl (cI, 392, .inl z))])) (([.ref h, .int p1, .int p2, .int p3] : List Value).toArray) s 0 0 A) (F0 m 82 ls []) := by
          intro x5_6 f_7 H locs ls h0 hP hD hS hl
          refine lv_iinc (v := (x4_4 + 1)) (lv' := [(4, .int (x4_4 + 1)), (5, .int x5_6), (0, .ref h), (1, .int p1), (2, .int p2), (3, .int p3)]) hx hb dX10_adds_82 hl (k := 1) rfl rfl (by decide) rfl (fun ls hl => ?_)
          refine lv_goto (tgt := 3) hx hb dX10_adds_85 (by decide) ?_
          exact ih3 (x4_4 + 1) f_7 _ _ ls h0 hP hD hS (lv_sub hl [0, 2, 3, 4, 5] rfl)
        have L_17_14 : ∀ (F17 : Nat) (x5_9 : Int32) (f_10 : Nat → Int32) (H : Heap) (locs : List Loc) (ls : Array Slot), mX10_adds_L17 h_s_f p1 p2 p3 x4_4 (fun (x5_6 : Int32) (f_7 : Nat → Int32) => mX10_adds_L3 h_s_f p1 p2 p3 (fun (x4_1 : Int32) (f_2 : Nat → Int32) => some (f_2)) F3 (x4_4 + 1) f_7) F17 x5_9 f_10 = some z → va_P D vwCl [(h, .inr (7, [.ref h_s, .ref h_aside, .ref h_past, .int h_pasts, .ref h_snapshot, .int h_isKept, .ref h_pad, .int h_length, .ref h_steps, .int h_many, .int h_value, .ref h_summed, .ref h_plus, .ref h_parts])), (h_s, .inl (cI, 65, .inl h_s_f)), (h_aside, .inl (cI, 65, .inl h_aside_f)), (h_past, .inl (cI, 260, .inl h_past_f)), (h_snapshot, .inl (cI, 65, .inl h_snapshot_f)), (h_pad, .inl (cI, 80, .inl h_pad_f)), (h_steps, .inl (cI, 320, .inl h_steps_f)), (h_summed, .inl (cI, 81, .inl h_summed_f)), (h_plus, .inl (cI, 81, .inl h_plus_f)), (h_parts, .inl (cI, 392, .inl f_10))] H → va_D A [(h, .inr (7, [.ref h_s, .ref h_aside, .ref h_past, .int h_pasts, .ref h_snapshot, .int h_isKept, .ref h_pad, .int h_length, .ref h_steps, .int h_many, .int h_value, .ref h_summed, .ref h_plus, .ref h_parts])), (h_s, .inl (cI, 65, .inl h_s_f)), (h_aside, .inl (cI, 65, .inl h_aside_f)), (h_past, .inl (cI, 260, .inl h_past_f)), (h_snapshot, .inl (cI, 65, .inl h_snapshot_f)), (h_pad, .inl (cI, 80, .inl h_pad_f)), (h_steps, .inl (cI, 320, .inl h_steps_f)), (h_summed, .inl (cI, 81, .inl h_summed_f)), (h_plus, .inl (cI, 81, .inl h_plus_f)), (h_parts, .inl (cI, 392, .inl f_10))] → va_S A s.heap H locs → lv_has ls 6 [(5, .int x5_9), (4, .int x4_4), (0, .ref h), (1, .int p1), (2, .int p2), (3, .int p3)] → W p l e (headSpec wsX10_adds ({ frames := 2, cells := 0, slots := 0, locals := 43 } : Room)).room s m (([.ref h, .int p1, .int p2, .int p3] : List Value).toArray) below meth c H locs 0 0 (MQ below (wQ D none A (fun (u : Unit) => [(h, .inr (7, [.ref h_s, .ref h_aside, .ref h_past, .int h_pasts, .ref h_snapshot, .int h_isKept, .ref h_pad, .int h_length, .ref h_steps, .int h_many, .int h_value, .ref h_summed, .ref h_plus, .ref h_parts])), (h_s, .inl (cI, 65, .inl h_s_f)), (h_aside, .inl (cI, 65, .inl h_aside_f)), (h_past, .inl (cI, 260, .inl h_past_f)), (h_snapshot, .inl (cI, 65, .inl h_snapshot_f)), (h_pad, .inl (cI, 80, .inl h_pad_f)), (h_steps, .inl (cI, 320, .inl h_steps_f)), (h_summed, .inl (cI, 81, .inl h_summed_f)), (h_plus, .inl (cI, 81, .inl h_plus_f)), (h_parts, .inl (cI, 392, .inl z))])) (([.ref h, .int p1, .int p2, .int p3] : List Value).toArray) s 0 0 A) (F0 m 17 ls []) := by
          intro F17
          induction F17 with
          | zero => intro x5_9 f_10 H locs ls h0 hP hD hS hl; cases h0
          | succ F17 ih17 =>
            intro x5_9 f_10 H locs ls h0 hP hD hS hl
            rw [mX10_adds_L17] at h0
            refine lv_iload hx hb dX10_adds_17 (lv_at hl 0 rfl) ?_
            refine lv_aload_n hx hb dX10_adds_19 rfl (lv_at hl 2 rfl) ?_
            refine va_get (D := D) (ci := 7) (v := .ref h_s) (C := RX10) (T := TX10) (N := 14) hx hb hts hi_X10 hown hK hP 0 rfl rfl 0 (by decide) hf_7 (fun _ h9 => h9) rfl dX10_adds_20 ?_
            refine lv_iconst (v := 0) hx hb dX10_adds_23 (by decide) ?_
            refine va_iald hx hb hK hP 1 0 rfl rfl (by unfold vp_in; decide) dX10_adds_24 ?_
            refine lv_icmp_ge (tgt := 82) hx hb dX10_adds_25 (by decide) (fun c9 => ?_) (fun c9 => ?_)
            · have h0 := it_t c9 h0
              exact E_17_82_7 x5_9 f_10 _ _ ls h0 hP hD hS hl
            · have h0 := it_f c9 h0
              refine lv_aload_n hx hb dX10_adds_28 rfl (lv_at hl 2 rfl) ?_
              refine va_get (D := D) (ci := 7) (v := .ref h_parts) (C := RX10) (T := TX10) (N := 14) hx hb hts hi_X10 hown hK hP 0 rfl rfl 13 (by decide) hf_34 (fun _ h9 => h9) rfl dX10_adds_29 ?_
              refine lv_iload_n hx hb dX10_adds_32 rfl (lv_at hl 3 rfl) ?_
              refine lv_iload_n hx hb dX10_adds_33 rfl (lv_at hl 5 rfl) ?_
              refine lv_aload_n hx hb dX10_adds_34 rfl (lv_at hl 2 rfl) ?_
              refine lv_iload hx hb dX10_adds_35 (lv_at hl 1 rfl) ?_
              refine lv_iload hx hb dX10_adds_37 (lv_at hl 0 rfl) ?_
              obtain ⟨z_11, hz, h0⟩ := bd_ok h0
              refine ro_V (As := [.int x4_4, .int x5_9]) (rest := [.int p3, .int p1, .ref h_parts]) (wc := [(h, .inr (7, [.ref h_s, .ref h_aside, .ref h_past, .int h_pasts, .ref h_snapshot, .int h_isKept, .ref h_pad, .int h_length, .ref h_steps, .int h_many, .int h_value, .ref h_summed, .ref h_plus, .ref h_parts])), (h_s, .inl (cI, 65, .inl h_s_f)), (h_aside, .inl (cI, 65, .inl h_aside_f)), (h_past, .inl (cI, 260, .inl h_past_f)), (h_snapshot, .inl (cI, 65, .inl h_snapshot_f)), (h_pad, .inl (cI, 80, .inl h_pad_f)), (h_steps, .inl (cI, 320, .inl h_steps_f)), (h_summed, .inl (cI, 81, .inl h_summed_f)), (h_plus, .inl (cI, 81, .inl h_plus_f)), (h_parts, .inl (cI, 392, .inl f_10))]) hcf (kX10_plain l D cI cC cT h h_s h_aside h_past h_snapshot h_pad h_steps h_summed h_plus h_parts h_s_f h_aside_f h_past_f h_pasts h_snapshot_f h_isKept h_pad_f h_length h_steps_f h_many h_value h_summed_f h_plus_f f_10 x4_4 x5_9 z_11 hz) (cwV 2 hts gX10_adds_X10_plain rfl rfl rfl (by decide +kernel) ⟨Nat.le_of_ble_eq_true rfl, Nat.le_of_ble_eq_true rfl⟩) hE (hP.sub [0, 1, 2, 3, 4, 5, 6, 7, 8, 9] rfl) (va_recv hK hP (ci := 7) (q0 := 0) rfl rfl) rfl hl.1 rfl (Nat.le_of_ble_eq_true rfl) dX10_adds_39 ⟨Nat.le_of_ble_eq_true rfl, Nat.le_of_ble_eq_true rfl⟩ ?_
              refine W.eq (g2 := F0 m 42 ls [.int z_11, .int p3, .int p1, .ref h_parts]) rfl ?_
              obtain ⟨z_12, hz, h0⟩ := bd_ok h0
              refine ro_S (As := [.int p1, .int p3, .int z_11]) (rest := [.ref h_parts]) (wc := []) hcf (kX10_part l D cI cC cT p1 p3 z_11 z_12 hz) (va_cwS 3 hts gX10_adds_X10_part rfl rfl rfl (by decide +kernel) ⟨Nat.le_of_ble_eq_true rfl, Nat.le_of_ble_eq_true rfl⟩) hE (hP.sub [] rfl) rfl hl.1 rfl (Nat.le_of_ble_eq_true rfl) dX10_adds_42 ⟨Nat.le_of_ble_eq_true rfl, Nat.le_of_ble_eq_true rfl⟩ ?_
              refine W.eq (g2 := F0 m 45 ls [.int z_12, .ref h_parts]) rfl ?_
              refine lv_dup2_11 hx hb dX10_adds_45 rfl rfl ?_
              obtain ⟨g0, h0⟩ := gd_ok h0
              refine va_iald hx hb hK hP 9 0 rfl rfl (inb_ok g0) dX10_adds_46 ?_
              refine lv_aload_n hx hb dX10_adds_47 rfl (lv_at hl 2 rfl) ?_
              refine va_get (D := D) (ci := 7) (v := .ref h_parts) (C := RX10) (T := TX10) (N := 14) hx hb hts hi_X10 hown hK hP 0 rfl rfl 13 (by decide) hf_34 (fun _ h9 => h9) rfl dX10_adds_48 ?_
              refine lv_iload_n hx hb dX10_adds_51 rfl (lv_at hl 3 rfl) ?_
              refine lv_iload_n hx hb dX10_adds_52 rfl (lv_at hl 4 rfl) ?_
              refine lv_iload hx hb dX10_adds_53 (lv_at hl 1 rfl) ?_
              obtain ⟨z_13, hz, h0⟩ := bd_ok h0
              refine ro_S (As := [.int p1, .int p2, .int x4_4]) (rest := [.ref h_parts, .int (f_10 (z_12 : Int32).toNatClampNeg), .int z_12, .ref h_parts]) (wc := []) hcf (kX10_part l D cI cC cT p1 p2 x4_4 z_13 hz) (va_cwS 3 hts gX10_adds_X10_part rfl rfl rfl (by decide +kernel) ⟨Nat.le_of_ble_eq_true rfl, Nat.le_of_ble_eq_true rfl⟩) hE (hP.sub [] rfl) rfl hl.1 rfl (Nat.le_of_ble_eq_true rfl) dX10_adds_55 ⟨Nat.le_of_ble_eq_true rfl, Nat.le_of_ble_eq_true rfl⟩ ?_
              refine W.eq (g2 := F0 m 58 ls [.int z_13, .ref h_parts, .int (f_10 (z_12 : Int32).toNatClampNeg), .int z_12, .ref h_parts]) rfl ?_
              obtain ⟨g0, h0⟩ := gd_ok h0
              refine va_iald hx hb hK hP 9 0 rfl rfl (inb_ok g0) dX10_adds_58 ?_
              refine lv_aload_n hx hb dX10_adds_59 rfl (lv_at hl 2 rfl) ?_
              refine va_get (D := D) (ci := 7) (v := .ref h_parts) (C := RX10) (T := TX10) (N := 14) hx hb hts hi_X10 hown hK hP 0 rfl rfl 13 (by decide) hf_34 (fun _ h9 => h9) rfl dX10_adds_60 ?_
              refine lv_iload_n hx hb dX10_adds_63 rfl (lv_at hl 4 rfl) ?_
              refine lv_iconst (v := 1) hx hb dX10_adds_64 (by decide) ?_
              refine lv_iadd hx hb dX10_adds_65 ?_
              refine lv_iload_n hx hb dX10_adds_66 rfl (lv_at hl 5 rfl) ?_
              refine lv_iload hx hb dX10_adds_67 (lv_at hl 0 rfl) ?_
              obtain ⟨z_14, hz, h0⟩ := bd_ok h0
              refine ro_S (As := [.int (p2 + 1), .int p3, .int x5_9]) (rest := [.ref h_parts, .int (f_10 (z_13 : Int32).toNatClampNeg), .int (f_10 (z_12 : Int32).toNatClampNeg), .int z_12, .ref h_parts]) (wc := []) hcf (kX10_part l D cI cC cT (p2 + 1) p3 x5_9 z_14 hz) (va_cwS 3 hts gX10_adds_X10_part rfl rfl rfl (by decide +kernel) ⟨Nat.le_of_ble_eq_true rfl, Nat.le_of_ble_eq_true rfl⟩) hE (hP.sub [] rfl) rfl hl.1 rfl (Nat.le_of_ble_eq_true rfl) dX10_adds_69 ⟨Nat.le_of_ble_eq_true rfl, Nat.le_of_ble_eq_true rfl⟩ ?_
              refine W.eq (g2 := F0 m 72 ls [.int z_14, .ref h_parts, .int (f_10 (z_13 : Int32).toNatClampNeg), .int (f_10 (z_12 : Int32).toNatClampNeg), .int z_12, .ref h_parts]) rfl ?_
              obtain ⟨g0, h0⟩ := gd_ok h0
              refine va_iald hx hb hK hP 9 0 rfl rfl (inb_ok g0) dX10_adds_72 ?_
              refine lv_imul hx hb dX10_adds_73 ?_
              refine lv_iadd hx hb dX10_adds_74 ?_
              obtain ⟨g0, h0⟩ := gd_ok h0
              refine va_iast hx hb hK hP hD hS 9 0 rfl rfl (inb_ok g0) dX10_adds_75 (fun H locs hP hD hS => ?_)
              have hP : va_P D vwCl [(h, .inr (7, [.ref h_s, .ref h_aside, .ref h_past, .int h_pasts, .ref h_snapshot, .int h_isKept, .ref h_pad, .int h_length, .ref h_steps, .int h_many, .int h_value, .ref h_summed, .ref h_plus, .ref h_parts])), (h_s, .inl (cI, 65, .inl h_s_f)), (h_aside, .inl (cI, 65, .inl h_aside_f)), (h_past, .inl (cI, 260, .inl h_past_f)), (h_snapshot, .inl (cI, 65, .inl h_snapshot_f)), (h_pad, .inl (cI, 80, .inl h_pad_f)), (h_steps, .inl (cI, 320, .inl h_steps_f)), (h_summed, .inl (cI, 81, .inl h_summed_f)), (h_plus, .inl (cI, 81, .inl h_plus_f)), (h_parts, .inl (cI, 392, .inl (upd f_10 (z_12 : Int32).toNatClampNeg ((f_10 (z_12 : Int32).toNatClampNeg) + ((f_10 (z_13 : Int32).toNatClampNeg) * (f_10 (z_14 : Int32).toNatClampNeg))))))] H := hP
              have hD : va_D A [(h, .inr (7, [.ref h_s, .ref h_aside, .ref h_past, .int h_pasts, .ref h_snapshot, .int h_isKept, .ref h_pad, .int h_length, .ref h_steps, .int h_many, .int h_value, .ref h_summed, .ref h_plus, .ref h_parts])), (h_s, .inl (cI, 65, .inl h_s_f)), (h_aside, .inl (cI, 65, .inl h_aside_f)), (h_past, .inl (cI, 260, .inl h_past_f)), (h_snapshot, .inl (cI, 65, .inl h_snapshot_f)), (h_pad, .inl (cI, 80, .inl h_pad_f)), (h_steps, .inl (cI, 320, .inl h_steps_f)), (h_summed, .inl (cI, 81, .inl h_summed_f)), (h_plus, .inl (cI, 81, .inl h_plus_f)), (h_parts, .inl (cI, 392, .inl (upd f_10 (z_12 : Int32).toNatClampNeg ((f_10 (z_12 : Int32).toNatClampNeg) + ((f_10 (z_13 : Int32).toNatClampNeg) * (f_10 (z_14 : Int32).toNatClampNeg))))))] := hD
              refine lv_iinc (v := (x5_9 + 1)) (lv' := [(5, .int (x5_9 + 1)), (4, .int x4_4), (0, .ref h), (1, .int p1), (2, .int p2), (3, .int p3)]) hx hb dX10_adds_76 hl (k := 0) rfl rfl (by decide) rfl (fun ls hl => ?_)
              refine lv_goto (tgt := 17) hx hb dX10_adds_79 (by decide) ?_
              exact ih17 (x5_9 + 1) (upd f_10 (z_12 : Int32).toNatClampNeg ((f_10 (z_12 : Int32).toNatClampNeg) + ((f_10 (z_13 : Int32).toNatClampNeg) * (f_10 (z_14 : Int32).toNatClampNeg)))) _ _ ls h0 hP hD hS hl
        exact L_17_14 FU 0 f_5 _ _ ls h0 hP hD hS hl
  exact L_3_15 FU 0 h_parts_f _ _ ls h0 hP hD hS hl
noncomputable def mX10_in (p1 : Int32) (p2 : Int32) (p3 : Int32) : Option (Int32) :=
  if p1 < p2 then (some (0)) else (if p3 < p1 then (some (0)) else (some (1)))
set_option maxHeartbeats 8000000 in
set_option maxRecDepth 100000 in
theorem kX10_in (l : Launch) (D : va_G) (cI cC cT : ClassId) (p1 : Int32) (p2 : Int32) (p3 : Int32) (z : Int32) (h0 : mX10_in p1 p2 p3 = some z) : Met l yX10_in wsX10_in ({ frames := 0, cells := 0, slots := 0, locals := 0 } : Room) (va_Pc [.int p1, .int p2, .int p3] (rP D cI cC cT [])) (rQ (some (.int z))) 0 0 (fun _ => False) := by
  refine Met.ofW (cc := cX10_in) (maxL := 3) (ret := (some .boolean)) (by decide) rfl ?_
  intro p e s m args below meth c s₁ B hml hv
  obtain ⟨rfl, hP, hE⟩ := hv
  have hx := B.exec
  have hb := B.bytes
  have hr := B.returns
  have hts := atoms_spec (ws := wsX10_in) B.pre
  have hown : s.vm.findClass RX10 = some m.cls := findClass_of_methodNamed B.named
  have hlocks := B.notSynchronized
  have hK := hE.1
  have hcf : CallFix p m c cX10_in 3 s ([.int p1, .int p2, .int p3] : List Value).toArray wsX10_in RX10 := ⟨hx, hb, hml, hown, hts⟩
  have hP : va_P D vwCl [] s.heap := hP
  have hl := lv_entry ([.int p1, .int p2, .int p3]) (n := 3) (Nat.le_of_ble_eq_true rfl)
  rw [lg_entry_eq]
  generalize (lg_sl ([.int p1, .int p2, .int p3]) ++ List.replicate (3 - (lg_sl ([.int p1, .int p2, .int p3])).length) Slot.unset).toArray = ls at hl ⊢
  have hl : lv_has ls 3 [(0, .int p1), (1, .int p2), (2, .int p3)] := hl
  unfold mX10_in at h0
  refine lv_iload_n hx hb dX10_in_0 rfl (lv_at hl 0 rfl) ?_
  refine lv_iload_n hx hb dX10_in_1 rfl (lv_at hl 1 rfl) ?_
  refine lv_icmp_lt (tgt := 14) hx hb dX10_in_2 (by decide) (fun c9 => ?_) (fun c9 => ?_)
  · have h0 := it_t c9 h0
    refine lv_iconst (v := 0) hx hb dX10_in_14 (by decide) ?_
    have e0 := Option.some.inj h0
    subst e0
    exact W.zret (ty := .boolean) (v := 0) hx hb hr rfl (fun t ht hW => ⟨rfl, ht⟩) (fun q hq => absurd hq List.not_mem_nil) dX10_in_15
  · have h0 := it_f c9 h0
    refine lv_iload_n hx hb dX10_in_5 rfl (lv_at hl 0 rfl) ?_
    refine lv_iload_n hx hb dX10_in_6 rfl (lv_at hl 2 rfl) ?_
    refine lv_icmp_gt (tgt := 14) hx hb dX10_in_7 (by decide) (fun c9 => ?_) (fun c9 => ?_)
    · have h0 := it_t c9 h0
      refine lv_iconst (v := 0) hx hb dX10_in_14 (by decide) ?_
      have e0 := Option.some.inj h0
      subst e0
      exact W.zret (ty := .boolean) (v := 0) hx hb hr rfl (fun t ht hW => ⟨rfl, ht⟩) (fun q hq => absurd hq List.not_mem_nil) dX10_in_15
    · have h0 := it_f c9 h0
      refine lv_iconst (v := 1) hx hb dX10_in_10 (by decide) ?_
      refine lv_goto (tgt := 15) hx hb dX10_in_11 (by decide) ?_
      have e0 := Option.some.inj h0
      subst e0
      exact W.zret (ty := .boolean) (v := 1) hx hb hr rfl (fun t ht hW => ⟨rfl, ht⟩) (fun q hq => absurd hq List.not_mem_nil) dX10_in_15
noncomputable def mX10_isToken (h_s_f : Nat → Int32) (p1 : Int32) : Option (Int32) :=
  bd (mX10_in p1 0 ((h_s_f (0 : Int32).toNatClampNeg) - 1)) (fun z_1 => gd (nbz z_1) (some (z_1)))
set_option maxHeartbeats 8000000 in
set_option maxRecDepth 100000 in
theorem kX10_isToken (l : Launch) (D : va_G) (cI cC cT : ClassId) (h h_s h_aside h_past h_snapshot h_pad h_steps h_summed h_plus h_parts : Nat) (h_s_f : Nat → Int32) (h_aside_f : Nat → Int32) (h_past_f : Nat → Int32) (h_pasts : Int32) (h_snapshot_f : Nat → Int32) (h_isKept : Int32) (h_pad_f : Nat → Int32) (h_length : Int32) (h_steps_f : Nat → Int32) (h_many : Int32) (h_value : Int32) (h_summed_f : Nat → Int32) (h_plus_f : Nat → Int32) (h_parts_f : Nat → Int32) (p1 : Int32) (z : Int32) (h0 : mX10_isToken h_s_f p1 = some z) : Met l yX10_isToken wsX10_isToken ({ frames := 1, cells := 0, slots := 0, locals := 22 } : Room) (va_Pc [.ref h, .int p1] (rP D cI cC cT [(h, .inr (7, [.ref h_s, .ref h_aside, .ref h_past, .int h_pasts, .ref h_snapshot, .int h_isKept, .ref h_pad, .int h_length, .ref h_steps, .int h_many, .int h_value, .ref h_summed, .ref h_plus, .ref h_parts])), (h_s, .inl (cI, 65, .inl h_s_f)), (h_aside, .inl (cI, 65, .inl h_aside_f)), (h_past, .inl (cI, 260, .inl h_past_f)), (h_snapshot, .inl (cI, 65, .inl h_snapshot_f)), (h_pad, .inl (cI, 80, .inl h_pad_f)), (h_steps, .inl (cI, 320, .inl h_steps_f)), (h_summed, .inl (cI, 81, .inl h_summed_f)), (h_plus, .inl (cI, 81, .inl h_plus_f)), (h_parts, .inl (cI, 392, .inl h_parts_f))])) (rQ (some (.int z))) 0 0 (fun _ => False) := by
  refine Met.ofW (cc := cX10_isToken) (maxL := 2) (ret := (some .boolean)) (by decide) rfl ?_
  intro p e s m args below meth c s₁ B hml hv
  obtain ⟨rfl, hP, hE⟩ := hv
  have hx := B.exec
  have hb := B.bytes
  have hr := B.returns
  have hts := atoms_spec (ws := wsX10_isToken) B.pre
  have hown : s.vm.findClass RX10 = some m.cls := findClass_of_methodNamed B.named
  have hlocks := B.notSynchronized
  have hK := hE.1
  have hcf : CallFix p m c cX10_isToken 2 s ([.ref h, .int p1] : List Value).toArray wsX10_isToken RX10 := ⟨hx, hb, hml, hown, hts⟩
  have hP : va_P D vwCl [(h, .inr (7, [.ref h_s, .ref h_aside, .ref h_past, .int h_pasts, .ref h_snapshot, .int h_isKept, .ref h_pad, .int h_length, .ref h_steps, .int h_many, .int h_value, .ref h_summed, .ref h_plus, .ref h_parts])), (h_s, .inl (cI, 65, .inl h_s_f)), (h_aside, .inl (cI, 65, .inl h_aside_f)), (h_past, .inl (cI, 260, .inl h_past_f)), (h_snapshot, .inl (cI, 65, .inl h_snapshot_f)), (h_pad, .inl (cI, 80, .inl h_pad_f)), (h_steps, .inl (cI, 320, .inl h_steps_f)), (h_summed, .inl (cI, 81, .inl h_summed_f)), (h_plus, .inl (cI, 81, .inl h_plus_f)), (h_parts, .inl (cI, 392, .inl h_parts_f))] s.heap := hP
  have hf_7 := hts (.fieldLink RX10 7 "CrookedSumsModel" "s" "[I") (by decide +kernel)
  have hi_X10 := (show ∀ w ∈ u_ws RX10 TX10 14, w ∈ wsX10_isToken from by decide +kernel)
  have hl := lv_entry ([.ref h, .int p1]) (n := 2) (Nat.le_of_ble_eq_true rfl)
  rw [lg_entry_eq]
  generalize (lg_sl ([.ref h, .int p1]) ++ List.replicate (2 - (lg_sl ([.ref h, .int p1])).length) Slot.unset).toArray = ls at hl ⊢
  have hl : lv_has ls 2 [(0, .ref h), (1, .int p1)] := hl
  unfold mX10_isToken at h0
  refine lv_iload_n hx hb dX10_isToken_0 rfl (lv_at hl 1 rfl) ?_
  refine lv_iconst (v := 0) hx hb dX10_isToken_1 (by decide) ?_
  refine lv_aload_n hx hb dX10_isToken_2 rfl (lv_at hl 0 rfl) ?_
  refine va_get (D := D) (ci := 7) (v := .ref h_s) (C := RX10) (T := TX10) (N := 14) hx hb hts hi_X10 hown hK hP 0 rfl rfl 0 (by decide) hf_7 (fun _ h9 => h9) rfl dX10_isToken_3 ?_
  refine lv_iconst (v := 0) hx hb dX10_isToken_6 (by decide) ?_
  refine va_iald hx hb hK hP 1 0 rfl rfl (by unfold vp_in; decide) dX10_isToken_7 ?_
  refine lv_iconst (v := 1) hx hb dX10_isToken_8 (by decide) ?_
  refine lv_isub hx hb dX10_isToken_9 ?_
  obtain ⟨z_1, hz, h0⟩ := bd_ok h0
  refine ro_S (As := [.int p1, .int 0, .int ((h_s_f (0 : Int32).toNatClampNeg) - 1)]) (rest := []) (wc := []) hcf (kX10_in l D cI cC cT p1 0 ((h_s_f (0 : Int32).toNatClampNeg) - 1) z_1 hz) (va_cwS 3 hts gX10_isToken_X10_in rfl rfl rfl (by decide +kernel) ⟨Nat.le_of_ble_eq_true rfl, Nat.le_of_ble_eq_true rfl⟩) hE (hP.sub [] rfl) rfl hl.1 rfl (Nat.le_of_ble_eq_true rfl) dX10_isToken_10 ⟨Nat.le_of_ble_eq_true rfl, Nat.le_of_ble_eq_true rfl⟩ ?_
  refine W.eq (g2 := F0 m 13 ls [.int z_1]) rfl ?_
  obtain ⟨g0, h0⟩ := gd_ok h0
  have e0 := Option.some.inj h0
  subst e0
  exact W.zret (ty := .boolean) (v := z_1) hx hb hr (nbz_ok g0) (fun t ht hW => ⟨rfl, ht⟩) (fun q hq => absurd hq List.not_mem_nil) dX10_isToken_13
noncomputable def mX10_records_L50 (h_s_f : Nat → Int32) (h_pasts : Int32) (k50_94 : Int32 → (Nat → Int32) → (Nat → Int32) → Option ((Nat → Int32) × (Nat → Int32) × Int32)) : Nat → Int32 → (Nat → Int32) → (Nat → Int32) → Option ((Nat → Int32) × (Nat → Int32) × Int32)
  | 0, _, _, _ => none
  | F + 1, x1_5, f_6, f_7 => if (65 : Int32) ≤ x1_5 then (k50_94 x1_5 f_6 f_7) else (gd (inb x1_5 65) (gd (inb (((65 : Int32) * h_pasts) + x1_5) 260) (gd (inb x1_5 65) (gd (inb x1_5 65) (mX10_records_L50 h_s_f h_pasts k50_94 F (x1_5 + 1) (upd f_6 (x1_5 : Int32).toNatClampNeg (h_s_f (x1_5 : Int32).toNatClampNeg)) (upd f_7 ((((65 : Int32) * h_pasts) + x1_5) : Int32).toNatClampNeg (h_s_f (x1_5 : Int32).toNatClampNeg)))))))
noncomputable def mX10_records_L50a (h_s_f : Nat → Int32) (h_pasts : Int32) (k50_94 : Int32 → (Nat → Int32) → (Nat → Int32) → Option ((Nat → Int32) × (Nat → Int32) × Int32)) : Nat → Int32 → (Nat → Int32) → (Nat → Int32) → Option ((Nat → Int32) × (Nat → Int32) × Int32)
  | 0, _, _, _ => none
  | F + 1, x1_15, f_16, f_17 => if (65 : Int32) ≤ x1_15 then (k50_94 x1_15 f_16 f_17) else (gd (inb x1_15 65) (gd (inb (((65 : Int32) * (h_pasts - 1)) + x1_15) 260) (gd (inb x1_15 65) (gd (inb x1_15 65) (mX10_records_L50a h_s_f h_pasts k50_94 F (x1_15 + 1) (upd f_16 (x1_15 : Int32).toNatClampNeg (h_s_f (x1_15 : Int32).toNatClampNeg)) (upd f_17 ((((65 : Int32) * (h_pasts - 1)) + x1_15) : Int32).toNatClampNeg (h_s_f (x1_15 : Int32).toNatClampNeg)))))))
noncomputable def mX10_records_L10  (k10_38 : Int32 → (Nat → Int32) → Option ((Nat → Int32) × (Nat → Int32) × Int32)) : Nat → Int32 → (Nat → Int32) → Option ((Nat → Int32) × (Nat → Int32) × Int32)
  | 0, _, _ => none
  | F + 1, x1_20, f_21 => if (195 : Int32) ≤ x1_20 then (k10_38 x1_20 f_21) else (gd (inb ((65 : Int32) + x1_20) 260) (gd (inb x1_20 260) (mX10_records_L10  k10_38 F (x1_20 + 1) (upd f_21 (x1_20 : Int32).toNatClampNeg (f_21 (((65 : Int32) + x1_20) : Int32).toNatClampNeg)))))
noncomputable def mX10_records (h_s_f : Nat → Int32) (h_aside_f : Nat → Int32) (h_past_f : Nat → Int32) (h_pasts : Int32) : Option ((Nat → Int32) × (Nat → Int32) × Int32) :=
  if h_pasts = 4 then (mX10_records_L10  (fun (x1_9 : Int32) (f_10 : Nat → Int32) => mX10_records_L50a h_s_f h_pasts (fun (x1_11 : Int32) (f_12 : Nat → Int32) (f_13 : Nat → Int32) => some (f_12, f_13, ((h_pasts - 1) + 1))) FU 0 h_aside_f f_10) FU 0 h_past_f) else (mX10_records_L50 h_s_f h_pasts (fun (x1_1 : Int32) (f_2 : Nat → Int32) (f_3 : Nat → Int32) => some (f_2, f_3, (h_pasts + 1))) FU 0 h_aside_f h_past_f)
set_option maxHeartbeats 8000000 in
set_option maxRecDepth 100000 in
theorem kX10_records (l : Launch) (D : va_G) (cI cC cT : ClassId) (h h_s h_aside h_past h_snapshot h_pad h_steps h_summed h_plus h_parts : Nat) (h_s_f : Nat → Int32) (h_aside_f : Nat → Int32) (h_past_f : Nat → Int32) (h_pasts : Int32) (h_snapshot_f : Nat → Int32) (h_isKept : Int32) (h_pad_f : Nat → Int32) (h_length : Int32) (h_steps_f : Nat → Int32) (h_many : Int32) (h_value : Int32) (h_summed_f : Nat → Int32) (h_plus_f : Nat → Int32) (h_parts_f : Nat → Int32) (sz : Nat) (z : (Nat → Int32) × (Nat → Int32) × Int32) (h0 : mX10_records h_s_f h_aside_f h_past_f h_pasts = some z) : Met l yX10_records wsX10_records ({ frames := 0, cells := 0, slots := 0, locals := 0 } : Room) (va_Pc [.ref h] (wP D cI cC cT [(h, .inr (7, [.ref h_s, .ref h_aside, .ref h_past, .int h_pasts, .ref h_snapshot, .int h_isKept, .ref h_pad, .int h_length, .ref h_steps, .int h_many, .int h_value, .ref h_summed, .ref h_plus, .ref h_parts])), (h_s, .inl (cI, 65, .inl h_s_f)), (h_aside, .inl (cI, 65, .inl h_aside_f)), (h_past, .inl (cI, 260, .inl h_past_f)), (h_snapshot, .inl (cI, 65, .inl h_snapshot_f)), (h_pad, .inl (cI, 80, .inl h_pad_f)), (h_steps, .inl (cI, 320, .inl h_steps_f)), (h_summed, .inl (cI, 81, .inl h_summed_f)), (h_plus, .inl (cI, 81, .inl h_plus_f)), (h_parts, .inl (cI, 392, .inl h_parts_f))] sz)) (wQ D none (va_A [(h, .inr (7, [.ref h_s, .ref h_aside, .ref h_past, .int h_pasts, .ref h_snapshot, .int h_isKept, .ref h_pad, .int h_length, .ref h_steps, .int h_many, .int h_value, .ref h_summed, .ref h_plus, .ref h_parts])), (h_s, .inl (cI, 65, .inl h_s_f)), (h_aside, .inl (cI, 65, .inl h_aside_f)), (h_past, .inl (cI, 260, .inl h_past_f)), (h_snapshot, .inl (cI, 65, .inl h_snapshot_f)), (h_pad, .inl (cI, 80, .inl h_pad_f)), (h_steps, .inl (cI, 320, .inl h_steps_f)), (h_summed, .inl (cI, 81, .inl h_summed_f)), (h_plus, .inl (cI, 81, .inl h_plus_f)), (h_parts, .inl (cI, 392, .inl h_parts_f))] sz) (fun (u : Unit) => [(h, .inr (7, [.ref h_s, .ref h_aside, .ref h_past, .int z.2.2, .ref h_snapshot, .int h_isKept, .ref h_pad, .int h_length, .ref h_steps, .int h_many, .int h_value, .ref h_summed, .ref h_plus, .ref h_parts])), (h_s, .inl (cI, 65, .inl h_s_f)), (h_aside, .inl (cI, 65, .inl z.1)), (h_past, .inl (cI, 260, .inl z.2.1)), (h_snapshot, .inl (cI, 65, .inl h_snapshot_f)), (h_pad, .inl (cI, 80, .inl h_pad_f)), (h_steps, .inl (cI, 320, .inl h_steps_f)), (h_summed, .inl (cI, 81, .inl h_summed_f)), (h_plus, .inl (cI, 81, .inl h_plus_f)), (h_parts, .inl (cI, 392, .inl h_parts_f))])) 0 0 (va_A [(h, .inr (7, [.ref h_s, .ref h_aside, .ref h_past, .int h_pasts, .ref h_snapshot, .int h_isKept, .ref h_pad, .int h_length, .ref h_steps, .int h_many, .int h_value, .ref h_summed, .ref h_plus, .ref h_parts])), (h_s, .inl (cI, 65, .inl h_s_f)), (h_aside, .inl (cI, 65, .inl h_aside_f)), (h_past, .inl (cI, 260, .inl h_past_f)), (h_snapshot, .inl (cI, 65, .inl h_snapshot_f)), (h_pad, .inl (cI, 80, .inl h_pad_f)), (h_steps, .inl (cI, 320, .inl h_steps_f)), (h_summed, .inl (cI, 81, .inl h_summed_f)), (h_plus, .inl (cI, 81, .inl h_plus_f)), (h_parts, .inl (cI, 392, .inl h_parts_f))] sz) := by
  refine Met.ofW (cc := cX10_records) (maxL := 2) (ret := none) (by decide) rfl ?_
  intro p e s m args below meth c s₁ B hml hv
  obtain ⟨rfl, hsz, hP, hE, hD0⟩ := hv
  have hx := B.exec
  have hb := B.bytes
  have hr := B.returns
  have hts := atoms_spec (ws := wsX10_records) B.pre
  have hown : s.vm.findClass RX10 = some m.cls := findClass_of_methodNamed B.named
  have hlocks := B.notSynchronized
  have hK := hE.1
  have hcf : CallFix p m c cX10_records 2 s ([.ref h] : List Value).toArray wsX10_records RX10 := ⟨hx, hb, hml, hown, hts⟩
  subst hsz
  have hD := hD0.self (sz := s.heap.size)
  generalize hAe : va_A [(h, .inr (7, [.ref h_s, .ref h_aside, .ref h_past, .int h_pasts, .ref h_snapshot, .int h_isKept, .ref h_pad, .int h_length, .ref h_steps, .int h_many, .int h_value, .ref h_summed, .ref h_plus, .ref h_parts])), (h_s, .inl (cI, 65, .inl h_s_f)), (h_aside, .inl (cI, 65, .inl h_aside_f)), (h_past, .inl (cI, 260, .inl h_past_f)), (h_snapshot, .inl (cI, 65, .inl h_snapshot_f)), (h_pad, .inl (cI, 80, .inl h_pad_f)), (h_steps, .inl (cI, 320, .inl h_steps_f)), (h_summed, .inl (cI, 81, .inl h_summed_f)), (h_plus, .inl (cI, 81, .inl h_plus_f)), (h_parts, .inl (cI, 392, .inl h_parts_f))] s.heap.size = A at hD ⊢
  have hA : ∀ q : Nat, s.heap.size ≤ q → A q := fun q h => by rw [← hAe]; exact Or.inr h
  have hS : va_S A s.heap s.heap [] := va_S.rf
  have hP : va_P D vwCl [(h, .inr (7, [.ref h_s, .ref h_aside, .ref h_past, .int h_pasts, .ref h_snapshot, .int h_isKept, .ref h_pad, .int h_length, .ref h_steps, .int h_many, .int h_value, .ref h_summed, .ref h_plus, .ref h_parts])), (h_s, .inl (cI, 65, .inl h_s_f)), (h_aside, .inl (cI, 65, .inl h_aside_f)), (h_past, .inl (cI, 260, .inl h_past_f)), (h_snapshot, .inl (cI, 65, .inl h_snapshot_f)), (h_pad, .inl (cI, 80, .inl h_pad_f)), (h_steps, .inl (cI, 320, .inl h_steps_f)), (h_summed, .inl (cI, 81, .inl h_summed_f)), (h_plus, .inl (cI, 81, .inl h_plus_f)), (h_parts, .inl (cI, 392, .inl h_parts_f))] s.heap := hP
  have hf_49 := hts (.fieldLink RX10 49 "CrookedSumsModel" "pasts" "I") (by decide +kernel)
  have hi_X10 := (show ∀ w ∈ u_ws RX10 TX10 14, w ∈ wsX10_records from by decide +kernel)
  have hf_16 := hts (.fieldLink RX10 16 "CrookedSumsModel" "past" "[I") (by decide +kernel)
  have hf_7 := hts (.fieldLink RX10 7 "CrookedSumsModel" "s" "[I") (by decide +kernel)
  have hf_13 := hts (.fieldLink RX10 13 "CrookedSumsModel" "aside" "[I") (by decide +kernel)
  have hl := lv_entry ([.ref h]) (n := 2) (Nat.le_of_ble_eq_true rfl)
  rw [lg_entry_eq]
  generalize (lg_sl ([.ref h]) ++ List.replicate (2 - (lg_sl ([.ref h])).length) Slot.unset).toArray = ls at hl ⊢
  have hl : lv_has ls 2 [(0, .ref h)] := hl
  unfold mX10_records at h0
  refine lv_aload_n hx hb dX10_records_0 rfl (lv_at hl 0 rfl) ?_
  refine va_get (D := D) (ci := 7) (v := .int h_pasts) (C := RX10) (T := TX10) (N := 14) hx hb hts hi_X10 hown hK hP 0 rfl rfl 3 (by decide) hf_49 (fun _ h9 => h9) rfl dX10_records_1 ?_
  refine lv_iconst (v := 4) hx hb dX10_records_4 (by decide) ?_
  refine lv_icmp_ne (tgt := 48) hx hb dX10_records_5 (by decide) (fun c9 => ?_) (fun c9 => ?_)
  · have h0 := it_f c9 h0
    refine lv_iconst (v := 0) hx hb dX10_records_48 (by decide) ?_
    refine lv_istore_n (lv' := [(1, .int 0), (0, .ref h)]) hx hb dX10_records_49 rfl hl (by decide) rfl (fun ls hl => ?_)
    have E_50_94_3 : ∀ (x1_1 : Int32) (f_2 : Nat → Int32) (f_3 : Nat → Int32) (H : Heap) (locs : List Loc) (ls : Array Slot), (some (f_2, f_3, (h_pasts + 1))) = some z → va_P D vwCl [(h, .inr (7, [.ref h_s, .ref h_aside, .ref h_past, .int h_pasts, .ref h_snapshot, .int h_isKept, .ref h_pad, .int h_length, .ref h_steps, .int h_many, .int h_value, .ref h_summed, .ref h_plus, .ref h_parts])), (h_s, .inl (cI, 65, .inl h_s_f)), (h_aside, .inl (cI, 65, .inl f_2)), (h_past, .inl (cI, 260, .inl f_3)), (h_snapshot, .inl (cI, 65, .inl h_snapshot_f)), (h_pad, .inl (cI, 80, .inl h_pad_f)), (h_steps, .inl (cI, 320, .inl h_steps_f)), (h_summed, .inl (cI, 81, .inl h_summed_f)), (h_plus, .inl (cI, 81, .inl h_plus_f)), (h_parts, .inl (cI, 392, .inl h_parts_f))] H → va_D A [(h, .inr (7, [.ref h_s, .ref h_aside, .ref h_past, .int h_pasts, .ref h_snapshot, .int h_isKept, .ref h_pad, .int h_length, .ref h_steps, .int h_many, .int h_value, .ref h_summed, .ref h_plus, .ref h_parts])), (h_s, .inl (cI, 65, .inl h_s_f)), (h_aside, .inl (cI, 65, .inl f_2)), (h_past, .inl (cI, 260, .inl f_3)), (h_snapshot, .inl (cI, 65, .inl h_snapshot_f)), (h_pad, .inl (cI, 80, .inl h_pad_f)), (h_steps, .inl (cI, 320, .inl h_steps_f)), (h_summed, .inl (cI, 81, .inl h_summed_f)), (h_plus, .inl (cI, 81, .inl h_plus_f)), (h_parts, .inl (cI, 392, .inl h_parts_f))] → va_S A s.heap H locs → lv_has ls 2 [(1, .int x1_1), (0, .ref h)] → W p l e (headSpec wsX10_records ({ frames := 0, cells := 0, slots := 0, locals := 0 } : Room)).room s m (([.ref h] : List Value).toArray) below meth c H locs 0 0 (MQ below (wQ D none A (fun (u : Unit) => [(h, .inr (7, [.ref h_s, .ref h_aside, .ref h_past, .int z.2.2, .ref h_snapshot, .int h_isKept, .ref h_pad, .int h_length, .ref h_steps, .int h_many, .int h_value, .ref h_summed, .ref h_plus, .ref h_parts])), (h_s, .inl (cI, 65, .inl h_s_f)), (h_aside, .inl (cI, 65, .inl z.1)), (h_past, .inl (cI, 260, .inl z.2.1)), (h_snapshot, .inl (cI, 65, .inl h_snapshot_f)), (h_pad, .inl (cI, 80, .inl h_pad_f)), (h_steps, .inl (cI, 320, .inl h_steps_f)), (h_summed, .inl (cI, 81, .inl h_summed_f)), (h_plus, .inl (cI, 81, .inl h_plus_f)), (h_parts, .inl (cI, 392, .inl h_parts_f))])) (([.ref h] : List Value).toArray) s 0 0 A) (F0 m 94 ls []) := by
      intro x1_1 f_2 f_3 H locs ls h0 hP hD hS hl
      refine lv_aload_n hx hb dX10_records_94 rfl (lv_at hl 1 rfl) ?_
      refine lv_dup hx hb dX10_records_95 rfl ?_
      refine va_get (D := D) (ci := 7) (v := .int h_pasts) (C := RX10) (T := TX10) (N := 14) hx hb hts hi_X10 hown hK hP 0 rfl rfl 3 (by decide) hf_49 (fun _ h9 => h9) rfl dX10_records_96 ?_
      refine lv_iconst (v := 1) hx hb dX10_records_99 (by decide) ?_
      refine lv_iadd hx hb dX10_records_100 ?_
      refine va_put (D := D) (ci := 7) (v := .int (h_pasts + 1)) (ty := .int) (C := RX10) (T := TX10) (N := 14) hx hb hts hi_X10 tyX10 tyX10_ok nmX10 hown hK hP hD hS 0 rfl rfl 3 (by decide) hf_49 (fun _ h9 => h9) rfl (by decide +kernel) rfl rfl (Nat.le_of_ble_eq_true rfl) dX10_records_101 (fun H locs hP hD hS => ?_)
      have hP : va_P D vwCl [(h, .inr (7, [.ref h_s, .ref h_aside, .ref h_past, .int (h_pasts + 1), .ref h_snapshot, .int h_isKept, .ref h_pad, .int h_length, .ref h_steps, .int h_many, .int h_value, .ref h_summed, .ref h_plus, .ref h_parts])), (h_s, .inl (cI, 65, .inl h_s_f)), (h_aside, .inl (cI, 65, .inl f_2)), (h_past, .inl (cI, 260, .inl f_3)), (h_snapshot, .inl (cI, 65, .inl h_snapshot_f)), (h_pad, .inl (cI, 80, .inl h_pad_f)), (h_steps, .inl (cI, 320, .inl h_steps_f)), (h_summed, .inl (cI, 81, .inl h_summed_f)), (h_plus, .inl (cI, 81, .inl h_plus_f)), (h_parts, .inl (cI, 392, .inl h_parts_f))] H := hP
      have hD : va_D A [(h, .inr (7, [.ref h_s, .ref h_aside, .ref h_past, .int (h_pasts + 1), .ref h_snapshot, .int h_isKept, .ref h_pad, .int h_length, .ref h_steps, .int h_many, .int h_value, .ref h_summed, .ref h_plus, .ref h_parts])), (h_s, .inl (cI, 65, .inl h_s_f)), (h_aside, .inl (cI, 65, .inl f_2)), (h_past, .inl (cI, 260, .inl f_3)), (h_snapshot, .inl (cI, 65, .inl h_snapshot_f)), (h_pad, .inl (cI, 80, .inl h_pad_f)), (h_steps, .inl (cI, 320, .inl h_steps_f)), (h_summed, .inl (cI, 81, .inl h_summed_f)), (h_plus, .inl (cI, 81, .inl h_plus_f)), (h_parts, .inl (cI, 392, .inl h_parts_f))] := hD
      have e0 := Option.some.inj h0
      subst e0
      exact W.vret hx hb hr (fun t ht hW => wr_end () ht hP hD hS) hS.2.2 dX10_records_104
    have L_50_7 : ∀ (F50 : Nat) (x1_5 : Int32) (f_6 : Nat → Int32) (f_7 : Nat → Int32) (H : Heap) (locs : List Loc) (ls : Array Slot), mX10_records_L50 h_s_f h_pasts (fun (x1_1 : Int32) (f_2 : Nat → Int32) (f_3 : Nat → Int32) => some (f_2, f_3, (h_pasts + 1))) F50 x1_5 f_6 f_7 = some z → va_P D vwCl [(h, .inr (7, [.ref h_s, .ref h_aside, .ref h_past, .int h_pasts, .ref h_snapshot, .int h_isKept, .ref h_pad, .int h_length, .ref h_steps, .int h_many, .int h_value, .ref h_summed, .ref h_plus, .ref h_parts])), (h_s, .inl (cI, 65, .inl h_s_f)), (h_aside, .inl (cI, 65, .inl f_6)), (h_past, .inl (cI, 260, .inl f_7)), (h_snapshot, .inl (cI, 65, .inl h_snapshot_f)), (h_pad, .inl (cI, 80, .inl h_pad_f)), (h_steps, .inl (cI, 320, .inl h_steps_f)), (h_summed, .inl (cI, 81, .inl h_summed_f)), (h_plus, .inl (cI, 81, .inl h_plus_f)), (h_parts, .inl (cI, 392, .inl h_parts_f))] H → va_D A [(h, .inr (7, [.ref h_s, .ref h_aside, .ref h_past, .int h_pasts, .ref h_snapshot, .int h_isKept, .ref h_pad, .int h_length, .ref h_steps, .int h_many, .int h_value, .ref h_summed, .ref h_plus, .ref h_parts])), (h_s, .inl (cI, 65, .inl h_s_f)), (h_aside, .inl (cI, 65, .inl f_6)), (h_past, .inl (cI, 260, .inl f_7)), (h_snapshot, .inl (cI, 65, .inl h_snapshot_f)), (h_pad, .inl (cI, 80, .inl h_pad_f)), (h_steps, .inl (cI, 320, .inl h_steps_f)), (h_summed, .inl (cI, 81, .inl h_summed_f)), (h_plus, .inl (cI, 81, .inl h_plus_f)), (h_parts, .inl (cI, 392, .inl h_parts_f))] → va_S A s.heap H locs → lv_has ls 2 [(1, .int x1_5), (0, .ref h)] → W p l e (headSpec wsX10_records ({ frames := 0, cells := 0, slots := 0, locals := 0 } : Room)).room s m (([.ref h] : List Value).toArray) below meth c H locs 0 0 (MQ below (wQ D none A (fun (u : Unit) => [(h, .inr (7, [.ref h_s, .ref h_aside, .ref h_past, .int z.2.2, .ref h_snapshot, .int h_isKept, .ref h_pad, .int h_length, .ref h_steps, .int h_many, .int h_value, .ref h_summed, .ref h_plus, .ref h_parts])), (h_s, .inl (cI, 65, .inl h_s_f)), (h_aside, .inl (cI, 65, .inl z.1)), (h_past, .inl (cI, 260, .inl z.2.1)), (h_snapshot, .inl (cI, 65, .inl h_snapshot_f)), (h_pad, .inl (cI, 80, .inl h_pad_f)), (h_steps, .inl (cI, 320, .inl h_steps_f)), (h_summed, .inl (cI, 81, .inl h_summed_f)), (h_plus, .inl (cI, 81, .inl h_plus_f)), (h_parts, .inl (cI, 392, .inl h_parts_f))])) (([.ref h] : List Value).toArray) s 0 0 A) (F0 m 50 ls []) := by
      intro F50
      induction F50 with
      | zero => intro x1_5 f_6 f_7 H locs ls h0 hP hD hS hl; cases h0
      | succ F50 ih50 =>
        intro x1_5 f_6 f_7 H locs ls h0 hP hD hS hl
        rw [mX10_records_L50] at h0
        refine lv_iload_n hx hb dX10_records_50 rfl (lv_at hl 0 rfl) ?_
        refine lv_bipush (v := 65) hx hb dX10_records_51 (by decide) ?_
        refine lv_icmp_ge (tgt := 94) hx hb dX10_records_53 (by decide) (fun c9 => ?_) (fun c9 => ?_)
        · have h0 := it_t c9 h0
          exact E_50_94_3 x1_5 f_6 f_7 _ _ ls h0 hP hD hS hl
        · have h0 := it_f c9 h0
          refine lv_aload_n hx hb dX10_records_56 rfl (lv_at hl 1 rfl) ?_
          refine va_get (D := D) (ci := 7) (v := .ref h_past) (C := RX10) (T := TX10) (N := 14) hx hb hts hi_X10 hown hK hP 0 rfl rfl 2 (by decide) hf_16 (fun _ h9 => h9) rfl dX10_records_57 ?_
          refine lv_bipush (v := 65) hx hb dX10_records_60 (by decide) ?_
          refine lv_aload_n hx hb dX10_records_62 rfl (lv_at hl 1 rfl) ?_
          refine va_get (D := D) (ci := 7) (v := .int h_pasts) (C := RX10) (T := TX10) (N := 14) hx hb hts hi_X10 hown hK hP 0 rfl rfl 3 (by decide) hf_49 (fun _ h9 => h9) rfl dX10_records_63 ?_
          refine lv_imul hx hb dX10_records_66 ?_
          refine lv_iload_n hx hb dX10_records_67 rfl (lv_at hl 0 rfl) ?_
          refine lv_iadd hx hb dX10_records_68 ?_
          refine lv_aload_n hx hb dX10_records_69 rfl (lv_at hl 1 rfl) ?_
          refine va_get (D := D) (ci := 7) (v := .ref h_s) (C := RX10) (T := TX10) (N := 14) hx hb hts hi_X10 hown hK hP 0 rfl rfl 0 (by decide) hf_7 (fun _ h9 => h9) rfl dX10_records_70 ?_
          refine lv_iload_n hx hb dX10_records_73 rfl (lv_at hl 0 rfl) ?_
          obtain ⟨g0, h0⟩ := gd_ok h0
          refine va_iald hx hb hK hP 1 0 rfl rfl (inb_ok g0) dX10_records_74 ?_
          obtain ⟨g0, h0⟩ := gd_ok h0
          refine va_iast hx hb hK hP hD hS 3 0 rfl rfl (inb_ok g0) dX10_records_75 (fun H locs hP hD hS => ?_)
          have hP : va_P D vwCl [(h, .inr (7, [.ref h_s, .ref h_aside, .ref h_past, .int h_pasts, .ref h_snapshot, .int h_isKept, .ref h_pad, .int h_length, .ref h_steps, .int h_many, .int h_value, .ref h_summed, .ref h_plus, .ref h_parts])), (h_s, .inl (cI, 65, .inl h_s_f)), (h_aside, .inl (cI, 65, .inl f_6)), (h_past, .inl (cI, 260, .inl (upd f_7 ((((65 : Int32) * h_pasts) + x1_5) : Int32).toNatClampNeg (h_s_f (x1_5 : Int32).toNatClampNeg)))), (h_snapshot, .inl (cI, 65, .inl h_snapshot_f)), (h_pad, .inl (cI, 80, .inl h_pad_f)), (h_steps, .inl (cI, 320, .inl h_steps_f)), (h_summed, .inl (cI, 81, .inl h_summed_f)), (h_plus, .inl (cI, 81, .inl h_plus_f)), (h_parts, .inl (cI, 392, .inl h_parts_f))] H := hP
          have hD : va_D A [(h, .inr (7, [.ref h_s, .ref h_aside, .ref h_past, .int h_pasts, .ref h_snapshot, .int h_isKept, .ref h_pad, .int h_length, .ref h_steps, .int h_many, .int h_value, .ref h_summed, .ref h_plus, .ref h_parts])), (h_s, .inl (cI, 65, .inl h_s_f)), (h_aside, .inl (cI, 65, .inl f_6)), (h_past, .inl (cI, 260, .inl (upd f_7 ((((65 : Int32) * h_pasts) + x1_5) : Int32).toNatClampNeg (h_s_f (x1_5 : Int32).toNatClampNeg)))), (h_snapshot, .inl (cI, 65, .inl h_snapshot_f)), (h_pad, .inl (cI, 80, .inl h_pad_f)), (h_steps, .inl (cI, 320, .inl h_steps_f)), (h_summed, .inl (cI, 81, .inl h_summed_f)), (h_plus, .inl (cI, 81, .inl h_plus_f)), (h_parts, .inl (cI, 392, .inl h_parts_f))] := hD
          refine lv_aload_n hx hb dX10_records_76 rfl (lv_at hl 1 rfl) ?_
          refine va_get (D := D) (ci := 7) (v := .ref h_aside) (C := RX10) (T := TX10) (N := 14) hx hb hts hi_X10 hown hK hP 0 rfl rfl 1 (by decide) hf_13 (fun _ h9 => h9) rfl dX10_records_77 ?_
          refine lv_iload_n hx hb dX10_records_80 rfl (lv_at hl 0 rfl) ?_
          refine lv_aload_n hx hb dX10_records_81 rfl (lv_at hl 1 rfl) ?_
          refine va_get (D := D) (ci := 7) (v := .ref h_s) (C := RX10) (T := TX10) (N := 14) hx hb hts hi_X10 hown hK hP 0 rfl rfl 0 (by decide) hf_7 (fun _ h9 => h9) rfl dX10_records_82 ?_
          refine lv_iload_n hx hb dX10_records_85 rfl (lv_at hl 0 rfl) ?_
          obtain ⟨g0, h0⟩ := gd_ok h0
          refine va_iald hx hb hK hP 1 0 rfl rfl (inb_ok g0) dX10_records_86 ?_
          obtain ⟨g0, h0⟩ := gd_ok h0
          refine va_iast hx hb hK hP hD hS 2 0 rfl rfl (inb_ok g0) dX10_records_87 (fun H locs hP hD hS => ?_)
          have hP : va_P D vwCl [(h, .inr (7, [.ref h_s, .ref h_aside, .ref h_past, .int h_pasts, .ref h_snapshot, .int h_isKept, .ref h_pad, .int h_length, .ref h_steps, .int h_many, .int h_value, .ref h_summed, .ref h_plus, .ref h_parts])), (h_s, .inl (cI, 65, .inl h_s_f)), (h_aside, .inl (cI, 65, .inl (upd f_6 (x1_5 : Int32).toNatClampNeg (h_s_f (x1_5 : Int32).toNatClampNeg)))), (h_past, .inl (cI, 260, .inl (upd f_7 ((((65 : Int32) * h_pasts) + x1_5) : Int32).toNatClampNeg (h_s_f (x1_5 : Int32).toNatClampNeg)))), (h_snapshot, .inl (cI, 65, .inl h_snapshot_f)), (h_pad, .inl (cI, 80, .inl h_pad_f)), (h_steps, .inl (cI, 320, .inl h_steps_f)), (h_summed, .inl (cI, 81, .inl h_summed_f)), (h_plus, .inl (cI, 81, .inl h_plus_f)), (h_parts, .inl (cI, 392, .inl h_parts_f))] H := hP
          have hD : va_D A [(h, .inr (7, [.ref h_s, .ref h_aside, .ref h_past, .int h_pasts, .ref h_snapshot, .int h_isKept, .ref h_pad, .int h_length, .ref h_steps, .int h_many, .int h_value, .ref h_summed, .ref h_plus, .ref h_parts])), (h_s, .inl (cI, 65, .inl h_s_f)), (h_aside, .inl (cI, 65, .inl (upd f_6 (x1_5 : Int32).toNatClampNeg (h_s_f (x1_5 : Int32).toNatClampNeg)))), (h_past, .inl (cI, 260, .inl (upd f_7 ((((65 : Int32) * h_pasts) + x1_5) : Int32).toNatClampNeg (h_s_f (x1_5 : Int32).toNatClampNeg)))), (h_snapshot, .inl (cI, 65, .inl h_snapshot_f)), (h_pad, .inl (cI, 80, .inl h_pad_f)), (h_steps, .inl (cI, 320, .inl h_steps_f)), (h_summed, .inl (cI, 81, .inl h_summed_f)), (h_plus, .inl (cI, 81, .inl h_plus_f)), (h_parts, .inl (cI, 392, .inl h_parts_f))] := hD
          refine lv_iinc (v := (x1_5 + 1)) (lv' := [(1, .int (x1_5 + 1)), (0, .ref h)]) hx hb dX10_records_88 hl (k := 0) rfl rfl (by decide) rfl (fun ls hl => ?_)
          refine lv_goto (tgt := 50) hx hb dX10_records_91 (by decide) ?_
          exact ih50 (x1_5 + 1) (upd f_6 (x1_5 : Int32).toNatClampNeg (h_s_f (x1_5 : Int32).toNatClampNeg)) (upd f_7 ((((65 : Int32) * h_pasts) + x1_5) : Int32).toNatClampNeg (h_s_f (x1_5 : Int32).toNatClampNeg)) _ _ ls h0 hP hD hS hl
    exact L_50_7 FU 0 h_aside_f h_past_f _ _ ls h0 hP hD hS hl
  · have h0 := it_t c9 h0
    refine lv_iconst (v := 0) hx hb dX10_records_8 (by decide) ?_
    refine lv_istore_n (lv' := [(1, .int 0), (0, .ref h)]) hx hb dX10_records_9 rfl hl (by decide) rfl (fun ls hl => ?_)
    have E_10_38_18 : ∀ (x1_9 : Int32) (f_10 : Nat → Int32) (H : Heap) (locs : List Loc) (ls : Array Slot), (mX10_records_L50a h_s_f h_pasts (fun (x1_11 : Int32) (f_12 : Nat → Int32) (f_13 : Nat → Int32) => some (f_12, f_13, ((h_pasts - 1) + 1))) FU 0 h_aside_f f_10) = some z → va_P D vwCl [(h, .inr (7, [.ref h_s, .ref h_aside, .ref h_past, .int h_pasts, .ref h_snapshot, .int h_isKept, .ref h_pad, .int h_length, .ref h_steps, .int h_many, .int h_value, .ref h_summed, .ref h_plus, .ref h_parts])), (h_s, .inl (cI, 65, .inl h_s_f)), (h_aside, .inl (cI, 65, .inl h_aside_f)), (h_past, .inl (cI, 260, .inl f_10)), (h_snapshot, .inl (cI, 65, .inl h_snapshot_f)), (h_pad, .inl (cI, 80, .inl h_pad_f)), (h_steps, .inl (cI, 320, .inl h_steps_f)), (h_summed, .inl (cI, 81, .inl h_summed_f)), (h_plus, .inl (cI, 81, .inl h_plus_f)), (h_parts, .inl (cI, 392, .inl h_parts_f))] H → va_D A [(h, .inr (7, [.ref h_s, .ref h_aside, .ref h_past, .int h_pasts, .ref h_snapshot, .int h_isKept, .ref h_pad, .int h_length, .ref h_steps, .int h_many, .int h_value, .ref h_summed, .ref h_plus, .ref h_parts])), (h_s, .inl (cI, 65, .inl h_s_f)), (h_aside, .inl (cI, 65, .inl h_aside_f)), (h_past, .inl (cI, 260, .inl f_10)), (h_snapshot, .inl (cI, 65, .inl h_snapshot_f)), (h_pad, .inl (cI, 80, .inl h_pad_f)), (h_steps, .inl (cI, 320, .inl h_steps_f)), (h_summed, .inl (cI, 81, .inl h_summed_f)), (h_plus, .inl (cI, 81, .inl h_plus_f)), (h_parts, .inl (cI, 392, .inl h_parts_f))] → va_S A s.heap H locs → lv_has ls 2 [(1, .int x1_9), (0, .ref h)] → W p l e (headSpec wsX10_records ({ frames := 0, cells := 0, slots := 0, locals := 0 } : Room)).room s m (([.ref h] : List Value).toArray) below meth c H locs 0 0 (MQ below (wQ D none A (fun (u : Unit) => [(h, .inr (7, [.ref h_s, .ref h_aside, .ref h_past, .int z.2.2, .ref h_snapshot, .int h_isKept, .ref h_pad, .int h_length, .ref h_steps, .int h_many, .int h_value, .ref h_summed, .ref h_plus, .ref h_parts])), (h_s, .inl (cI, 65, .inl h_s_f)), (h_aside, .inl (cI, 65, .inl z.1)), (h_past, .inl (cI, 260, .inl z.2.1)), (h_snapshot, .inl (cI, 65, .inl h_snapshot_f)), (h_pad, .inl (cI, 80, .inl h_pad_f)), (h_steps, .inl (cI, 320, .inl h_steps_f)), (h_summed, .inl (cI, 81, .inl h_summed_f)), (h_plus, .inl (cI, 81, .inl h_plus_f)), (h_parts, .inl (cI, 392, .inl h_parts_f))])) (([.ref h] : List Value).toArray) s 0 0 A) (F0 m 38 ls []) := by
      intro x1_9 f_10 H locs ls h0 hP hD hS hl
      refine lv_aload_n hx hb dX10_records_38 rfl (lv_at hl 1 rfl) ?_
      refine lv_dup hx hb dX10_records_39 rfl ?_
      refine va_get (D := D) (ci := 7) (v := .int h_pasts) (C := RX10) (T := TX10) (N := 14) hx hb hts hi_X10 hown hK hP 0 rfl rfl 3 (by decide) hf_49 (fun _ h9 => h9) rfl dX10_records_40 ?_
      refine lv_iconst (v := 1) hx hb dX10_records_43 (by decide) ?_
      refine lv_isub hx hb dX10_records_44 ?_
      refine va_put (D := D) (ci := 7) (v := .int (h_pasts - 1)) (ty := .int) (C := RX10) (T := TX10) (N := 14) hx hb hts hi_X10 tyX10 tyX10_ok nmX10 hown hK hP hD hS 0 rfl rfl 3 (by decide) hf_49 (fun _ h9 => h9) rfl (by decide +kernel) rfl rfl (Nat.le_of_ble_eq_true rfl) dX10_records_45 (fun H locs hP hD hS => ?_)
      have hP : va_P D vwCl [(h, .inr (7, [.ref h_s, .ref h_aside, .ref h_past, .int (h_pasts - 1), .ref h_snapshot, .int h_isKept, .ref h_pad, .int h_length, .ref h_steps, .int h_many, .int h_value, .ref h_summed, .ref h_plus, .ref h_parts])), (h_s, .inl (cI, 65, .inl h_s_f)), (h_aside, .inl (cI, 65, .inl h_aside_f)), (h_past, .inl (cI, 260, .inl f_10)), (h_snapshot, .inl (cI, 65, .inl h_snapshot_f)), (h_pad, .inl (cI, 80, .inl h_pad_f)), (h_steps, .inl (cI, 320, .inl h_steps_f)), (h_summed, .inl (cI, 81, .inl h_summed_f)), (h_plus, .inl (cI, 81, .inl h_plus_f)), (h_parts, .inl (cI, 392, .inl h_parts_f))] H := hP
      have hD : va_D A [(h, .inr (7, [.ref h_s, .ref h_aside, .ref h_past, .int (h_pasts - 1), .ref h_snapshot, .int h_isKept, .ref h_pad, .int h_length, .ref h_steps, .int h_many, .int h_value, .ref h_summed, .ref h_plus, .ref h_parts])), (h_s, .inl (cI, 65, .inl h_s_f)), (h_aside, .inl (cI, 65, .inl h_aside_f)), (h_past, .inl (cI, 260, .inl f_10)), (h_snapshot, .inl (cI, 65, .inl h_snapshot_f)), (h_pad, .inl (cI, 80, .inl h_pad_f)), (h_steps, .inl (cI, 320, .inl h_steps_f)), (h_summed, .inl (cI, 81, .inl h_summed_f)), (h_plus, .inl (cI, 81, .inl h_plus_f)), (h_parts, .inl (cI, 392, .inl h_parts_f))] := hD
      refine lv_iconst (v := 0) hx hb dX10_records_48 (by decide) ?_
      refine lv_istore_n (lv' := [(1, .int 0), (0, .ref h)]) hx hb dX10_records_49 rfl hl (by decide) rfl (fun ls hl => ?_)
      have E_50_94_13 : ∀ (x1_11 : Int32) (f_12 : Nat → Int32) (f_13 : Nat → Int32) (H : Heap) (locs : List Loc) (ls : Array Slot), (some (f_12, f_13, ((h_pasts - 1) + 1))) = some z → va_P D vwCl [(h, .inr (7, [.ref h_s, .ref h_aside, .ref h_past, .int (h_pasts - 1), .ref h_snapshot, .int h_isKept, .ref h_pad, .int h_length, .ref h_steps, .int h_many, .int h_value, .ref h_summed, .ref h_plus, .ref h_parts])), (h_s, .inl (cI, 65, .inl h_s_f)), (h_aside, .inl (cI, 65, .inl f_12)), (h_past, .inl (cI, 260, .inl f_13)), (h_snapshot, .inl (cI, 65, .inl h_snapshot_f)), (h_pad, .inl (cI, 80, .inl h_pad_f)), (h_steps, .inl (cI, 320, .inl h_steps_f)), (h_summed, .inl (cI, 81, .inl h_summed_f)), (h_plus, .inl (cI, 81, .inl h_plus_f)), (h_parts, .inl (cI, 392, .inl h_parts_f))] H → va_D A [(h, .inr (7, [.ref h_s, .ref h_aside, .ref h_past, .int (h_pasts - 1), .ref h_snapshot, .int h_isKept, .ref h_pad, .int h_length, .ref h_steps, .int h_many, .int h_value, .ref h_summed, .ref h_plus, .ref h_parts])), (h_s, .inl (cI, 65, .inl h_s_f)), (h_aside, .inl (cI, 65, .inl f_12)), (h_past, .inl (cI, 260, .inl f_13)), (h_snapshot, .inl (cI, 65, .inl h_snapshot_f)), (h_pad, .inl (cI, 80, .inl h_pad_f)), (h_steps, .inl (cI, 320, .inl h_steps_f)), (h_summed, .inl (cI, 81, .inl h_summed_f)), (h_plus, .inl (cI, 81, .inl h_plus_f)), (h_parts, .inl (cI, 392, .inl h_parts_f))] → va_S A s.heap H locs → lv_has ls 2 [(1, .int x1_11), (0, .ref h)] → W p l e (headSpec wsX10_records ({ frames := 0, cells := 0, slots := 0, locals := 0 } : Room)).room s m (([.ref h] : List Value).toArray) below meth c H locs 0 0 (MQ below (wQ D none A (fun (u : Unit) => [(h, .inr (7, [.ref h_s, .ref h_aside, .ref h_past, .int z.2.2, .ref h_snapshot, .int h_isKept, .ref h_pad, .int h_length, .ref h_steps, .int h_many, .int h_value, .ref h_summed, .ref h_plus, .ref h_parts])), (h_s, .inl (cI, 65, .inl h_s_f)), (h_aside, .inl (cI, 65, .inl z.1)), (h_past, .inl (cI, 260, .inl z.2.1)), (h_snapshot, .inl (cI, 65, .inl h_snapshot_f)), (h_pad, .inl (cI, 80, .inl h_pad_f)), (h_steps, .inl (cI, 320, .inl h_steps_f)), (h_summed, .inl (cI, 81, .inl h_summed_f)), (h_plus, .inl (cI, 81, .inl h_plus_f)), (h_parts, .inl (cI, 392, .inl h_parts_f))])) (([.ref h] : List Value).toArray) s 0 0 A) (F0 m 94 ls []) := by
        intro x1_11 f_12 f_13 H locs ls h0 hP hD hS hl
        refine lv_aload_n hx hb dX10_records_94 rfl (lv_at hl 1 rfl) ?_
        refine lv_dup hx hb dX10_records_95 rfl ?_
        refine va_get (D := D) (ci := 7) (v := .int (h_pasts - 1)) (C := RX10) (T := TX10) (N := 14) hx hb hts hi_X10 hown hK hP 0 rfl rfl 3 (by decide) hf_49 (fun _ h9 => h9) rfl dX10_records_96 ?_
        refine lv_iconst (v := 1) hx hb dX10_records_99 (by decide) ?_
        refine lv_iadd hx hb dX10_records_100 ?_
        refine va_put (D := D) (ci := 7) (v := .int ((h_pasts - 1) + 1)) (ty := .int) (C := RX10) (T := TX10) (N := 14) hx hb hts hi_X10 tyX10 tyX10_ok nmX10 hown hK hP hD hS 0 rfl rfl 3 (by decide) hf_49 (fun _ h9 => h9) rfl (by decide +kernel) rfl rfl (Nat.le_of_ble_eq_true rfl) dX10_records_101 (fun H locs hP hD hS => ?_)
        have hP : va_P D vwCl [(h, .inr (7, [.ref h_s, .ref h_aside, .ref h_past, .int ((h_pasts - 1) + 1), .ref h_snapshot, .int h_isKept, .ref h_pad, .int h_length, .ref h_steps, .int h_many, .int h_value, .ref h_summed, .ref h_plus, .ref h_parts])), (h_s, .inl (cI, 65, .inl h_s_f)), (h_aside, .inl (cI, 65, .inl f_12)), (h_past, .inl (cI, 260, .inl f_13)), (h_snapshot, .inl (cI, 65, .inl h_snapshot_f)), (h_pad, .inl (cI, 80, .inl h_pad_f)), (h_steps, .inl (cI, 320, .inl h_steps_f)), (h_summed, .inl (cI, 81, .inl h_summed_f)), (h_plus, .inl (cI, 81, .inl h_plus_f)), (h_parts, .inl (cI, 392, .inl h_parts_f))] H := hP
        have hD : va_D A [(h, .inr (7, [.ref h_s, .ref h_aside, .ref h_past, .int ((h_pasts - 1) + 1), .ref h_snapshot, .int h_isKept, .ref h_pad, .int h_length, .ref h_steps, .int h_many, .int h_value, .ref h_summed, .ref h_plus, .ref h_parts])), (h_s, .inl (cI, 65, .inl h_s_f)), (h_aside, .inl (cI, 65, .inl f_12)), (h_past, .inl (cI, 260, .inl f_13)), (h_snapshot, .inl (cI, 65, .inl h_snapshot_f)), (h_pad, .inl (cI, 80, .inl h_pad_f)), (h_steps, .inl (cI, 320, .inl h_steps_f)), (h_summed, .inl (cI, 81, .inl h_summed_f)), (h_plus, .inl (cI, 81, .inl h_plus_f)), (h_parts, .inl (cI, 392, .inl h_parts_f))] := hD
        have e0 := Option.some.inj h0
        subst e0
        exact W.vret hx hb hr (fun t ht hW => wr_end () ht hP hD hS) hS.2.2 dX10_records_104
      have L_50_17 : ∀ (F50 : Nat) (x1_15 : Int32) (f_16 : Nat → Int32) (f_17 : Nat → Int32) (H : Heap) (locs : List Loc) (ls : Array Slot), mX10_records_L50a h_s_f h_pasts (fun (x1_11 : Int32) (f_12 : Nat → Int32) (f_13 : Nat → Int32) => some (f_12, f_13, ((h_pasts - 1) + 1))) F50 x1_15 f_16 f_17 = some z → va_P D vwCl [(h, .inr (7, [.ref h_s, .ref h_aside, .ref h_past, .int (h_pasts - 1), .ref h_snapshot, .int h_isKept, .ref h_pad, .int h_length, .ref h_steps, .int h_many, .int h_value, .ref h_summed, .ref h_plus, .ref h_parts])), (h_s, .inl (cI, 65, .inl h_s_f)), (h_aside, .inl (cI, 65, .inl f_16)), (h_past, .inl (cI, 260, .inl f_17)), (h_snapshot, .inl (cI, 65, .inl h_snapshot_f)), (h_pad, .inl (cI, 80, .inl h_pad_f)), (h_steps, .inl (cI, 320, .inl h_steps_f)), (h_summed, .inl (cI, 81, .inl h_summed_f)), (h_plus, .inl (cI, 81, .inl h_plus_f)), (h_parts, .inl (cI, 392, .inl h_parts_f))] H → va_D A [(h, .inr (7, [.ref h_s, .ref h_aside, .ref h_past, .int (h_pasts - 1), .ref h_snapshot, .int h_isKept, .ref h_pad, .int h_length, .ref h_steps, .int h_many, .int h_value, .ref h_summed, .ref h_plus, .ref h_parts])), (h_s, .inl (cI, 65, .inl h_s_f)), (h_aside, .inl (cI, 65, .inl f_16)), (h_past, .inl (cI, 260, .inl f_17)), (h_snapshot, .inl (cI, 65, .inl h_snapshot_f)), (h_pad, .inl (cI, 80, .inl h_pad_f)), (h_steps, .inl (cI, 320, .inl h_steps_f)), (h_summed, .inl (cI, 81, .inl h_summed_f)), (h_plus, .inl (cI, 81, .inl h_plus_f)), (h_parts, .inl (cI, 392, .inl h_parts_f))] → va_S A s.heap H locs → lv_has ls 2 [(1, .int x1_15), (0, .ref h)] → W p l e (headSpec wsX10_records ({ frames := 0, cells := 0, slots := 0, locals := 0 } : Room)).room s m (([.ref h] : List Value).toArray) below meth c H locs 0 0 (MQ below (wQ D none A (fun (u : Unit) => [(h, .inr (7, [.ref h_s, .ref h_aside, .ref h_past, .int z.2.2, .ref h_snapshot, .int h_isKept, .ref h_pad, .int h_length, .ref h_steps, .int h_many, .int h_value, .ref h_summed, .ref h_plus, .ref h_parts])), (h_s, .inl (cI, 65, .inl h_s_f)), (h_aside, .inl (cI, 65, .inl z.1)), (h_past, .inl (cI, 260, .inl z.2.1)), (h_snapshot, .inl (cI, 65, .inl h_snapshot_f)), (h_pad, .inl (cI, 80, .inl h_pad_f)), (h_steps, .inl (cI, 320, .inl h_steps_f)), (h_summed, .inl (cI, 81, .inl h_summed_f)), (h_plus, .inl (cI, 81, .inl h_plus_f)), (h_parts, .inl (cI, 392, .inl h_parts_f))])) (([.ref h] : List Value).toArray) s 0 0 A) (F0 m 50 ls []) := by
        intro F50
        induction F50 with
        | zero => intro x1_15 f_16 f_17 H locs ls h0 hP hD hS hl; cases h0
        | succ F50 ih50 =>
          intro x1_15 f_16 f_17 H locs ls h0 hP hD hS hl
          rw [mX10_records_L50a] at h0
          refine lv_iload_n hx hb dX10_records_50 rfl (lv_at hl 0 rfl) ?_
          refine lv_bipush (v := 65) hx hb dX10_records_51 (by decide) ?_
          refine lv_icmp_ge (tgt := 94) hx hb dX10_records_53 (by decide) (fun c9 => ?_) (fun c9 => ?_)
          · have h0 := it_t c9 h0
            exact E_50_94_13 x1_15 f_16 f_17 _ _ ls h0 hP hD hS hl
          · have h0 := it_f c9 h0
            refine lv_aload_n hx hb dX10_records_56 rfl (lv_at hl 1 rfl) ?_
            refine va_get (D := D) (ci := 7) (v := .ref h_past) (C := RX10) (T := TX10) (N := 14) hx hb hts hi_X10 hown hK hP 0 rfl rfl 2 (by decide) hf_16 (fun _ h9 => h9) rfl dX10_records_57 ?_
            refine lv_bipush (v := 65) hx hb dX10_records_60 (by decide) ?_
            refine lv_aload_n hx hb dX10_records_62 rfl (lv_at hl 1 rfl) ?_
            refine va_get (D := D) (ci := 7) (v := .int (h_pasts - 1)) (C := RX10) (T := TX10) (N := 14) hx hb hts hi_X10 hown hK hP 0 rfl rfl 3 (by decide) hf_49 (fun _ h9 => h9) rfl dX10_records_63 ?_
            refine lv_imul hx hb dX10_records_66 ?_
            refine lv_iload_n hx hb dX10_records_67 rfl (lv_at hl 0 rfl) ?_
            refine lv_iadd hx hb dX10_records_68 ?_
            refine lv_aload_n hx hb dX10_records_69 rfl (lv_at hl 1 rfl) ?_
            refine va_get (D := D) (ci := 7) (v := .ref h_s) (C := RX10) (T := TX10) (N := 14) hx hb hts hi_X10 hown hK hP 0 rfl rfl 0 (by decide) hf_7 (fun _ h9 => h9) rfl dX10_records_70 ?_
            refine lv_iload_n hx hb dX10_records_73 rfl (lv_at hl 0 rfl) ?_
            obtain ⟨g0, h0⟩ := gd_ok h0
            refine va_iald hx hb hK hP 1 0 rfl rfl (inb_ok g0) dX10_records_74 ?_
            obtain ⟨g0, h0⟩ := gd_ok h0
            refine va_iast hx hb hK hP hD hS 3 0 rfl rfl (inb_ok g0) dX10_records_75 (fun H locs hP hD hS => ?_)
            have hP : va_P D vwCl [(h, .inr (7, [.ref h_s, .ref h_aside, .ref h_past, .int (h_pasts - 1), .ref h_snapshot, .int h_isKept, .ref h_pad, .int h_length, .ref h_steps, .int h_many, .int h_value, .ref h_summed, .ref h_plus, .ref h_parts])), (h_s, .inl (cI, 65, .inl h_s_f)), (h_aside, .inl (cI, 65, .inl f_16)), (h_past, .inl (cI, 260, .inl (upd f_17 ((((65 : Int32) * (h_pasts - 1)) + x1_15) : Int32).toNatClampNeg (h_s_f (x1_15 : Int32).toNatClampNeg)))), (h_snapshot, .inl (cI, 65, .inl h_snapshot_f)), (h_pad, .inl (cI, 80, .inl h_pad_f)), (h_steps, .inl (cI, 320, .inl h_steps_f)), (h_summed, .inl (cI, 81, .inl h_summed_f)), (h_plus, .inl (cI, 81, .inl h_plus_f)), (h_parts, .inl (cI, 392, .inl h_parts_f))] H := hP
            have hD : va_D A [(h, .inr (7, [.ref h_s, .ref h_aside, .ref h_past, .int (h_pasts - 1), .ref h_snapshot, .int h_isKept, .ref h_pad, .int h_length, .ref h_steps, .int h_many, .int h_value, .ref h_summed, .ref h_plus, .ref h_parts])), (h_s, .inl (cI, 65, .inl h_s_f)), (h_aside, .inl (cI, 65, .inl f_16)), (h_past, .inl (cI, 260, .inl (upd f_17 ((((65 : Int32) * (h_pasts - 1)) + x1_15) : Int32).toNatClampNeg (h_s_f (x1_15 : Int32).toNatClampNeg)))), (h_snapshot, .inl (cI, 65, .inl h_snapshot_f)), (h_pad, .inl (cI, 80, .inl h_pad_f)), (h_steps, .inl (cI, 320, .inl h_steps_f)), (h_summed, .inl (cI, 81, .inl h_summed_f)), (h_plus, .inl (cI, 81, .inl h_plus_f)), (h_parts, .inl (cI, 392, .inl h_parts_f))] := hD
            refine lv_aload_n hx hb dX10_records_76 rfl (lv_at hl 1 rfl) ?_
            refine va_get (D := D) (ci := 7) (v := .ref h_aside) (C := RX10) (T := TX10) (N := 14) hx hb hts hi_X10 hown hK hP 0 rfl rfl 1 (by decide) hf_13 (fun _ h9 => h9) rfl dX10_records_77 ?_
            refine lv_iload_n hx hb dX10_records_80 rfl (lv_at hl 0 rfl) ?_
            refine lv_aload_n hx hb dX10_records_81 rfl (lv_at hl 1 rfl) ?_
            refine va_get (D := D) (ci := 7) (v := .ref h_s) (C := RX10) (T := TX10) (N := 14) hx hb hts hi_X10 hown hK hP 0 rfl rfl 0 (by decide) hf_7 (fun _ h9 => h9) rfl dX10_records_82 ?_
            refine lv_iload_n hx hb dX10_records_85 rfl (lv_at hl 0 rfl) ?_
            obtain ⟨g0, h0⟩ := gd_ok h0
            refine va_iald hx hb hK hP 1 0 rfl rfl (inb_ok g0) dX10_records_86 ?_
            obtain ⟨g0, h0⟩ := gd_ok h0
            refine va_iast hx hb hK hP hD hS 2 0 rfl rfl (inb_ok g0) dX10_records_87 (fun H locs hP hD hS => ?_)
            have hP : va_P D vwCl [(h, .inr (7, [.ref h_s, .ref h_aside, .ref h_past, .int (h_pasts - 1), .ref h_snapshot, .int h_isKept, .ref h_pad, .int h_length, .ref h_steps, .int h_many, .int h_value, .ref h_summed, .ref h_plus, .ref h_parts])), (h_s, .inl (cI, 65, .inl h_s_f)), (h_aside, .inl (cI, 65, .inl (upd f_16 (x1_15 : Int32).toNatClampNeg (h_s_f (x1_15 : Int32).toNatClampNeg)))), (h_past, .inl (cI, 260, .inl (upd f_17 ((((65 : Int32) * (h_pasts - 1)) + x1_15) : Int32).toNatClampNeg (h_s_f (x1_15 : Int32).toNatClampNeg)))), (h_snapshot, .inl (cI, 65, .inl h_snapshot_f)), (h_pad, .inl (cI, 80, .inl h_pad_f)), (h_steps, .inl (cI, 320, .inl h_steps_f)), (h_summed, .inl (cI, 81, .inl h_summed_f)), (h_plus, .inl (cI, 81, .inl h_plus_f)), (h_parts, .inl (cI, 392, .inl h_parts_f))] H := hP
            have hD : va_D A [(h, .inr (7, [.ref h_s, .ref h_aside, .ref h_past, .int (h_pasts - 1), .ref h_snapshot, .int h_isKept, .ref h_pad, .int h_length, .ref h_steps, .int h_many, .int h_value, .ref h_summed, .ref h_plus, .ref h_parts])), (h_s, .inl (cI, 65, .inl h_s_f)), (h_aside, .inl (cI, 65, .inl (upd f_16 (x1_15 : Int32).toNatClampNeg (h_s_f (x1_15 : Int32).toNatClampNeg)))), (h_past, .inl (cI, 260, .inl (upd f_17 ((((65 : Int32) * (h_pasts - 1)) + x1_15) : Int32).toNatClampNeg (h_s_f (x1_15 : Int32).toNatClampNeg)))), (h_snapshot, .inl (cI, 65, .inl h_snapshot_f)), (h_pad, .inl (cI, 80, .inl h_pad_f)), (h_steps, .inl (cI, 320, .inl h_steps_f)), (h_summed, .inl (cI, 81, .inl h_summed_f)), (h_plus, .inl (cI, 81, .inl h_plus_f)), (h_parts, .inl (cI, 392, .inl h_parts_f))] := hD
            refine lv_iinc (v := (x1_15 + 1)) (lv' := [(1, .int (x1_15 + 1)), (0, .ref h)]) hx hb dX10_records_88 hl (k := 0) rfl rfl (by decide) rfl (fun ls hl => ?_)
            refine lv_goto (tgt := 50) hx hb dX10_records_91 (by decide) ?_
            exact ih50 (x1_15 + 1) (upd f_16 (x1_15 : Int32).toNatClampNeg (h_s_f (x1_15 : Int32).toNatClampNeg)) (upd f_17 ((((65 : Int32) * (h_pasts - 1)) + x1_15) : Int32).toNatClampNeg (h_s_f (x1_15 : Int32).toNatClampNeg)) _ _ ls h0 hP hD hS hl
      exact L_50_17 FU 0 h_aside_f f_10 _ _ ls h0 hP hD hS hl
    have L_10_21 : ∀ (F10 : Nat) (x1_20 : Int32) (f_21 : Nat → Int32) (H : Heap) (locs : List Loc) (ls : Array Slot), mX10_records_L10  (fun (x1_9 : Int32) (f_10 : Nat → Int32) => mX10_records_L50a h_s_f h_pasts (fun (x1_11 : Int32) (f_12 : Nat → Int32) (f_13 : Nat → Int32) => some (f_12, f_13, ((h_pasts - 1) + 1))) FU 0 h_aside_f f_10) F10 x1_20 f_21 = some z → va_P D vwCl [(h, .inr (7, [.ref h_s, .ref h_aside, .ref h_past, .int h_pasts, .ref h_snapshot, .int h_isKept, .ref h_pad, .int h_length, .ref h_steps, .int h_many, .int h_value, .ref h_summed, .ref h_plus, .ref h_parts])), (h_s, .inl (cI, 65, .inl h_s_f)), (h_aside, .inl (cI, 65, .inl h_aside_f)), (h_past, .inl (cI, 260, .inl f_21)), (h_snapshot, .inl (cI, 65, .inl h_snapshot_f)), (h_pad, .inl (cI, 80, .inl h_pad_f)), (h_steps, .inl (cI, 320, .inl h_steps_f)), (h_summed, .inl (cI, 81, .inl h_summed_f)), (h_plus, .inl (cI, 81, .inl h_plus_f)), (h_parts, .inl (cI, 392, .inl h_parts_f))] H → va_D A [(h, .inr (7, [.ref h_s, .ref h_aside, .ref h_past, .int h_pasts, .ref h_snapshot, .int h_isKept, .ref h_pad, .int h_length, .ref h_steps, .int h_many, .int h_value, .ref h_summed, .ref h_plus, .ref h_parts])), (h_s, .inl (cI, 65, .inl h_s_f)), (h_aside, .inl (cI, 65, .inl h_aside_f)), (h_past, .inl (cI, 260, .inl f_21)), (h_snapshot, .inl (cI, 65, .inl h_snapshot_f)), (h_pad, .inl (cI, 80, .inl h_pad_f)), (h_steps, .inl (cI, 320, .inl h_steps_f)), (h_summed, .inl (cI, 81, .inl h_summed_f)), (h_plus, .inl (cI, 81, .inl h_plus_f)), (h_parts, .inl (cI, 392, .inl h_parts_f))] → va_S A s.heap H locs → lv_has ls 2 [(1, .int x1_20), (0, .ref h)] → W p l e (headSpec wsX10_records ({ frames := 0, cells := 0, slots := 0, locals := 0 } : Room)).room s m (([.ref h] : List Value).toArray) below meth c H locs 0 0 (MQ below (wQ D none A (fun (u : Unit) => [(h, .inr (7, [.ref h_s, .ref h_aside, .ref h_past, .int z.2.2, .ref h_snapshot, .int h_isKept, .ref h_pad, .int h_length, .ref h_steps, .int h_many, .int h_value, .ref h_summed, .ref h_plus, .ref h_parts])), (h_s, .inl (cI, 65, .inl h_s_f)), (h_aside, .inl (cI, 65, .inl z.1)), (h_past, .inl (cI, 260, .inl z.2.1)), (h_snapshot, .inl (cI, 65, .inl h_snapshot_f)), (h_pad, .inl (cI, 80, .inl h_pad_f)), (h_steps, .inl (cI, 320, .inl h_steps_f)), (h_summed, .inl (cI, 81, .inl h_summed_f)), (h_plus, .inl (cI, 81, .inl h_plus_f)), (h_parts, .inl (cI, 392, .inl h_parts_f))])) (([.ref h] : List Value).toArray) s 0 0 A) (F0 m 10 ls []) := by
      intro F10
      induction F10 with
      | zero => intro x1_20 f_21 H locs ls h0 hP hD hS hl; cases h0
      | succ F10 ih10 =>
        intro x1_20 f_21 H locs ls h0 hP hD hS hl
        rw [mX10_records_L10] at h0
        refine lv_iload_n hx hb dX10_records_10 rfl (lv_at hl 0 rfl) ?_
        refine lv_sipush (v := 195) hx hb dX10_records_11 (by decide) ?_
        refine lv_icmp_ge (tgt := 38) hx hb dX10_records_14 (by decide) (fun c9 => ?_) (fun c9 => ?_)
        · have h0 := it_t c9 h0
          exact E_10_38_18 x1_20 f_21 _ _ ls h0 hP hD hS hl
        · have h0 := it_f c9 h0
          refine lv_aload_n hx hb dX10_records_17 rfl (lv_at hl 1 rfl) ?_
          refine va_get (D := D) (ci := 7) (v := .ref h_past) (C := RX10) (T := TX10) (N := 14) hx hb hts hi_X10 hown hK hP 0 rfl rfl 2 (by decide) hf_16 (fun _ h9 => h9) rfl dX10_records_18 ?_
          refine lv_iload_n hx hb dX10_records_21 rfl (lv_at hl 0 rfl) ?_
          refine lv_aload_n hx hb dX10_records_22 rfl (lv_at hl 1 rfl) ?_
          refine va_get (D := D) (ci := 7) (v := .ref h_past) (C := RX10) (T := TX10) (N := 14) hx hb hts hi_X10 hown hK hP 0 rfl rfl 2 (by decide) hf_16 (fun _ h9 => h9) rfl dX10_records_23 ?_
          refine lv_bipush (v := 65) hx hb dX10_records_26 (by decide) ?_
          refine lv_iload_n hx hb dX10_records_28 rfl (lv_at hl 0 rfl) ?_
          refine lv_iadd hx hb dX10_records_29 ?_
          obtain ⟨g0, h0⟩ := gd_ok h0
          refine va_iald hx hb hK hP 3 0 rfl rfl (inb_ok g0) dX10_records_30 ?_
          obtain ⟨g0, h0⟩ := gd_ok h0
          refine va_iast hx hb hK hP hD hS 3 0 rfl rfl (inb_ok g0) dX10_records_31 (fun H locs hP hD hS => ?_)
          have hP : va_P D vwCl [(h, .inr (7, [.ref h_s, .ref h_aside, .ref h_past, .int h_pasts, .ref h_snapshot, .int h_isKept, .ref h_pad, .int h_length, .ref h_steps, .int h_many, .int h_value, .ref h_summed, .ref h_plus, .ref h_parts])), (h_s, .inl (cI, 65, .inl h_s_f)), (h_aside, .inl (cI, 65, .inl h_aside_f)), (h_past, .inl (cI, 260, .inl (upd f_21 (x1_20 : Int32).toNatClampNeg (f_21 (((65 : Int32) + x1_20) : Int32).toNatClampNeg)))), (h_snapshot, .inl (cI, 65, .inl h_snapshot_f)), (h_pad, .inl (cI, 80, .inl h_pad_f)), (h_steps, .inl (cI, 320, .inl h_steps_f)), (h_summed, .inl (cI, 81, .inl h_summed_f)), (h_plus, .inl (cI, 81, .inl h_plus_f)), (h_parts, .inl (cI, 392, .inl h_parts_f))] H := hP
          have hD : va_D A [(h, .inr (7, [.ref h_s, .ref h_aside, .ref h_past, .int h_pasts, .ref h_snapshot, .int h_isKept, .ref h_pad, .int h_length, .ref h_steps, .int h_many, .int h_value, .ref h_summed, .ref h_plus, .ref h_parts])), (h_s, .inl (cI, 65, .inl h_s_f)), (h_aside, .inl (cI, 65, .inl h_aside_f)), (h_past, .inl (cI, 260, .inl (upd f_21 (x1_20 : Int32).toNatClampNeg (f_21 (((65 : Int32) + x1_20) : Int32).toNatClampNeg)))), (h_snapshot, .inl (cI, 65, .inl h_snapshot_f)), (h_pad, .inl (cI, 80, .inl h_pad_f)), (h_steps, .inl (cI, 320, .inl h_steps_f)), (h_summed, .inl (cI, 81, .inl h_summed_f)), (h_plus, .inl (cI, 81, .inl h_plus_f)), (h_parts, .inl (cI, 392, .inl h_parts_f))] := hD
          refine lv_iinc (v := (x1_20 + 1)) (lv' := [(1, .int (x1_20 + 1)), (0, .ref h)]) hx hb dX10_records_32 hl (k := 0) rfl rfl (by decide) rfl (fun ls hl => ?_)
          refine lv_goto (tgt := 10) hx hb dX10_records_35 (by decide) ?_
          exact ih10 (x1_20 + 1) (upd f_21 (x1_20 : Int32).toNatClampNeg (f_21 (((65 : Int32) + x1_20) : Int32).toNatClampNeg)) _ _ ls h0 hP hD hS hl
    exact L_10_21 FU 0 h_past_f _ _ ls h0 hP hD hS hl
noncomputable def mX10_others_L4 (h_s_f : Nat → Int32) (h_aside_f : Nat → Int32) (k4_39 : Int32 → Int32 → Option (Int32)) : Nat → Int32 → Int32 → Option (Int32)
  | 0, _, _ => none
  | F + 1, x2_4, x1_5 => if (65 : Int32) ≤ x2_4 then (k4_39 x2_4 x1_5) else (gd (inb x2_4 65) (gd (inb x2_4 65) (if (h_s_f (x2_4 : Int32).toNatClampNeg) = (h_aside_f (x2_4 : Int32).toNatClampNeg) then (mX10_others_L4 h_s_f h_aside_f k4_39 F (x2_4 + 1) (x1_5 + 0)) else (mX10_others_L4 h_s_f h_aside_f k4_39 F (x2_4 + 1) (x1_5 + 1)))))
noncomputable def mX10_others (h_s_f : Nat → Int32) (h_aside_f : Nat → Int32) : Option (Int32) :=
  mX10_others_L4 h_s_f h_aside_f (fun (x2_1 : Int32) (x1_2 : Int32) => some (x1_2)) FU 1 0
set_option maxHeartbeats 8000000 in
set_option maxRecDepth 100000 in
theorem kX10_others (l : Launch) (D : va_G) (cI cC cT : ClassId) (h h_s h_aside h_past h_snapshot h_pad h_steps h_summed h_plus h_parts : Nat) (h_s_f : Nat → Int32) (h_aside_f : Nat → Int32) (h_past_f : Nat → Int32) (h_pasts : Int32) (h_snapshot_f : Nat → Int32) (h_isKept : Int32) (h_pad_f : Nat → Int32) (h_length : Int32) (h_steps_f : Nat → Int32) (h_many : Int32) (h_value : Int32) (h_summed_f : Nat → Int32) (h_plus_f : Nat → Int32) (h_parts_f : Nat → Int32) (z : Int32) (h0 : mX10_others h_s_f h_aside_f = some z) : Met l yX10_others wsX10_others ({ frames := 0, cells := 0, slots := 0, locals := 0 } : Room) (va_Pc [.ref h] (rP D cI cC cT [(h, .inr (7, [.ref h_s, .ref h_aside, .ref h_past, .int h_pasts, .ref h_snapshot, .int h_isKept, .ref h_pad, .int h_length, .ref h_steps, .int h_many, .int h_value, .ref h_summed, .ref h_plus, .ref h_parts])), (h_s, .inl (cI, 65, .inl h_s_f)), (h_aside, .inl (cI, 65, .inl h_aside_f)), (h_past, .inl (cI, 260, .inl h_past_f)), (h_snapshot, .inl (cI, 65, .inl h_snapshot_f)), (h_pad, .inl (cI, 80, .inl h_pad_f)), (h_steps, .inl (cI, 320, .inl h_steps_f)), (h_summed, .inl (cI, 81, .inl h_summed_f)), (h_plus, .inl (cI, 81, .inl h_plus_f)), (h_parts, .inl (cI, 392, .inl h_parts_f))])) (rQ (some (.int z))) 0 0 (fun _ => False) := by
  refine Met.ofW (cc := cX10_others) (maxL := 3) (ret := (some .int)) (by decide) rfl ?_
  intro p e s m args below meth c s₁ B hml hv
  obtain ⟨rfl, hP, hE⟩ := hv
  have hx := B.exec
  have hb := B.bytes
  have hr := B.returns
  have hts := atoms_spec (ws := wsX10_others) B.pre
  have hown : s.vm.findClass RX10 = some m.cls := findClass_of_methodNamed B.named
  have hlocks := B.notSynchronized
  have hK := hE.1
  have hcf : CallFix p m c cX10_others 3 s ([.ref h] : List Value).toArray wsX10_others RX10 := ⟨hx, hb, hml, hown, hts⟩
  have hP : va_P D vwCl [(h, .inr (7, [.ref h_s, .ref h_aside, .ref h_past, .int h_pasts, .ref h_snapshot, .int h_isKept, .ref h_pad, .int h_length, .ref h_steps, .int h_many, .int h_value, .ref h_summed, .ref h_plus, .ref h_parts])), (h_s, .inl (cI, 65, .inl h_s_f)), (h_aside, .inl (cI, 65, .inl h_aside_f)), (h_past, .inl (cI, 260, .inl h_past_f)), (h_snapshot, .inl (cI, 65, .inl h_snapshot_f)), (h_pad, .inl (cI, 80, .inl h_pad_f)), (h_steps, .inl (cI, 320, .inl h_steps_f)), (h_summed, .inl (cI, 81, .inl h_summed_f)), (h_plus, .inl (cI, 81, .inl h_plus_f)), (h_parts, .inl (cI, 392, .inl h_parts_f))] s.heap := hP
  have hf_7 := hts (.fieldLink RX10 7 "CrookedSumsModel" "s" "[I") (by decide +kernel)
  have hi_X10 := (show ∀ w ∈ u_ws RX10 TX10 14, w ∈ wsX10_others from by decide +kernel)
  have hf_13 := hts (.fieldLink RX10 13 "CrookedSumsModel" "aside" "[I") (by decide +kernel)
  have hl := lv_entry ([.ref h]) (n := 3) (Nat.le_of_ble_eq_true rfl)
  rw [lg_entry_eq]
  generalize (lg_sl ([.ref h]) ++ List.replicate (3 - (lg_sl ([.ref h])).length) Slot.unset).toArray = ls at hl ⊢
  have hl : lv_has ls 3 [(0, .ref h)] := hl
  unfold mX10_others at h0
  refine lv_iconst (v := 0) hx hb dX10_others_0 (by decide) ?_
  refine lv_istore_n (lv' := [(1, .int 0), (0, .ref h)]) hx hb dX10_others_1 rfl hl (by decide) rfl (fun ls hl => ?_)
  refine lv_iconst (v := 1) hx hb dX10_others_2 (by decide) ?_
  refine lv_istore_n (lv' := [(2, .int 1), (1, .int 0), (0, .ref h)]) hx hb dX10_others_3 rfl hl (by decide) rfl (fun ls hl => ?_)
  have E_4_39_2 : ∀ (x2_1 : Int32) (x1_2 : Int32) (ls : Array Slot), (some (x1_2)) = some z → lv_has ls 3 [(2, .int x2_1), (1, .int x1_2), (0, .ref h)] → W p l e (headSpec wsX10_others ({ frames := 0, cells := 0, slots := 0, locals := 0 } : Room)).room s m (([.ref h] : List Value).toArray) below meth c s.heap [] 0 0 (MQ below (rQ (some (.int z))) (([.ref h] : List Value).toArray) s 0 0 (fun _ => False)) (F0 m 39 ls []) := by
    intro x2_1 x1_2 ls h0 hl
    refine lv_iload_n hx hb dX10_others_39 rfl (lv_at hl 1 rfl) ?_
    have e0 := Option.some.inj h0
    subst e0
    exact W.iret (v := x1_2) hx hb hr (fun t ht hW => ⟨rfl, ht⟩) (fun q hq => absurd hq List.not_mem_nil) dX10_others_40
  have L_4_5 : ∀ (F4 : Nat) (x2_4 : Int32) (x1_5 : Int32) (ls : Array Slot), mX10_others_L4 h_s_f h_aside_f (fun (x2_1 : Int32) (x1_2 : Int32) => some (x1_2)) F4 x2_4 x1_5 = some z → lv_has ls 3 [(2, .int x2_4), (1, .int x1_5), (0, .ref h)] → W p l e (headSpec wsX10_others ({ frames := 0, cells := 0, slots := 0, locals := 0 } : Room)).room s m (([.ref h] : List Value).toArray) below meth c s.heap [] 0 0 (MQ below (rQ (some (.int z))) (([.ref h] : List Value).toArray) s 0 0 (fun _ => False)) (F0 m 4 ls []) := by
    intro F4
    induction F4 with
    | zero => intro x2_4 x1_5 ls h0 hl; cases h0
    | succ F4 ih4 =>
      intro x2_4 x1_5 ls h0 hl
      rw [mX10_others_L4] at h0
      refine lv_iload_n hx hb dX10_others_4 rfl (lv_at hl 0 rfl) ?_
      refine lv_bipush (v := 65) hx hb dX10_others_5 (by decide) ?_
      refine lv_icmp_ge (tgt := 39) hx hb dX10_others_7 (by decide) (fun c9 => ?_) (fun c9 => ?_)
      · have h0 := it_t c9 h0
        exact E_4_39_2 x2_4 x1_5 ls h0 hl
      · have h0 := it_f c9 h0
        refine lv_iload_n hx hb dX10_others_10 rfl (lv_at hl 1 rfl) ?_
        refine lv_aload_n hx hb dX10_others_11 rfl (lv_at hl 2 rfl) ?_
        refine va_get (D := D) (ci := 7) (v := .ref h_s) (C := RX10) (T := TX10) (N := 14) hx hb hts hi_X10 hown hK hP 0 rfl rfl 0 (by decide) hf_7 (fun _ h9 => h9) rfl dX10_others_12 ?_
        refine lv_iload_n hx hb dX10_others_15 rfl (lv_at hl 0 rfl) ?_
        obtain ⟨g0, h0⟩ := gd_ok h0
        refine va_iald hx hb hK hP 1 0 rfl rfl (inb_ok g0) dX10_others_16 ?_
        refine lv_aload_n hx hb dX10_others_17 rfl (lv_at hl 2 rfl) ?_
        refine va_get (D := D) (ci := 7) (v := .ref h_aside) (C := RX10) (T := TX10) (N := 14) hx hb hts hi_X10 hown hK hP 0 rfl rfl 1 (by decide) hf_13 (fun _ h9 => h9) rfl dX10_others_18 ?_
        refine lv_iload_n hx hb dX10_others_21 rfl (lv_at hl 0 rfl) ?_
        obtain ⟨g0, h0⟩ := gd_ok h0
        refine va_iald hx hb hK hP 2 0 rfl rfl (inb_ok g0) dX10_others_22 ?_
        refine lv_icmp_eq (tgt := 30) hx hb dX10_others_23 (by decide) (fun c9 => ?_) (fun c9 => ?_)
        · have h0 := it_t c9 h0
          refine lv_iconst (v := 0) hx hb dX10_others_30 (by decide) ?_
          refine lv_iadd hx hb dX10_others_31 ?_
          refine lv_istore_n (lv' := [(1, .int (x1_5 + 0)), (2, .int x2_4), (0, .ref h)]) hx hb dX10_others_32 rfl hl (by decide) rfl (fun ls hl => ?_)
          refine lv_iinc (v := (x2_4 + 1)) (lv' := [(2, .int (x2_4 + 1)), (1, .int (x1_5 + 0)), (0, .ref h)]) hx hb dX10_others_33 hl (k := 1) rfl rfl (by decide) rfl (fun ls hl => ?_)
          refine lv_goto (tgt := 4) hx hb dX10_others_36 (by decide) ?_
          exact ih4 (x2_4 + 1) (x1_5 + 0) ls h0 hl
        · have h0 := it_f c9 h0
          refine lv_iconst (v := 1) hx hb dX10_others_26 (by decide) ?_
          refine lv_goto (tgt := 31) hx hb dX10_others_27 (by decide) ?_
          refine lv_iadd hx hb dX10_others_31 ?_
          refine lv_istore_n (lv' := [(1, .int (x1_5 + 1)), (2, .int x2_4), (0, .ref h)]) hx hb dX10_others_32 rfl hl (by decide) rfl (fun ls hl => ?_)
          refine lv_iinc (v := (x2_4 + 1)) (lv' := [(2, .int (x2_4 + 1)), (1, .int (x1_5 + 1)), (0, .ref h)]) hx hb dX10_others_33 hl (k := 1) rfl rfl (by decide) rfl (fun ls hl => ?_)
          refine lv_goto (tgt := 4) hx hb dX10_others_36 (by decide) ?_
          exact ih4 (x2_4 + 1) (x1_5 + 1) ls h0 hl
  exact L_4_5 FU 1 0 ls h0 hl
noncomputable def mX10_laysParts_L70 (h_s_f : Nat → Int32) (x1_6 : Int32) (x2_11 : Int32) (k70_92 : Int32 → (Nat → Int32) → Option ((Nat → Int32))) : Nat → Int32 → (Nat → Int32) → Option ((Nat → Int32))
  | 0, _, _ => none
  | F + 1, x3_16, f_17 => if (x2_11 + x1_6) ≤ x3_16 then (k70_92 x3_16 f_17) else (bd (mX10_adds h_s_f f_17 x2_11 x3_16 (x2_11 + x1_6)) (fun z_18 => mX10_laysParts_L70 h_s_f x1_6 x2_11 k70_92 F (x3_16 + 1) z_18))
noncomputable def mX10_laysParts_L34 (h_s_f : Nat → Int32) (h_pad_f : Nat → Int32) (h_length : Int32) (x1_6 : Int32) (k34_98 : Int32 → (Nat → Int32) → Option ((Nat → Int32))) : Nat → Int32 → (Nat → Int32) → Option ((Nat → Int32))
  | 0, _, _ => none
  | F + 1, x2_11, f_12 => if h_length ≤ (x2_11 + x1_6) then (k34_98 x2_11 f_12) else (if x1_6 = 0 then (gd (inb x2_11 80) (bd (mX10_part x2_11 x2_11 ((h_pad_f (x2_11 : Int32).toNatClampNeg) - 48)) (fun z_20 => gd (inb z_20 392) (mX10_laysParts_L70 h_s_f x1_6 x2_11 (fun (x3_21 : Int32) (f_22 : Nat → Int32) => mX10_laysParts_L34 h_s_f h_pad_f h_length x1_6 k34_98 F (x2_11 + 1) f_22) FU x2_11 (upd f_12 (z_20 : Int32).toNatClampNeg 1))))) else (mX10_laysParts_L70 h_s_f x1_6 x2_11 (fun (x3_13 : Int32) (f_14 : Nat → Int32) => mX10_laysParts_L34 h_s_f h_pad_f h_length x1_6 k34_98 F (x2_11 + 1) f_14) FU x2_11 f_12))
noncomputable def mX10_laysParts_L24 (h_s_f : Nat → Int32) (h_pad_f : Nat → Int32) (h_length : Int32) (k24_104 : Int32 → (Nat → Int32) → Option ((Nat → Int32))) : Nat → Int32 → (Nat → Int32) → Option ((Nat → Int32))
  | 0, _, _ => none
  | F + 1, x1_6, f_7 => if h_length ≤ x1_6 then (k24_104 x1_6 f_7) else (mX10_laysParts_L34 h_s_f h_pad_f h_length x1_6 (fun (x2_8 : Int32) (f_9 : Nat → Int32) => mX10_laysParts_L24 h_s_f h_pad_f h_length k24_104 F (x1_6 + 1) f_9) FU 0 f_7)
noncomputable def mX10_laysParts_L2  (k2_22 : Int32 → (Nat → Int32) → Option ((Nat → Int32))) : Nat → Int32 → (Nat → Int32) → Option ((Nat → Int32))
  | 0, _, _ => none
  | F + 1, x1_31, f_32 => if (392 : Int32) ≤ x1_31 then (k2_22 x1_31 f_32) else (gd (inb x1_31 392) (mX10_laysParts_L2  k2_22 F (x1_31 + 1) (upd f_32 (x1_31 : Int32).toNatClampNeg 0)))
noncomputable def mX10_laysParts (h_s_f : Nat → Int32) (h_pad_f : Nat → Int32) (h_length : Int32) (h_parts_f : Nat → Int32) : Option ((Nat → Int32)) :=
  mX10_laysParts_L2  (fun (x1_1 : Int32) (f_2 : Nat → Int32) => mX10_laysParts_L24 h_s_f h_pad_f h_length (fun (x1_3 : Int32) (f_4 : Nat → Int32) => some (f_4)) FU 0 f_2) FU 0 h_parts_f
set_option maxHeartbeats 8000000 in
set_option maxRecDepth 100000 in
theorem kX10_laysParts (l : Launch) (D : va_G) (cI cC cT : ClassId) (h h_s h_aside h_past h_snapshot h_pad h_steps h_summed h_plus h_parts : Nat) (h_s_f : Nat → Int32) (h_aside_f : Nat → Int32) (h_past_f : Nat → Int32) (h_pasts : Int32) (h_snapshot_f : Nat → Int32) (h_isKept : Int32) (h_pad_f : Nat → Int32) (h_length : Int32) (h_steps_f : Nat → Int32) (h_many : Int32) (h_value : Int32) (h_summed_f : Nat → Int32) (h_plus_f : Nat → Int32) (h_parts_f : Nat → Int32) (sz : Nat) (z : (Nat → Int32)) (h0 : mX10_laysParts h_s_f h_pad_f h_length h_parts_f = some z) : Met l yX10_laysParts wsX10_laysParts ({ frames := 3, cells := 0, slots := 0, locals := 68 } : Room) (va_Pc [.ref h] (wP D cI cC cT [(h, .inr (7, [.ref h_s, .ref h_aside, .ref h_past, .int h_pasts, .ref h_snapshot, .int h_isKept, .ref h_pad, .int h_length, .ref h_steps, .int h_many, .int h_value, .ref h_summed, .ref h_plus, .ref h_parts])), (h_s, .inl (cI, 65, .inl h_s_f)), (h_aside, .inl (cI, 65, .inl h_aside_f)), (h_past, .inl (cI, 260, .inl h_past_f)), (h_snapshot, .inl (cI, 65, .inl h_snapshot_f)), (h_pad, .inl (cI, 80, .inl h_pad_f)), (h_steps, .inl (cI, 320, .inl h_steps_f)), (h_summed, .inl (cI, 81, .inl h_summed_f)), (h_plus, .inl (cI, 81, .inl h_plus_f)), (h_parts, .inl (cI, 392, .inl h_parts_f))] sz)) (wQ D none (va_A [(h, .inr (7, [.ref h_s, .ref h_aside, .ref h_past, .int h_pasts, .ref h_snapshot, .int h_isKept, .ref h_pad, .int h_length, .ref h_steps, .int h_many, .int h_value, .ref h_summed, .ref h_plus, .ref h_parts])), (h_s, .inl (cI, 65, .inl h_s_f)), (h_aside, .inl (cI, 65, .inl h_aside_f)), (h_past, .inl (cI, 260, .inl h_past_f)), (h_snapshot, .inl (cI, 65, .inl h_snapshot_f)), (h_pad, .inl (cI, 80, .inl h_pad_f)), (h_steps, .inl (cI, 320, .inl h_steps_f)), (h_summed, .inl (cI, 81, .inl h_summed_f)), (h_plus, .inl (cI, 81, .inl h_plus_f)), (h_parts, .inl (cI, 392, .inl h_parts_f))] sz) (fun (u : Unit) => [(h, .inr (7, [.ref h_s, .ref h_aside, .ref h_past, .int h_pasts, .ref h_snapshot, .int h_isKept, .ref h_pad, .int h_length, .ref h_steps, .int h_many, .int h_value, .ref h_summed, .ref h_plus, .ref h_parts])), (h_s, .inl (cI, 65, .inl h_s_f)), (h_aside, .inl (cI, 65, .inl h_aside_f)), (h_past, .inl (cI, 260, .inl h_past_f)), (h_snapshot, .inl (cI, 65, .inl h_snapshot_f)), (h_pad, .inl (cI, 80, .inl h_pad_f)), (h_steps, .inl (cI, 320, .inl h_steps_f)), (h_summed, .inl (cI, 81, .inl h_summed_f)), (h_plus, .inl (cI, 81, .inl h_plus_f)), (h_parts, .inl (cI, 392, .inl z))])) 0 0 (va_A [(h, .inr (7, [.ref h_s, .ref h_aside, .ref h_past, .int h_pasts, .ref h_snapshot, .int h_isKept, .ref h_pad, .int h_length, .ref h_steps, .int h_many, .int h_value, .ref h_summed, .ref h_plus, .ref h_parts])), (h_s, .inl (cI, 65, .inl h_s_f)), (h_aside, .inl (cI, 65, .inl h_aside_f)), (h_past, .inl (cI, 260, .inl h_past_f)), (h_snapshot, .inl (cI, 65, .inl h_snapshot_f)), (h_pad, .inl (cI, 80, .inl h_pad_f)), (h_steps, .inl (cI, 320, .inl h_steps_f)), (h_summed, .inl (cI, 81, .inl h_summed_f)), (h_plus, .inl (cI, 81, .inl h_plus_f)), (h_parts, .inl (cI, 392, .inl h_parts_f))] sz) := by
  refine Met.ofW (cc := cX10_laysParts) (maxL := 4) (ret := none) (by decide) rfl ?_
  intro p e s m args below meth c s₁ B hml hv
  obtain ⟨rfl, hsz, hP, hE, hD0⟩ := hv
  have hx := B.exec
  have hb := B.bytes
  have hr := B.returns
  have hts := atoms_spec (ws := wsX10_laysParts) B.pre
  have hown : s.vm.findClass RX10 = some m.cls := findClass_of_methodNamed B.named
  have hlocks := B.notSynchronized
  have hK := hE.1
  have hcf : CallFix p m c cX10_laysParts 4 s ([.ref h] : List Value).toArray wsX10_laysParts RX10 := ⟨hx, hb, hml, hown, hts⟩
  subst hsz
  have hD := hD0.self (sz := s.heap.size)
  generalize hAe : va_A [(h, .inr (7, [.ref h_s, .ref h_aside, .ref h_past, .int h_pasts, .ref h_snapshot, .int h_isKept, .ref h_pad, .int h_length, .ref h_steps, .int h_many, .int h_value, .ref h_summed, .ref h_plus, .ref h_parts])), (h_s, .inl (cI, 65, .inl h_s_f)), (h_aside, .inl (cI, 65, .inl h_aside_f)), (h_past, .inl (cI, 260, .inl h_past_f)), (h_snapshot, .inl (cI, 65, .inl h_snapshot_f)), (h_pad, .inl (cI, 80, .inl h_pad_f)), (h_steps, .inl (cI, 320, .inl h_steps_f)), (h_summed, .inl (cI, 81, .inl h_summed_f)), (h_plus, .inl (cI, 81, .inl h_plus_f)), (h_parts, .inl (cI, 392, .inl h_parts_f))] s.heap.size = A at hD ⊢
  have hA : ∀ q : Nat, s.heap.size ≤ q → A q := fun q h => by rw [← hAe]; exact Or.inr h
  have hS : va_S A s.heap s.heap [] := va_S.rf
  have hP : va_P D vwCl [(h, .inr (7, [.ref h_s, .ref h_aside, .ref h_past, .int h_pasts, .ref h_snapshot, .int h_isKept, .ref h_pad, .int h_length, .ref h_steps, .int h_many, .int h_value, .ref h_summed, .ref h_plus, .ref h_parts])), (h_s, .inl (cI, 65, .inl h_s_f)), (h_aside, .inl (cI, 65, .inl h_aside_f)), (h_past, .inl (cI, 260, .inl h_past_f)), (h_snapshot, .inl (cI, 65, .inl h_snapshot_f)), (h_pad, .inl (cI, 80, .inl h_pad_f)), (h_steps, .inl (cI, 320, .inl h_steps_f)), (h_summed, .inl (cI, 81, .inl h_summed_f)), (h_plus, .inl (cI, 81, .inl h_plus_f)), (h_parts, .inl (cI, 392, .inl h_parts_f))] s.heap := hP
  have hf_111 := hts (.fieldLink RX10 111 "CrookedSumsModel" "length" "I") (by decide +kernel)
  have hi_X10 := (show ∀ w ∈ u_ws RX10 TX10 14, w ∈ wsX10_laysParts from by decide +kernel)
  have hf_34 := hts (.fieldLink RX10 34 "CrookedSumsModel" "parts" "[I") (by decide +kernel)
  have hf_22 := hts (.fieldLink RX10 22 "CrookedSumsModel" "pad" "[I") (by decide +kernel)
  have hl := lv_entry ([.ref h]) (n := 4) (Nat.le_of_ble_eq_true rfl)
  rw [lg_entry_eq]
  generalize (lg_sl ([.ref h]) ++ List.replicate (4 - (lg_sl ([.ref h])).length) Slot.unset).toArray = ls at hl ⊢
  have hl : lv_has ls 4 [(0, .ref h)] := hl
  unfold mX10_laysParts at h0
  refine lv_iconst (v := 0) hx hb dX10_laysParts_0 (by decide) ?_
  refine lv_istore_n (lv' := [(1, .int 0), (0, .ref h)]) hx hb dX10_laysParts_1 rfl hl (by decide) rfl (fun ls hl => ?_)
  have E_2_22_29 : ∀ (x1_1 : Int32) (f_2 : Nat → Int32) (H : Heap) (locs : List Loc) (ls : Array Slot), (mX10_laysParts_L24 h_s_f h_pad_f h_length (fun (x1_3 : Int32) (f_4 : Nat → Int32) => some (f_4)) FU 0 f_2) = some z → va_P D vwCl [(h, .inr (7, [.ref h_s, .ref h_aside, .ref h_past, .int h_pasts, .ref h_snapshot, .int h_isKept, .ref h_pad, .int h_length, .ref h_steps, .int h_many, .int h_value, .ref h_summed, .ref h_plus, .ref h_parts])), (h_s, .inl (cI, 65, .inl h_s_f)), (h_aside, .inl (cI, 65, .inl h_aside_f)), (h_past, .inl (cI, 260, .inl h_past_f)), (h_snapshot, .inl (cI, 65, .inl h_snapshot_f)), (h_pad, .inl (cI, 80, .inl h_pad_f)), (h_steps, .inl (cI, 320, .inl h_steps_f)), (h_summed, .inl (cI, 81, .inl h_summed_f)), (h_plus, .inl (cI, 81, .inl h_plus_f)), (h_parts, .inl (cI, 392, .inl f_2))] H → va_D A [(h, .inr (7, [.ref h_s, .ref h_aside, .ref h_past, .int h_pasts, .ref h_snapshot, .int h_isKept, .ref h_pad, .int h_length, .ref h_steps, .int h_many, .int h_value, .ref h_summed, .ref h_plus, .ref h_parts])), (h_s, .inl (cI, 65, .inl h_s_f)), (h_aside, .inl (cI, 65, .inl h_aside_f)), (h_past, .inl (cI, 260, .inl h_past_f)), (h_snapshot, .inl (cI, 65, .inl h_snapshot_f)), (h_pad, .inl (cI, 80, .inl h_pad_f)), (h_steps, .inl (cI, 320, .inl h_steps_f)), (h_summed, .inl (cI, 81, .inl h_summed_f)), (h_plus, .inl (cI, 81, .inl h_plus_f)), (h_parts, .inl (cI, 392, .inl f_2))] → va_S A s.heap H locs → lv_has ls 4 [(1, .int x1_1), (0, .ref h)] → W p l e (headSpec wsX10_laysParts ({ frames := 3, cells := 0, slots := 0, locals := 68 } : Room)).room s m (([.ref h] : List Value).toArray) below meth c H locs 0 0 (MQ below (wQ D none A (fun (u : Unit) => [(h, .inr (7, [.ref h_s, .ref h_aside, .ref h_past, .int h_pasts, .ref h_snapshot, .int h_isKept, .ref h_pad, .int h_length, .ref h_steps, .int h_many, .int h_value, .ref h_summed, .ref h_plus, .ref h_parts])), (h_s, .inl (cI, 65, .inl h_s_f)), (h_aside, .inl (cI, 65, .inl h_aside_f)), (h_past, .inl (cI, 260, .inl h_past_f)), (h_snapshot, .inl (cI, 65, .inl h_snapshot_f)), (h_pad, .inl (cI, 80, .inl h_pad_f)), (h_steps, .inl (cI, 320, .inl h_steps_f)), (h_summed, .inl (cI, 81, .inl h_summed_f)), (h_plus, .inl (cI, 81, .inl h_plus_f)), (h_parts, .inl (cI, 392, .inl z))])) (([.ref h] : List Value).toArray) s 0 0 A) (F0 m 22 ls []) := by
    intro x1_1 f_2 H locs ls h0 hP hD hS hl
    refine lv_iconst (v := 0) hx hb dX10_laysParts_22 (by decide) ?_
    refine lv_istore_n (lv' := [(1, .int 0), (0, .ref h)]) hx hb dX10_laysParts_23 rfl hl (by decide) rfl (fun ls hl => ?_)
    have E_24_104_4 : ∀ (x1_3 : Int32) (f_4 : Nat → Int32) (H : Heap) (locs : List Loc) (ls : Array Slot), (some (f_4)) = some z → va_P D vwCl [(h, .inr (7, [.ref h_s, .ref h_aside, .ref h_past, .int h_pasts, .ref h_snapshot, .int h_isKept, .ref h_pad, .int h_length, .ref h_steps, .int h_many, .int h_value, .ref h_summed, .ref h_plus, .ref h_parts])), (h_s, .inl (cI, 65, .inl h_s_f)), (h_aside, .inl (cI, 65, .inl h_aside_f)), (h_past, .inl (cI, 260, .inl h_past_f)), (h_snapshot, .inl (cI, 65, .inl h_snapshot_f)), (h_pad, .inl (cI, 80, .inl h_pad_f)), (h_steps, .inl (cI, 320, .inl h_steps_f)), (h_summed, .inl (cI, 81, .inl h_summed_f)), (h_plus, .inl (cI, 81, .inl h_plus_f)), (h_parts, .inl (cI, 392, .inl f_4))] H → va_D A [(h, .inr (7, [.ref h_s, .ref h_aside, .ref h_past, .int h_pasts, .ref h_snapshot, .int h_isKept, .ref h_pad, .int h_length, .ref h_steps, .int h_many, .int h_value, .ref h_summed, .ref h_plus, .ref h_parts])), (h_s, .inl (cI, 65, .inl h_s_f)), (h_aside, .inl (cI, 65, .inl h_aside_f)), (h_past, .inl (cI, 260, .inl h_past_f)), (h_snapshot, .inl (cI, 65, .inl h_snapshot_f)), (h_pad, .inl (cI, 80, .inl h_pad_f)), (h_steps, .inl (cI, 320, .inl h_steps_f)), (h_summed, .inl (cI, 81, .inl h_summed_f)), (h_plus, .inl (cI, 81, .inl h_plus_f)), (h_parts, .inl (cI, 392, .inl f_4))] → va_S A s.heap H locs → lv_has ls 4 [(1, .int x1_3), (0, .ref h)] → W p l e (headSpec wsX10_laysParts ({ frames := 3, cells := 0, slots := 0, locals := 68 } : Room)).room s m (([.ref h] : List Value).toArray) below meth c H locs 0 0 (MQ below (wQ D none A (fun (u : Unit) => [(h, .inr (7, [.ref h_s, .ref h_aside, .ref h_past, .int h_pasts, .ref h_snapshot, .int h_isKept, .ref h_pad, .int h_length, .ref h_steps, .int h_many, .int h_value, .ref h_summed, .ref h_plus, .ref h_parts])), (h_s, .inl (cI, 65, .inl h_s_f)), (h_aside, .inl (cI, 65, .inl h_aside_f)), (h_past, .inl (cI, 260, .inl h_past_f)), (h_snapshot, .inl (cI, 65, .inl h_snapshot_f)), (h_pad, .inl (cI, 80, .inl h_pad_f)), (h_steps, .inl (cI, 320, .inl h_steps_f)), (h_summed, .inl (cI, 81, .inl h_summed_f)), (h_plus, .inl (cI, 81, .inl h_plus_f)), (h_parts, .inl (cI, 392, .inl z))])) (([.ref h] : List Value).toArray) s 0 0 A) (F0 m 104 ls []) := by
      intro x1_3 f_4 H locs ls h0 hP hD hS hl
      have e0 := Option.some.inj h0
      subst e0
      exact W.vret hx hb hr (fun t ht hW => wr_end () ht hP hD hS) hS.2.2 dX10_laysParts_104
    have L_24_28 : ∀ (F24 : Nat) (x1_6 : Int32) (f_7 : Nat → Int32) (H : Heap) (locs : List Loc) (ls : Array Slot), mX10_laysParts_L24 h_s_f h_pad_f h_length (fun (x1_3 : Int32) (f_4 : Nat → Int32) => some (f_4)) F24 x1_6 f_7 = some z → va_P D vwCl [(h, .inr (7, [.ref h_s, .ref h_aside, .ref h_past, .int h_pasts, .ref h_snapshot, .int h_isKept, .ref h_pad, .int h_length, .ref h_steps, .int h_many, .int h_value, .ref h_summed, .ref h_plus, .ref h_parts])), (h_s, .inl (cI, 65, .inl h_s_f)), (h_aside, .inl (cI, 65, .inl h_aside_f)), (h_past, .inl (cI, 260, .inl h_past_f)), (h_snapshot, .inl (cI, 65, .inl h_snapshot_f)), (h_pad, .inl (cI, 80, .inl h_pad_f)), (h_steps, .inl (cI, 320, .inl h_steps_f)), (h_summed, .inl (cI, 81, .inl h_summed_f)), (h_plus, .inl (cI, 81, .inl h_plus_f)), (h_parts, .inl (cI, 392, .inl f_7))] H → va_D A [(h, .inr (7, [.ref h_s, .ref h_aside, .ref h_past, .int h_pasts, .ref h_snapshot, .int h_isKept, .ref h_pad, .int h_length, .ref h_steps, .int h_many, .int h_value, .ref h_summed, .ref h_plus, .ref h_parts])), (h_s, .inl (cI, 65, .inl h_s_f)), (h_aside, .inl (cI, 65, .inl h_aside_f)), (h_past, .inl (cI, 260, .inl h_past_f)), (h_snapshot, .inl (cI, 65, .inl h_snapshot_f)), (h_pad, .inl (cI, 80, .inl h_pad_f)), (h_steps, .inl (cI, 320, .inl h_steps_f)), (h_summed, .inl (cI, 81, .inl h_summed_f)), (h_plus, .inl (cI, 81, .inl h_plus_f)), (h_parts, .inl (cI, 392, .inl f_7))] → va_S A s.heap H locs → lv_has ls 4 [(1, .int x1_6), (0, .ref h)] → W p l e (headSpec wsX10_laysParts ({ frames := 3, cells := 0, slots := 0, locals := 68 } : Room)).room s m (([.ref h] : List Value).toArray) below meth c H locs 0 0 (MQ below (wQ D none A (fun (u : Unit) => [(h, .inr (7, [.ref h_s, .ref h_aside, .ref h_past, .int h_pasts, .ref h_snapshot, .int h_isKept, .ref h_pad, .int h_length, .ref h_steps, .int h_many, .int h_value, .ref h_summed, .ref h_plus, .ref h_parts])), (h_s, .inl (cI, 65, .inl h_s_f)), (h_aside, .inl (cI, 65, .inl h_aside_f)), (h_past, .inl (cI, 260, .inl h_past_f)), (h_snapshot, .inl (cI, 65, .inl h_snapshot_f)), (h_pad, .inl (cI, 80, .inl h_pad_f)), (h_steps, .inl (cI, 320, .inl h_steps_f)), (h_summed, .inl (cI, 81, .inl h_summed_f)), (h_plus, .inl (cI, 81, .inl h_plus_f)), (h_parts, .inl (cI, 392, .inl z))])) (([.ref h] : List Value).toArray) s 0 0 A) (F0 m 24 ls []) := by
      intro F24
      induction F24 with
      | zero => intro x1_6 f_7 H locs ls h0 hP hD hS hl; cases h0
      | succ F24 ih24 =>
        intro x1_6 f_7 H locs ls h0 hP hD hS hl
        rw [mX10_laysParts_L24] at h0
        refine lv_iload_n hx hb dX10_laysParts_24 rfl (lv_at hl 0 rfl) ?_
        refine lv_aload_n hx hb dX10_laysParts_25 rfl (lv_at hl 1 rfl) ?_
        refine va_get (D := D) (ci := 7) (v := .int h_length) (C := RX10) (T := TX10) (N := 14) hx hb hts hi_X10 hown hK hP 0 rfl rfl 7 (by decide) hf_111 (fun _ h9 => h9) rfl dX10_laysParts_26 ?_
        refine lv_icmp_ge (tgt := 104) hx hb dX10_laysParts_29 (by decide) (fun c9 => ?_) (fun c9 => ?_)
        · have h0 := it_t c9 h0
          exact E_24_104_4 x1_6 f_7 _ _ ls h0 hP hD hS hl
        · have h0 := it_f c9 h0
          refine lv_iconst (v := 0) hx hb dX10_laysParts_32 (by decide) ?_
          refine lv_istore_n (lv' := [(2, .int 0), (1, .int x1_6), (0, .ref h)]) hx hb dX10_laysParts_33 rfl hl (by decide) rfl (fun ls hl => ?_)
          have E_34_98_9 : ∀ (x2_8 : Int32) (f_9 : Nat → Int32) (H : Heap) (locs : List Loc) (ls : Array Slot), (mX10_laysParts_L24 h_s_f h_pad_f h_length (fun (x1_3 : Int32) (f_4 : Nat → Int32) => some (f_4)) F24 (x1_6 + 1) f_9) = some z → va_P D vwCl [(h, .inr (7, [.ref h_s, .ref h_aside, .ref h_past, .int h_pasts, .ref h_snapshot, .int h_isKept, .ref h_pad, .int h_length, .ref h_steps, .int h_many, .int h_value, .ref h_summed, .ref h_plus, .ref h_parts])), (h_s, .inl (cI, 65, .inl h_s_f)), (h_aside, .inl (cI, 65, .inl h_aside_f)), (h_past, .inl (cI, 260, .inl h_past_f)), (h_snapshot, .inl (cI, 65, .inl h_snapshot_f)), (h_pad, .inl (cI, 80, .inl h_pad_f)), (h_steps, .inl (cI, 320, .inl h_steps_f)), (h_summed, .inl (cI, 81, .inl h_summed_f)), (h_plus, .inl (cI, 81, .inl h_plus_f)), (h_parts, .inl (cI, 392, .inl f_9))] H → va_D A [(h, .inr (7, [.ref h_s, .ref h_aside, .ref h_past, .int h_pasts, .ref h_snapshot, .int h_isKept, .ref h_pad, .int h_length, .ref h_steps, .int h_many, .int h_value, .ref h_summed, .ref h_plus, .ref h_parts])), (h_s, .inl (cI, 65, .inl h_s_f)), (h_aside, .inl (cI, 65, .inl h_aside_f)), (h_past, .inl (cI, 260, .inl h_past_f)), (h_snapshot, .inl (cI, 65, .inl h_snapshot_f)), (h_pad, .inl (cI, 80, .inl h_pad_f)), (h_steps, .inl (cI, 320, .inl h_steps_f)), (h_summed, .inl (cI, 81, .inl h_summed_f)), (h_plus, .inl (cI, 81, .inl h_plus_f)), (h_parts, .inl (cI, 392, .inl f_9))] → va_S A s.heap H locs → lv_has ls 4 [(2, .int x2_8), (1, .int x1_6), (0, .ref h)] → W p l e (headSpec wsX10_laysParts ({ frames := 3, cells := 0, slots := 0, locals := 68 } : Room)).room s m (([.ref h] : List Value).toArray) below meth c H locs 0 0 (MQ below (wQ D none A (fun (u : Unit) => [(h, .inr (7, [.ref h_s, .ref h_aside, .ref h_past, .int h_pasts, .ref h_snapshot, .int h_isKept, .ref h_pad, .int h_length, .ref h_steps, .int h_many, .int h_value, .ref h_summed, .ref h_plus, .ref h_parts])), (h_s, .inl (cI, 65, .inl h_s_f)), (h_aside, .inl (cI, 65, .inl h_aside_f)), (h_past, .inl (cI, 260, .inl h_past_f)), (h_snapshot, .inl (cI, 65, .inl h_snapshot_f)), (h_pad, .inl (cI, 80, .inl h_pad_f)), (h_steps, .inl (cI, 320, .inl h_steps_f)), (h_summed, .inl (cI, 81, .inl h_summed_f)), (h_plus, .inl (cI, 81, .inl h_plus_f)), (h_parts, .inl (cI, 392, .inl z))])) (([.ref h] : List Value).toArray) s 0 0 A) (F0 m 98 ls []) := by
            intro x2_8 f_9 H locs ls h0 hP hD hS hl
            refine lv_iinc (v := (x1_6 + 1)) (lv' := [(1, .int (x1_6 + 1)), (2, .int x2_8), (0, .ref h)]) hx hb dX10_laysParts_98 hl (k := 1) rfl rfl (by decide) rfl (fun ls hl => ?_)
            refine lv_goto (tgt := 24) hx hb dX10_laysParts_101 (by decide) ?_
            exact ih24 (x1_6 + 1) f_9 _ _ ls h0 hP hD hS (lv_sub hl [0, 2] rfl)
          have L_34_27 : ∀ (F34 : Nat) (x2_11 : Int32) (f_12 : Nat → Int32) (H : Heap) (locs : List Loc) (ls : Array Slot), mX10_laysParts_L34 h_s_f h_pad_f h_length x1_6 (fun (x2_8 : Int32) (f_9 : Nat → Int32) => mX10_laysParts_L24 h_s_f h_pad_f h_length (fun (x1_3 : Int32) (f_4 : Nat → Int32) => some (f_4)) F24 (x1_6 + 1) f_9) F34 x2_11 f_12 = some z → va_P D vwCl [(h, .inr (7, [.ref h_s, .ref h_aside, .ref h_past, .int h_pasts, .ref h_snapshot, .int h_isKept, .ref h_pad, .int h_length, .ref h_steps, .int h_many, .int h_value, .ref h_summed, .ref h_plus, .ref h_parts])), (h_s, .inl (cI, 65, .inl h_s_f)), (h_aside, .inl (cI, 65, .inl h_aside_f)), (h_past, .inl (cI, 260, .inl h_past_f)), (h_snapshot, .inl (cI, 65, .inl h_snapshot_f)), (h_pad, .inl (cI, 80, .inl h_pad_f)), (h_steps, .inl (cI, 320, .inl h_steps_f)), (h_summed, .inl (cI, 81, .inl h_summed_f)), (h_plus, .inl (cI, 81, .inl h_plus_f)), (h_parts, .inl (cI, 392, .inl f_12))] H → va_D A [(h, .inr (7, [.ref h_s, .ref h_aside, .ref h_past, .int h_pasts, .ref h_snapshot, .int h_isKept, .ref h_pad, .int h_length, .ref h_steps, .int h_many, .int h_value, .ref h_summed, .ref h_plus, .ref h_parts])), (h_s, .inl (cI, 65, .inl h_s_f)), (h_aside, .inl (cI, 65, .inl h_aside_f)), (h_past, .inl (cI, 260, .inl h_past_f)), (h_snapshot, .inl (cI, 65, .inl h_snapshot_f)), (h_pad, .inl (cI, 80, .inl h_pad_f)), (h_steps, .inl (cI, 320, .inl h_steps_f)), (h_summed, .inl (cI, 81, .inl h_summed_f)), (h_plus, .inl (cI, 81, .inl h_plus_f)), (h_parts, .inl (cI, 392, .inl f_12))] → va_S A s.heap H locs → lv_has ls 4 [(2, .int x2_11), (1, .int x1_6), (0, .ref h)] → W p l e (headSpec wsX10_laysParts ({ frames := 3, cells := 0, slots := 0, locals := 68 } : Room)).room s m (([.ref h] : List Value).toArray) below meth c H locs 0 0 (MQ below (wQ D none A (fun (u : Unit) => [(h, .inr (7, [.ref h_s, .ref h_aside, .ref h_past, .int h_pasts, .ref h_snapshot, .int h_isKept, .ref h_pad, .int h_length, .ref h_steps, .int h_many, .int h_value, .ref h_summed, .ref h_plus, .ref h_parts])), (h_s, .inl (cI, 65, .inl h_s_f)), (h_aside, .inl (cI, 65, .inl h_aside_f)), (h_past, .inl (cI, 260, .inl h_past_f)), (h_snapshot, .inl (cI, 65, .inl h_snapshot_f)), (h_pad, .inl (cI, 80, .inl h_pad_f)), (h_steps, .inl (cI, 320, .inl h_steps_f)), (h_summed, .inl (cI, 81, .inl h_summed_f)), (h_plus, .inl (cI, 81, .inl h_plus_f)), (h_parts, .inl (cI, 392, .inl z))])) (([.ref h] : List Value).toArray) s 0 0 A) (F0 m 34 ls []) := by
            intro F34
            induction F34 with
            | zero => intro x2_11 f_12 H locs ls h0 hP hD hS hl; cases h0
            | succ F34 ih34 =>
              intro x2_11 f_12 H locs ls h0 hP hD hS hl
              rw [mX10_laysParts_L34] at h0
              refine lv_iload_n hx hb dX10_laysParts_34 rfl (lv_at hl 0 rfl) ?_
              refine lv_iload_n hx hb dX10_laysParts_35 rfl (lv_at hl 1 rfl) ?_
              refine lv_iadd hx hb dX10_laysParts_36 ?_
              refine lv_aload_n hx hb dX10_laysParts_37 rfl (lv_at hl 2 rfl) ?_
              refine va_get (D := D) (ci := 7) (v := .int h_length) (C := RX10) (T := TX10) (N := 14) hx hb hts hi_X10 hown hK hP 0 rfl rfl 7 (by decide) hf_111 (fun _ h9 => h9) rfl dX10_laysParts_38 ?_
              refine lv_icmp_ge (tgt := 98) hx hb dX10_laysParts_41 (by decide) (fun c9 => ?_) (fun c9 => ?_)
              · have h0 := it_t c9 h0
                exact E_34_98_9 x2_11 f_12 _ _ ls h0 hP hD hS hl
              · have h0 := it_f c9 h0
                refine lv_iload_n hx hb dX10_laysParts_44 rfl (lv_at hl 1 rfl) ?_
                refine lv_if_ne (tgt := 68) hx hb dX10_laysParts_45 (by decide) (fun c9 => ?_) (fun c9 => ?_)
                · have h0 := it_f c9 h0
                  refine lv_iload_n hx hb dX10_laysParts_68 rfl (lv_at hl 0 rfl) ?_
                  refine lv_istore_n (lv' := [(3, .int x2_11), (2, .int x2_11), (1, .int x1_6), (0, .ref h)]) hx hb dX10_laysParts_69 rfl hl (by decide) rfl (fun ls hl => ?_)
                  have E_70_92_14 : ∀ (x3_13 : Int32) (f_14 : Nat → Int32) (H : Heap) (locs : List Loc) (ls : Array Slot), (mX10_laysParts_L34 h_s_f h_pad_f h_length x1_6 (fun (x2_8 : Int32) (f_9 : Nat → Int32) => mX10_laysParts_L24 h_s_f h_pad_f h_length (fun (x1_3 : Int32) (f_4 : Nat → Int32) => some (f_4)) F24 (x1_6 + 1) f_9) F34 (x2_11 + 1) f_14) = some z → va_P D vwCl [(h, .inr (7, [.ref h_s, .ref h_aside, .ref h_past, .int h_pasts, .ref h_snapshot, .int h_isKept, .ref h_pad, .int h_length, .ref h_steps, .int h_many, .int h_value, .ref h_summed, .ref h_plus, .ref h_parts])), (h_s, .inl (cI, 65, .inl h_s_f)), (h_aside, .inl (cI, 65, .inl h_aside_f)), (h_past, .inl (cI, 260, .inl h_past_f)), (h_snapshot, .inl (cI, 65, .inl h_snapshot_f)), (h_pad, .inl (cI, 80, .inl h_pad_f)), (h_steps, .inl (cI, 320, .inl h_steps_f)), (h_summed, .inl (cI, 81, .inl h_summed_f)), (h_plus, .inl (cI, 81, .inl h_plus_f)), (h_parts, .inl (cI, 392, .inl f_14))] H → va_D A [(h, .inr (7, [.ref h_s, .ref h_aside, .ref h_past, .int h_pasts, .ref h_snapshot, .int h_isKept, .ref h_pad, .int h_length, .ref h_steps, .int h_many, .int h_value, .ref h_summed, .ref h_plus, .ref h_parts])), (h_s, .inl (cI, 65, .inl h_s_f)), (h_aside, .inl (cI, 65, .inl h_aside_f)), (h_past, .inl (cI, 260, .inl h_past_f)), (h_snapshot, .inl (cI, 65, .inl h_snapshot_f)), (h_pad, .inl (cI, 80, .inl h_pad_f)), (h_steps, .inl (cI, 320, .inl h_steps_f)), (h_summed, .inl (cI, 81, .inl h_summed_f)), (h_plus, .inl (cI, 81, .inl h_plus_f)), (h_parts, .inl (cI, 392, .inl f_14))] → va_S A s.heap H locs → lv_has ls 4 [(3, .int x3_13), (2, .int x2_11), (1, .int x1_6), (0, .ref h)] → W p l e (headSpec wsX10_laysParts ({ frames := 3, cells := 0, slots := 0, locals := 68 } : Room)).room s m (([.ref h] : List Value).toArray) below meth c H locs 0 0 (MQ below (wQ D none A (fun (u : Unit) => [(h, .inr (7, [.ref h_s, .ref h_aside, .ref h_past, .int h_pasts, .ref h_snapshot, .int h_isKept, .ref h_pad, .int h_length, .ref h_steps, .int h_many, .int h_value, .ref h_summed, .ref h_plus, .ref h_parts])), (h_s, .inl (cI, 65, .inl h_s_f)), (h_aside, .inl (cI, 65, .inl h_aside_f)), (h_past, .inl (cI, 260, .inl h_past_f)), (h_snapshot, .inl (cI, 65, .inl h_snapshot_f)), (h_pad, .inl (cI, 80, .inl h_pad_f)), (h_steps, .inl (cI, 320, .inl h_steps_f)), (h_summed, .inl (cI, 81, .inl h_summed_f)), (h_plus, .inl (cI, 81, .inl h_plus_f)), (h_parts, .inl (cI, 392, .inl z))])) (([.ref h] : List Value).toArray) s 0 0 A) (F0 m 92 ls []) := by
                    intro x3_13 f_14 H locs ls h0 hP hD hS hl
                    refine lv_iinc (v := (x2_11 + 1)) (lv' := [(2, .int (x2_11 + 1)), (3, .int x3_13), (1, .int x1_6), (0, .ref h)]) hx hb dX10_laysParts_92 hl (k := 1) rfl rfl (by decide) rfl (fun ls hl => ?_)
                    refine lv_goto (tgt := 34) hx hb dX10_laysParts_95 (by decide) ?_
                    exact ih34 (x2_11 + 1) f_14 _ _ ls h0 hP hD hS (lv_sub hl [0, 2, 3] rfl)
                  have L_70_18 : ∀ (F70 : Nat) (x3_16 : Int32) (f_17 : Nat → Int32) (H : Heap) (locs : List Loc) (ls : Array Slot), mX10_laysParts_L70 h_s_f x1_6 x2_11 (fun (x3_13 : Int32) (f_14 : Nat → Int32) => mX10_laysParts_L34 h_s_f h_pad_f h_length x1_6 (fun (x2_8 : Int32) (f_9 : Nat → Int32) => mX10_laysParts_L24 h_s_f h_pad_f h_length (fun (x1_3 : Int32) (f_4 : Nat → Int32) => some (f_4)) F24 (x1_6 + 1) f_9) F34 (x2_11 + 1) f_14) F70 x3_16 f_17 = some z → va_P D vwCl [(h, .inr (7, [.ref h_s, .ref h_aside, .ref h_past, .int h_pasts, .ref h_snapshot, .int h_isKept, .ref h_pad, .int h_length, .ref h_steps, .int h_many, .int h_value, .ref h_summed, .ref h_plus, .ref h_parts])), (h_s, .inl (cI, 65, .inl h_s_f)), (h_aside, .inl (cI, 65, .inl h_aside_f)), (h_past, .inl (cI, 260, .inl h_past_f)), (h_snapshot, .inl (cI, 65, .inl h_snapshot_f)), (h_pad, .inl (cI, 80, .inl h_pad_f)), (h_steps, .inl (cI, 320, .inl h_steps_f)), (h_summed, .inl (cI, 81, .inl h_summed_f)), (h_plus, .inl (cI, 81, .inl h_plus_f)), (h_parts, .inl (cI, 392, .inl f_17))] H → va_D A [(h, .inr (7, [.ref h_s, .ref h_aside, .ref h_past, .int h_pasts, .ref h_snapshot, .int h_isKept, .ref h_pad, .int h_length, .ref h_steps, .int h_many, .int h_value, .ref h_summed, .ref h_plus, .ref h_parts])), (h_s, .inl (cI, 65, .inl h_s_f)), (h_aside, .inl (cI, 65, .inl h_aside_f)), (h_past, .inl (cI, 260, .inl h_past_f)), (h_snapshot, .inl (cI, 65, .inl h_snapshot_f)), (h_pad, .inl (cI, 80, .inl h_pad_f)), (h_steps, .inl (cI, 320, .inl h_steps_f)), (h_summed, .inl (cI, 81, .inl h_summed_f)), (h_plus, .inl (cI, 81, .inl h_plus_f)), (h_parts, .inl (cI, 392, .inl f_17))] → va_S A s.heap H locs → lv_has ls 4 [(3, .int x3_16), (2, .int x2_11), (1, .int x1_6), (0, .ref h)] → W p l e (headSpec wsX10_laysParts ({ frames := 3, cells := 0, slots := 0, locals := 68 } : Room)).room s m (([.ref h] : List Value).toArray) below meth c H locs 0 0 (MQ below (wQ D none A (fun (u : Unit) => [(h, .inr (7, [.ref h_s, .ref h_aside, .ref h_past, .int h_pasts, .ref h_snapshot, .int h_isKept, .ref h_pad, .int h_length, .ref h_steps, .int h_many, .int h_value, .ref h_summed, .ref h_plus, .ref h_parts])), (h_s, .inl (cI, 65, .inl h_s_f)), (h_aside, .inl (cI, 65, .inl h_aside_f)), (h_past, .inl (cI, 260, .inl h_past_f)), (h_snapshot, .inl (cI, 65, .inl h_snapshot_f)), (h_pad, .inl (cI, 80, .inl h_pad_f)), (h_steps, .inl (cI, 320, .inl h_steps_f)), (h_summed, .inl (cI, 81, .inl h_summed_f)), (h_plus, .inl (cI, 81, .inl h_plus_f)), (h_parts, .inl (cI, 392, .inl z))])) (([.ref h] : List Value).toArray) s 0 0 A) (F0 m 70 ls []) := by
                    intro F70
                    induction F70 with
                    | zero => intro x3_16 f_17 H locs ls h0 hP hD hS hl; cases h0
                    | succ F70 ih70 =>
                      intro x3_16 f_17 H locs ls h0 hP hD hS hl
                      rw [mX10_laysParts_L70] at h0
                      refine lv_iload_n hx hb dX10_laysParts_70 rfl (lv_at hl 0 rfl) ?_
                      refine lv_iload_n hx hb dX10_laysParts_71 rfl (lv_at hl 1 rfl) ?_
                      refine lv_iload_n hx hb dX10_laysParts_72 rfl (lv_at hl 2 rfl) ?_
                      refine lv_iadd hx hb dX10_laysParts_73 ?_
                      refine lv_icmp_ge (tgt := 92) hx hb dX10_laysParts_74 (by decide) (fun c9 => ?_) (fun c9 => ?_)
                      · have h0 := it_t c9 h0
                        exact E_70_92_14 x3_16 f_17 _ _ ls h0 hP hD hS hl
                      · have h0 := it_f c9 h0
                        refine lv_aload_n hx hb dX10_laysParts_77 rfl (lv_at hl 3 rfl) ?_
                        refine lv_iload_n hx hb dX10_laysParts_78 rfl (lv_at hl 1 rfl) ?_
                        refine lv_iload_n hx hb dX10_laysParts_79 rfl (lv_at hl 0 rfl) ?_
                        refine lv_iload_n hx hb dX10_laysParts_80 rfl (lv_at hl 1 rfl) ?_
                        refine lv_iload_n hx hb dX10_laysParts_81 rfl (lv_at hl 2 rfl) ?_
                        refine lv_iadd hx hb dX10_laysParts_82 ?_
                        obtain ⟨z_18, hz, h0⟩ := bd_ok h0
                        refine wr_V (As := [.int x2_11, .int x3_16, .int (x2_11 + x1_6)]) (rest := []) (wc := [(h, .inr (7, [.ref h_s, .ref h_aside, .ref h_past, .int h_pasts, .ref h_snapshot, .int h_isKept, .ref h_pad, .int h_length, .ref h_steps, .int h_many, .int h_value, .ref h_summed, .ref h_plus, .ref h_parts])), (h_s, .inl (cI, 65, .inl h_s_f)), (h_aside, .inl (cI, 65, .inl h_aside_f)), (h_past, .inl (cI, 260, .inl h_past_f)), (h_snapshot, .inl (cI, 65, .inl h_snapshot_f)), (h_pad, .inl (cI, 80, .inl h_pad_f)), (h_steps, .inl (cI, 320, .inl h_steps_f)), (h_summed, .inl (cI, 81, .inl h_summed_f)), (h_plus, .inl (cI, 81, .inl h_plus_f)), (h_parts, .inl (cI, 392, .inl f_17))]) (wr := []) hcf (kX10_adds l D cI cC cT h h_s h_aside h_past h_snapshot h_pad h_steps h_summed h_plus h_parts h_s_f h_aside_f h_past_f h_pasts h_snapshot_f h_isKept h_pad_f h_length h_steps_f h_many h_value h_summed_f h_plus_f f_17 x2_11 x3_16 (x2_11 + x1_6) _ z_18 hz) (cwV 3 hts gX10_laysParts_X10_adds rfl rfl rfl (by decide +kernel) ⟨Nat.le_of_ble_eq_true rfl, Nat.le_of_ble_eq_true rfl⟩) hE hP hD hS hA [0, 1, 2, 3, 4, 5, 6, 7, 8, 9] [] (hP.sub [0, 1, 2, 3, 4, 5, 6, 7, 8, 9] rfl) (hD.sub [0, 1, 2, 3, 4, 5, 6, 7, 8, 9] (by decide) rfl) (va_recv hK hP (ci := 7) (q0 := 0) rfl rfl) rfl rfl (by decide) (by decide) rfl hl.1 rfl (Nat.le_of_ble_eq_true rfl) dX10_laysParts_83 ⟨Nat.le_of_ble_eq_true rfl, Nat.le_of_ble_eq_true rfl⟩ (fun u H locs hP hD hS => ?_)
                        have hP : va_P D vwCl [(h, .inr (7, [.ref h_s, .ref h_aside, .ref h_past, .int h_pasts, .ref h_snapshot, .int h_isKept, .ref h_pad, .int h_length, .ref h_steps, .int h_many, .int h_value, .ref h_summed, .ref h_plus, .ref h_parts])), (h_s, .inl (cI, 65, .inl h_s_f)), (h_aside, .inl (cI, 65, .inl h_aside_f)), (h_past, .inl (cI, 260, .inl h_past_f)), (h_snapshot, .inl (cI, 65, .inl h_snapshot_f)), (h_pad, .inl (cI, 80, .inl h_pad_f)), (h_steps, .inl (cI, 320, .inl h_steps_f)), (h_summed, .inl (cI, 81, .inl h_summed_f)), (h_plus, .inl (cI, 81, .inl h_plus_f)), (h_parts, .inl (cI, 392, .inl z_18))] H := hP
                        have hD : va_D A [(h, .inr (7, [.ref h_s, .ref h_aside, .ref h_past, .int h_pasts, .ref h_snapshot, .int h_isKept, .ref h_pad, .int h_length, .ref h_steps, .int h_many, .int h_value, .ref h_summed, .ref h_plus, .ref h_parts])), (h_s, .inl (cI, 65, .inl h_s_f)), (h_aside, .inl (cI, 65, .inl h_aside_f)), (h_past, .inl (cI, 260, .inl h_past_f)), (h_snapshot, .inl (cI, 65, .inl h_snapshot_f)), (h_pad, .inl (cI, 80, .inl h_pad_f)), (h_steps, .inl (cI, 320, .inl h_steps_f)), (h_summed, .inl (cI, 81, .inl h_summed_f)), (h_plus, .inl (cI, 81, .inl h_plus_f)), (h_parts, .inl (cI, 392, .inl z_18))] := hD
                        refine W.eq (g2 := F0 m 86 ls []) rfl ?_
                        refine lv_iinc (v := (x3_16 + 1)) (lv' := [(3, .int (x3_16 + 1)), (2, .int x2_11), (1, .int x1_6), (0, .ref h)]) hx hb dX10_laysParts_86 hl (k := 0) rfl rfl (by decide) rfl (fun ls hl => ?_)
                        refine lv_goto (tgt := 70) hx hb dX10_laysParts_89 (by decide) ?_
                        exact ih70 (x3_16 + 1) z_18 _ _ ls h0 hP hD hS hl
                  exact L_70_18 FU x2_11 f_12 _ _ ls h0 hP hD hS hl
                · have h0 := it_t c9 h0
                  refine lv_aload_n hx hb dX10_laysParts_48 rfl (lv_at hl 2 rfl) ?_
                  refine va_get (D := D) (ci := 7) (v := .ref h_parts) (C := RX10) (T := TX10) (N := 14) hx hb hts hi_X10 hown hK hP 0 rfl rfl 13 (by decide) hf_34 (fun _ h9 => h9) rfl dX10_laysParts_49 ?_
                  refine lv_iload_n hx hb dX10_laysParts_52 rfl (lv_at hl 0 rfl) ?_
                  refine lv_iload_n hx hb dX10_laysParts_53 rfl (lv_at hl 0 rfl) ?_
                  refine lv_aload_n hx hb dX10_laysParts_54 rfl (lv_at hl 2 rfl) ?_
                  refine va_get (D := D) (ci := 7) (v := .ref h_pad) (C := RX10) (T := TX10) (N := 14) hx hb hts hi_X10 hown hK hP 0 rfl rfl 6 (by decide) hf_22 (fun _ h9 => h9) rfl dX10_laysParts_55 ?_
                  refine lv_iload_n hx hb dX10_laysParts_58 rfl (lv_at hl 0 rfl) ?_
                  obtain ⟨g0, h0⟩ := gd_ok h0
                  refine va_iald hx hb hK hP 5 0 rfl rfl (inb_ok g0) dX10_laysParts_59 ?_
                  refine lv_bipush (v := 48) hx hb dX10_laysParts_60 (by decide) ?_
                  refine lv_isub hx hb dX10_laysParts_62 ?_
                  obtain ⟨z_20, hz, h0⟩ := bd_ok h0
                  refine ro_S (As := [.int x2_11, .int x2_11, .int ((h_pad_f (x2_11 : Int32).toNatClampNeg) - 48)]) (rest := [.ref h_parts]) (wc := []) hcf (kX10_part l D cI cC cT x2_11 x2_11 ((h_pad_f (x2_11 : Int32).toNatClampNeg) - 48) z_20 hz) (va_cwS 3 hts gX10_laysParts_X10_part rfl rfl rfl (by decide +kernel) ⟨Nat.le_of_ble_eq_true rfl, Nat.le_of_ble_eq_true rfl⟩) hE (hP.sub [] rfl) rfl hl.1 rfl (Nat.le_of_ble_eq_true rfl) dX10_laysParts_63 ⟨Nat.le_of_ble_eq_true rfl, Nat.le_of_ble_eq_true rfl⟩ ?_
                  refine W.eq (g2 := F0 m 66 ls [.int z_20, .ref h_parts]) rfl ?_
                  refine lv_iconst (v := 1) hx hb dX10_laysParts_66 (by decide) ?_
                  obtain ⟨g0, h0⟩ := gd_ok h0
                  refine va_iast hx hb hK hP hD hS 9 0 rfl rfl (inb_ok g0) dX10_laysParts_67 (fun H locs hP hD hS => ?_)
                  have hP : va_P D vwCl [(h, .inr (7, [.ref h_s, .ref h_aside, .ref h_past, .int h_pasts, .ref h_snapshot, .int h_isKept, .ref h_pad, .int h_length, .ref h_steps, .int h_many, .int h_value, .ref h_summed, .ref h_plus, .ref h_parts])), (h_s, .inl (cI, 65, .inl h_s_f)), (h_aside, .inl (cI, 65, .inl h_aside_f)), (h_past, .inl (cI, 260, .inl h_past_f)), (h_snapshot, .inl (cI, 65, .inl h_snapshot_f)), (h_pad, .inl (cI, 80, .inl h_pad_f)), (h_steps, .inl (cI, 320, .inl h_steps_f)), (h_summed, .inl (cI, 81, .inl h_summed_f)), (h_plus, .inl (cI, 81, .inl h_plus_f)), (h_parts, .inl (cI, 392, .inl (upd f_12 (z_20 : Int32).toNatClampNeg 1)))] H := hP
                  have hD : va_D A [(h, .inr (7, [.ref h_s, .ref h_aside, .ref h_past, .int h_pasts, .ref h_snapshot, .int h_isKept, .ref h_pad, .int h_length, .ref h_steps, .int h_many, .int h_value, .ref h_summed, .ref h_plus, .ref h_parts])), (h_s, .inl (cI, 65, .inl h_s_f)), (h_aside, .inl (cI, 65, .inl h_aside_f)), (h_past, .inl (cI, 260, .inl h_past_f)), (h_snapshot, .inl (cI, 65, .inl h_snapshot_f)), (h_pad, .inl (cI, 80, .inl h_pad_f)), (h_steps, .inl (cI, 320, .inl h_steps_f)), (h_summed, .inl (cI, 81, .inl h_summed_f)), (h_plus, .inl (cI, 81, .inl h_plus_f)), (h_parts, .inl (cI, 392, .inl (upd f_12 (z_20 : Int32).toNatClampNeg 1)))] := hD
                  refine lv_iload_n hx hb dX10_laysParts_68 rfl (lv_at hl 0 rfl) ?_
                  refine lv_istore_n (lv' := [(3, .int x2_11), (2, .int x2_11), (1, .int x1_6), (0, .ref h)]) hx hb dX10_laysParts_69 rfl hl (by decide) rfl (fun ls hl => ?_)
                  have E_70_92_22 : ∀ (x3_21 : Int32) (f_22 : Nat → Int32) (H : Heap) (locs : List Loc) (ls : Array Slot), (mX10_laysParts_L34 h_s_f h_pad_f h_length x1_6 (fun (x2_8 : Int32) (f_9 : Nat → Int32) => mX10_laysParts_L24 h_s_f h_pad_f h_length (fun (x1_3 : Int32) (f_4 : Nat → Int32) => some (f_4)) F24 (x1_6 + 1) f_9) F34 (x2_11 + 1) f_22) = some z → va_P D vwCl [(h, .inr (7, [.ref h_s, .ref h_aside, .ref h_past, .int h_pasts, .ref h_snapshot, .int h_isKept, .ref h_pad, .int h_length, .ref h_steps, .int h_many, .int h_value, .ref h_summed, .ref h_plus, .ref h_parts])), (h_s, .inl (cI, 65, .inl h_s_f)), (h_aside, .inl (cI, 65, .inl h_aside_f)), (h_past, .inl (cI, 260, .inl h_past_f)), (h_snapshot, .inl (cI, 65, .inl h_snapshot_f)), (h_pad, .inl (cI, 80, .inl h_pad_f)), (h_steps, .inl (cI, 320, .inl h_steps_f)), (h_summed, .inl (cI, 81, .inl h_summed_f)), (h_plus, .inl (cI, 81, .inl h_plus_f)), (h_parts, .inl (cI, 392, .inl f_22))] H → va_D A [(h, .inr (7, [.ref h_s, .ref h_aside, .ref h_past, .int h_pasts, .ref h_snapshot, .int h_isKept, .ref h_pad, .int h_length, .ref h_steps, .int h_many, .int h_value, .ref h_summed, .ref h_plus, .ref h_parts])), (h_s, .inl (cI, 65, .inl h_s_f)), (h_aside, .inl (cI, 65, .inl h_aside_f)), (h_past, .inl (cI, 260, .inl h_past_f)), (h_snapshot, .inl (cI, 65, .inl h_snapshot_f)), (h_pad, .inl (cI, 80, .inl h_pad_f)), (h_steps, .inl (cI, 320, .inl h_steps_f)), (h_summed, .inl (cI, 81, .inl h_summed_f)), (h_plus, .inl (cI, 81, .inl h_plus_f)), (h_parts, .inl (cI, 392, .inl f_22))] → va_S A s.heap H locs → lv_has ls 4 [(3, .int x3_21), (2, .int x2_11), (1, .int x1_6), (0, .ref h)] → W p l e (headSpec wsX10_laysParts ({ frames := 3, cells := 0, slots := 0, locals := 68 } : Room)).room s m (([.ref h] : List Value).toArray) below meth c H locs 0 0 (MQ below (wQ D none A (fun (u : Unit) => [(h, .inr (7, [.ref h_s, .ref h_aside, .ref h_past, .int h_pasts, .ref h_snapshot, .int h_isKept, .ref h_pad, .int h_length, .ref h_steps, .int h_many, .int h_value, .ref h_summed, .ref h_plus, .ref h_parts])), (h_s, .inl (cI, 65, .inl h_s_f)), (h_aside, .inl (cI, 65, .inl h_aside_f)), (h_past, .inl (cI, 260, .inl h_past_f)), (h_snapshot, .inl (cI, 65, .inl h_snapshot_f)), (h_pad, .inl (cI, 80, .inl h_pad_f)), (h_steps, .inl (cI, 320, .inl h_steps_f)), (h_summed, .inl (cI, 81, .inl h_summed_f)), (h_plus, .inl (cI, 81, .inl h_plus_f)), (h_parts, .inl (cI, 392, .inl z))])) (([.ref h] : List Value).toArray) s 0 0 A) (F0 m 92 ls []) := by
                    intro x3_21 f_22 H locs ls h0 hP hD hS hl
                    refine lv_iinc (v := (x2_11 + 1)) (lv' := [(2, .int (x2_11 + 1)), (3, .int x3_21), (1, .int x1_6), (0, .ref h)]) hx hb dX10_laysParts_92 hl (k := 1) rfl rfl (by decide) rfl (fun ls hl => ?_)
                    refine lv_goto (tgt := 34) hx hb dX10_laysParts_95 (by decide) ?_
                    exact ih34 (x2_11 + 1) f_22 _ _ ls h0 hP hD hS (lv_sub hl [0, 2, 3] rfl)
                  have L_70_26 : ∀ (F70 : Nat) (x3_24 : Int32) (f_25 : Nat → Int32) (H : Heap) (locs : List Loc) (ls : Array Slot), mX10_laysParts_L70 h_s_f x1_6 x2_11 (fun (x3_21 : Int32) (f_22 : Nat → Int32) => mX10_laysParts_L34 h_s_f h_pad_f h_length x1_6 (fun (x2_8 : Int32) (f_9 : Nat → Int32) => mX10_laysParts_L24 h_s_f h_pad_f h_length (fun (x1_3 : Int32) (f_4 : Nat → Int32) => some (f_4)) F24 (x1_6 + 1) f_9) F34 (x2_11 + 1) f_22) F70 x3_24 f_25 = some z → va_P D vwCl [(h, .inr (7, [.ref h_s, .ref h_aside, .ref h_past, .int h_pasts, .ref h_snapshot, .int h_isKept, .ref h_pad, .int h_length, .ref h_steps, .int h_many, .int h_value, .ref h_summed, .ref h_plus, .ref h_parts])), (h_s, .inl (cI, 65, .inl h_s_f)), (h_aside, .inl (cI, 65, .inl h_aside_f)), (h_past, .inl (cI, 260, .inl h_past_f)), (h_snapshot, .inl (cI, 65, .inl h_snapshot_f)), (h_pad, .inl (cI, 80, .inl h_pad_f)), (h_steps, .inl (cI, 320, .inl h_steps_f)), (h_summed, .inl (cI, 81, .inl h_summed_f)), (h_plus, .inl (cI, 81, .inl h_plus_f)), (h_parts, .inl (cI, 392, .inl f_25))] H → va_D A [(h, .inr (7, [.ref h_s, .ref h_aside, .ref h_past, .int h_pasts, .ref h_snapshot, .int h_isKept, .ref h_pad, .int h_length, .ref h_steps, .int h_many, .int h_value, .ref h_summed, .ref h_plus, .ref h_parts])), (h_s, .inl (cI, 65, .inl h_s_f)), (h_aside, .inl (cI, 65, .inl h_aside_f)), (h_past, .inl (cI, 260, .inl h_past_f)), (h_snapshot, .inl (cI, 65, .inl h_snapshot_f)), (h_pad, .inl (cI, 80, .inl h_pad_f)), (h_steps, .inl (cI, 320, .inl h_steps_f)), (h_summed, .inl (cI, 81, .inl h_summed_f)), (h_plus, .inl (cI, 81, .inl h_plus_f)), (h_parts, .inl (cI, 392, .inl f_25))] → va_S A s.heap H locs → lv_has ls 4 [(3, .int x3_24), (2, .int x2_11), (1, .int x1_6), (0, .ref h)] → W p l e (headSpec wsX10_laysParts ({ frames := 3, cells := 0, slots := 0, locals := 68 } : Room)).room s m (([.ref h] : List Value).toArray) below meth c H locs 0 0 (MQ below (wQ D none A (fun (u : Unit) => [(h, .inr (7, [.ref h_s, .ref h_aside, .ref h_past, .int h_pasts, .ref h_snapshot, .int h_isKept, .ref h_pad, .int h_length, .ref h_steps, .int h_many, .int h_value, .ref h_summed, .ref h_plus, .ref h_parts])), (h_s, .inl (cI, 65, .inl h_s_f)), (h_aside, .inl (cI, 65, .inl h_aside_f)), (h_past, .inl (cI, 260, .inl h_past_f)), (h_snapshot, .inl (cI, 65, .inl h_snapshot_f)), (h_pad, .inl (cI, 80, .inl h_pad_f)), (h_steps, .inl (cI, 320, .inl h_steps_f)), (h_summed, .inl (cI, 81, .inl h_summed_f)), (h_plus, .inl (cI, 81, .inl h_plus_f)), (h_parts, .inl (cI, 392, .inl z))])) (([.ref h] : List Value).toArray) s 0 0 A) (F0 m 70 ls []) := by
                    intro F70
                    induction F70 with
                    | zero => intro x3_24 f_25 H locs ls h0 hP hD hS hl; cases h0
                    | succ F70 ih70 =>
                      intro x3_24 f_25 H locs ls h0 hP hD hS hl
                      rw [mX10_laysParts_L70] at h0
                      refine lv_iload_n hx hb dX10_laysParts_70 rfl (lv_at hl 0 rfl) ?_
                      refine lv_iload_n hx hb dX10_laysParts_71 rfl (lv_at hl 1 rfl) ?_
                      refine lv_iload_n hx hb dX10_laysParts_72 rfl (lv_at hl 2 rfl) ?_
                      refine lv_iadd hx hb dX10_laysParts_73 ?_
                      refine lv_icmp_ge (tgt := 92) hx hb dX10_laysParts_74 (by decide) (fun c9 => ?_) (fun c9 => ?_)
                      · have h0 := it_t c9 h0
                        exact E_70_92_22 x3_24 f_25 _ _ ls h0 hP hD hS hl
                      · have h0 := it_f c9 h0
                        refine lv_aload_n hx hb dX10_laysParts_77 rfl (lv_at hl 3 rfl) ?_
                        refine lv_iload_n hx hb dX10_laysParts_78 rfl (lv_at hl 1 rfl) ?_
                        refine lv_iload_n hx hb dX10_laysParts_79 rfl (lv_at hl 0 rfl) ?_
                        refine lv_iload_n hx hb dX10_laysParts_80 rfl (lv_at hl 1 rfl) ?_
                        refine lv_iload_n hx hb dX10_laysParts_81 rfl (lv_at hl 2 rfl) ?_
                        refine lv_iadd hx hb dX10_laysParts_82 ?_
                        obtain ⟨z_26, hz, h0⟩ := bd_ok h0
                        refine wr_V (As := [.int x2_11, .int x3_24, .int (x2_11 + x1_6)]) (rest := []) (wc := [(h, .inr (7, [.ref h_s, .ref h_aside, .ref h_past, .int h_pasts, .ref h_snapshot, .int h_isKept, .ref h_pad, .int h_length, .ref h_steps, .int h_many, .int h_value, .ref h_summed, .ref h_plus, .ref h_parts])), (h_s, .inl (cI, 65, .inl h_s_f)), (h_aside, .inl (cI, 65, .inl h_aside_f)), (h_past, .inl (cI, 260, .inl h_past_f)), (h_snapshot, .inl (cI, 65, .inl h_snapshot_f)), (h_pad, .inl (cI, 80, .inl h_pad_f)), (h_steps, .inl (cI, 320, .inl h_steps_f)), (h_summed, .inl (cI, 81, .inl h_summed_f)), (h_plus, .inl (cI, 81, .inl h_plus_f)), (h_parts, .inl (cI, 392, .inl f_25))]) (wr := []) hcf (kX10_adds l D cI cC cT h h_s h_aside h_past h_snapshot h_pad h_steps h_summed h_plus h_parts h_s_f h_aside_f h_past_f h_pasts h_snapshot_f h_isKept h_pad_f h_length h_steps_f h_many h_value h_summed_f h_plus_f f_25 x2_11 x3_24 (x2_11 + x1_6) _ z_26 hz) (cwV 3 hts gX10_laysParts_X10_adds rfl rfl rfl (by decide +kernel) ⟨Nat.le_of_ble_eq_true rfl, Nat.le_of_ble_eq_true rfl⟩) hE hP hD hS hA [0, 1, 2, 3, 4, 5, 6, 7, 8, 9] [] (hP.sub [0, 1, 2, 3, 4, 5, 6, 7, 8, 9] rfl) (hD.sub [0, 1, 2, 3, 4, 5, 6, 7, 8, 9] (by decide) rfl) (va_recv hK hP (ci := 7) (q0 := 0) rfl rfl) rfl rfl (by decide) (by decide) rfl hl.1 rfl (Nat.le_of_ble_eq_true rfl) dX10_laysParts_83 ⟨Nat.le_of_ble_eq_true rfl, Nat.le_of_ble_eq_true rfl⟩ (fun u H locs hP hD hS => ?_)
                        have hP : va_P D vwCl [(h, .inr (7, [.ref h_s, .ref h_aside, .ref h_past, .int h_pasts, .ref h_snapshot, .int h_isKept, .ref h_pad, .int h_length, .ref h_steps, .int h_many, .int h_value, .ref h_summed, .ref h_plus, .ref h_parts])), (h_s, .inl (cI, 65, .inl h_s_f)), (h_aside, .inl (cI, 65, .inl h_aside_f)), (h_past, .inl (cI, 260, .inl h_past_f)), (h_snapshot, .inl (cI, 65, .inl h_snapshot_f)), (h_pad, .inl (cI, 80, .inl h_pad_f)), (h_steps, .inl (cI, 320, .inl h_steps_f)), (h_summed, .inl (cI, 81, .inl h_summed_f)), (h_plus, .inl (cI, 81, .inl h_plus_f)), (h_parts, .inl (cI, 392, .inl z_26))] H := hP
                        have hD : va_D A [(h, .inr (7, [.ref h_s, .ref h_aside, .ref h_past, .int h_pasts, .ref h_snapshot, .int h_isKept, .ref h_pad, .int h_length, .ref h_steps, .int h_many, .int h_value, .ref h_summed, .ref h_plus, .ref h_parts])), (h_s, .inl (cI, 65, .inl h_s_f)), (h_aside, .inl (cI, 65, .inl h_aside_f)), (h_past, .inl (cI, 260, .inl h_past_f)), (h_snapshot, .inl (cI, 65, .inl h_snapshot_f)), (h_pad, .inl (cI, 80, .inl h_pad_f)), (h_steps, .inl (cI, 320, .inl h_steps_f)), (h_summed, .inl (cI, 81, .inl h_summed_f)), (h_plus, .inl (cI, 81, .inl h_plus_f)), (h_parts, .inl (cI, 392, .inl z_26))] := hD
                        refine W.eq (g2 := F0 m 86 ls []) rfl ?_
                        refine lv_iinc (v := (x3_24 + 1)) (lv' := [(3, .int (x3_24 + 1)), (2, .int x2_11), (1, .int x1_6), (0, .ref h)]) hx hb dX10_laysParts_86 hl (k := 0) rfl rfl (by decide) rfl (fun ls hl => ?_)
                        refine lv_goto (tgt := 70) hx hb dX10_laysParts_89 (by decide) ?_
                        exact ih70 (x3_24 + 1) z_26 _ _ ls h0 hP hD hS hl
                  exact L_70_26 FU x2_11 (upd f_12 (z_20 : Int32).toNatClampNeg 1) _ _ ls h0 hP hD hS hl
          exact L_34_27 FU 0 f_7 _ _ ls h0 hP hD hS hl
    exact L_24_28 FU 0 f_2 _ _ ls h0 hP hD hS hl
  have L_2_32 : ∀ (F2 : Nat) (x1_31 : Int32) (f_32 : Nat → Int32) (H : Heap) (locs : List Loc) (ls : Array Slot), mX10_laysParts_L2  (fun (x1_1 : Int32) (f_2 : Nat → Int32) => mX10_laysParts_L24 h_s_f h_pad_f h_length (fun (x1_3 : Int32) (f_4 : Nat → Int32) => some (f_4)) FU 0 f_2) F2 x1_31 f_32 = some z → va_P D vwCl [(h, .inr (7, [.ref h_s, .ref h_aside, .ref h_past, .int h_pasts, .ref h_snapshot, .int h_isKept, .ref h_pad, .int h_length, .ref h_steps, .int h_many, .int h_value, .ref h_summed, .ref h_plus, .ref h_parts])), (h_s, .inl (cI, 65, .inl h_s_f)), (h_aside, .inl (cI, 65, .inl h_aside_f)), (h_past, .inl (cI, 260, .inl h_past_f)), (h_snapshot, .inl (cI, 65, .inl h_snapshot_f)), (h_pad, .inl (cI, 80, .inl h_pad_f)), (h_steps, .inl (cI, 320, .inl h_steps_f)), (h_summed, .inl (cI, 81, .inl h_summed_f)), (h_plus, .inl (cI, 81, .inl h_plus_f)), (h_parts, .inl (cI, 392, .inl f_32))] H → va_D A [(h, .inr (7, [.ref h_s, .ref h_aside, .ref h_past, .int h_pasts, .ref h_snapshot, .int h_isKept, .ref h_pad, .int h_length, .ref h_steps, .int h_many, .int h_value, .ref h_summed, .ref h_plus, .ref h_parts])), (h_s, .inl (cI, 65, .inl h_s_f)), (h_aside, .inl (cI, 65, .inl h_aside_f)), (h_past, .inl (cI, 260, .inl h_past_f)), (h_snapshot, .inl (cI, 65, .inl h_snapshot_f)), (h_pad, .inl (cI, 80, .inl h_pad_f)), (h_steps, .inl (cI, 320, .inl h_steps_f)), (h_summed, .inl (cI, 81, .inl h_summed_f)), (h_plus, .inl (cI, 81, .inl h_plus_f)), (h_parts, .inl (cI, 392, .inl f_32))] → va_S A s.heap H locs → lv_has ls 4 [(1, .int x1_31), (0, .ref h)] → W p l e (headSpec wsX10_laysParts ({ frames := 3, cells := 0, slots := 0, locals := 68 } : Room)).room s m (([.ref h] : List Value).toArray) below meth c H locs 0 0 (MQ below (wQ D none A (fun (u : Unit) => [(h, .inr (7, [.ref h_s, .ref h_aside, .ref h_past, .int h_pasts, .ref h_snapshot, .int h_isKept, .ref h_pad, .int h_length, .ref h_steps, .int h_many, .int h_value, .ref h_summed, .ref h_plus, .ref h_parts])), (h_s, .inl (cI, 65, .inl h_s_f)), (h_aside, .inl (cI, 65, .inl h_aside_f)), (h_past, .inl (cI, 260, .inl h_past_f)), (h_snapshot, .inl (cI, 65, .inl h_snapshot_f)), (h_pad, .inl (cI, 80, .inl h_pad_f)), (h_steps, .inl (cI, 320, .inl h_steps_f)), (h_summed, .inl (cI, 81, .inl h_summed_f)), (h_plus, .inl (cI, 81, .inl h_plus_f)), (h_parts, .inl (cI, 392, .inl z))])) (([.ref h] : List Value).toArray) s 0 0 A) (F0 m 2 ls []) := by
    intro F2
    induction F2 with
    | zero => intro x1_31 f_32 H locs ls h0 hP hD hS hl; cases h0
    | succ F2 ih2 =>
      intro x1_31 f_32 H locs ls h0 hP hD hS hl
      rw [mX10_laysParts_L2] at h0
      refine lv_iload_n hx hb dX10_laysParts_2 rfl (lv_at hl 0 rfl) ?_
      refine lv_sipush (v := 392) hx hb dX10_laysParts_3 (by decide) ?_
      refine lv_icmp_ge (tgt := 22) hx hb dX10_laysParts_6 (by decide) (fun c9 => ?_) (fun c9 => ?_)
      · have h0 := it_t c9 h0
        exact E_2_22_29 x1_31 f_32 _ _ ls h0 hP hD hS hl
      · have h0 := it_f c9 h0
        refine lv_aload_n hx hb dX10_laysParts_9 rfl (lv_at hl 1 rfl) ?_
        refine va_get (D := D) (ci := 7) (v := .ref h_parts) (C := RX10) (T := TX10) (N := 14) hx hb hts hi_X10 hown hK hP 0 rfl rfl 13 (by decide) hf_34 (fun _ h9 => h9) rfl dX10_laysParts_10 ?_
        refine lv_iload_n hx hb dX10_laysParts_13 rfl (lv_at hl 0 rfl) ?_
        refine lv_iconst (v := 0) hx hb dX10_laysParts_14 (by decide) ?_
        obtain ⟨g0, h0⟩ := gd_ok h0
        refine va_iast hx hb hK hP hD hS 9 0 rfl rfl (inb_ok g0) dX10_laysParts_15 (fun H locs hP hD hS => ?_)
        have hP : va_P D vwCl [(h, .inr (7, [.ref h_s, .ref h_aside, .ref h_past, .int h_pasts, .ref h_snapshot, .int h_isKept, .ref h_pad, .int h_length, .ref h_steps, .int h_many, .int h_value, .ref h_summed, .ref h_plus, .ref h_parts])), (h_s, .inl (cI, 65, .inl h_s_f)), (h_aside, .inl (cI, 65, .inl h_aside_f)), (h_past, .inl (cI, 260, .inl h_past_f)), (h_snapshot, .inl (cI, 65, .inl h_snapshot_f)), (h_pad, .inl (cI, 80, .inl h_pad_f)), (h_steps, .inl (cI, 320, .inl h_steps_f)), (h_summed, .inl (cI, 81, .inl h_summed_f)), (h_plus, .inl (cI, 81, .inl h_plus_f)), (h_parts, .inl (cI, 392, .inl (upd f_32 (x1_31 : Int32).toNatClampNeg 0)))] H := hP
        have hD : va_D A [(h, .inr (7, [.ref h_s, .ref h_aside, .ref h_past, .int h_pasts, .ref h_snapshot, .int h_isKept, .ref h_pad, .int h_length, .ref h_steps, .int h_many, .int h_value, .ref h_summed, .ref h_plus, .ref h_parts])), (h_s, .inl (cI, 65, .inl h_s_f)), (h_aside, .inl (cI, 65, .inl h_aside_f)), (h_past, .inl (cI, 260, .inl h_past_f)), (h_snapshot, .inl (cI, 65, .inl h_snapshot_f)), (h_pad, .inl (cI, 80, .inl h_pad_f)), (h_steps, .inl (cI, 320, .inl h_steps_f)), (h_summed, .inl (cI, 81, .inl h_summed_f)), (h_plus, .inl (cI, 81, .inl h_plus_f)), (h_parts, .inl (cI, 392, .inl (upd f_32 (x1_31 : Int32).toNatClampNeg 0)))] := hD
        refine lv_iinc (v := (x1_31 + 1)) (lv' := [(1, .int (x1_31 + 1)), (0, .ref h)]) hx hb dX10_laysParts_16 hl (k := 0) rfl rfl (by decide) rfl (fun ls hl => ?_)
        refine lv_goto (tgt := 2) hx hb dX10_laysParts_19 (by decide) ?_
        exact ih2 (x1_31 + 1) (upd f_32 (x1_31 : Int32).toNatClampNeg 0) _ _ ls h0 hP hD hS hl
  exact L_2_32 FU 0 h_parts_f _ _ ls h0 hP hD hS hl
