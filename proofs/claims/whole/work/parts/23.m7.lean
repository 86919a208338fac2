noncomputable def mX10_best_L26 (h_s_f : Nat → Int32) (k26_156 : Int32 → Int32 → Int32 → (Nat → Int32) → Option (Int32 × (Nat → Int32))) : Nat → Int32 → Int32 → Int32 → (Nat → Int32) → Option (Int32 × (Nat → Int32))
  | 0, _, _, _, _ => none
  | F + 1, x5_7, x3_8, x4_9, f_10 => if ((((h_s_f (0 : Int32).toNatClampNeg) * (h_s_f (0 : Int32).toNatClampNeg)) * (h_s_f (0 : Int32).toNatClampNeg)) * (h_s_f (0 : Int32).toNatClampNeg)) ≤ x5_7 then (k26_156 x5_7 x3_8 x4_9 f_10) else (gd (nzb (((h_s_f (0 : Int32).toNatClampNeg) * (h_s_f (0 : Int32).toNatClampNeg)) * (h_s_f (0 : Int32).toNatClampNeg))) (gd (nzb ((h_s_f (0 : Int32).toNatClampNeg) * (h_s_f (0 : Int32).toNatClampNeg))) (gd (nzb (h_s_f (0 : Int32).toNatClampNeg)) (gd (nzb (h_s_f (0 : Int32).toNatClampNeg)) (gd (nzb (h_s_f (0 : Int32).toNatClampNeg)) (gd (nzb (h_s_f (0 : Int32).toNatClampNeg)) (if ((x5_7 / ((h_s_f (0 : Int32).toNatClampNeg) * (h_s_f (0 : Int32).toNatClampNeg))) - (x5_7 / ((h_s_f (0 : Int32).toNatClampNeg) * (h_s_f (0 : Int32).toNatClampNeg))) / (h_s_f (0 : Int32).toNatClampNeg) * (h_s_f (0 : Int32).toNatClampNeg)) ≤ (x5_7 / (((h_s_f (0 : Int32).toNatClampNeg) * (h_s_f (0 : Int32).toNatClampNeg)) * (h_s_f (0 : Int32).toNatClampNeg))) then (mX10_best_L26 h_s_f k26_156 F (x5_7 + 1) x3_8 x4_9 f_10) else (if (x5_7 - x5_7 / (h_s_f (0 : Int32).toNatClampNeg) * (h_s_f (0 : Int32).toNatClampNeg)) ≤ ((x5_7 / (h_s_f (0 : Int32).toNatClampNeg)) - (x5_7 / (h_s_f (0 : Int32).toNatClampNeg)) / (h_s_f (0 : Int32).toNatClampNeg) * (h_s_f (0 : Int32).toNatClampNeg)) then (mX10_best_L26 h_s_f k26_156 F (x5_7 + 1) x3_8 x4_9 f_10) else (bd (mX10_isSquare f_10 (x5_7 / (((h_s_f (0 : Int32).toNatClampNeg) * (h_s_f (0 : Int32).toNatClampNeg)) * (h_s_f (0 : Int32).toNatClampNeg))) ((x5_7 / ((h_s_f (0 : Int32).toNatClampNeg) * (h_s_f (0 : Int32).toNatClampNeg))) - (x5_7 / ((h_s_f (0 : Int32).toNatClampNeg) * (h_s_f (0 : Int32).toNatClampNeg))) / (h_s_f (0 : Int32).toNatClampNeg) * (h_s_f (0 : Int32).toNatClampNeg)) ((x5_7 / (h_s_f (0 : Int32).toNatClampNeg)) - (x5_7 / (h_s_f (0 : Int32).toNatClampNeg)) / (h_s_f (0 : Int32).toNatClampNeg) * (h_s_f (0 : Int32).toNatClampNeg)) (x5_7 - x5_7 / (h_s_f (0 : Int32).toNatClampNeg) * (h_s_f (0 : Int32).toNatClampNeg))) (fun z_11 => if z_11 = 0 then (mX10_best_L26 h_s_f k26_156 F (x5_7 + 1) x3_8 x4_9 f_10) else (bd (mX10_triplesThen f_10 (x5_7 / (((h_s_f (0 : Int32).toNatClampNeg) * (h_s_f (0 : Int32).toNatClampNeg)) * (h_s_f (0 : Int32).toNatClampNeg))) ((x5_7 / ((h_s_f (0 : Int32).toNatClampNeg) * (h_s_f (0 : Int32).toNatClampNeg))) - (x5_7 / ((h_s_f (0 : Int32).toNatClampNeg) * (h_s_f (0 : Int32).toNatClampNeg))) / (h_s_f (0 : Int32).toNatClampNeg) * (h_s_f (0 : Int32).toNatClampNeg)) ((x5_7 / (h_s_f (0 : Int32).toNatClampNeg)) - (x5_7 / (h_s_f (0 : Int32).toNatClampNeg)) / (h_s_f (0 : Int32).toNatClampNeg) * (h_s_f (0 : Int32).toNatClampNeg)) (x5_7 - x5_7 / (h_s_f (0 : Int32).toNatClampNeg) * (h_s_f (0 : Int32).toNatClampNeg))) (fun z_12 => if x3_8 = (-1) then (if z_12.1 ≤ x4_9 then (mX10_best_L26 h_s_f k26_156 F (x5_7 + 1) x5_7 x4_9 z_12.2) else (mX10_best_L26 h_s_f k26_156 F (x5_7 + 1) x5_7 z_12.1 z_12.2)) else (if z_12.1 ≤ x4_9 then (if z_12.1 ≤ x4_9 then (mX10_best_L26 h_s_f k26_156 F (x5_7 + 1) x3_8 x4_9 z_12.2) else (mX10_best_L26 h_s_f k26_156 F (x5_7 + 1) x3_8 z_12.1 z_12.2)) else (if z_12.1 ≤ x4_9 then (mX10_best_L26 h_s_f k26_156 F (x5_7 + 1) x5_7 x4_9 z_12.2) else (mX10_best_L26 h_s_f k26_156 F (x5_7 + 1) x5_7 z_12.1 z_12.2)))))))))))))))
noncomputable def mX10_best (h_s_f : Nat → Int32) (p1 : Int32) : Option (Int32 × (Nat → Int32)) :=
  bd (mX10_in p1 0 4) (fun z_1 => if z_1 = 0 then (some ((-1), h_s_f)) else (mX10_best_L26 h_s_f (fun (x5_2 : Int32) (x3_3 : Int32) (x4_4 : Int32) (f_5 : Nat → Int32) => if x3_3 = (-1) then (some ((-4), f_5)) else (if p1 = 4 then (some (x4_4, f_5)) else (if p1 = 0 then (gd (nzb (((h_s_f (0 : Int32).toNatClampNeg) * (h_s_f (0 : Int32).toNatClampNeg)) * (h_s_f (0 : Int32).toNatClampNeg))) (some ((x3_3 / (((h_s_f (0 : Int32).toNatClampNeg) * (h_s_f (0 : Int32).toNatClampNeg)) * (h_s_f (0 : Int32).toNatClampNeg))), f_5))) else (if p1 = 1 then (gd (nzb ((h_s_f (0 : Int32).toNatClampNeg) * (h_s_f (0 : Int32).toNatClampNeg))) (gd (nzb (h_s_f (0 : Int32).toNatClampNeg)) (some (((x3_3 / ((h_s_f (0 : Int32).toNatClampNeg) * (h_s_f (0 : Int32).toNatClampNeg))) - (x3_3 / ((h_s_f (0 : Int32).toNatClampNeg) * (h_s_f (0 : Int32).toNatClampNeg))) / (h_s_f (0 : Int32).toNatClampNeg) * (h_s_f (0 : Int32).toNatClampNeg)), f_5)))) else (if p1 = 2 then (gd (nzb (h_s_f (0 : Int32).toNatClampNeg)) (gd (nzb (h_s_f (0 : Int32).toNatClampNeg)) (some (((x3_3 / (h_s_f (0 : Int32).toNatClampNeg)) - (x3_3 / (h_s_f (0 : Int32).toNatClampNeg)) / (h_s_f (0 : Int32).toNatClampNeg) * (h_s_f (0 : Int32).toNatClampNeg)), f_5)))) else (gd (nzb (h_s_f (0 : Int32).toNatClampNeg)) (some ((x3_3 - x3_3 / (h_s_f (0 : Int32).toNatClampNeg) * (h_s_f (0 : Int32).toNatClampNeg)), f_5)))))))) FU 0 (-1) 0 h_s_f))
set_option maxHeartbeats 8000000 in
set_option maxRecDepth 100000 in
theorem kX10_best (l : Launch) (D : va_G) (cI cC cT : ClassId) (h h_s h_aside h_past h_snapshot h_pad h_steps h_summed h_plus h_parts : Nat) (h_s_f : Nat → Int32) (h_aside_f : Nat → Int32) (h_past_f : Nat → Int32) (h_pasts : Int32) (h_snapshot_f : Nat → Int32) (h_isKept : Int32) (h_pad_f : Nat → Int32) (h_length : Int32) (h_steps_f : Nat → Int32) (h_many : Int32) (h_value : Int32) (h_summed_f : Nat → Int32) (h_plus_f : Nat → Int32) (h_parts_f : Nat → Int32) (p1 : Int32) (sz : Nat) (z : Int32 × (Nat → Int32)) (h0 : mX10_best h_s_f p1 = some z) : Met l yX10_best wsX10_best ({ frames := 6, cells := 0, slots := 0, locals := 137 } : Room) (va_Pc [.ref h, .int p1] (wP D cI cC cT [(h, .inr (7, [.ref h_s, .ref h_aside, .ref h_past, .int h_pasts, .ref h_snapshot, .int h_isKept, .ref h_pad, .int h_length, .ref h_steps, .int h_many, .int h_value, .ref h_summed, .ref h_plus, .ref h_parts])), (h_s, .inl (cI, 65, .inl h_s_f)), (h_aside, .inl (cI, 65, .inl h_aside_f)), (h_past, .inl (cI, 260, .inl h_past_f)), (h_snapshot, .inl (cI, 65, .inl h_snapshot_f)), (h_pad, .inl (cI, 80, .inl h_pad_f)), (h_steps, .inl (cI, 320, .inl h_steps_f)), (h_summed, .inl (cI, 81, .inl h_summed_f)), (h_plus, .inl (cI, 81, .inl h_plus_f)), (h_parts, .inl (cI, 392, .inl h_parts_f))] sz)) (wQ D (some (.int z.1)) (va_A [(h, .inr (7, [.ref h_s, .ref h_aside, .ref h_past, .int h_pasts, .ref h_snapshot, .int h_isKept, .ref h_pad, .int h_length, .ref h_steps, .int h_many, .int h_value, .ref h_summed, .ref h_plus, .ref h_parts])), (h_s, .inl (cI, 65, .inl h_s_f)), (h_aside, .inl (cI, 65, .inl h_aside_f)), (h_past, .inl (cI, 260, .inl h_past_f)), (h_snapshot, .inl (cI, 65, .inl h_snapshot_f)), (h_pad, .inl (cI, 80, .inl h_pad_f)), (h_steps, .inl (cI, 320, .inl h_steps_f)), (h_summed, .inl (cI, 81, .inl h_summed_f)), (h_plus, .inl (cI, 81, .inl h_plus_f)), (h_parts, .inl (cI, 392, .inl h_parts_f))] sz) (fun (u : Unit) => [(h, .inr (7, [.ref h_s, .ref h_aside, .ref h_past, .int h_pasts, .ref h_snapshot, .int h_isKept, .ref h_pad, .int h_length, .ref h_steps, .int h_many, .int h_value, .ref h_summed, .ref h_plus, .ref h_parts])), (h_s, .inl (cI, 65, .inl z.2)), (h_aside, .inl (cI, 65, .inl h_aside_f)), (h_past, .inl (cI, 260, .inl h_past_f)), (h_snapshot, .inl (cI, 65, .inl h_snapshot_f)), (h_pad, .inl (cI, 80, .inl h_pad_f)), (h_steps, .inl (cI, 320, .inl h_steps_f)), (h_summed, .inl (cI, 81, .inl h_summed_f)), (h_plus, .inl (cI, 81, .inl h_plus_f)), (h_parts, .inl (cI, 392, .inl h_parts_f))])) 0 0 (va_A [(h, .inr (7, [.ref h_s, .ref h_aside, .ref h_past, .int h_pasts, .ref h_snapshot, .int h_isKept, .ref h_pad, .int h_length, .ref h_steps, .int h_many, .int h_value, .ref h_summed, .ref h_plus, .ref h_parts])), (h_s, .inl (cI, 65, .inl h_s_f)), (h_aside, .inl (cI, 65, .inl h_aside_f)), (h_past, .inl (cI, 260, .inl h_past_f)), (h_snapshot, .inl (cI, 65, .inl h_snapshot_f)), (h_pad, .inl (cI, 80, .inl h_pad_f)), (h_steps, .inl (cI, 320, .inl h_steps_f)), (h_summed, .inl (cI, 81, .inl h_summed_f)), (h_plus, .inl (cI, 81, .inl h_plus_f)), (h_parts, .inl (cI, 392, .inl h_parts_f))] sz) := by
  refine Met.ofW (cc := cX10_best) (maxL := 11) (ret := (some .int)) (by decide) rfl ?_
  intro p e s m args below meth c s₁ B hml hv
  obtain ⟨rfl, hsz, hP, hE, hD0⟩ := hv
  have hx := B.exec
  have hb := B.bytes
  have hr := B.returns
  have hts := atoms_spec (ws := wsX10_best) B.pre
  have hown : s.vm.findClass RX10 = some m.cls := findClass_of_methodNamed B.named
  have hlocks := B.notSynchronized
  have hK := hE.1
  have hcf : CallFix p m c cX10_best 11 s ([.ref h, .int p1] : List Value).toArray wsX10_best RX10 := ⟨hx, hb, hml, hown, hts⟩
  subst hsz
  have hD := hD0.self (sz := s.heap.size)
  generalize hAe : va_A [(h, .inr (7, [.ref h_s, .ref h_aside, .ref h_past, .int h_pasts, .ref h_snapshot, .int h_isKept, .ref h_pad, .int h_length, .ref h_steps, .int h_many, .int h_value, .ref h_summed, .ref h_plus, .ref h_parts])), (h_s, .inl (cI, 65, .inl h_s_f)), (h_aside, .inl (cI, 65, .inl h_aside_f)), (h_past, .inl (cI, 260, .inl h_past_f)), (h_snapshot, .inl (cI, 65, .inl h_snapshot_f)), (h_pad, .inl (cI, 80, .inl h_pad_f)), (h_steps, .inl (cI, 320, .inl h_steps_f)), (h_summed, .inl (cI, 81, .inl h_summed_f)), (h_plus, .inl (cI, 81, .inl h_plus_f)), (h_parts, .inl (cI, 392, .inl h_parts_f))] s.heap.size = A at hD ⊢
  have hA : ∀ q : Nat, s.heap.size ≤ q → A q := fun q h => by rw [← hAe]; exact Or.inr h
  have hS : va_S A s.heap s.heap [] := va_S.rf
  have hP : va_P D vwCl [(h, .inr (7, [.ref h_s, .ref h_aside, .ref h_past, .int h_pasts, .ref h_snapshot, .int h_isKept, .ref h_pad, .int h_length, .ref h_steps, .int h_many, .int h_value, .ref h_summed, .ref h_plus, .ref h_parts])), (h_s, .inl (cI, 65, .inl h_s_f)), (h_aside, .inl (cI, 65, .inl h_aside_f)), (h_past, .inl (cI, 260, .inl h_past_f)), (h_snapshot, .inl (cI, 65, .inl h_snapshot_f)), (h_pad, .inl (cI, 80, .inl h_pad_f)), (h_steps, .inl (cI, 320, .inl h_steps_f)), (h_summed, .inl (cI, 81, .inl h_summed_f)), (h_plus, .inl (cI, 81, .inl h_plus_f)), (h_parts, .inl (cI, 392, .inl h_parts_f))] s.heap := hP
  have hf_7 := hts (.fieldLink RX10 7 "CrookedSumsModel" "s" "[I") (by decide +kernel)
  have hi_X10 := (show ∀ w ∈ u_ws RX10 TX10 14, w ∈ wsX10_best from by decide +kernel)
  have hl := lv_entry ([.ref h, .int p1]) (n := 11) (Nat.le_of_ble_eq_true rfl)
  rw [lg_entry_eq]
  generalize (lg_sl ([.ref h, .int p1]) ++ List.replicate (11 - (lg_sl ([.ref h, .int p1])).length) Slot.unset).toArray = ls at hl ⊢
  have hl : lv_has ls 11 [(0, .ref h), (1, .int p1)] := hl
  unfold mX10_best at h0
  refine lv_iload_n hx hb dX10_best_0 rfl (lv_at hl 1 rfl) ?_
  refine lv_iconst (v := 0) hx hb dX10_best_1 (by decide) ?_
  refine lv_iconst (v := 4) hx hb dX10_best_2 (by decide) ?_
  obtain ⟨z_1, hz, h0⟩ := bd_ok h0
  refine ro_S (As := [.int p1, .int 0, .int 4]) (rest := []) (wc := []) hcf (kX10_in l D cI cC cT p1 0 4 z_1 hz) (va_cwS 3 hts gX10_best_X10_in rfl rfl rfl (by decide +kernel) ⟨Nat.le_of_ble_eq_true rfl, Nat.le_of_ble_eq_true rfl⟩) hE (hP.sub [] rfl) rfl hl.1 rfl (Nat.le_of_ble_eq_true rfl) dX10_best_3 ⟨Nat.le_of_ble_eq_true rfl, Nat.le_of_ble_eq_true rfl⟩ ?_
  refine W.eq (g2 := F0 m 6 ls [.int z_1]) rfl ?_
  refine lv_if_ne (tgt := 11) hx hb dX10_best_6 (by decide) (fun c9 => ?_) (fun c9 => ?_)
  · have h0 := it_f c9 h0
    refine lv_aload_n hx hb dX10_best_11 rfl (lv_at hl 0 rfl) ?_
    refine va_get (D := D) (ci := 7) (v := .ref h_s) (C := RX10) (T := TX10) (N := 14) hx hb hts hi_X10 hown hK hP 0 rfl rfl 0 (by decide) hf_7 (fun _ h9 => h9) rfl dX10_best_12 ?_
    refine lv_iconst (v := 0) hx hb dX10_best_15 (by decide) ?_
    refine va_iald hx hb hK hP 1 0 rfl rfl (by unfold vp_in; decide) dX10_best_16 ?_
    refine lv_istore_n (lv' := [(2, .int (h_s_f (0 : Int32).toNatClampNeg)), (0, .ref h), (1, .int p1)]) hx hb dX10_best_17 rfl hl (by decide) rfl (fun ls hl => ?_)
    refine lv_iconst (v := (-1)) hx hb dX10_best_18 (by decide) ?_
    refine lv_istore_n (lv' := [(3, .int (-1)), (2, .int (h_s_f (0 : Int32).toNatClampNeg)), (0, .ref h), (1, .int p1)]) hx hb dX10_best_19 rfl hl (by decide) rfl (fun ls hl => ?_)
    refine lv_iconst (v := 0) hx hb dX10_best_20 (by decide) ?_
    refine lv_istore (lv' := [(4, .int 0), (3, .int (-1)), (2, .int (h_s_f (0 : Int32).toNatClampNeg)), (0, .ref h), (1, .int p1)]) hx hb dX10_best_21 hl (by decide) rfl (fun ls hl => ?_)
    refine lv_iconst (v := 0) hx hb dX10_best_23 (by decide) ?_
    refine lv_istore (lv' := [(5, .int 0), (4, .int 0), (3, .int (-1)), (2, .int (h_s_f (0 : Int32).toNatClampNeg)), (0, .ref h), (1, .int p1)]) hx hb dX10_best_24 hl (by decide) rfl (fun ls hl => ?_)
    have E_26_156_5 : ∀ (x5_2 : Int32) (x3_3 : Int32) (x4_4 : Int32) (f_5 : Nat → Int32) (H : Heap) (locs : List Loc) (ls : Array Slot), (if x3_3 = (-1) then (some ((-4), f_5)) else (if p1 = 4 then (some (x4_4, f_5)) else (if p1 = 0 then (gd (nzb (((h_s_f (0 : Int32).toNatClampNeg) * (h_s_f (0 : Int32).toNatClampNeg)) * (h_s_f (0 : Int32).toNatClampNeg))) (some ((x3_3 / (((h_s_f (0 : Int32).toNatClampNeg) * (h_s_f (0 : Int32).toNatClampNeg)) * (h_s_f (0 : Int32).toNatClampNeg))), f_5))) else (if p1 = 1 then (gd (nzb ((h_s_f (0 : Int32).toNatClampNeg) * (h_s_f (0 : Int32).toNatClampNeg))) (gd (nzb (h_s_f (0 : Int32).toNatClampNeg)) (some (((x3_3 / ((h_s_f (0 : Int32).toNatClampNeg) * (h_s_f (0 : Int32).toNatClampNeg))) - (x3_3 / ((h_s_f (0 : Int32).toNatClampNeg) * (h_s_f (0 : Int32).toNatClampNeg))) / (h_s_f (0 : Int32).toNatClampNeg) * (h_s_f (0 : Int32).toNatClampNeg)), f_5)))) else (if p1 = 2 then (gd (nzb (h_s_f (0 : Int32).toNatClampNeg)) (gd (nzb (h_s_f (0 : Int32).toNatClampNeg)) (some (((x3_3 / (h_s_f (0 : Int32).toNatClampNeg)) - (x3_3 / (h_s_f (0 : Int32).toNatClampNeg)) / (h_s_f (0 : Int32).toNatClampNeg) * (h_s_f (0 : Int32).toNatClampNeg)), f_5)))) else (gd (nzb (h_s_f (0 : Int32).toNatClampNeg)) (some ((x3_3 - x3_3 / (h_s_f (0 : Int32).toNatClampNeg) * (h_s_f (0 : Int32).toNatClampNeg)), f_5)))))))) = some z → va_P D vwCl [(h, .inr (7, [.ref h_s, .ref h_aside, .ref h_past, .int h_pasts, .ref h_snapshot, .int h_isKept, .ref h_pad, .int h_length, .ref h_steps, .int h_many, .int h_value, .ref h_summed, .ref h_plus, .ref h_parts])), (h_s, .inl (cI, 65, .inl f_5)), (h_aside, .inl (cI, 65, .inl h_aside_f)), (h_past, .inl (cI, 260, .inl h_past_f)), (h_snapshot, .inl (cI, 65, .inl h_snapshot_f)), (h_pad, .inl (cI, 80, .inl h_pad_f)), (h_steps, .inl (cI, 320, .inl h_steps_f)), (h_summed, .inl (cI, 81, .inl h_summed_f)), (h_plus, .inl (cI, 81, .inl h_plus_f)), (h_parts, .inl (cI, 392, .inl h_parts_f))] H → va_D A [(h, .inr (7, [.ref h_s, .ref h_aside, .ref h_past, .int h_pasts, .ref h_snapshot, .int h_isKept, .ref h_pad, .int h_length, .ref h_steps, .int h_many, .int h_value, .ref h_summed, .ref h_plus, .ref h_parts])), (h_s, .inl (cI, 65, .inl f_5)), (h_aside, .inl (cI, 65, .inl h_aside_f)), (h_past, .inl (cI, 260, .inl h_past_f)), (h_snapshot, .inl (cI, 65, .inl h_snapshot_f)), (h_pad, .inl (cI, 80, .inl h_pad_f)), (h_steps, .inl (cI, 320, .inl h_steps_f)), (h_summed, .inl (cI, 81, .inl h_summed_f)), (h_plus, .inl (cI, 81, .inl h_plus_f)), (h_parts, .inl (cI, 392, .inl h_parts_f))] → va_S A s.heap H locs → lv_has ls 11 [(5, .int x5_2), (4, .int x4_4), (3, .int x3_3), (2, .int (h_s_f (0 : Int32).toNatClampNeg)), (0, .ref h), (1, .int p1)] → W p l e (headSpec wsX10_best ({ frames := 6, cells := 0, slots := 0, locals := 137 } : Room)).room s m (([.ref h, .int p1] : List Value).toArray) below meth c H locs 0 0 (MQ below (wQ D (some (.int z.1)) A (fun (u : Unit) => [(h, .inr (7, [.ref h_s, .ref h_aside, .ref h_past, .int h_pasts, .ref h_snapshot, .int h_isKept, .ref h_pad, .int h_length, .ref h_steps, .int h_many, .int h_value, .ref h_summed, .ref h_plus, .ref h_parts])), (h_s, .inl (cI, 65, .inl z.2)), (h_aside, .inl (cI, 65, .inl h_aside_f)), (h_past, .inl (cI, 260, .inl h_past_f)), (h_snapshot, .inl (cI, 65, .inl h_snapshot_f)), (h_pad, .inl (cI, 80, .inl h_pad_f)), (h_steps, .inl (cI, 320, .inl h_steps_f)), (h_summed, .inl (cI, 81, .inl h_summed_f)), (h_plus, .inl (cI, 81, .inl h_plus_f)), (h_parts, .inl (cI, 392, .inl h_parts_f))])) (([.ref h, .int p1] : List Value).toArray) s 0 0 A) (F0 m 156 ls []) := by
      intro x5_2 x3_3 x4_4 f_5 H locs ls h0 hP hD hS hl
      refine lv_iload_n hx hb dX10_best_156 rfl (lv_at hl 2 rfl) ?_
      refine lv_iconst (v := (-1)) hx hb dX10_best_157 (by decide) ?_
      refine lv_icmp_ne (tgt := 164) hx hb dX10_best_158 (by decide) (fun c9 => ?_) (fun c9 => ?_)
      · have h0 := it_f c9 h0
        refine lv_iload_n hx hb dX10_best_164 rfl (lv_at hl 5 rfl) ?_
        refine lv_iconst (v := 4) hx hb dX10_best_165 (by decide) ?_
        refine lv_icmp_ne (tgt := 174) hx hb dX10_best_166 (by decide) (fun c9 => ?_) (fun c9 => ?_)
        · have h0 := it_f c9 h0
          refine lv_iload_n hx hb dX10_best_174 rfl (lv_at hl 5 rfl) ?_
          refine lv_if_ne (tgt := 188) hx hb dX10_best_175 (by decide) (fun c9 => ?_) (fun c9 => ?_)
          · have h0 := it_f c9 h0
            refine lv_iload_n hx hb dX10_best_188 rfl (lv_at hl 5 rfl) ?_
            refine lv_iconst (v := 1) hx hb dX10_best_189 (by decide) ?_
            refine lv_icmp_ne (tgt := 203) hx hb dX10_best_190 (by decide) (fun c9 => ?_) (fun c9 => ?_)
            · have h0 := it_f c9 h0
              refine lv_iload_n hx hb dX10_best_203 rfl (lv_at hl 5 rfl) ?_
              refine lv_iconst (v := 2) hx hb dX10_best_204 (by decide) ?_
              refine lv_icmp_ne (tgt := 216) hx hb dX10_best_205 (by decide) (fun c9 => ?_) (fun c9 => ?_)
              · have h0 := it_f c9 h0
                refine lv_iload_n hx hb dX10_best_216 rfl (lv_at hl 2 rfl) ?_
                refine lv_iload_n hx hb dX10_best_217 rfl (lv_at hl 3 rfl) ?_
                obtain ⟨g0, h0⟩ := gd_ok h0
                refine lv_irem hx hb dX10_best_218 (nzb_ok g0) ?_
                have e0 := Option.some.inj h0
                subst e0
                exact W.iret (v := (x3_3 - x3_3 / (h_s_f (0 : Int32).toNatClampNeg) * (h_s_f (0 : Int32).toNatClampNeg))) hx hb hr (fun t ht hW => wr_end () ht hP hD hS) hS.2.2 dX10_best_219
              · have h0 := it_t c9 h0
                refine lv_iload_n hx hb dX10_best_208 rfl (lv_at hl 2 rfl) ?_
                refine lv_iload_n hx hb dX10_best_209 rfl (lv_at hl 3 rfl) ?_
                obtain ⟨g0, h0⟩ := gd_ok h0
                refine lv_idiv hx hb dX10_best_210 (nzb_ok g0) ?_
                refine lv_iload_n hx hb dX10_best_211 rfl (lv_at hl 3 rfl) ?_
                obtain ⟨g0, h0⟩ := gd_ok h0
                refine lv_irem hx hb dX10_best_212 (nzb_ok g0) ?_
                refine lv_goto (tgt := 219) hx hb dX10_best_213 (by decide) ?_
                have e0 := Option.some.inj h0
                subst e0
                exact W.iret (v := ((x3_3 / (h_s_f (0 : Int32).toNatClampNeg)) - (x3_3 / (h_s_f (0 : Int32).toNatClampNeg)) / (h_s_f (0 : Int32).toNatClampNeg) * (h_s_f (0 : Int32).toNatClampNeg))) hx hb hr (fun t ht hW => wr_end () ht hP hD hS) hS.2.2 dX10_best_219
            · have h0 := it_t c9 h0
              refine lv_iload_n hx hb dX10_best_193 rfl (lv_at hl 2 rfl) ?_
              refine lv_iload_n hx hb dX10_best_194 rfl (lv_at hl 3 rfl) ?_
              refine lv_iload_n hx hb dX10_best_195 rfl (lv_at hl 3 rfl) ?_
              refine lv_imul hx hb dX10_best_196 ?_
              obtain ⟨g0, h0⟩ := gd_ok h0
              refine lv_idiv hx hb dX10_best_197 (nzb_ok g0) ?_
              refine lv_iload_n hx hb dX10_best_198 rfl (lv_at hl 3 rfl) ?_
              obtain ⟨g0, h0⟩ := gd_ok h0
              refine lv_irem hx hb dX10_best_199 (nzb_ok g0) ?_
              refine lv_goto (tgt := 219) hx hb dX10_best_200 (by decide) ?_
              have e0 := Option.some.inj h0
              subst e0
              exact W.iret (v := ((x3_3 / ((h_s_f (0 : Int32).toNatClampNeg) * (h_s_f (0 : Int32).toNatClampNeg))) - (x3_3 / ((h_s_f (0 : Int32).toNatClampNeg) * (h_s_f (0 : Int32).toNatClampNeg))) / (h_s_f (0 : Int32).toNatClampNeg) * (h_s_f (0 : Int32).toNatClampNeg))) hx hb hr (fun t ht hW => wr_end () ht hP hD hS) hS.2.2 dX10_best_219
          · have h0 := it_t c9 h0
            refine lv_iload_n hx hb dX10_best_178 rfl (lv_at hl 2 rfl) ?_
            refine lv_iload_n hx hb dX10_best_179 rfl (lv_at hl 3 rfl) ?_
            refine lv_iload_n hx hb dX10_best_180 rfl (lv_at hl 3 rfl) ?_
            refine lv_imul hx hb dX10_best_181 ?_
            refine lv_iload_n hx hb dX10_best_182 rfl (lv_at hl 3 rfl) ?_
            refine lv_imul hx hb dX10_best_183 ?_
            obtain ⟨g0, h0⟩ := gd_ok h0
            refine lv_idiv hx hb dX10_best_184 (nzb_ok g0) ?_
            refine lv_goto (tgt := 219) hx hb dX10_best_185 (by decide) ?_
            have e0 := Option.some.inj h0
            subst e0
            exact W.iret (v := (x3_3 / (((h_s_f (0 : Int32).toNatClampNeg) * (h_s_f (0 : Int32).toNatClampNeg)) * (h_s_f (0 : Int32).toNatClampNeg)))) hx hb hr (fun t ht hW => wr_end () ht hP hD hS) hS.2.2 dX10_best_219
        · have h0 := it_t c9 h0
          refine lv_iload hx hb dX10_best_169 (lv_at hl 1 rfl) ?_
          refine lv_goto (tgt := 219) hx hb dX10_best_171 (by decide) ?_
          have e0 := Option.some.inj h0
          subst e0
          exact W.iret (v := x4_4) hx hb hr (fun t ht hW => wr_end () ht hP hD hS) hS.2.2 dX10_best_219
      · have h0 := it_t c9 h0
        refine lv_bipush (v := (-4)) hx hb dX10_best_161 (by decide) ?_
        have e0 := Option.some.inj h0
        subst e0
        exact W.iret (v := (-4)) hx hb hr (fun t ht hW => wr_end () ht hP hD hS) hS.2.2 dX10_best_163
    have L_26_12 : ∀ (F26 : Nat) (x5_7 : Int32) (x3_8 : Int32) (x4_9 : Int32) (f_10 : Nat → Int32) (H : Heap) (locs : List Loc) (ls : Array Slot), mX10_best_L26 h_s_f (fun (x5_2 : Int32) (x3_3 : Int32) (x4_4 : Int32) (f_5 : Nat → Int32) => if x3_3 = (-1) then (some ((-4), f_5)) else (if p1 = 4 then (some (x4_4, f_5)) else (if p1 = 0 then (gd (nzb (((h_s_f (0 : Int32).toNatClampNeg) * (h_s_f (0 : Int32).toNatClampNeg)) * (h_s_f (0 : Int32).toNatClampNeg))) (some ((x3_3 / (((h_s_f (0 : Int32).toNatClampNeg) * (h_s_f (0 : Int32).toNatClampNeg)) * (h_s_f (0 : Int32).toNatClampNeg))), f_5))) else (if p1 = 1 then (gd (nzb ((h_s_f (0 : Int32).toNatClampNeg) * (h_s_f (0 : Int32).toNatClampNeg))) (gd (nzb (h_s_f (0 : Int32).toNatClampNeg)) (some (((x3_3 / ((h_s_f (0 : Int32).toNatClampNeg) * (h_s_f (0 : Int32).toNatClampNeg))) - (x3_3 / ((h_s_f (0 : Int32).toNatClampNeg) * (h_s_f (0 : Int32).toNatClampNeg))) / (h_s_f (0 : Int32).toNatClampNeg) * (h_s_f (0 : Int32).toNatClampNeg)), f_5)))) else (if p1 = 2 then (gd (nzb (h_s_f (0 : Int32).toNatClampNeg)) (gd (nzb (h_s_f (0 : Int32).toNatClampNeg)) (some (((x3_3 / (h_s_f (0 : Int32).toNatClampNeg)) - (x3_3 / (h_s_f (0 : Int32).toNatClampNeg)) / (h_s_f (0 : Int32).toNatClampNeg) * (h_s_f (0 : Int32).toNatClampNeg)), f_5)))) else (gd (nzb (h_s_f (0 : Int32).toNatClampNeg)) (some ((x3_3 - x3_3 / (h_s_f (0 : Int32).toNatClampNeg) * (h_s_f (0 : Int32).toNatClampNeg)), f_5)))))))) F26 x5_7 x3_8 x4_9 f_10 = some z → va_P D vwCl [(h, .inr (7, [.ref h_s, .ref h_aside, .ref h_past, .int h_pasts, .ref h_snapshot, .int h_isKept, .ref h_pad, .int h_length, .ref h_steps, .int h_many, .int h_value, .ref h_summed, .ref h_plus, .ref h_parts])), (h_s, .inl (cI, 65, .inl f_10)), (h_aside, .inl (cI, 65, .inl h_aside_f)), (h_past, .inl (cI, 260, .inl h_past_f)), (h_snapshot, .inl (cI, 65, .inl h_snapshot_f)), (h_pad, .inl (cI, 80, .inl h_pad_f)), (h_steps, .inl (cI, 320, .inl h_steps_f)), (h_summed, .inl (cI, 81, .inl h_summed_f)), (h_plus, .inl (cI, 81, .inl h_plus_f)), (h_parts, .inl (cI, 392, .inl h_parts_f))] H → va_D A [(h, .inr (7, [.ref h_s, .ref h_aside, .ref h_past, .int h_pasts, .ref h_snapshot, .int h_isKept, .ref h_pad, .int h_length, .ref h_steps, .int h_many, .int h_value, .ref h_summed, .ref h_plus, .ref h_parts])), (h_s, .inl (cI, 65, .inl f_10)), (h_aside, .inl (cI, 65, .inl h_aside_f)), (h_past, .inl (cI, 260, .inl h_past_f)), (h_snapshot, .inl (cI, 65, .inl h_snapshot_f)), (h_pad, .inl (cI, 80, .inl h_pad_f)), (h_steps, .inl (cI, 320, .inl h_steps_f)), (h_summed, .inl (cI, 81, .inl h_summed_f)), (h_plus, .inl (cI, 81, .inl h_plus_f)), (h_parts, .inl (cI, 392, .inl h_parts_f))] → va_S A s.heap H locs → lv_has ls 11 [(5, .int x5_7), (4, .int x4_9), (3, .int x3_8), (2, .int (h_s_f (0 : Int32).toNatClampNeg)), (0, .ref h), (1, .int p1)] → W p l e (headSpec wsX10_best ({ frames := 6, cells := 0, slots := 0, locals := 137 } : Room)).room s m (([.ref h, .int p1] : List Value).toArray) below meth c H locs 0 0 (MQ below (wQ D (some (.int z.1)) A (fun (u : Unit) => [(h, .inr (7, [.ref h_s, .ref h_aside, .ref h_past, .int h_pasts, .ref h_snapshot, .int h_isKept, .ref h_pad, .int h_length, .ref h_steps, .int h_many, .int h_value, .ref h_summed, .ref h_plus, .ref h_parts])), (h_s, .inl (cI, 65, .inl z.2)), (h_aside, .inl (cI, 65, .inl h_aside_f)), (h_past, .inl (cI, 260, .inl h_past_f)), (h_snapshot, .inl (cI, 65, .inl h_snapshot_f)), (h_pad, .inl (cI, 80, .inl h_pad_f)), (h_steps, .inl (cI, 320, .inl h_steps_f)), (h_summed, .inl (cI, 81, .inl h_summed_f)), (h_plus, .inl (cI, 81, .inl h_plus_f)), (h_parts, .inl (cI, 392, .inl h_parts_f))])) (([.ref h, .int p1] : List Value).toArray) s 0 0 A) (F0 m 26 ls []) := by
      intro F26
      induction F26 with
      | zero => intro x5_7 x3_8 x4_9 f_10 H locs ls h0 hP hD hS hl; cases h0
      | succ F26 ih26 =>
        intro x5_7 x3_8 x4_9 f_10 H locs ls h0 hP hD hS hl
        rw [mX10_best_L26] at h0
        refine lv_iload hx hb dX10_best_26 (lv_at hl 0 rfl) ?_
        refine lv_iload_n hx hb dX10_best_28 rfl (lv_at hl 3 rfl) ?_
        refine lv_iload_n hx hb dX10_best_29 rfl (lv_at hl 3 rfl) ?_
        refine lv_imul hx hb dX10_best_30 ?_
        refine lv_iload_n hx hb dX10_best_31 rfl (lv_at hl 3 rfl) ?_
        refine lv_imul hx hb dX10_best_32 ?_
        refine lv_iload_n hx hb dX10_best_33 rfl (lv_at hl 3 rfl) ?_
        refine lv_imul hx hb dX10_best_34 ?_
        refine lv_icmp_ge (tgt := 156) hx hb dX10_best_35 (by decide) (fun c9 => ?_) (fun c9 => ?_)
        · have h0 := it_t c9 h0
          exact E_26_156_5 x5_7 x3_8 x4_9 f_10 _ _ ls h0 hP hD hS hl
        · have h0 := it_f c9 h0
          refine lv_iload hx hb dX10_best_38 (lv_at hl 0 rfl) ?_
          refine lv_iload_n hx hb dX10_best_40 rfl (lv_at hl 3 rfl) ?_
          refine lv_iload_n hx hb dX10_best_41 rfl (lv_at hl 3 rfl) ?_
          refine lv_imul hx hb dX10_best_42 ?_
          refine lv_iload_n hx hb dX10_best_43 rfl (lv_at hl 3 rfl) ?_
          refine lv_imul hx hb dX10_best_44 ?_
          obtain ⟨g0, h0⟩ := gd_ok h0
          refine lv_idiv hx hb dX10_best_45 (nzb_ok g0) ?_
          refine lv_istore (lv' := [(6, .int (x5_7 / (((h_s_f (0 : Int32).toNatClampNeg) * (h_s_f (0 : Int32).toNatClampNeg)) * (h_s_f (0 : Int32).toNatClampNeg)))), (5, .int x5_7), (4, .int x4_9), (3, .int x3_8), (2, .int (h_s_f (0 : Int32).toNatClampNeg)), (0, .ref h), (1, .int p1)]) hx hb dX10_best_46 hl (by decide) rfl (fun ls hl => ?_)
          refine lv_iload hx hb dX10_best_48 (lv_at hl 1 rfl) ?_
          refine lv_iload_n hx hb dX10_best_50 rfl (lv_at hl 4 rfl) ?_
          refine lv_iload_n hx hb dX10_best_51 rfl (lv_at hl 4 rfl) ?_
          refine lv_imul hx hb dX10_best_52 ?_
          obtain ⟨g0, h0⟩ := gd_ok h0
          refine lv_idiv hx hb dX10_best_53 (nzb_ok g0) ?_
          refine lv_iload_n hx hb dX10_best_54 rfl (lv_at hl 4 rfl) ?_
          obtain ⟨g0, h0⟩ := gd_ok h0
          refine lv_irem hx hb dX10_best_55 (nzb_ok g0) ?_
          refine lv_istore (lv' := [(7, .int ((x5_7 / ((h_s_f (0 : Int32).toNatClampNeg) * (h_s_f (0 : Int32).toNatClampNeg))) - (x5_7 / ((h_s_f (0 : Int32).toNatClampNeg) * (h_s_f (0 : Int32).toNatClampNeg))) / (h_s_f (0 : Int32).toNatClampNeg) * (h_s_f (0 : Int32).toNatClampNeg))), (6, .int (x5_7 / (((h_s_f (0 : Int32).toNatClampNeg) * (h_s_f (0 : Int32).toNatClampNeg)) * (h_s_f (0 : Int32).toNatClampNeg)))), (5, .int x5_7), (4, .int x4_9), (3, .int x3_8), (2, .int (h_s_f (0 : Int32).toNatClampNeg)), (0, .ref h), (1, .int p1)]) hx hb dX10_best_56 hl (by decide) rfl (fun ls hl => ?_)
          refine lv_iload hx hb dX10_best_58 (lv_at hl 2 rfl) ?_
          refine lv_iload_n hx hb dX10_best_60 rfl (lv_at hl 5 rfl) ?_
          obtain ⟨g0, h0⟩ := gd_ok h0
          refine lv_idiv hx hb dX10_best_61 (nzb_ok g0) ?_
          refine lv_iload_n hx hb dX10_best_62 rfl (lv_at hl 5 rfl) ?_
          obtain ⟨g0, h0⟩ := gd_ok h0
          refine lv_irem hx hb dX10_best_63 (nzb_ok g0) ?_
          refine lv_istore (lv' := [(8, .int ((x5_7 / (h_s_f (0 : Int32).toNatClampNeg)) - (x5_7 / (h_s_f (0 : Int32).toNatClampNeg)) / (h_s_f (0 : Int32).toNatClampNeg) * (h_s_f (0 : Int32).toNatClampNeg))), (7, .int ((x5_7 / ((h_s_f (0 : Int32).toNatClampNeg) * (h_s_f (0 : Int32).toNatClampNeg))) - (x5_7 / ((h_s_f (0 : Int32).toNatClampNeg) * (h_s_f (0 : Int32).toNatClampNeg))) / (h_s_f (0 : Int32).toNatClampNeg) * (h_s_f (0 : Int32).toNatClampNeg))), (6, .int (x5_7 / (((h_s_f (0 : Int32).toNatClampNeg) * (h_s_f (0 : Int32).toNatClampNeg)) * (h_s_f (0 : Int32).toNatClampNeg)))), (5, .int x5_7), (4, .int x4_9), (3, .int x3_8), (2, .int (h_s_f (0 : Int32).toNatClampNeg)), (0, .ref h), (1, .int p1)]) hx hb dX10_best_64 hl (by decide) rfl (fun ls hl => ?_)
          refine lv_iload hx hb dX10_best_66 (lv_at hl 3 rfl) ?_
          refine lv_iload_n hx hb dX10_best_68 rfl (lv_at hl 6 rfl) ?_
          obtain ⟨g0, h0⟩ := gd_ok h0
          refine lv_irem hx hb dX10_best_69 (nzb_ok g0) ?_
          refine lv_istore (lv' := [(9, .int (x5_7 - x5_7 / (h_s_f (0 : Int32).toNatClampNeg) * (h_s_f (0 : Int32).toNatClampNeg))), (8, .int ((x5_7 / (h_s_f (0 : Int32).toNatClampNeg)) - (x5_7 / (h_s_f (0 : Int32).toNatClampNeg)) / (h_s_f (0 : Int32).toNatClampNeg) * (h_s_f (0 : Int32).toNatClampNeg))), (7, .int ((x5_7 / ((h_s_f (0 : Int32).toNatClampNeg) * (h_s_f (0 : Int32).toNatClampNeg))) - (x5_7 / ((h_s_f (0 : Int32).toNatClampNeg) * (h_s_f (0 : Int32).toNatClampNeg))) / (h_s_f (0 : Int32).toNatClampNeg) * (h_s_f (0 : Int32).toNatClampNeg))), (6, .int (x5_7 / (((h_s_f (0 : Int32).toNatClampNeg) * (h_s_f (0 : Int32).toNatClampNeg)) * (h_s_f (0 : Int32).toNatClampNeg)))), (5, .int x5_7), (4, .int x4_9), (3, .int x3_8), (2, .int (h_s_f (0 : Int32).toNatClampNeg)), (0, .ref h), (1, .int p1)]) hx hb dX10_best_70 hl (by decide) rfl (fun ls hl => ?_)
          refine lv_iload hx hb dX10_best_72 (lv_at hl 3 rfl) ?_
          refine lv_iload hx hb dX10_best_74 (lv_at hl 2 rfl) ?_
          refine lv_icmp_ge (tgt := 150) hx hb dX10_best_76 (by decide) (fun c9 => ?_) (fun c9 => ?_)
          · have h0 := it_t c9 h0
            refine lv_iinc (v := (x5_7 + 1)) (lv' := [(5, .int (x5_7 + 1)), (9, .int (x5_7 - x5_7 / (h_s_f (0 : Int32).toNatClampNeg) * (h_s_f (0 : Int32).toNatClampNeg))), (8, .int ((x5_7 / (h_s_f (0 : Int32).toNatClampNeg)) - (x5_7 / (h_s_f (0 : Int32).toNatClampNeg)) / (h_s_f (0 : Int32).toNatClampNeg) * (h_s_f (0 : Int32).toNatClampNeg))), (7, .int ((x5_7 / ((h_s_f (0 : Int32).toNatClampNeg) * (h_s_f (0 : Int32).toNatClampNeg))) - (x5_7 / ((h_s_f (0 : Int32).toNatClampNeg) * (h_s_f (0 : Int32).toNatClampNeg))) / (h_s_f (0 : Int32).toNatClampNeg) * (h_s_f (0 : Int32).toNatClampNeg))), (6, .int (x5_7 / (((h_s_f (0 : Int32).toNatClampNeg) * (h_s_f (0 : Int32).toNatClampNeg)) * (h_s_f (0 : Int32).toNatClampNeg)))), (4, .int x4_9), (3, .int x3_8), (2, .int (h_s_f (0 : Int32).toNatClampNeg)), (0, .ref h), (1, .int p1)]) hx hb dX10_best_150 hl (k := 4) rfl rfl (by decide) rfl (fun ls hl => ?_)
            refine lv_goto (tgt := 26) hx hb dX10_best_153 (by decide) ?_
            exact ih26 (x5_7 + 1) x3_8 x4_9 f_10 _ _ ls h0 hP hD hS (lv_sub hl [0, 5, 6, 7, 8, 9] rfl)
          · have h0 := it_f c9 h0
            refine lv_iload hx hb dX10_best_79 (lv_at hl 1 rfl) ?_
            refine lv_iload hx hb dX10_best_81 (lv_at hl 0 rfl) ?_
            refine lv_icmp_ge (tgt := 150) hx hb dX10_best_83 (by decide) (fun c9 => ?_) (fun c9 => ?_)
            · have h0 := it_t c9 h0
              refine lv_iinc (v := (x5_7 + 1)) (lv' := [(5, .int (x5_7 + 1)), (9, .int (x5_7 - x5_7 / (h_s_f (0 : Int32).toNatClampNeg) * (h_s_f (0 : Int32).toNatClampNeg))), (8, .int ((x5_7 / (h_s_f (0 : Int32).toNatClampNeg)) - (x5_7 / (h_s_f (0 : Int32).toNatClampNeg)) / (h_s_f (0 : Int32).toNatClampNeg) * (h_s_f (0 : Int32).toNatClampNeg))), (7, .int ((x5_7 / ((h_s_f (0 : Int32).toNatClampNeg) * (h_s_f (0 : Int32).toNatClampNeg))) - (x5_7 / ((h_s_f (0 : Int32).toNatClampNeg) * (h_s_f (0 : Int32).toNatClampNeg))) / (h_s_f (0 : Int32).toNatClampNeg) * (h_s_f (0 : Int32).toNatClampNeg))), (6, .int (x5_7 / (((h_s_f (0 : Int32).toNatClampNeg) * (h_s_f (0 : Int32).toNatClampNeg)) * (h_s_f (0 : Int32).toNatClampNeg)))), (4, .int x4_9), (3, .int x3_8), (2, .int (h_s_f (0 : Int32).toNatClampNeg)), (0, .ref h), (1, .int p1)]) hx hb dX10_best_150 hl (k := 4) rfl rfl (by decide) rfl (fun ls hl => ?_)
              refine lv_goto (tgt := 26) hx hb dX10_best_153 (by decide) ?_
              exact ih26 (x5_7 + 1) x3_8 x4_9 f_10 _ _ ls h0 hP hD hS (lv_sub hl [0, 5, 6, 7, 8, 9] rfl)
            · have h0 := it_f c9 h0
              refine lv_aload_n hx hb dX10_best_86 rfl (lv_at hl 8 rfl) ?_
              refine lv_iload hx hb dX10_best_87 (lv_at hl 3 rfl) ?_
              refine lv_iload hx hb dX10_best_89 (lv_at hl 2 rfl) ?_
              refine lv_iload hx hb dX10_best_91 (lv_at hl 1 rfl) ?_
              refine lv_iload hx hb dX10_best_93 (lv_at hl 0 rfl) ?_
              obtain ⟨z_11, hz, h0⟩ := bd_ok h0
              refine ro_V (As := [.int (x5_7 / (((h_s_f (0 : Int32).toNatClampNeg) * (h_s_f (0 : Int32).toNatClampNeg)) * (h_s_f (0 : Int32).toNatClampNeg))), .int ((x5_7 / ((h_s_f (0 : Int32).toNatClampNeg) * (h_s_f (0 : Int32).toNatClampNeg))) - (x5_7 / ((h_s_f (0 : Int32).toNatClampNeg) * (h_s_f (0 : Int32).toNatClampNeg))) / (h_s_f (0 : Int32).toNatClampNeg) * (h_s_f (0 : Int32).toNatClampNeg)), .int ((x5_7 / (h_s_f (0 : Int32).toNatClampNeg)) - (x5_7 / (h_s_f (0 : Int32).toNatClampNeg)) / (h_s_f (0 : Int32).toNatClampNeg) * (h_s_f (0 : Int32).toNatClampNeg)), .int (x5_7 - x5_7 / (h_s_f (0 : Int32).toNatClampNeg) * (h_s_f (0 : Int32).toNatClampNeg))]) (rest := []) (wc := [(h, .inr (7, [.ref h_s, .ref h_aside, .ref h_past, .int h_pasts, .ref h_snapshot, .int h_isKept, .ref h_pad, .int h_length, .ref h_steps, .int h_many, .int h_value, .ref h_summed, .ref h_plus, .ref h_parts])), (h_s, .inl (cI, 65, .inl f_10)), (h_aside, .inl (cI, 65, .inl h_aside_f)), (h_past, .inl (cI, 260, .inl h_past_f)), (h_snapshot, .inl (cI, 65, .inl h_snapshot_f)), (h_pad, .inl (cI, 80, .inl h_pad_f)), (h_steps, .inl (cI, 320, .inl h_steps_f)), (h_summed, .inl (cI, 81, .inl h_summed_f)), (h_plus, .inl (cI, 81, .inl h_plus_f)), (h_parts, .inl (cI, 392, .inl h_parts_f))]) hcf (kX10_isSquare l D cI cC cT h h_s h_aside h_past h_snapshot h_pad h_steps h_summed h_plus h_parts f_10 h_aside_f h_past_f h_pasts h_snapshot_f h_isKept h_pad_f h_length h_steps_f h_many h_value h_summed_f h_plus_f h_parts_f (x5_7 / (((h_s_f (0 : Int32).toNatClampNeg) * (h_s_f (0 : Int32).toNatClampNeg)) * (h_s_f (0 : Int32).toNatClampNeg))) ((x5_7 / ((h_s_f (0 : Int32).toNatClampNeg) * (h_s_f (0 : Int32).toNatClampNeg))) - (x5_7 / ((h_s_f (0 : Int32).toNatClampNeg) * (h_s_f (0 : Int32).toNatClampNeg))) / (h_s_f (0 : Int32).toNatClampNeg) * (h_s_f (0 : Int32).toNatClampNeg)) ((x5_7 / (h_s_f (0 : Int32).toNatClampNeg)) - (x5_7 / (h_s_f (0 : Int32).toNatClampNeg)) / (h_s_f (0 : Int32).toNatClampNeg) * (h_s_f (0 : Int32).toNatClampNeg)) (x5_7 - x5_7 / (h_s_f (0 : Int32).toNatClampNeg) * (h_s_f (0 : Int32).toNatClampNeg)) z_11 hz) (cwV 4 hts gX10_best_X10_isSquare rfl rfl rfl (by decide +kernel) ⟨Nat.le_of_ble_eq_true rfl, Nat.le_of_ble_eq_true rfl⟩) hE (hP.sub [0, 1, 2, 3, 4, 5, 6, 7, 8, 9] rfl) (va_recv hK hP (ci := 7) (q0 := 0) rfl rfl) rfl hl.1 rfl (Nat.le_of_ble_eq_true rfl) dX10_best_95 ⟨Nat.le_of_ble_eq_true rfl, Nat.le_of_ble_eq_true rfl⟩ ?_
              refine W.eq (g2 := F0 m 98 ls [.int z_11]) rfl ?_
              refine lv_if_eq (tgt := 150) hx hb dX10_best_98 (by decide) (fun c9 => ?_) (fun c9 => ?_)
              · have h0 := it_t c9 h0
                refine lv_iinc (v := (x5_7 + 1)) (lv' := [(5, .int (x5_7 + 1)), (9, .int (x5_7 - x5_7 / (h_s_f (0 : Int32).toNatClampNeg) * (h_s_f (0 : Int32).toNatClampNeg))), (8, .int ((x5_7 / (h_s_f (0 : Int32).toNatClampNeg)) - (x5_7 / (h_s_f (0 : Int32).toNatClampNeg)) / (h_s_f (0 : Int32).toNatClampNeg) * (h_s_f (0 : Int32).toNatClampNeg))), (7, .int ((x5_7 / ((h_s_f (0 : Int32).toNatClampNeg) * (h_s_f (0 : Int32).toNatClampNeg))) - (x5_7 / ((h_s_f (0 : Int32).toNatClampNeg) * (h_s_f (0 : Int32).toNatClampNeg))) / (h_s_f (0 : Int32).toNatClampNeg) * (h_s_f (0 : Int32).toNatClampNeg))), (6, .int (x5_7 / (((h_s_f (0 : Int32).toNatClampNeg) * (h_s_f (0 : Int32).toNatClampNeg)) * (h_s_f (0 : Int32).toNatClampNeg)))), (4, .int x4_9), (3, .int x3_8), (2, .int (h_s_f (0 : Int32).toNatClampNeg)), (0, .ref h), (1, .int p1)]) hx hb dX10_best_150 hl (k := 4) rfl rfl (by decide) rfl (fun ls hl => ?_)
                refine lv_goto (tgt := 26) hx hb dX10_best_153 (by decide) ?_
                exact ih26 (x5_7 + 1) x3_8 x4_9 f_10 _ _ ls h0 hP hD hS (lv_sub hl [0, 5, 6, 7, 8, 9] rfl)
              · have h0 := it_f c9 h0
                refine lv_aload_n hx hb dX10_best_101 rfl (lv_at hl 8 rfl) ?_
                refine lv_iload hx hb dX10_best_102 (lv_at hl 3 rfl) ?_
                refine lv_iload hx hb dX10_best_104 (lv_at hl 2 rfl) ?_
                refine lv_iload hx hb dX10_best_106 (lv_at hl 1 rfl) ?_
                refine lv_iload hx hb dX10_best_108 (lv_at hl 0 rfl) ?_
                obtain ⟨z_12, hz, h0⟩ := bd_ok h0
                refine wr_V (As := [.int (x5_7 / (((h_s_f (0 : Int32).toNatClampNeg) * (h_s_f (0 : Int32).toNatClampNeg)) * (h_s_f (0 : Int32).toNatClampNeg))), .int ((x5_7 / ((h_s_f (0 : Int32).toNatClampNeg) * (h_s_f (0 : Int32).toNatClampNeg))) - (x5_7 / ((h_s_f (0 : Int32).toNatClampNeg) * (h_s_f (0 : Int32).toNatClampNeg))) / (h_s_f (0 : Int32).toNatClampNeg) * (h_s_f (0 : Int32).toNatClampNeg)), .int ((x5_7 / (h_s_f (0 : Int32).toNatClampNeg)) - (x5_7 / (h_s_f (0 : Int32).toNatClampNeg)) / (h_s_f (0 : Int32).toNatClampNeg) * (h_s_f (0 : Int32).toNatClampNeg)), .int (x5_7 - x5_7 / (h_s_f (0 : Int32).toNatClampNeg) * (h_s_f (0 : Int32).toNatClampNeg))]) (rest := []) (wc := [(h, .inr (7, [.ref h_s, .ref h_aside, .ref h_past, .int h_pasts, .ref h_snapshot, .int h_isKept, .ref h_pad, .int h_length, .ref h_steps, .int h_many, .int h_value, .ref h_summed, .ref h_plus, .ref h_parts])), (h_s, .inl (cI, 65, .inl f_10)), (h_aside, .inl (cI, 65, .inl h_aside_f)), (h_past, .inl (cI, 260, .inl h_past_f)), (h_snapshot, .inl (cI, 65, .inl h_snapshot_f)), (h_pad, .inl (cI, 80, .inl h_pad_f)), (h_steps, .inl (cI, 320, .inl h_steps_f)), (h_summed, .inl (cI, 81, .inl h_summed_f)), (h_plus, .inl (cI, 81, .inl h_plus_f)), (h_parts, .inl (cI, 392, .inl h_parts_f))]) (wr := []) hcf (kX10_triplesThen l D cI cC cT h h_s h_aside h_past h_snapshot h_pad h_steps h_summed h_plus h_parts f_10 h_aside_f h_past_f h_pasts h_snapshot_f h_isKept h_pad_f h_length h_steps_f h_many h_value h_summed_f h_plus_f h_parts_f (x5_7 / (((h_s_f (0 : Int32).toNatClampNeg) * (h_s_f (0 : Int32).toNatClampNeg)) * (h_s_f (0 : Int32).toNatClampNeg))) ((x5_7 / ((h_s_f (0 : Int32).toNatClampNeg) * (h_s_f (0 : Int32).toNatClampNeg))) - (x5_7 / ((h_s_f (0 : Int32).toNatClampNeg) * (h_s_f (0 : Int32).toNatClampNeg))) / (h_s_f (0 : Int32).toNatClampNeg) * (h_s_f (0 : Int32).toNatClampNeg)) ((x5_7 / (h_s_f (0 : Int32).toNatClampNeg)) - (x5_7 / (h_s_f (0 : Int32).toNatClampNeg)) / (h_s_f (0 : Int32).toNatClampNeg) * (h_s_f (0 : Int32).toNatClampNeg)) (x5_7 - x5_7 / (h_s_f (0 : Int32).toNatClampNeg) * (h_s_f (0 : Int32).toNatClampNeg)) _ z_12 hz) (cwV 4 hts gX10_best_X10_triplesThen rfl rfl rfl (by decide +kernel) ⟨Nat.le_of_ble_eq_true rfl, Nat.le_of_ble_eq_true rfl⟩) hE hP hD hS hA [0, 1, 2, 3, 4, 5, 6, 7, 8, 9] [] (hP.sub [0, 1, 2, 3, 4, 5, 6, 7, 8, 9] rfl) (hD.sub [0, 1, 2, 3, 4, 5, 6, 7, 8, 9] (by decide) rfl) (va_recv hK hP (ci := 7) (q0 := 0) rfl rfl) rfl rfl (by decide) (by decide) rfl hl.1 rfl (Nat.le_of_ble_eq_true rfl) dX10_best_110 ⟨Nat.le_of_ble_eq_true rfl, Nat.le_of_ble_eq_true rfl⟩ (fun u H locs hP hD hS => ?_)
                have hP : va_P D vwCl [(h, .inr (7, [.ref h_s, .ref h_aside, .ref h_past, .int h_pasts, .ref h_snapshot, .int h_isKept, .ref h_pad, .int h_length, .ref h_steps, .int h_many, .int h_value, .ref h_summed, .ref h_plus, .ref h_parts])), (h_s, .inl (cI, 65, .inl z_12.2)), (h_aside, .inl (cI, 65, .inl h_aside_f)), (h_past, .inl (cI, 260, .inl h_past_f)), (h_snapshot, .inl (cI, 65, .inl h_snapshot_f)), (h_pad, .inl (cI, 80, .inl h_pad_f)), (h_steps, .inl (cI, 320, .inl h_steps_f)), (h_summed, .inl (cI, 81, .inl h_summed_f)), (h_plus, .inl (cI, 81, .inl h_plus_f)), (h_parts, .inl (cI, 392, .inl h_parts_f))] H := hP
                have hD : va_D A [(h, .inr (7, [.ref h_s, .ref h_aside, .ref h_past, .int h_pasts, .ref h_snapshot, .int h_isKept, .ref h_pad, .int h_length, .ref h_steps, .int h_many, .int h_value, .ref h_summed, .ref h_plus, .ref h_parts])), (h_s, .inl (cI, 65, .inl z_12.2)), (h_aside, .inl (cI, 65, .inl h_aside_f)), (h_past, .inl (cI, 260, .inl h_past_f)), (h_snapshot, .inl (cI, 65, .inl h_snapshot_f)), (h_pad, .inl (cI, 80, .inl h_pad_f)), (h_steps, .inl (cI, 320, .inl h_steps_f)), (h_summed, .inl (cI, 81, .inl h_summed_f)), (h_plus, .inl (cI, 81, .inl h_plus_f)), (h_parts, .inl (cI, 392, .inl h_parts_f))] := hD
                refine W.eq (g2 := F0 m 113 ls [.int z_12.1]) rfl ?_
                refine lv_istore (lv' := [(10, .int z_12.1), (9, .int (x5_7 - x5_7 / (h_s_f (0 : Int32).toNatClampNeg) * (h_s_f (0 : Int32).toNatClampNeg))), (8, .int ((x5_7 / (h_s_f (0 : Int32).toNatClampNeg)) - (x5_7 / (h_s_f (0 : Int32).toNatClampNeg)) / (h_s_f (0 : Int32).toNatClampNeg) * (h_s_f (0 : Int32).toNatClampNeg))), (7, .int ((x5_7 / ((h_s_f (0 : Int32).toNatClampNeg) * (h_s_f (0 : Int32).toNatClampNeg))) - (x5_7 / ((h_s_f (0 : Int32).toNatClampNeg) * (h_s_f (0 : Int32).toNatClampNeg))) / (h_s_f (0 : Int32).toNatClampNeg) * (h_s_f (0 : Int32).toNatClampNeg))), (6, .int (x5_7 / (((h_s_f (0 : Int32).toNatClampNeg) * (h_s_f (0 : Int32).toNatClampNeg)) * (h_s_f (0 : Int32).toNatClampNeg)))), (5, .int x5_7), (4, .int x4_9), (3, .int x3_8), (2, .int (h_s_f (0 : Int32).toNatClampNeg)), (0, .ref h), (1, .int p1)]) hx hb dX10_best_113 hl (by decide) rfl (fun ls hl => ?_)
                refine lv_iload_n hx hb dX10_best_115 rfl (lv_at hl 7 rfl) ?_
                refine lv_iconst (v := (-1)) hx hb dX10_best_116 (by decide) ?_
                refine lv_icmp_eq (tgt := 127) hx hb dX10_best_117 (by decide) (fun c9 => ?_) (fun c9 => ?_)
                · have h0 := it_t c9 h0
                  refine lv_iload hx hb dX10_best_127 (lv_at hl 5 rfl) ?_
                  refine lv_goto (tgt := 133) hx hb dX10_best_129 (by decide) ?_
                  refine lv_istore_n (lv' := [(3, .int x5_7), (10, .int z_12.1), (9, .int (x5_7 - x5_7 / (h_s_f (0 : Int32).toNatClampNeg) * (h_s_f (0 : Int32).toNatClampNeg))), (8, .int ((x5_7 / (h_s_f (0 : Int32).toNatClampNeg)) - (x5_7 / (h_s_f (0 : Int32).toNatClampNeg)) / (h_s_f (0 : Int32).toNatClampNeg) * (h_s_f (0 : Int32).toNatClampNeg))), (7, .int ((x5_7 / ((h_s_f (0 : Int32).toNatClampNeg) * (h_s_f (0 : Int32).toNatClampNeg))) - (x5_7 / ((h_s_f (0 : Int32).toNatClampNeg) * (h_s_f (0 : Int32).toNatClampNeg))) / (h_s_f (0 : Int32).toNatClampNeg) * (h_s_f (0 : Int32).toNatClampNeg))), (6, .int (x5_7 / (((h_s_f (0 : Int32).toNatClampNeg) * (h_s_f (0 : Int32).toNatClampNeg)) * (h_s_f (0 : Int32).toNatClampNeg)))), (5, .int x5_7), (4, .int x4_9), (2, .int (h_s_f (0 : Int32).toNatClampNeg)), (0, .ref h), (1, .int p1)]) hx hb dX10_best_133 rfl hl (by decide) rfl (fun ls hl => ?_)
                  refine lv_iload hx hb dX10_best_134 (lv_at hl 1 rfl) ?_
                  refine lv_iload hx hb dX10_best_136 (lv_at hl 7 rfl) ?_
                  refine lv_icmp_le (tgt := 146) hx hb dX10_best_138 (by decide) (fun c9 => ?_) (fun c9 => ?_)
                  · have h0 := it_t c9 h0
                    refine lv_iload hx hb dX10_best_146 (lv_at hl 7 rfl) ?_
                    refine lv_istore (lv' := [(4, .int x4_9), (3, .int x5_7), (10, .int z_12.1), (9, .int (x5_7 - x5_7 / (h_s_f (0 : Int32).toNatClampNeg) * (h_s_f (0 : Int32).toNatClampNeg))), (8, .int ((x5_7 / (h_s_f (0 : Int32).toNatClampNeg)) - (x5_7 / (h_s_f (0 : Int32).toNatClampNeg)) / (h_s_f (0 : Int32).toNatClampNeg) * (h_s_f (0 : Int32).toNatClampNeg))), (7, .int ((x5_7 / ((h_s_f (0 : Int32).toNatClampNeg) * (h_s_f (0 : Int32).toNatClampNeg))) - (x5_7 / ((h_s_f (0 : Int32).toNatClampNeg) * (h_s_f (0 : Int32).toNatClampNeg))) / (h_s_f (0 : Int32).toNatClampNeg) * (h_s_f (0 : Int32).toNatClampNeg))), (6, .int (x5_7 / (((h_s_f (0 : Int32).toNatClampNeg) * (h_s_f (0 : Int32).toNatClampNeg)) * (h_s_f (0 : Int32).toNatClampNeg)))), (5, .int x5_7), (2, .int (h_s_f (0 : Int32).toNatClampNeg)), (0, .ref h), (1, .int p1)]) hx hb dX10_best_148 hl (by decide) rfl (fun ls hl => ?_)
                    refine lv_iinc (v := (x5_7 + 1)) (lv' := [(5, .int (x5_7 + 1)), (4, .int x4_9), (3, .int x5_7), (10, .int z_12.1), (9, .int (x5_7 - x5_7 / (h_s_f (0 : Int32).toNatClampNeg) * (h_s_f (0 : Int32).toNatClampNeg))), (8, .int ((x5_7 / (h_s_f (0 : Int32).toNatClampNeg)) - (x5_7 / (h_s_f (0 : Int32).toNatClampNeg)) / (h_s_f (0 : Int32).toNatClampNeg) * (h_s_f (0 : Int32).toNatClampNeg))), (7, .int ((x5_7 / ((h_s_f (0 : Int32).toNatClampNeg) * (h_s_f (0 : Int32).toNatClampNeg))) - (x5_7 / ((h_s_f (0 : Int32).toNatClampNeg) * (h_s_f (0 : Int32).toNatClampNeg))) / (h_s_f (0 : Int32).toNatClampNeg) * (h_s_f (0 : Int32).toNatClampNeg))), (6, .int (x5_7 / (((h_s_f (0 : Int32).toNatClampNeg) * (h_s_f (0 : Int32).toNatClampNeg)) * (h_s_f (0 : Int32).toNatClampNeg)))), (2, .int (h_s_f (0 : Int32).toNatClampNeg)), (0, .ref h), (1, .int p1)]) hx hb dX10_best_150 hl (k := 7) rfl rfl (by decide) rfl (fun ls hl => ?_)
                    refine lv_goto (tgt := 26) hx hb dX10_best_153 (by decide) ?_
                    exact ih26 (x5_7 + 1) x5_7 x4_9 z_12.2 _ _ ls h0 hP hD hS (lv_sub hl [0, 1, 2, 8, 9, 10] rfl)
                  · have h0 := it_f c9 h0
                    refine lv_iload hx hb dX10_best_141 (lv_at hl 1 rfl) ?_
                    refine lv_goto (tgt := 148) hx hb dX10_best_143 (by decide) ?_
                    refine lv_istore (lv' := [(4, .int z_12.1), (3, .int x5_7), (10, .int z_12.1), (9, .int (x5_7 - x5_7 / (h_s_f (0 : Int32).toNatClampNeg) * (h_s_f (0 : Int32).toNatClampNeg))), (8, .int ((x5_7 / (h_s_f (0 : Int32).toNatClampNeg)) - (x5_7 / (h_s_f (0 : Int32).toNatClampNeg)) / (h_s_f (0 : Int32).toNatClampNeg) * (h_s_f (0 : Int32).toNatClampNeg))), (7, .int ((x5_7 / ((h_s_f (0 : Int32).toNatClampNeg) * (h_s_f (0 : Int32).toNatClampNeg))) - (x5_7 / ((h_s_f (0 : Int32).toNatClampNeg) * (h_s_f (0 : Int32).toNatClampNeg))) / (h_s_f (0 : Int32).toNatClampNeg) * (h_s_f (0 : Int32).toNatClampNeg))), (6, .int (x5_7 / (((h_s_f (0 : Int32).toNatClampNeg) * (h_s_f (0 : Int32).toNatClampNeg)) * (h_s_f (0 : Int32).toNatClampNeg)))), (5, .int x5_7), (2, .int (h_s_f (0 : Int32).toNatClampNeg)), (0, .ref h), (1, .int p1)]) hx hb dX10_best_148 hl (by decide) rfl (fun ls hl => ?_)
                    refine lv_iinc (v := (x5_7 + 1)) (lv' := [(5, .int (x5_7 + 1)), (4, .int z_12.1), (3, .int x5_7), (10, .int z_12.1), (9, .int (x5_7 - x5_7 / (h_s_f (0 : Int32).toNatClampNeg) * (h_s_f (0 : Int32).toNatClampNeg))), (8, .int ((x5_7 / (h_s_f (0 : Int32).toNatClampNeg)) - (x5_7 / (h_s_f (0 : Int32).toNatClampNeg)) / (h_s_f (0 : Int32).toNatClampNeg) * (h_s_f (0 : Int32).toNatClampNeg))), (7, .int ((x5_7 / ((h_s_f (0 : Int32).toNatClampNeg) * (h_s_f (0 : Int32).toNatClampNeg))) - (x5_7 / ((h_s_f (0 : Int32).toNatClampNeg) * (h_s_f (0 : Int32).toNatClampNeg))) / (h_s_f (0 : Int32).toNatClampNeg) * (h_s_f (0 : Int32).toNatClampNeg))), (6, .int (x5_7 / (((h_s_f (0 : Int32).toNatClampNeg) * (h_s_f (0 : Int32).toNatClampNeg)) * (h_s_f (0 : Int32).toNatClampNeg)))), (2, .int (h_s_f (0 : Int32).toNatClampNeg)), (0, .ref h), (1, .int p1)]) hx hb dX10_best_150 hl (k := 7) rfl rfl (by decide) rfl (fun ls hl => ?_)
                    refine lv_goto (tgt := 26) hx hb dX10_best_153 (by decide) ?_
                    exact ih26 (x5_7 + 1) x5_7 z_12.1 z_12.2 _ _ ls h0 hP hD hS (lv_sub hl [0, 1, 2, 8, 9, 10] rfl)
                · have h0 := it_f c9 h0
                  refine lv_iload hx hb dX10_best_120 (lv_at hl 0 rfl) ?_
                  refine lv_iload hx hb dX10_best_122 (lv_at hl 6 rfl) ?_
                  refine lv_icmp_le (tgt := 132) hx hb dX10_best_124 (by decide) (fun c9 => ?_) (fun c9 => ?_)
                  · have h0 := it_t c9 h0
                    refine lv_iload_n hx hb dX10_best_132 rfl (lv_at hl 7 rfl) ?_
                    refine lv_istore_n (lv' := [(3, .int x3_8), (10, .int z_12.1), (9, .int (x5_7 - x5_7 / (h_s_f (0 : Int32).toNatClampNeg) * (h_s_f (0 : Int32).toNatClampNeg))), (8, .int ((x5_7 / (h_s_f (0 : Int32).toNatClampNeg)) - (x5_7 / (h_s_f (0 : Int32).toNatClampNeg)) / (h_s_f (0 : Int32).toNatClampNeg) * (h_s_f (0 : Int32).toNatClampNeg))), (7, .int ((x5_7 / ((h_s_f (0 : Int32).toNatClampNeg) * (h_s_f (0 : Int32).toNatClampNeg))) - (x5_7 / ((h_s_f (0 : Int32).toNatClampNeg) * (h_s_f (0 : Int32).toNatClampNeg))) / (h_s_f (0 : Int32).toNatClampNeg) * (h_s_f (0 : Int32).toNatClampNeg))), (6, .int (x5_7 / (((h_s_f (0 : Int32).toNatClampNeg) * (h_s_f (0 : Int32).toNatClampNeg)) * (h_s_f (0 : Int32).toNatClampNeg)))), (5, .int x5_7), (4, .int x4_9), (2, .int (h_s_f (0 : Int32).toNatClampNeg)), (0, .ref h), (1, .int p1)]) hx hb dX10_best_133 rfl hl (by decide) rfl (fun ls hl => ?_)
                    refine lv_iload hx hb dX10_best_134 (lv_at hl 1 rfl) ?_
                    refine lv_iload hx hb dX10_best_136 (lv_at hl 7 rfl) ?_
                    refine lv_icmp_le (tgt := 146) hx hb dX10_best_138 (by decide) (fun c9 => ?_) (fun c9 => ?_)
                    · have h0 := it_t c9 h0
                      refine lv_iload hx hb dX10_best_146 (lv_at hl 7 rfl) ?_
                      refine lv_istore (lv' := [(4, .int x4_9), (3, .int x3_8), (10, .int z_12.1), (9, .int (x5_7 - x5_7 / (h_s_f (0 : Int32).toNatClampNeg) * (h_s_f (0 : Int32).toNatClampNeg))), (8, .int ((x5_7 / (h_s_f (0 : Int32).toNatClampNeg)) - (x5_7 / (h_s_f (0 : Int32).toNatClampNeg)) / (h_s_f (0 : Int32).toNatClampNeg) * (h_s_f (0 : Int32).toNatClampNeg))), (7, .int ((x5_7 / ((h_s_f (0 : Int32).toNatClampNeg) * (h_s_f (0 : Int32).toNatClampNeg))) - (x5_7 / ((h_s_f (0 : Int32).toNatClampNeg) * (h_s_f (0 : Int32).toNatClampNeg))) / (h_s_f (0 : Int32).toNatClampNeg) * (h_s_f (0 : Int32).toNatClampNeg))), (6, .int (x5_7 / (((h_s_f (0 : Int32).toNatClampNeg) * (h_s_f (0 : Int32).toNatClampNeg)) * (h_s_f (0 : Int32).toNatClampNeg)))), (5, .int x5_7), (2, .int (h_s_f (0 : Int32).toNatClampNeg)), (0, .ref h), (1, .int p1)]) hx hb dX10_best_148 hl (by decide) rfl (fun ls hl => ?_)
                      refine lv_iinc (v := (x5_7 + 1)) (lv' := [(5, .int (x5_7 + 1)), (4, .int x4_9), (3, .int x3_8), (10, .int z_12.1), (9, .int (x5_7 - x5_7 / (h_s_f (0 : Int32).toNatClampNeg) * (h_s_f (0 : Int32).toNatClampNeg))), (8, .int ((x5_7 / (h_s_f (0 : Int32).toNatClampNeg)) - (x5_7 / (h_s_f (0 : Int32).toNatClampNeg)) / (h_s_f (0 : Int32).toNatClampNeg) * (h_s_f (0 : Int32).toNatClampNeg))), (7, .int ((x5_7 / ((h_s_f (0 : Int32).toNatClampNeg) * (h_s_f (0 : Int32).toNatClampNeg))) - (x5_7 / ((h_s_f (0 : Int32).toNatClampNeg) * (h_s_f (0 : Int32).toNatClampNeg))) / (h_s_f (0 : Int32).toNatClampNeg) * (h_s_f (0 : Int32).toNatClampNeg))), (6, .int (x5_7 / (((h_s_f (0 : Int32).toNatClampNeg) * (h_s_f (0 : Int32).toNatClampNeg)) * (h_s_f (0 : Int32).toNatClampNeg)))), (2, .int (h_s_f (0 : Int32).toNatClampNeg)), (0, .ref h), (1, .int p1)]) hx hb dX10_best_150 hl (k := 7) rfl rfl (by decide) rfl (fun ls hl => ?_)
                      refine lv_goto (tgt := 26) hx hb dX10_best_153 (by decide) ?_
                      exact ih26 (x5_7 + 1) x3_8 x4_9 z_12.2 _ _ ls h0 hP hD hS (lv_sub hl [0, 1, 2, 8, 9, 10] rfl)
                    · have h0 := it_f c9 h0
                      refine lv_iload hx hb dX10_best_141 (lv_at hl 1 rfl) ?_
                      refine lv_goto (tgt := 148) hx hb dX10_best_143 (by decide) ?_
                      refine lv_istore (lv' := [(4, .int z_12.1), (3, .int x3_8), (10, .int z_12.1), (9, .int (x5_7 - x5_7 / (h_s_f (0 : Int32).toNatClampNeg) * (h_s_f (0 : Int32).toNatClampNeg))), (8, .int ((x5_7 / (h_s_f (0 : Int32).toNatClampNeg)) - (x5_7 / (h_s_f (0 : Int32).toNatClampNeg)) / (h_s_f (0 : Int32).toNatClampNeg) * (h_s_f (0 : Int32).toNatClampNeg))), (7, .int ((x5_7 / ((h_s_f (0 : Int32).toNatClampNeg) * (h_s_f (0 : Int32).toNatClampNeg))) - (x5_7 / ((h_s_f (0 : Int32).toNatClampNeg) * (h_s_f (0 : Int32).toNatClampNeg))) / (h_s_f (0 : Int32).toNatClampNeg) * (h_s_f (0 : Int32).toNatClampNeg))), (6, .int (x5_7 / (((h_s_f (0 : Int32).toNatClampNeg) * (h_s_f (0 : Int32).toNatClampNeg)) * (h_s_f (0 : Int32).toNatClampNeg)))), (5, .int x5_7), (2, .int (h_s_f (0 : Int32).toNatClampNeg)), (0, .ref h), (1, .int p1)]) hx hb dX10_best_148 hl (by decide) rfl (fun ls hl => ?_)
                      refine lv_iinc (v := (x5_7 + 1)) (lv' := [(5, .int (x5_7 + 1)), (4, .int z_12.1), (3, .int x3_8), (10, .int z_12.1), (9, .int (x5_7 - x5_7 / (h_s_f (0 : Int32).toNatClampNeg) * (h_s_f (0 : Int32).toNatClampNeg))), (8, .int ((x5_7 / (h_s_f (0 : Int32).toNatClampNeg)) - (x5_7 / (h_s_f (0 : Int32).toNatClampNeg)) / (h_s_f (0 : Int32).toNatClampNeg) * (h_s_f (0 : Int32).toNatClampNeg))), (7, .int ((x5_7 / ((h_s_f (0 : Int32).toNatClampNeg) * (h_s_f (0 : Int32).toNatClampNeg))) - (x5_7 / ((h_s_f (0 : Int32).toNatClampNeg) * (h_s_f (0 : Int32).toNatClampNeg))) / (h_s_f (0 : Int32).toNatClampNeg) * (h_s_f (0 : Int32).toNatClampNeg))), (6, .int (x5_7 / (((h_s_f (0 : Int32).toNatClampNeg) * (h_s_f (0 : Int32).toNatClampNeg)) * (h_s_f (0 : Int32).toNatClampNeg)))), (2, .int (h_s_f (0 : Int32).toNatClampNeg)), (0, .ref h), (1, .int p1)]) hx hb dX10_best_150 hl (k := 7) rfl rfl (by decide) rfl (fun ls hl => ?_)
                      refine lv_goto (tgt := 26) hx hb dX10_best_153 (by decide) ?_
                      exact ih26 (x5_7 + 1) x3_8 z_12.1 z_12.2 _ _ ls h0 hP hD hS (lv_sub hl [0, 1, 2, 8, 9, 10] rfl)
                  · have h0 := it_f c9 h0
                    refine lv_iload hx hb dX10_best_127 (lv_at hl 5 rfl) ?_
                    refine lv_goto (tgt := 133) hx hb dX10_best_129 (by decide) ?_
                    refine lv_istore_n (lv' := [(3, .int x5_7), (10, .int z_12.1), (9, .int (x5_7 - x5_7 / (h_s_f (0 : Int32).toNatClampNeg) * (h_s_f (0 : Int32).toNatClampNeg))), (8, .int ((x5_7 / (h_s_f (0 : Int32).toNatClampNeg)) - (x5_7 / (h_s_f (0 : Int32).toNatClampNeg)) / (h_s_f (0 : Int32).toNatClampNeg) * (h_s_f (0 : Int32).toNatClampNeg))), (7, .int ((x5_7 / ((h_s_f (0 : Int32).toNatClampNeg) * (h_s_f (0 : Int32).toNatClampNeg))) - (x5_7 / ((h_s_f (0 : Int32).toNatClampNeg) * (h_s_f (0 : Int32).toNatClampNeg))) / (h_s_f (0 : Int32).toNatClampNeg) * (h_s_f (0 : Int32).toNatClampNeg))), (6, .int (x5_7 / (((h_s_f (0 : Int32).toNatClampNeg) * (h_s_f (0 : Int32).toNatClampNeg)) * (h_s_f (0 : Int32).toNatClampNeg)))), (5, .int x5_7), (4, .int x4_9), (2, .int (h_s_f (0 : Int32).toNatClampNeg)), (0, .ref h), (1, .int p1)]) hx hb dX10_best_133 rfl hl (by decide) rfl (fun ls hl => ?_)
                    refine lv_iload hx hb dX10_best_134 (lv_at hl 1 rfl) ?_
                    refine lv_iload hx hb dX10_best_136 (lv_at hl 7 rfl) ?_
                    refine lv_icmp_le (tgt := 146) hx hb dX10_best_138 (by decide) (fun c9 => ?_) (fun c9 => ?_)
                    · have h0 := it_t c9 h0
                      refine lv_iload hx hb dX10_best_146 (lv_at hl 7 rfl) ?_
                      refine lv_istore (lv' := [(4, .int x4_9), (3, .int x5_7), (10, .int z_12.1), (9, .int (x5_7 - x5_7 / (h_s_f (0 : Int32).toNatClampNeg) * (h_s_f (0 : Int32).toNatClampNeg))), (8, .int ((x5_7 / (h_s_f (0 : Int32).toNatClampNeg)) - (x5_7 / (h_s_f (0 : Int32).toNatClampNeg)) / (h_s_f (0 : Int32).toNatClampNeg) * (h_s_f (0 : Int32).toNatClampNeg))), (7, .int ((x5_7 / ((h_s_f (0 : Int32).toNatClampNeg) * (h_s_f (0 : Int32).toNatClampNeg))) - (x5_7 / ((h_s_f (0 : Int32).toNatClampNeg) * (h_s_f (0 : Int32).toNatClampNeg))) / (h_s_f (0 : Int32).toNatClampNeg) * (h_s_f (0 : Int32).toNatClampNeg))), (6, .int (x5_7 / (((h_s_f (0 : Int32).toNatClampNeg) * (h_s_f (0 : Int32).toNatClampNeg)) * (h_s_f (0 : Int32).toNatClampNeg)))), (5, .int x5_7), (2, .int (h_s_f (0 : Int32).toNatClampNeg)), (0, .ref h), (1, .int p1)]) hx hb dX10_best_148 hl (by decide) rfl (fun ls hl => ?_)
                      refine lv_iinc (v := (x5_7 + 1)) (lv' := [(5, .int (x5_7 + 1)), (4, .int x4_9), (3, .int x5_7), (10, .int z_12.1), (9, .int (x5_7 - x5_7 / (h_s_f (0 : Int32).toNatClampNeg) * (h_s_f (0 : Int32).toNatClampNeg))), (8, .int ((x5_7 / (h_s_f (0 : Int32).toNatClampNeg)) - (x5_7 / (h_s_f (0 : Int32).toNatClampNeg)) / (h_s_f (0 : Int32).toNatClampNeg) * (h_s_f (0 : Int32).toNatClampNeg))), (7, .int ((x5_7 / ((h_s_f (0 : Int32).toNatClampNeg) * (h_s_f (0 : Int32).toNatClampNeg))) - (x5_7 / ((h_s_f (0 : Int32).toNatClampNeg) * (h_s_f (0 : Int32).toNatClampNeg))) / (h_s_f (0 : Int32).toNatClampNeg) * (h_s_f (0 : Int32).toNatClampNeg))), (6, .int (x5_7 / (((h_s_f (0 : Int32).toNatClampNeg) * (h_s_f (0 : Int32).toNatClampNeg)) * (h_s_f (0 : Int32).toNatClampNeg)))), (2, .int (h_s_f (0 : Int32).toNatClampNeg)), (0, .ref h), (1, .int p1)]) hx hb dX10_best_150 hl (k := 7) rfl rfl (by decide) rfl (fun ls hl => ?_)
                      refine lv_goto (tgt := 26) hx hb dX10_best_153 (by decide) ?_
                      exact ih26 (x5_7 + 1) x5_7 x4_9 z_12.2 _ _ ls h0 hP hD hS (lv_sub hl [0, 1, 2, 8, 9, 10] rfl)
                    · have h0 := it_f c9 h0
                      refine lv_iload hx hb dX10_best_141 (lv_at hl 1 rfl) ?_
                      refine lv_goto (tgt := 148) hx hb dX10_best_143 (by decide) ?_
                      refine lv_istore (lv' := [(4, .int z_12.1), (3, .int x5_7), (10, .int z_12.1), (9, .int (x5_7 - x5_7 / (h_s_f (0 : Int32).toNatClampNeg) * (h_s_f (0 : Int32).toNatClampNeg))), (8, .int ((x5_7 / (h_s_f (0 : Int32).toNatClampNeg)) - (x5_7 / (h_s_f (0 : Int32).toNatClampNeg)) / (h_s_f (0 : Int32).toNatClampNeg) * (h_s_f (0 : Int32).toNatClampNeg))), (7, .int ((x5_7 / ((h_s_f (0 : Int32).toNatClampNeg) * (h_s_f (0 : Int32).toNatClampNeg))) - (x5_7 / ((h_s_f (0 : Int32).toNatClampNeg) * (h_s_f (0 : Int32).toNatClampNeg))) / (h_s_f (0 : Int32).toNatClampNeg) * (h_s_f (0 : Int32).toNatClampNeg))), (6, .int (x5_7 / (((h_s_f (0 : Int32).toNatClampNeg) * (h_s_f (0 : Int32).toNatClampNeg)) * (h_s_f (0 : Int32).toNatClampNeg)))), (5, .int x5_7), (2, .int (h_s_f (0 : Int32).toNatClampNeg)), (0, .ref h), (1, .int p1)]) hx hb dX10_best_148 hl (by decide) rfl (fun ls hl => ?_)
                      refine lv_iinc (v := (x5_7 + 1)) (lv' := [(5, .int (x5_7 + 1)), (4, .int z_12.1), (3, .int x5_7), (10, .int z_12.1), (9, .int (x5_7 - x5_7 / (h_s_f (0 : Int32).toNatClampNeg) * (h_s_f (0 : Int32).toNatClampNeg))), (8, .int ((x5_7 / (h_s_f (0 : Int32).toNatClampNeg)) - (x5_7 / (h_s_f (0 : Int32).toNatClampNeg)) / (h_s_f (0 : Int32).toNatClampNeg) * (h_s_f (0 : Int32).toNatClampNeg))), (7, .int ((x5_7 / ((h_s_f (0 : Int32).toNatClampNeg) * (h_s_f (0 : Int32).toNatClampNeg))) - (x5_7 / ((h_s_f (0 : Int32).toNatClampNeg) * (h_s_f (0 : Int32).toNatClampNeg))) / (h_s_f (0 : Int32).toNatClampNeg) * (h_s_f (0 : Int32).toNatClampNeg))), (6, .int (x5_7 / (((h_s_f (0 : Int32).toNatClampNeg) * (h_s_f (0 : Int32).toNatClampNeg)) * (h_s_f (0 : Int32).toNatClampNeg)))), (2, .int (h_s_f (0 : Int32).toNatClampNeg)), (0, .ref h), (1, .int p1)]) hx hb dX10_best_150 hl (k := 7) rfl rfl (by decide) rfl (fun ls hl => ?_)
                      refine lv_goto (tgt := 26) hx hb dX10_best_153 (by decide) ?_
                      exact ih26 (x5_7 + 1) x5_7 z_12.1 z_12.2 _ _ ls h0 hP hD hS (lv_sub hl [0, 1, 2, 8, 9, 10] rfl)
    exact L_26_12 FU 0 (-1) 0 h_s_f _ _ ls h0 hP hD hS hl
  · have h0 := it_t c9 h0
    refine lv_iconst (v := (-1)) hx hb dX10_best_9 (by decide) ?_
    have e0 := Option.some.inj h0
    subst e0
    exact W.iret (v := (-1)) hx hb hr (fun t ht hW => wr_end () ht hP hD hS) hS.2.2 dX10_best_10
noncomputable def mX10_ifSwapped (h_s_f : Nat → Int32) (p1 : Int32) (p2 : Int32) (p3 : Int32) (p4 : Int32) (p5 : Int32) : Option (Int32 × (Nat → Int32)) :=
  bd (mX10_bar h_s_f p1 p2 p3 p4) (fun z_1 => if z_1 = (-1) then (some ((-1), h_s_f)) else (bd (mX10_in p5 0 2) (fun z_2 => if z_2 = 0 then (some ((-1), h_s_f)) else (if z_1 = 0 then (bd (mX10_swaps h_s_f p1 p2 p3 p4) (fun z_3 => if p5 = 0 then (bd (mX10_commute z_3) (fun z_8 => bd (mX10_swaps z_3 p1 p2 p3 p4) (fun z_9 => some (z_8, z_9)))) else (if p5 = 1 then (bd (mX10_triples z_3) (fun z_6 => bd (mX10_swaps z_3 p1 p2 p3 p4) (fun z_7 => some (z_6, z_7)))) else (bd (mX10_rings z_3) (fun z_4 => bd (mX10_swaps z_3 p1 p2 p3 p4) (fun z_5 => some (z_4, z_5))))))) else (some (z_1, h_s_f))))))
set_option maxHeartbeats 8000000 in
set_option maxRecDepth 100000 in
theorem kX10_ifSwapped (l : Launch) (D : va_G) (cI cC cT : ClassId) (h h_s h_aside h_past h_snapshot h_pad h_steps h_summed h_plus h_parts : Nat) (h_s_f : Nat → Int32) (h_aside_f : Nat → Int32) (h_past_f : Nat → Int32) (h_pasts : Int32) (h_snapshot_f : Nat → Int32) (h_isKept : Int32) (h_pad_f : Nat → Int32) (h_length : Int32) (h_steps_f : Nat → Int32) (h_many : Int32) (h_value : Int32) (h_summed_f : Nat → Int32) (h_plus_f : Nat → Int32) (h_parts_f : Nat → Int32) (p1 : Int32) (p2 : Int32) (p3 : Int32) (p4 : Int32) (p5 : Int32) (sz : Nat) (z : Int32 × (Nat → Int32)) (h0 : mX10_ifSwapped h_s_f p1 p2 p3 p4 p5 = some z) : Met l yX10_ifSwapped wsX10_ifSwapped ({ frames := 5, cells := 0, slots := 0, locals := 112 } : Room) (va_Pc [.ref h, .int p1, .int p2, .int p3, .int p4, .int p5] (wP D cI cC cT [(h, .inr (7, [.ref h_s, .ref h_aside, .ref h_past, .int h_pasts, .ref h_snapshot, .int h_isKept, .ref h_pad, .int h_length, .ref h_steps, .int h_many, .int h_value, .ref h_summed, .ref h_plus, .ref h_parts])), (h_s, .inl (cI, 65, .inl h_s_f)), (h_aside, .inl (cI, 65, .inl h_aside_f)), (h_past, .inl (cI, 260, .inl h_past_f)), (h_snapshot, .inl (cI, 65, .inl h_snapshot_f)), (h_pad, .inl (cI, 80, .inl h_pad_f)), (h_steps, .inl (cI, 320, .inl h_steps_f)), (h_summed, .inl (cI, 81, .inl h_summed_f)), (h_plus, .inl (cI, 81, .inl h_plus_f)), (h_parts, .inl (cI, 392, .inl h_parts_f))] sz)) (wQ D (some (.int z.1)) (va_A [(h, .inr (7, [.ref h_s, .ref h_aside, .ref h_past, .int h_pasts, .ref h_snapshot, .int h_isKept, .ref h_pad, .int h_length, .ref h_steps, .int h_many, .int h_value, .ref h_summed, .ref h_plus, .ref h_parts])), (h_s, .inl (cI, 65, .inl h_s_f)), (h_aside, .inl (cI, 65, .inl h_aside_f)), (h_past, .inl (cI, 260, .inl h_past_f)), (h_snapshot, .inl (cI, 65, .inl h_snapshot_f)), (h_pad, .inl (cI, 80, .inl h_pad_f)), (h_steps, .inl (cI, 320, .inl h_steps_f)), (h_summed, .inl (cI, 81, .inl h_summed_f)), (h_plus, .inl (cI, 81, .inl h_plus_f)), (h_parts, .inl (cI, 392, .inl h_parts_f))] sz) (fun (u : Unit) => [(h, .inr (7, [.ref h_s, .ref h_aside, .ref h_past, .int h_pasts, .ref h_snapshot, .int h_isKept, .ref h_pad, .int h_length, .ref h_steps, .int h_many, .int h_value, .ref h_summed, .ref h_plus, .ref h_parts])), (h_s, .inl (cI, 65, .inl z.2)), (h_aside, .inl (cI, 65, .inl h_aside_f)), (h_past, .inl (cI, 260, .inl h_past_f)), (h_snapshot, .inl (cI, 65, .inl h_snapshot_f)), (h_pad, .inl (cI, 80, .inl h_pad_f)), (h_steps, .inl (cI, 320, .inl h_steps_f)), (h_summed, .inl (cI, 81, .inl h_summed_f)), (h_plus, .inl (cI, 81, .inl h_plus_f)), (h_parts, .inl (cI, 392, .inl h_parts_f))])) 0 0 (va_A [(h, .inr (7, [.ref h_s, .ref h_aside, .ref h_past, .int h_pasts, .ref h_snapshot, .int h_isKept, .ref h_pad, .int h_length, .ref h_steps, .int h_many, .int h_value, .ref h_summed, .ref h_plus, .ref h_parts])), (h_s, .inl (cI, 65, .inl h_s_f)), (h_aside, .inl (cI, 65, .inl h_aside_f)), (h_past, .inl (cI, 260, .inl h_past_f)), (h_snapshot, .inl (cI, 65, .inl h_snapshot_f)), (h_pad, .inl (cI, 80, .inl h_pad_f)), (h_steps, .inl (cI, 320, .inl h_steps_f)), (h_summed, .inl (cI, 81, .inl h_summed_f)), (h_plus, .inl (cI, 81, .inl h_plus_f)), (h_parts, .inl (cI, 392, .inl h_parts_f))] sz) := by
  refine Met.ofW (cc := cX10_ifSwapped) (maxL := 8) (ret := (some .int)) (by decide) rfl ?_
  intro p e s m args below meth c s₁ B hml hv
  obtain ⟨rfl, hsz, hP, hE, hD0⟩ := hv
  have hx := B.exec
  have hb := B.bytes
  have hr := B.returns
  have hts := atoms_spec (ws := wsX10_ifSwapped) B.pre
  have hown : s.vm.findClass RX10 = some m.cls := findClass_of_methodNamed B.named
  have hlocks := B.notSynchronized
  have hK := hE.1
  have hcf : CallFix p m c cX10_ifSwapped 8 s ([.ref h, .int p1, .int p2, .int p3, .int p4, .int p5] : List Value).toArray wsX10_ifSwapped RX10 := ⟨hx, hb, hml, hown, hts⟩
  subst hsz
  have hD := hD0.self (sz := s.heap.size)
  generalize hAe : va_A [(h, .inr (7, [.ref h_s, .ref h_aside, .ref h_past, .int h_pasts, .ref h_snapshot, .int h_isKept, .ref h_pad, .int h_length, .ref h_steps, .int h_many, .int h_value, .ref h_summed, .ref h_plus, .ref h_parts])), (h_s, .inl (cI, 65, .inl h_s_f)), (h_aside, .inl (cI, 65, .inl h_aside_f)), (h_past, .inl (cI, 260, .inl h_past_f)), (h_snapshot, .inl (cI, 65, .inl h_snapshot_f)), (h_pad, .inl (cI, 80, .inl h_pad_f)), (h_steps, .inl (cI, 320, .inl h_steps_f)), (h_summed, .inl (cI, 81, .inl h_summed_f)), (h_plus, .inl (cI, 81, .inl h_plus_f)), (h_parts, .inl (cI, 392, .inl h_parts_f))] s.heap.size = A at hD ⊢
  have hA : ∀ q : Nat, s.heap.size ≤ q → A q := fun q h => by rw [← hAe]; exact Or.inr h
  have hS : va_S A s.heap s.heap [] := va_S.rf
  have hP : va_P D vwCl [(h, .inr (7, [.ref h_s, .ref h_aside, .ref h_past, .int h_pasts, .ref h_snapshot, .int h_isKept, .ref h_pad, .int h_length, .ref h_steps, .int h_many, .int h_value, .ref h_summed, .ref h_plus, .ref h_parts])), (h_s, .inl (cI, 65, .inl h_s_f)), (h_aside, .inl (cI, 65, .inl h_aside_f)), (h_past, .inl (cI, 260, .inl h_past_f)), (h_snapshot, .inl (cI, 65, .inl h_snapshot_f)), (h_pad, .inl (cI, 80, .inl h_pad_f)), (h_steps, .inl (cI, 320, .inl h_steps_f)), (h_summed, .inl (cI, 81, .inl h_summed_f)), (h_plus, .inl (cI, 81, .inl h_plus_f)), (h_parts, .inl (cI, 392, .inl h_parts_f))] s.heap := hP
  have hl := lv_entry ([.ref h, .int p1, .int p2, .int p3, .int p4, .int p5]) (n := 8) (Nat.le_of_ble_eq_true rfl)
  rw [lg_entry_eq]
  generalize (lg_sl ([.ref h, .int p1, .int p2, .int p3, .int p4, .int p5]) ++ List.replicate (8 - (lg_sl ([.ref h, .int p1, .int p2, .int p3, .int p4, .int p5])).length) Slot.unset).toArray = ls at hl ⊢
  have hl : lv_has ls 8 [(0, .ref h), (1, .int p1), (2, .int p2), (3, .int p3), (4, .int p4), (5, .int p5)] := hl
  unfold mX10_ifSwapped at h0
  refine lv_aload_n hx hb dX10_ifSwapped_0 rfl (lv_at hl 0 rfl) ?_
  refine lv_iload_n hx hb dX10_ifSwapped_1 rfl (lv_at hl 1 rfl) ?_
  refine lv_iload_n hx hb dX10_ifSwapped_2 rfl (lv_at hl 2 rfl) ?_
  refine lv_iload_n hx hb dX10_ifSwapped_3 rfl (lv_at hl 3 rfl) ?_
  refine lv_iload hx hb dX10_ifSwapped_4 (lv_at hl 4 rfl) ?_
  obtain ⟨z_1, hz, h0⟩ := bd_ok h0
  refine ro_V (As := [.int p1, .int p2, .int p3, .int p4]) (rest := []) (wc := [(h, .inr (7, [.ref h_s, .ref h_aside, .ref h_past, .int h_pasts, .ref h_snapshot, .int h_isKept, .ref h_pad, .int h_length, .ref h_steps, .int h_many, .int h_value, .ref h_summed, .ref h_plus, .ref h_parts])), (h_s, .inl (cI, 65, .inl h_s_f)), (h_aside, .inl (cI, 65, .inl h_aside_f)), (h_past, .inl (cI, 260, .inl h_past_f)), (h_snapshot, .inl (cI, 65, .inl h_snapshot_f)), (h_pad, .inl (cI, 80, .inl h_pad_f)), (h_steps, .inl (cI, 320, .inl h_steps_f)), (h_summed, .inl (cI, 81, .inl h_summed_f)), (h_plus, .inl (cI, 81, .inl h_plus_f)), (h_parts, .inl (cI, 392, .inl h_parts_f))]) hcf (kX10_bar l D cI cC cT h h_s h_aside h_past h_snapshot h_pad h_steps h_summed h_plus h_parts h_s_f h_aside_f h_past_f h_pasts h_snapshot_f h_isKept h_pad_f h_length h_steps_f h_many h_value h_summed_f h_plus_f h_parts_f p1 p2 p3 p4 z_1 hz) (cwV 4 hts gX10_ifSwapped_X10_bar rfl rfl rfl (by decide +kernel) ⟨Nat.le_of_ble_eq_true rfl, Nat.le_of_ble_eq_true rfl⟩) hE (hP.sub [0, 1, 2, 3, 4, 5, 6, 7, 8, 9] rfl) (va_recv hK hP (ci := 7) (q0 := 0) rfl rfl) rfl hl.1 rfl (Nat.le_of_ble_eq_true rfl) dX10_ifSwapped_6 ⟨Nat.le_of_ble_eq_true rfl, Nat.le_of_ble_eq_true rfl⟩ ?_
  refine W.eq (g2 := F0 m 9 ls [.int z_1]) rfl ?_
  refine lv_istore (lv' := [(6, .int z_1), (0, .ref h), (1, .int p1), (2, .int p2), (3, .int p3), (4, .int p4), (5, .int p5)]) hx hb dX10_ifSwapped_9 hl (by decide) rfl (fun ls hl => ?_)
  refine lv_iload hx hb dX10_ifSwapped_11 (lv_at hl 0 rfl) ?_
  refine lv_iconst (v := (-1)) hx hb dX10_ifSwapped_13 (by decide) ?_
  refine lv_icmp_eq (tgt := 27) hx hb dX10_ifSwapped_14 (by decide) (fun c9 => ?_) (fun c9 => ?_)
  · have h0 := it_t c9 h0
    refine lv_iconst (v := (-1)) hx hb dX10_ifSwapped_27 (by decide) ?_
    have e0 := Option.some.inj h0
    subst e0
    exact W.iret (v := (-1)) hx hb hr (fun t ht hW => wr_end () ht hP hD hS) hS.2.2 dX10_ifSwapped_28
  · have h0 := it_f c9 h0
    refine lv_iload hx hb dX10_ifSwapped_17 (lv_at hl 6 rfl) ?_
    refine lv_iconst (v := 0) hx hb dX10_ifSwapped_19 (by decide) ?_
    refine lv_iconst (v := 2) hx hb dX10_ifSwapped_20 (by decide) ?_
    obtain ⟨z_2, hz, h0⟩ := bd_ok h0
    refine ro_S (As := [.int p5, .int 0, .int 2]) (rest := []) (wc := []) hcf (kX10_in l D cI cC cT p5 0 2 z_2 hz) (va_cwS 3 hts gX10_ifSwapped_X10_in rfl rfl rfl (by decide +kernel) ⟨Nat.le_of_ble_eq_true rfl, Nat.le_of_ble_eq_true rfl⟩) hE (hP.sub [] rfl) rfl hl.1 rfl (Nat.le_of_ble_eq_true rfl) dX10_ifSwapped_21 ⟨Nat.le_of_ble_eq_true rfl, Nat.le_of_ble_eq_true rfl⟩ ?_
    refine W.eq (g2 := F0 m 24 ls [.int z_2]) rfl ?_
    refine lv_if_ne (tgt := 29) hx hb dX10_ifSwapped_24 (by decide) (fun c9 => ?_) (fun c9 => ?_)
    · have h0 := it_f c9 h0
      refine lv_iload hx hb dX10_ifSwapped_29 (lv_at hl 0 rfl) ?_
      refine lv_if_eq (tgt := 37) hx hb dX10_ifSwapped_31 (by decide) (fun c9 => ?_) (fun c9 => ?_)
      · have h0 := it_t c9 h0
        refine lv_aload_n hx hb dX10_ifSwapped_37 rfl (lv_at hl 1 rfl) ?_
        refine lv_iload_n hx hb dX10_ifSwapped_38 rfl (lv_at hl 2 rfl) ?_
        refine lv_iload_n hx hb dX10_ifSwapped_39 rfl (lv_at hl 3 rfl) ?_
        refine lv_iload_n hx hb dX10_ifSwapped_40 rfl (lv_at hl 4 rfl) ?_
        refine lv_iload hx hb dX10_ifSwapped_41 (lv_at hl 5 rfl) ?_
        obtain ⟨z_3, hz, h0⟩ := bd_ok h0
        refine wr_V (As := [.int p1, .int p2, .int p3, .int p4]) (rest := []) (wc := [(h, .inr (7, [.ref h_s, .ref h_aside, .ref h_past, .int h_pasts, .ref h_snapshot, .int h_isKept, .ref h_pad, .int h_length, .ref h_steps, .int h_many, .int h_value, .ref h_summed, .ref h_plus, .ref h_parts])), (h_s, .inl (cI, 65, .inl h_s_f)), (h_aside, .inl (cI, 65, .inl h_aside_f)), (h_past, .inl (cI, 260, .inl h_past_f)), (h_snapshot, .inl (cI, 65, .inl h_snapshot_f)), (h_pad, .inl (cI, 80, .inl h_pad_f)), (h_steps, .inl (cI, 320, .inl h_steps_f)), (h_summed, .inl (cI, 81, .inl h_summed_f)), (h_plus, .inl (cI, 81, .inl h_plus_f)), (h_parts, .inl (cI, 392, .inl h_parts_f))]) (wr := []) hcf (kX10_swaps l D cI cC cT h h_s h_aside h_past h_snapshot h_pad h_steps h_summed h_plus h_parts h_s_f h_aside_f h_past_f h_pasts h_snapshot_f h_isKept h_pad_f h_length h_steps_f h_many h_value h_summed_f h_plus_f h_parts_f p1 p2 p3 p4 _ z_3 hz) (cwV 4 hts gX10_ifSwapped_X10_swaps rfl rfl rfl (by decide +kernel) ⟨Nat.le_of_ble_eq_true rfl, Nat.le_of_ble_eq_true rfl⟩) hE hP hD hS hA [0, 1, 2, 3, 4, 5, 6, 7, 8, 9] [] (hP.sub [0, 1, 2, 3, 4, 5, 6, 7, 8, 9] rfl) (hD.sub [0, 1, 2, 3, 4, 5, 6, 7, 8, 9] (by decide) rfl) (va_recv hK hP (ci := 7) (q0 := 0) rfl rfl) rfl rfl (by decide) (by decide) rfl hl.1 rfl (Nat.le_of_ble_eq_true rfl) dX10_ifSwapped_43 ⟨Nat.le_of_ble_eq_true rfl, Nat.le_of_ble_eq_true rfl⟩ (fun u H locs hP hD hS => ?_)
        have hP : va_P D vwCl [(h, .inr (7, [.ref h_s, .ref h_aside, .ref h_past, .int h_pasts, .ref h_snapshot, .int h_isKept, .ref h_pad, .int h_length, .ref h_steps, .int h_many, .int h_value, .ref h_summed, .ref h_plus, .ref h_parts])), (h_s, .inl (cI, 65, .inl z_3)), (h_aside, .inl (cI, 65, .inl h_aside_f)), (h_past, .inl (cI, 260, .inl h_past_f)), (h_snapshot, .inl (cI, 65, .inl h_snapshot_f)), (h_pad, .inl (cI, 80, .inl h_pad_f)), (h_steps, .inl (cI, 320, .inl h_steps_f)), (h_summed, .inl (cI, 81, .inl h_summed_f)), (h_plus, .inl (cI, 81, .inl h_plus_f)), (h_parts, .inl (cI, 392, .inl h_parts_f))] H := hP
        have hD : va_D A [(h, .inr (7, [.ref h_s, .ref h_aside, .ref h_past, .int h_pasts, .ref h_snapshot, .int h_isKept, .ref h_pad, .int h_length, .ref h_steps, .int h_many, .int h_value, .ref h_summed, .ref h_plus, .ref h_parts])), (h_s, .inl (cI, 65, .inl z_3)), (h_aside, .inl (cI, 65, .inl h_aside_f)), (h_past, .inl (cI, 260, .inl h_past_f)), (h_snapshot, .inl (cI, 65, .inl h_snapshot_f)), (h_pad, .inl (cI, 80, .inl h_pad_f)), (h_steps, .inl (cI, 320, .inl h_steps_f)), (h_summed, .inl (cI, 81, .inl h_summed_f)), (h_plus, .inl (cI, 81, .inl h_plus_f)), (h_parts, .inl (cI, 392, .inl h_parts_f))] := hD
        refine W.eq (g2 := F0 m 46 ls []) rfl ?_
        refine lv_iload hx hb dX10_ifSwapped_46 (lv_at hl 6 rfl) ?_
        refine lv_if_ne (tgt := 58) hx hb dX10_ifSwapped_48 (by decide) (fun c9 => ?_) (fun c9 => ?_)
        · have h0 := it_f c9 h0
          refine lv_iload hx hb dX10_ifSwapped_58 (lv_at hl 6 rfl) ?_
          refine lv_iconst (v := 1) hx hb dX10_ifSwapped_60 (by decide) ?_
          refine lv_icmp_ne (tgt := 71) hx hb dX10_ifSwapped_61 (by decide) (fun c9 => ?_) (fun c9 => ?_)
          · have h0 := it_f c9 h0
            refine lv_aload_n hx hb dX10_ifSwapped_71 rfl (lv_at hl 1 rfl) ?_
            obtain ⟨z_4, hz, h0⟩ := bd_ok h0
            refine ro_V (As := []) (rest := []) (wc := [(h, .inr (7, [.ref h_s, .ref h_aside, .ref h_past, .int h_pasts, .ref h_snapshot, .int h_isKept, .ref h_pad, .int h_length, .ref h_steps, .int h_many, .int h_value, .ref h_summed, .ref h_plus, .ref h_parts])), (h_s, .inl (cI, 65, .inl z_3)), (h_aside, .inl (cI, 65, .inl h_aside_f)), (h_past, .inl (cI, 260, .inl h_past_f)), (h_snapshot, .inl (cI, 65, .inl h_snapshot_f)), (h_pad, .inl (cI, 80, .inl h_pad_f)), (h_steps, .inl (cI, 320, .inl h_steps_f)), (h_summed, .inl (cI, 81, .inl h_summed_f)), (h_plus, .inl (cI, 81, .inl h_plus_f)), (h_parts, .inl (cI, 392, .inl h_parts_f))]) hcf (kX10_rings l D cI cC cT h h_s h_aside h_past h_snapshot h_pad h_steps h_summed h_plus h_parts z_3 h_aside_f h_past_f h_pasts h_snapshot_f h_isKept h_pad_f h_length h_steps_f h_many h_value h_summed_f h_plus_f h_parts_f z_4 hz) (cwV 0 hts gX10_ifSwapped_X10_rings rfl rfl rfl (by decide +kernel) ⟨Nat.le_of_ble_eq_true rfl, Nat.le_of_ble_eq_true rfl⟩) hE (hP.sub [0, 1, 2, 3, 4, 5, 6, 7, 8, 9] rfl) (va_recv hK hP (ci := 7) (q0 := 0) rfl rfl) rfl hl.1 rfl (Nat.le_of_ble_eq_true rfl) dX10_ifSwapped_72 ⟨Nat.le_of_ble_eq_true rfl, Nat.le_of_ble_eq_true rfl⟩ ?_
            refine W.eq (g2 := F0 m 75 ls [.int z_4]) rfl ?_
            refine lv_istore (lv' := [(7, .int z_4), (6, .int z_1), (0, .ref h), (1, .int p1), (2, .int p2), (3, .int p3), (4, .int p4), (5, .int p5)]) hx hb dX10_ifSwapped_75 hl (by decide) rfl (fun ls hl => ?_)
            refine lv_aload_n hx hb dX10_ifSwapped_77 rfl (lv_at hl 2 rfl) ?_
            refine lv_iload_n hx hb dX10_ifSwapped_78 rfl (lv_at hl 3 rfl) ?_
            refine lv_iload_n hx hb dX10_ifSwapped_79 rfl (lv_at hl 4 rfl) ?_
            refine lv_iload_n hx hb dX10_ifSwapped_80 rfl (lv_at hl 5 rfl) ?_
            refine lv_iload hx hb dX10_ifSwapped_81 (lv_at hl 6 rfl) ?_
            obtain ⟨z_5, hz, h0⟩ := bd_ok h0
            refine wr_V (As := [.int p1, .int p2, .int p3, .int p4]) (rest := []) (wc := [(h, .inr (7, [.ref h_s, .ref h_aside, .ref h_past, .int h_pasts, .ref h_snapshot, .int h_isKept, .ref h_pad, .int h_length, .ref h_steps, .int h_many, .int h_value, .ref h_summed, .ref h_plus, .ref h_parts])), (h_s, .inl (cI, 65, .inl z_3)), (h_aside, .inl (cI, 65, .inl h_aside_f)), (h_past, .inl (cI, 260, .inl h_past_f)), (h_snapshot, .inl (cI, 65, .inl h_snapshot_f)), (h_pad, .inl (cI, 80, .inl h_pad_f)), (h_steps, .inl (cI, 320, .inl h_steps_f)), (h_summed, .inl (cI, 81, .inl h_summed_f)), (h_plus, .inl (cI, 81, .inl h_plus_f)), (h_parts, .inl (cI, 392, .inl h_parts_f))]) (wr := []) hcf (kX10_swaps l D cI cC cT h h_s h_aside h_past h_snapshot h_pad h_steps h_summed h_plus h_parts z_3 h_aside_f h_past_f h_pasts h_snapshot_f h_isKept h_pad_f h_length h_steps_f h_many h_value h_summed_f h_plus_f h_parts_f p1 p2 p3 p4 _ z_5 hz) (cwV 4 hts gX10_ifSwapped_X10_swaps rfl rfl rfl (by decide +kernel) ⟨Nat.le_of_ble_eq_true rfl, Nat.le_of_ble_eq_true rfl⟩) hE hP hD hS hA [0, 1, 2, 3, 4, 5, 6, 7, 8, 9] [] (hP.sub [0, 1, 2, 3, 4, 5, 6, 7, 8, 9] rfl) (hD.sub [0, 1, 2, 3, 4, 5, 6, 7, 8, 9] (by decide) rfl) (va_recv hK hP (ci := 7) (q0 := 0) rfl rfl) rfl rfl (by decide) (by decide) rfl hl.1 rfl (Nat.le_of_ble_eq_true rfl) dX10_ifSwapped_83 ⟨Nat.le_of_ble_eq_true rfl, Nat.le_of_ble_eq_true rfl⟩ (fun u H locs hP hD hS => ?_)
            have hP : va_P D vwCl [(h, .inr (7, [.ref h_s, .ref h_aside, .ref h_past, .int h_pasts, .ref h_snapshot, .int h_isKept, .ref h_pad, .int h_length, .ref h_steps, .int h_many, .int h_value, .ref h_summed, .ref h_plus, .ref h_parts])), (h_s, .inl (cI, 65, .inl z_5)), (h_aside, .inl (cI, 65, .inl h_aside_f)), (h_past, .inl (cI, 260, .inl h_past_f)), (h_snapshot, .inl (cI, 65, .inl h_snapshot_f)), (h_pad, .inl (cI, 80, .inl h_pad_f)), (h_steps, .inl (cI, 320, .inl h_steps_f)), (h_summed, .inl (cI, 81, .inl h_summed_f)), (h_plus, .inl (cI, 81, .inl h_plus_f)), (h_parts, .inl (cI, 392, .inl h_parts_f))] H := hP
            have hD : va_D A [(h, .inr (7, [.ref h_s, .ref h_aside, .ref h_past, .int h_pasts, .ref h_snapshot, .int h_isKept, .ref h_pad, .int h_length, .ref h_steps, .int h_many, .int h_value, .ref h_summed, .ref h_plus, .ref h_parts])), (h_s, .inl (cI, 65, .inl z_5)), (h_aside, .inl (cI, 65, .inl h_aside_f)), (h_past, .inl (cI, 260, .inl h_past_f)), (h_snapshot, .inl (cI, 65, .inl h_snapshot_f)), (h_pad, .inl (cI, 80, .inl h_pad_f)), (h_steps, .inl (cI, 320, .inl h_steps_f)), (h_summed, .inl (cI, 81, .inl h_summed_f)), (h_plus, .inl (cI, 81, .inl h_plus_f)), (h_parts, .inl (cI, 392, .inl h_parts_f))] := hD
            refine W.eq (g2 := F0 m 86 ls []) rfl ?_
            refine lv_iload hx hb dX10_ifSwapped_86 (lv_at hl 0 rfl) ?_
            have e0 := Option.some.inj h0
            subst e0
            exact W.iret (v := z_4) hx hb hr (fun t ht hW => wr_end () ht hP hD hS) hS.2.2 dX10_ifSwapped_88
          · have h0 := it_t c9 h0
            refine lv_aload_n hx hb dX10_ifSwapped_64 rfl (lv_at hl 1 rfl) ?_
            obtain ⟨z_6, hz, h0⟩ := bd_ok h0
            refine ro_V (As := []) (rest := []) (wc := [(h, .inr (7, [.ref h_s, .ref h_aside, .ref h_past, .int h_pasts, .ref h_snapshot, .int h_isKept, .ref h_pad, .int h_length, .ref h_steps, .int h_many, .int h_value, .ref h_summed, .ref h_plus, .ref h_parts])), (h_s, .inl (cI, 65, .inl z_3)), (h_aside, .inl (cI, 65, .inl h_aside_f)), (h_past, .inl (cI, 260, .inl h_past_f)), (h_snapshot, .inl (cI, 65, .inl h_snapshot_f)), (h_pad, .inl (cI, 80, .inl h_pad_f)), (h_steps, .inl (cI, 320, .inl h_steps_f)), (h_summed, .inl (cI, 81, .inl h_summed_f)), (h_plus, .inl (cI, 81, .inl h_plus_f)), (h_parts, .inl (cI, 392, .inl h_parts_f))]) hcf (kX10_triples l D cI cC cT h h_s h_aside h_past h_snapshot h_pad h_steps h_summed h_plus h_parts z_3 h_aside_f h_past_f h_pasts h_snapshot_f h_isKept h_pad_f h_length h_steps_f h_many h_value h_summed_f h_plus_f h_parts_f z_6 hz) (cwV 0 hts gX10_ifSwapped_X10_triples rfl rfl rfl (by decide +kernel) ⟨Nat.le_of_ble_eq_true rfl, Nat.le_of_ble_eq_true rfl⟩) hE (hP.sub [0, 1, 2, 3, 4, 5, 6, 7, 8, 9] rfl) (va_recv hK hP (ci := 7) (q0 := 0) rfl rfl) rfl hl.1 rfl (Nat.le_of_ble_eq_true rfl) dX10_ifSwapped_65 ⟨Nat.le_of_ble_eq_true rfl, Nat.le_of_ble_eq_true rfl⟩ ?_
            refine W.eq (g2 := F0 m 68 ls [.int z_6]) rfl ?_
            refine lv_goto (tgt := 75) hx hb dX10_ifSwapped_68 (by decide) ?_
            refine lv_istore (lv' := [(7, .int z_6), (6, .int z_1), (0, .ref h), (1, .int p1), (2, .int p2), (3, .int p3), (4, .int p4), (5, .int p5)]) hx hb dX10_ifSwapped_75 hl (by decide) rfl (fun ls hl => ?_)
            refine lv_aload_n hx hb dX10_ifSwapped_77 rfl (lv_at hl 2 rfl) ?_
            refine lv_iload_n hx hb dX10_ifSwapped_78 rfl (lv_at hl 3 rfl) ?_
            refine lv_iload_n hx hb dX10_ifSwapped_79 rfl (lv_at hl 4 rfl) ?_
            refine lv_iload_n hx hb dX10_ifSwapped_80 rfl (lv_at hl 5 rfl) ?_
            refine lv_iload hx hb dX10_ifSwapped_81 (lv_at hl 6 rfl) ?_
            obtain ⟨z_7, hz, h0⟩ := bd_ok h0
            refine wr_V (As := [.int p1, .int p2, .int p3, .int p4]) (rest := []) (wc := [(h, .inr (7, [.ref h_s, .ref h_aside, .ref h_past, .int h_pasts, .ref h_snapshot, .int h_isKept, .ref h_pad, .int h_length, .ref h_steps, .int h_many, .int h_value, .ref h_summed, .ref h_plus, .ref h_parts])), (h_s, .inl (cI, 65, .inl z_3)), (h_aside, .inl (cI, 65, .inl h_aside_f)), (h_past, .inl (cI, 260, .inl h_past_f)), (h_snapshot, .inl (cI, 65, .inl h_snapshot_f)), (h_pad, .inl (cI, 80, .inl h_pad_f)), (h_steps, .inl (cI, 320, .inl h_steps_f)), (h_summed, .inl (cI, 81, .inl h_summed_f)), (h_plus, .inl (cI, 81, .inl h_plus_f)), (h_parts, .inl (cI, 392, .inl h_parts_f))]) (wr := []) hcf (kX10_swaps l D cI cC cT h h_s h_aside h_past h_snapshot h_pad h_steps h_summed h_plus h_parts z_3 h_aside_f h_past_f h_pasts h_snapshot_f h_isKept h_pad_f h_length h_steps_f h_many h_value h_summed_f h_plus_f h_parts_f p1 p2 p3 p4 _ z_7 hz) (cwV 4 hts gX10_ifSwapped_X10_swaps rfl rfl rfl (by decide +kernel) ⟨Nat.le_of_ble_eq_true rfl, Nat.le_of_ble_eq_true rfl⟩) hE hP hD hS hA [0, 1, 2, 3, 4, 5, 6, 7, 8, 9] [] (hP.sub [0, 1, 2, 3, 4, 5, 6, 7, 8, 9] rfl) (hD.sub [0, 1, 2, 3, 4, 5, 6, 7, 8, 9] (by decide) rfl) (va_recv hK hP (ci := 7) (q0 := 0) rfl rfl) rfl rfl (by decide) (by decide) rfl hl.1 rfl (Nat.le_of_ble_eq_true rfl) dX10_ifSwapped_83 ⟨Nat.le_of_ble_eq_true rfl, Nat.le_of_ble_eq_true rfl⟩ (fun u H locs hP hD hS => ?_)
            have hP : va_P D vwCl [(h, .inr (7, [.ref h_s, .ref h_aside, .ref h_past, .int h_pasts, .ref h_snapshot, .int h_isKept, .ref h_pad, .int h_length, .ref h_steps, .int h_many, .int h_value, .ref h_summed, .ref h_plus, .ref h_parts])), (h_s, .inl (cI, 65, .inl z_7)), (h_aside, .inl (cI, 65, .inl h_aside_f)), (h_past, .inl (cI, 260, .inl h_past_f)), (h_snapshot, .inl (cI, 65, .inl h_snapshot_f)), (h_pad, .inl (cI, 80, .inl h_pad_f)), (h_steps, .inl (cI, 320, .inl h_steps_f)), (h_summed, .inl (cI, 81, .inl h_summed_f)), (h_plus, .inl (cI, 81, .inl h_plus_f)), (h_parts, .inl (cI, 392, .inl h_parts_f))] H := hP
            have hD : va_D A [(h, .inr (7, [.ref h_s, .ref h_aside, .ref h_past, .int h_pasts, .ref h_snapshot, .int h_isKept, .ref h_pad, .int h_length, .ref h_steps, .int h_many, .int h_value, .ref h_summed, .ref h_plus, .ref h_parts])), (h_s, .inl (cI, 65, .inl z_7)), (h_aside, .inl (cI, 65, .inl h_aside_f)), (h_past, .inl (cI, 260, .inl h_past_f)), (h_snapshot, .inl (cI, 65, .inl h_snapshot_f)), (h_pad, .inl (cI, 80, .inl h_pad_f)), (h_steps, .inl (cI, 320, .inl h_steps_f)), (h_summed, .inl (cI, 81, .inl h_summed_f)), (h_plus, .inl (cI, 81, .inl h_plus_f)), (h_parts, .inl (cI, 392, .inl h_parts_f))] := hD
            refine W.eq (g2 := F0 m 86 ls []) rfl ?_
            refine lv_iload hx hb dX10_ifSwapped_86 (lv_at hl 0 rfl) ?_
            have e0 := Option.some.inj h0
            subst e0
            exact W.iret (v := z_6) hx hb hr (fun t ht hW => wr_end () ht hP hD hS) hS.2.2 dX10_ifSwapped_88
        · have h0 := it_t c9 h0
          refine lv_aload_n hx hb dX10_ifSwapped_51 rfl (lv_at hl 1 rfl) ?_
          obtain ⟨z_8, hz, h0⟩ := bd_ok h0
          refine ro_V (As := []) (rest := []) (wc := [(h, .inr (7, [.ref h_s, .ref h_aside, .ref h_past, .int h_pasts, .ref h_snapshot, .int h_isKept, .ref h_pad, .int h_length, .ref h_steps, .int h_many, .int h_value, .ref h_summed, .ref h_plus, .ref h_parts])), (h_s, .inl (cI, 65, .inl z_3)), (h_aside, .inl (cI, 65, .inl h_aside_f)), (h_past, .inl (cI, 260, .inl h_past_f)), (h_snapshot, .inl (cI, 65, .inl h_snapshot_f)), (h_pad, .inl (cI, 80, .inl h_pad_f)), (h_steps, .inl (cI, 320, .inl h_steps_f)), (h_summed, .inl (cI, 81, .inl h_summed_f)), (h_plus, .inl (cI, 81, .inl h_plus_f)), (h_parts, .inl (cI, 392, .inl h_parts_f))]) hcf (kX10_commute l D cI cC cT h h_s h_aside h_past h_snapshot h_pad h_steps h_summed h_plus h_parts z_3 h_aside_f h_past_f h_pasts h_snapshot_f h_isKept h_pad_f h_length h_steps_f h_many h_value h_summed_f h_plus_f h_parts_f z_8 hz) (cwV 0 hts gX10_ifSwapped_X10_commute rfl rfl rfl (by decide +kernel) ⟨Nat.le_of_ble_eq_true rfl, Nat.le_of_ble_eq_true rfl⟩) hE (hP.sub [0, 1, 2, 3, 4, 5, 6, 7, 8, 9] rfl) (va_recv hK hP (ci := 7) (q0 := 0) rfl rfl) rfl hl.1 rfl (Nat.le_of_ble_eq_true rfl) dX10_ifSwapped_52 ⟨Nat.le_of_ble_eq_true rfl, Nat.le_of_ble_eq_true rfl⟩ ?_
          refine W.eq (g2 := F0 m 55 ls [.int z_8]) rfl ?_
          refine lv_goto (tgt := 75) hx hb dX10_ifSwapped_55 (by decide) ?_
          refine lv_istore (lv' := [(7, .int z_8), (6, .int z_1), (0, .ref h), (1, .int p1), (2, .int p2), (3, .int p3), (4, .int p4), (5, .int p5)]) hx hb dX10_ifSwapped_75 hl (by decide) rfl (fun ls hl => ?_)
          refine lv_aload_n hx hb dX10_ifSwapped_77 rfl (lv_at hl 2 rfl) ?_
          refine lv_iload_n hx hb dX10_ifSwapped_78 rfl (lv_at hl 3 rfl) ?_
          refine lv_iload_n hx hb dX10_ifSwapped_79 rfl (lv_at hl 4 rfl) ?_
          refine lv_iload_n hx hb dX10_ifSwapped_80 rfl (lv_at hl 5 rfl) ?_
          refine lv_iload hx hb dX10_ifSwapped_81 (lv_at hl 6 rfl) ?_
          obtain ⟨z_9, hz, h0⟩ := bd_ok h0
          refine wr_V (As := [.int p1, .int p2, .int p3, .int p4]) (rest := []) (wc := [(h, .inr (7, [.ref h_s, .ref h_aside, .ref h_past, .int h_pasts, .ref h_snapshot, .int h_isKept, .ref h_pad, .int h_length, .ref h_steps, .int h_many, .int h_value, .ref h_summed, .ref h_plus, .ref h_parts])), (h_s, .inl (cI, 65, .inl z_3)), (h_aside, .inl (cI, 65, .inl h_aside_f)), (h_past, .inl (cI, 260, .inl h_past_f)), (h_snapshot, .inl (cI, 65, .inl h_snapshot_f)), (h_pad, .inl (cI, 80, .inl h_pad_f)), (h_steps, .inl (cI, 320, .inl h_steps_f)), (h_summed, .inl (cI, 81, .inl h_summed_f)), (h_plus, .inl (cI, 81, .inl h_plus_f)), (h_parts, .inl (cI, 392, .inl h_parts_f))]) (wr := []) hcf (kX10_swaps l D cI cC cT h h_s h_aside h_past h_snapshot h_pad h_steps h_summed h_plus h_parts z_3 h_aside_f h_past_f h_pasts h_snapshot_f h_isKept h_pad_f h_length h_steps_f h_many h_value h_summed_f h_plus_f h_parts_f p1 p2 p3 p4 _ z_9 hz) (cwV 4 hts gX10_ifSwapped_X10_swaps rfl rfl rfl (by decide +kernel) ⟨Nat.le_of_ble_eq_true rfl, Nat.le_of_ble_eq_true rfl⟩) hE hP hD hS hA [0, 1, 2, 3, 4, 5, 6, 7, 8, 9] [] (hP.sub [0, 1, 2, 3, 4, 5, 6, 7, 8, 9] rfl) (hD.sub [0, 1, 2, 3, 4, 5, 6, 7, 8, 9] (by decide) rfl) (va_recv hK hP (ci := 7) (q0 := 0) rfl rfl) rfl rfl (by decide) (by decide) rfl hl.1 rfl (Nat.le_of_ble_eq_true rfl) dX10_ifSwapped_83 ⟨Nat.le_of_ble_eq_true rfl, Nat.le_of_ble_eq_true rfl⟩ (fun u H locs hP hD hS => ?_)
          have hP : va_P D vwCl [(h, .inr (7, [.ref h_s, .ref h_aside, .ref h_past, .int h_pasts, .ref h_snapshot, .int h_isKept, .ref h_pad, .int h_length, .ref h_steps, .int h_many, .int h_value, .ref h_summed, .ref h_plus, .ref h_parts])), (h_s, .inl (cI, 65, .inl z_9)), (h_aside, .inl (cI, 65, .inl h_aside_f)), (h_past, .inl (cI, 260, .inl h_past_f)), (h_snapshot, .inl (cI, 65, .inl h_snapshot_f)), (h_pad, .inl (cI, 80, .inl h_pad_f)), (h_steps, .inl (cI, 320, .inl h_steps_f)), (h_summed, .inl (cI, 81, .inl h_summed_f)), (h_plus, .inl (cI, 81, .inl h_plus_f)), (h_parts, .inl (cI, 392, .inl h_parts_f))] H := hP
          have hD : va_D A [(h, .inr (7, [.ref h_s, .ref h_aside, .ref h_past, .int h_pasts, .ref h_snapshot, .int h_isKept, .ref h_pad, .int h_length, .ref h_steps, .int h_many, .int h_value, .ref h_summed, .ref h_plus, .ref h_parts])), (h_s, .inl (cI, 65, .inl z_9)), (h_aside, .inl (cI, 65, .inl h_aside_f)), (h_past, .inl (cI, 260, .inl h_past_f)), (h_snapshot, .inl (cI, 65, .inl h_snapshot_f)), (h_pad, .inl (cI, 80, .inl h_pad_f)), (h_steps, .inl (cI, 320, .inl h_steps_f)), (h_summed, .inl (cI, 81, .inl h_summed_f)), (h_plus, .inl (cI, 81, .inl h_plus_f)), (h_parts, .inl (cI, 392, .inl h_parts_f))] := hD
          refine W.eq (g2 := F0 m 86 ls []) rfl ?_
          refine lv_iload hx hb dX10_ifSwapped_86 (lv_at hl 0 rfl) ?_
          have e0 := Option.some.inj h0
          subst e0
          exact W.iret (v := z_8) hx hb hr (fun t ht hW => wr_end () ht hP hD hS) hS.2.2 dX10_ifSwapped_88
      · have h0 := it_f c9 h0
        refine lv_iload hx hb dX10_ifSwapped_34 (lv_at hl 0 rfl) ?_
        have e0 := Option.some.inj h0
        subst e0
        exact W.iret (v := z_1) hx hb hr (fun t ht hW => wr_end () ht hP hD hS) hS.2.2 dX10_ifSwapped_36
    · have h0 := it_t c9 h0
      refine lv_iconst (v := (-1)) hx hb dX10_ifSwapped_27 (by decide) ?_
      have e0 := Option.some.inj h0
      subst e0
      exact W.iret (v := (-1)) hx hb hr (fun t ht hW => wr_end () ht hP hD hS) hS.2.2 dX10_ifSwapped_28
noncomputable def mX10_sumOneWay_L33 (h_s_f : Nat → Int32) (h_pad_f : Nat → Int32) (h_length : Int32) (p1 : Int32) (k33_90 : Int32 → Int32 → Option (Int32)) : Nat → Int32 → Int32 → Option (Int32)
  | 0, _, _ => none
  | F + 1, x3_4, x2_5 => if h_length ≤ x3_4 then (k33_90 x3_4 x2_5) else (if p1 = 0 then (gd (inb ((h_length - 1) - x3_4) 80) (bd (mX10_plain h_s_f ((h_pad_f (((h_length - 1) - x3_4) : Int32).toNatClampNeg) - 48) x2_5) (fun z_6 => mX10_sumOneWay_L33 h_s_f h_pad_f h_length p1 k33_90 F (x3_4 + 1) z_6))) else (gd (inb x3_4 80) (bd (mX10_plain h_s_f x2_5 ((h_pad_f (x3_4 : Int32).toNatClampNeg) - 48)) (fun z_7 => mX10_sumOneWay_L33 h_s_f h_pad_f h_length p1 k33_90 F (x3_4 + 1) z_7))))
noncomputable def mX10_sumOneWay (h_s_f : Nat → Int32) (h_pad_f : Nat → Int32) (h_length : Int32) (p1 : Int32) : Option (Int32) :=
  if p1 = 0 then (gd (inb (h_length - 1) 80) (mX10_sumOneWay_L33 h_s_f h_pad_f h_length p1 (fun (x3_1 : Int32) (x2_2 : Int32) => some (x2_2)) FU 1 ((h_pad_f ((h_length - 1) : Int32).toNatClampNeg) - 48))) else (mX10_sumOneWay_L33 h_s_f h_pad_f h_length p1 (fun (x3_9 : Int32) (x2_10 : Int32) => some (x2_10)) FU 1 ((h_pad_f (0 : Int32).toNatClampNeg) - 48))
set_option maxHeartbeats 8000000 in
set_option maxRecDepth 100000 in
theorem kX10_sumOneWay (l : Launch) (D : va_G) (cI cC cT : ClassId) (h h_s h_aside h_past h_snapshot h_pad h_steps h_summed h_plus h_parts : Nat) (h_s_f : Nat → Int32) (h_aside_f : Nat → Int32) (h_past_f : Nat → Int32) (h_pasts : Int32) (h_snapshot_f : Nat → Int32) (h_isKept : Int32) (h_pad_f : Nat → Int32) (h_length : Int32) (h_steps_f : Nat → Int32) (h_many : Int32) (h_value : Int32) (h_summed_f : Nat → Int32) (h_plus_f : Nat → Int32) (h_parts_f : Nat → Int32) (p1 : Int32) (z : Int32) (h0 : mX10_sumOneWay h_s_f h_pad_f h_length p1 = some z) : Met l yX10_sumOneWay wsX10_sumOneWay ({ frames := 2, cells := 0, slots := 0, locals := 43 } : Room) (va_Pc [.ref h, .int p1] (rP D cI cC cT [(h, .inr (7, [.ref h_s, .ref h_aside, .ref h_past, .int h_pasts, .ref h_snapshot, .int h_isKept, .ref h_pad, .int h_length, .ref h_steps, .int h_many, .int h_value, .ref h_summed, .ref h_plus, .ref h_parts])), (h_s, .inl (cI, 65, .inl h_s_f)), (h_aside, .inl (cI, 65, .inl h_aside_f)), (h_past, .inl (cI, 260, .inl h_past_f)), (h_snapshot, .inl (cI, 65, .inl h_snapshot_f)), (h_pad, .inl (cI, 80, .inl h_pad_f)), (h_steps, .inl (cI, 320, .inl h_steps_f)), (h_summed, .inl (cI, 81, .inl h_summed_f)), (h_plus, .inl (cI, 81, .inl h_plus_f)), (h_parts, .inl (cI, 392, .inl h_parts_f))])) (rQ (some (.int z))) 0 0 (fun _ => False) := by
  refine Met.ofW (cc := cX10_sumOneWay) (maxL := 4) (ret := (some .int)) (by decide) rfl ?_
  intro p e s m args below meth c s₁ B hml hv
  obtain ⟨rfl, hP, hE⟩ := hv
  have hx := B.exec
  have hb := B.bytes
  have hr := B.returns
  have hts := atoms_spec (ws := wsX10_sumOneWay) B.pre
  have hown : s.vm.findClass RX10 = some m.cls := findClass_of_methodNamed B.named
  have hlocks := B.notSynchronized
  have hK := hE.1
  have hcf : CallFix p m c cX10_sumOneWay 4 s ([.ref h, .int p1] : List Value).toArray wsX10_sumOneWay RX10 := ⟨hx, hb, hml, hown, hts⟩
  have hP : va_P D vwCl [(h, .inr (7, [.ref h_s, .ref h_aside, .ref h_past, .int h_pasts, .ref h_snapshot, .int h_isKept, .ref h_pad, .int h_length, .ref h_steps, .int h_many, .int h_value, .ref h_summed, .ref h_plus, .ref h_parts])), (h_s, .inl (cI, 65, .inl h_s_f)), (h_aside, .inl (cI, 65, .inl h_aside_f)), (h_past, .inl (cI, 260, .inl h_past_f)), (h_snapshot, .inl (cI, 65, .inl h_snapshot_f)), (h_pad, .inl (cI, 80, .inl h_pad_f)), (h_steps, .inl (cI, 320, .inl h_steps_f)), (h_summed, .inl (cI, 81, .inl h_summed_f)), (h_plus, .inl (cI, 81, .inl h_plus_f)), (h_parts, .inl (cI, 392, .inl h_parts_f))] s.heap := hP
  have hf_22 := hts (.fieldLink RX10 22 "CrookedSumsModel" "pad" "[I") (by decide +kernel)
  have hi_X10 := (show ∀ w ∈ u_ws RX10 TX10 14, w ∈ wsX10_sumOneWay from by decide +kernel)
  have hf_111 := hts (.fieldLink RX10 111 "CrookedSumsModel" "length" "I") (by decide +kernel)
  have hl := lv_entry ([.ref h, .int p1]) (n := 4) (Nat.le_of_ble_eq_true rfl)
  rw [lg_entry_eq]
  generalize (lg_sl ([.ref h, .int p1]) ++ List.replicate (4 - (lg_sl ([.ref h, .int p1])).length) Slot.unset).toArray = ls at hl ⊢
  have hl : lv_has ls 4 [(0, .ref h), (1, .int p1)] := hl
  unfold mX10_sumOneWay at h0
  refine lv_iload_n hx hb dX10_sumOneWay_0 rfl (lv_at hl 1 rfl) ?_
  refine lv_if_eq (tgt := 16) hx hb dX10_sumOneWay_1 (by decide) (fun c9 => ?_) (fun c9 => ?_)
  · have h0 := it_t c9 h0
    refine lv_aload_n hx hb dX10_sumOneWay_16 rfl (lv_at hl 0 rfl) ?_
    refine va_get (D := D) (ci := 7) (v := .ref h_pad) (C := RX10) (T := TX10) (N := 14) hx hb hts hi_X10 hown hK hP 0 rfl rfl 6 (by decide) hf_22 (fun _ h9 => h9) rfl dX10_sumOneWay_17 ?_
    refine lv_aload_n hx hb dX10_sumOneWay_20 rfl (lv_at hl 0 rfl) ?_
    refine va_get (D := D) (ci := 7) (v := .int h_length) (C := RX10) (T := TX10) (N := 14) hx hb hts hi_X10 hown hK hP 0 rfl rfl 7 (by decide) hf_111 (fun _ h9 => h9) rfl dX10_sumOneWay_21 ?_
    refine lv_iconst (v := 1) hx hb dX10_sumOneWay_24 (by decide) ?_
    refine lv_isub hx hb dX10_sumOneWay_25 ?_
    obtain ⟨g0, h0⟩ := gd_ok h0
    refine va_iald hx hb hK hP 5 0 rfl rfl (inb_ok g0) dX10_sumOneWay_26 ?_
    refine lv_bipush (v := 48) hx hb dX10_sumOneWay_27 (by decide) ?_
    refine lv_isub hx hb dX10_sumOneWay_29 ?_
    refine lv_istore_n (lv' := [(2, .int ((h_pad_f ((h_length - 1) : Int32).toNatClampNeg) - 48)), (0, .ref h), (1, .int p1)]) hx hb dX10_sumOneWay_30 rfl hl (by decide) rfl (fun ls hl => ?_)
    refine lv_iconst (v := 1) hx hb dX10_sumOneWay_31 (by decide) ?_
    refine lv_istore_n (lv' := [(3, .int 1), (2, .int ((h_pad_f ((h_length - 1) : Int32).toNatClampNeg) - 48)), (0, .ref h), (1, .int p1)]) hx hb dX10_sumOneWay_32 rfl hl (by decide) rfl (fun ls hl => ?_)
    have E_33_90_2 : ∀ (x3_1 : Int32) (x2_2 : Int32) (ls : Array Slot), (some (x2_2)) = some z → lv_has ls 4 [(3, .int x3_1), (2, .int x2_2), (0, .ref h), (1, .int p1)] → W p l e (headSpec wsX10_sumOneWay ({ frames := 2, cells := 0, slots := 0, locals := 43 } : Room)).room s m (([.ref h, .int p1] : List Value).toArray) below meth c s.heap [] 0 0 (MQ below (rQ (some (.int z))) (([.ref h, .int p1] : List Value).toArray) s 0 0 (fun _ => False)) (F0 m 90 ls []) := by
      intro x3_1 x2_2 ls h0 hl
      refine lv_iload_n hx hb dX10_sumOneWay_90 rfl (lv_at hl 1 rfl) ?_
      have e0 := Option.some.inj h0
      subst e0
      exact W.iret (v := x2_2) hx hb hr (fun t ht hW => ⟨rfl, ht⟩) (fun q hq => absurd hq List.not_mem_nil) dX10_sumOneWay_91
    have L_33_7 : ∀ (F33 : Nat) (x3_4 : Int32) (x2_5 : Int32) (ls : Array Slot), mX10_sumOneWay_L33 h_s_f h_pad_f h_length p1 (fun (x3_1 : Int32) (x2_2 : Int32) => some (x2_2)) F33 x3_4 x2_5 = some z → lv_has ls 4 [(3, .int x3_4), (2, .int x2_5), (0, .ref h), (1, .int p1)] → W p l e (headSpec wsX10_sumOneWay ({ frames := 2, cells := 0, slots := 0, locals := 43 } : Room)).room s m (([.ref h, .int p1] : List Value).toArray) below meth c s.heap [] 0 0 (MQ below (rQ (some (.int z))) (([.ref h, .int p1] : List Value).toArray) s 0 0 (fun _ => False)) (F0 m 33 ls []) := by
      intro F33
      induction F33 with
      | zero => intro x3_4 x2_5 ls h0 hl; cases h0
      | succ F33 ih33 =>
        intro x3_4 x2_5 ls h0 hl
        rw [mX10_sumOneWay_L33] at h0
        refine lv_iload_n hx hb dX10_sumOneWay_33 rfl (lv_at hl 0 rfl) ?_
        refine lv_aload_n hx hb dX10_sumOneWay_34 rfl (lv_at hl 2 rfl) ?_
        refine va_get (D := D) (ci := 7) (v := .int h_length) (C := RX10) (T := TX10) (N := 14) hx hb hts hi_X10 hown hK hP 0 rfl rfl 7 (by decide) hf_111 (fun _ h9 => h9) rfl dX10_sumOneWay_35 ?_
        refine lv_icmp_ge (tgt := 90) hx hb dX10_sumOneWay_38 (by decide) (fun c9 => ?_) (fun c9 => ?_)
        · have h0 := it_t c9 h0
          exact E_33_90_2 x3_4 x2_5 ls h0 hl
        · have h0 := it_f c9 h0
          refine lv_iload_n hx hb dX10_sumOneWay_41 rfl (lv_at hl 3 rfl) ?_
          refine lv_if_eq (tgt := 62) hx hb dX10_sumOneWay_42 (by decide) (fun c9 => ?_) (fun c9 => ?_)
          · have h0 := it_t c9 h0
            refine lv_aload_n hx hb dX10_sumOneWay_62 rfl (lv_at hl 2 rfl) ?_
            refine lv_aload_n hx hb dX10_sumOneWay_63 rfl (lv_at hl 2 rfl) ?_
            refine va_get (D := D) (ci := 7) (v := .ref h_pad) (C := RX10) (T := TX10) (N := 14) hx hb hts hi_X10 hown hK hP 0 rfl rfl 6 (by decide) hf_22 (fun _ h9 => h9) rfl dX10_sumOneWay_64 ?_
            refine lv_aload_n hx hb dX10_sumOneWay_67 rfl (lv_at hl 2 rfl) ?_
            refine va_get (D := D) (ci := 7) (v := .int h_length) (C := RX10) (T := TX10) (N := 14) hx hb hts hi_X10 hown hK hP 0 rfl rfl 7 (by decide) hf_111 (fun _ h9 => h9) rfl dX10_sumOneWay_68 ?_
            refine lv_iconst (v := 1) hx hb dX10_sumOneWay_71 (by decide) ?_
            refine lv_isub hx hb dX10_sumOneWay_72 ?_
            refine lv_iload_n hx hb dX10_sumOneWay_73 rfl (lv_at hl 0 rfl) ?_
            refine lv_isub hx hb dX10_sumOneWay_74 ?_
            obtain ⟨g0, h0⟩ := gd_ok h0
            refine va_iald hx hb hK hP 5 0 rfl rfl (inb_ok g0) dX10_sumOneWay_75 ?_
            refine lv_bipush (v := 48) hx hb dX10_sumOneWay_76 (by decide) ?_
            refine lv_isub hx hb dX10_sumOneWay_78 ?_
            refine lv_iload_n hx hb dX10_sumOneWay_79 rfl (lv_at hl 1 rfl) ?_
            obtain ⟨z_6, hz, h0⟩ := bd_ok h0
            refine ro_V (As := [.int ((h_pad_f (((h_length - 1) - x3_4) : Int32).toNatClampNeg) - 48), .int x2_5]) (rest := []) (wc := [(h, .inr (7, [.ref h_s, .ref h_aside, .ref h_past, .int h_pasts, .ref h_snapshot, .int h_isKept, .ref h_pad, .int h_length, .ref h_steps, .int h_many, .int h_value, .ref h_summed, .ref h_plus, .ref h_parts])), (h_s, .inl (cI, 65, .inl h_s_f)), (h_aside, .inl (cI, 65, .inl h_aside_f)), (h_past, .inl (cI, 260, .inl h_past_f)), (h_snapshot, .inl (cI, 65, .inl h_snapshot_f)), (h_pad, .inl (cI, 80, .inl h_pad_f)), (h_steps, .inl (cI, 320, .inl h_steps_f)), (h_summed, .inl (cI, 81, .inl h_summed_f)), (h_plus, .inl (cI, 81, .inl h_plus_f)), (h_parts, .inl (cI, 392, .inl h_parts_f))]) hcf (kX10_plain l D cI cC cT h h_s h_aside h_past h_snapshot h_pad h_steps h_summed h_plus h_parts h_s_f h_aside_f h_past_f h_pasts h_snapshot_f h_isKept h_pad_f h_length h_steps_f h_many h_value h_summed_f h_plus_f h_parts_f ((h_pad_f (((h_length - 1) - x3_4) : Int32).toNatClampNeg) - 48) x2_5 z_6 hz) (cwV 2 hts gX10_sumOneWay_X10_plain rfl rfl rfl (by decide +kernel) ⟨Nat.le_of_ble_eq_true rfl, Nat.le_of_ble_eq_true rfl⟩) hE (hP.sub [0, 1, 2, 3, 4, 5, 6, 7, 8, 9] rfl) (va_recv hK hP (ci := 7) (q0 := 0) rfl rfl) rfl hl.1 rfl (Nat.le_of_ble_eq_true rfl) dX10_sumOneWay_80 ⟨Nat.le_of_ble_eq_true rfl, Nat.le_of_ble_eq_true rfl⟩ ?_
            refine W.eq (g2 := F0 m 83 ls [.int z_6]) rfl ?_
            refine lv_istore_n (lv' := [(2, .int z_6), (3, .int x3_4), (0, .ref h), (1, .int p1)]) hx hb dX10_sumOneWay_83 rfl hl (by decide) rfl (fun ls hl => ?_)
            refine lv_iinc (v := (x3_4 + 1)) (lv' := [(3, .int (x3_4 + 1)), (2, .int z_6), (0, .ref h), (1, .int p1)]) hx hb dX10_sumOneWay_84 hl (k := 1) rfl rfl (by decide) rfl (fun ls hl => ?_)
            refine lv_goto (tgt := 33) hx hb dX10_sumOneWay_87 (by decide) ?_
            exact ih33 (x3_4 + 1) z_6 ls h0 hl
          · have h0 := it_f c9 h0
            refine lv_aload_n hx hb dX10_sumOneWay_45 rfl (lv_at hl 2 rfl) ?_
            refine lv_iload_n hx hb dX10_sumOneWay_46 rfl (lv_at hl 1 rfl) ?_
            refine lv_aload_n hx hb dX10_sumOneWay_47 rfl (lv_at hl 2 rfl) ?_
            refine va_get (D := D) (ci := 7) (v := .ref h_pad) (C := RX10) (T := TX10) (N := 14) hx hb hts hi_X10 hown hK hP 0 rfl rfl 6 (by decide) hf_22 (fun _ h9 => h9) rfl dX10_sumOneWay_48 ?_
            refine lv_iload_n hx hb dX10_sumOneWay_51 rfl (lv_at hl 0 rfl) ?_
            obtain ⟨g0, h0⟩ := gd_ok h0
            refine va_iald hx hb hK hP 5 0 rfl rfl (inb_ok g0) dX10_sumOneWay_52 ?_
            refine lv_bipush (v := 48) hx hb dX10_sumOneWay_53 (by decide) ?_
            refine lv_isub hx hb dX10_sumOneWay_55 ?_
            obtain ⟨z_7, hz, h0⟩ := bd_ok h0
            refine ro_V (As := [.int x2_5, .int ((h_pad_f (x3_4 : Int32).toNatClampNeg) - 48)]) (rest := []) (wc := [(h, .inr (7, [.ref h_s, .ref h_aside, .ref h_past, .int h_pasts, .ref h_snapshot, .int h_isKept, .ref h_pad, .int h_length, .ref h_steps, .int h_many, .int h_value, .ref h_summed, .ref h_plus, .ref h_parts])), (h_s, .inl (cI, 65, .inl h_s_f)), (h_aside, .inl (cI, 65, .inl h_aside_f)), (h_past, .inl (cI, 260, .inl h_past_f)), (h_snapshot, .inl (cI, 65, .inl h_snapshot_f)), (h_pad, .inl (cI, 80, .inl h_pad_f)), (h_steps, .inl (cI, 320, .inl h_steps_f)), (h_summed, .inl (cI, 81, .inl h_summed_f)), (h_plus, .inl (cI, 81, .inl h_plus_f)), (h_parts, .inl (cI, 392, .inl h_parts_f))]) hcf (kX10_plain l D cI cC cT h h_s h_aside h_past h_snapshot h_pad h_steps h_summed h_plus h_parts h_s_f h_aside_f h_past_f h_pasts h_snapshot_f h_isKept h_pad_f h_length h_steps_f h_many h_value h_summed_f h_plus_f h_parts_f x2_5 ((h_pad_f (x3_4 : Int32).toNatClampNeg) - 48) z_7 hz) (cwV 2 hts gX10_sumOneWay_X10_plain rfl rfl rfl (by decide +kernel) ⟨Nat.le_of_ble_eq_true rfl, Nat.le_of_ble_eq_true rfl⟩) hE (hP.sub [0, 1, 2, 3, 4, 5, 6, 7, 8, 9] rfl) (va_recv hK hP (ci := 7) (q0 := 0) rfl rfl) rfl hl.1 rfl (Nat.le_of_ble_eq_true rfl) dX10_sumOneWay_56 ⟨Nat.le_of_ble_eq_true rfl, Nat.le_of_ble_eq_true rfl⟩ ?_
            refine W.eq (g2 := F0 m 59 ls [.int z_7]) rfl ?_
            refine lv_goto (tgt := 83) hx hb dX10_sumOneWay_59 (by decide) ?_
            refine lv_istore_n (lv' := [(2, .int z_7), (3, .int x3_4), (0, .ref h), (1, .int p1)]) hx hb dX10_sumOneWay_83 rfl hl (by decide) rfl (fun ls hl => ?_)
            refine lv_iinc (v := (x3_4 + 1)) (lv' := [(3, .int (x3_4 + 1)), (2, .int z_7), (0, .ref h), (1, .int p1)]) hx hb dX10_sumOneWay_84 hl (k := 1) rfl rfl (by decide) rfl (fun ls hl => ?_)
            refine lv_goto (tgt := 33) hx hb dX10_sumOneWay_87 (by decide) ?_
            exact ih33 (x3_4 + 1) z_7 ls h0 hl
    exact L_33_7 FU 1 ((h_pad_f ((h_length - 1) : Int32).toNatClampNeg) - 48) ls h0 hl
  · have h0 := it_f c9 h0
    refine lv_aload_n hx hb dX10_sumOneWay_4 rfl (lv_at hl 0 rfl) ?_
    refine va_get (D := D) (ci := 7) (v := .ref h_pad) (C := RX10) (T := TX10) (N := 14) hx hb hts hi_X10 hown hK hP 0 rfl rfl 6 (by decide) hf_22 (fun _ h9 => h9) rfl dX10_sumOneWay_5 ?_
    refine lv_iconst (v := 0) hx hb dX10_sumOneWay_8 (by decide) ?_
    refine va_iald hx hb hK hP 5 0 rfl rfl (by unfold vp_in; decide) dX10_sumOneWay_9 ?_
    refine lv_bipush (v := 48) hx hb dX10_sumOneWay_10 (by decide) ?_
    refine lv_isub hx hb dX10_sumOneWay_12 ?_
    refine lv_goto (tgt := 30) hx hb dX10_sumOneWay_13 (by decide) ?_
    refine lv_istore_n (lv' := [(2, .int ((h_pad_f (0 : Int32).toNatClampNeg) - 48)), (0, .ref h), (1, .int p1)]) hx hb dX10_sumOneWay_30 rfl hl (by decide) rfl (fun ls hl => ?_)
    refine lv_iconst (v := 1) hx hb dX10_sumOneWay_31 (by decide) ?_
    refine lv_istore_n (lv' := [(3, .int 1), (2, .int ((h_pad_f (0 : Int32).toNatClampNeg) - 48)), (0, .ref h), (1, .int p1)]) hx hb dX10_sumOneWay_32 rfl hl (by decide) rfl (fun ls hl => ?_)
    have E_33_90_10 : ∀ (x3_9 : Int32) (x2_10 : Int32) (ls : Array Slot), (some (x2_10)) = some z → lv_has ls 4 [(3, .int x3_9), (2, .int x2_10), (0, .ref h), (1, .int p1)] → W p l e (headSpec wsX10_sumOneWay ({ frames := 2, cells := 0, slots := 0, locals := 43 } : Room)).room s m (([.ref h, .int p1] : List Value).toArray) below meth c s.heap [] 0 0 (MQ below (rQ (some (.int z))) (([.ref h, .int p1] : List Value).toArray) s 0 0 (fun _ => False)) (F0 m 90 ls []) := by
      intro x3_9 x2_10 ls h0 hl
      refine lv_iload_n hx hb dX10_sumOneWay_90 rfl (lv_at hl 1 rfl) ?_
      have e0 := Option.some.inj h0
      subst e0
      exact W.iret (v := x2_10) hx hb hr (fun t ht hW => ⟨rfl, ht⟩) (fun q hq => absurd hq List.not_mem_nil) dX10_sumOneWay_91
    have L_33_15 : ∀ (F33 : Nat) (x3_12 : Int32) (x2_13 : Int32) (ls : Array Slot), mX10_sumOneWay_L33 h_s_f h_pad_f h_length p1 (fun (x3_9 : Int32) (x2_10 : Int32) => some (x2_10)) F33 x3_12 x2_13 = some z → lv_has ls 4 [(3, .int x3_12), (2, .int x2_13), (0, .ref h), (1, .int p1)] → W p l e (headSpec wsX10_sumOneWay ({ frames := 2, cells := 0, slots := 0, locals := 43 } : Room)).room s m (([.ref h, .int p1] : List Value).toArray) below meth c s.heap [] 0 0 (MQ below (rQ (some (.int z))) (([.ref h, .int p1] : List Value).toArray) s 0 0 (fun _ => False)) (F0 m 33 ls []) := by
      intro F33
      induction F33 with
      | zero => intro x3_12 x2_13 ls h0 hl; cases h0
      | succ F33 ih33 =>
        intro x3_12 x2_13 ls h0 hl
        rw [mX10_sumOneWay_L33] at h0
        refine lv_iload_n hx hb dX10_sumOneWay_33 rfl (lv_at hl 0 rfl) ?_
        refine lv_aload_n hx hb dX10_sumOneWay_34 rfl (lv_at hl 2 rfl) ?_
        refine va_get (D := D) (ci := 7) (v := .int h_length) (C := RX10) (T := TX10) (N := 14) hx hb hts hi_X10 hown hK hP 0 rfl rfl 7 (by decide) hf_111 (fun _ h9 => h9) rfl dX10_sumOneWay_35 ?_
        refine lv_icmp_ge (tgt := 90) hx hb dX10_sumOneWay_38 (by decide) (fun c9 => ?_) (fun c9 => ?_)
        · have h0 := it_t c9 h0
          exact E_33_90_10 x3_12 x2_13 ls h0 hl
        · have h0 := it_f c9 h0
          refine lv_iload_n hx hb dX10_sumOneWay_41 rfl (lv_at hl 3 rfl) ?_
          refine lv_if_eq (tgt := 62) hx hb dX10_sumOneWay_42 (by decide) (fun c9 => ?_) (fun c9 => ?_)
          · have h0 := it_t c9 h0
            refine lv_aload_n hx hb dX10_sumOneWay_62 rfl (lv_at hl 2 rfl) ?_
            refine lv_aload_n hx hb dX10_sumOneWay_63 rfl (lv_at hl 2 rfl) ?_
            refine va_get (D := D) (ci := 7) (v := .ref h_pad) (C := RX10) (T := TX10) (N := 14) hx hb hts hi_X10 hown hK hP 0 rfl rfl 6 (by decide) hf_22 (fun _ h9 => h9) rfl dX10_sumOneWay_64 ?_
            refine lv_aload_n hx hb dX10_sumOneWay_67 rfl (lv_at hl 2 rfl) ?_
            refine va_get (D := D) (ci := 7) (v := .int h_length) (C := RX10) (T := TX10) (N := 14) hx hb hts hi_X10 hown hK hP 0 rfl rfl 7 (by decide) hf_111 (fun _ h9 => h9) rfl dX10_sumOneWay_68 ?_
            refine lv_iconst (v := 1) hx hb dX10_sumOneWay_71 (by decide) ?_
            refine lv_isub hx hb dX10_sumOneWay_72 ?_
            refine lv_iload_n hx hb dX10_sumOneWay_73 rfl (lv_at hl 0 rfl) ?_
            refine lv_isub hx hb dX10_sumOneWay_74 ?_
            obtain ⟨g0, h0⟩ := gd_ok h0
            refine va_iald hx hb hK hP 5 0 rfl rfl (inb_ok g0) dX10_sumOneWay_75 ?_
            refine lv_bipush (v := 48) hx hb dX10_sumOneWay_76 (by decide) ?_
            refine lv_isub hx hb dX10_sumOneWay_78 ?_
            refine lv_iload_n hx hb dX10_sumOneWay_79 rfl (lv_at hl 1 rfl) ?_
            obtain ⟨z_14, hz, h0⟩ := bd_ok h0
            refine ro_V (As := [.int ((h_pad_f (((h_length - 1) - x3_12) : Int32).toNatClampNeg) - 48), .int x2_13]) (rest := []) (wc := [(h, .inr (7, [.ref h_s, .ref h_aside, .ref h_past, .int h_pasts, .ref h_snapshot, .int h_isKept, .ref h_pad, .int h_length, .ref h_steps, .int h_many, .int h_value, .ref h_summed, .ref h_plus, .ref h_parts])), (h_s, .inl (cI, 65, .inl h_s_f)), (h_aside, .inl (cI, 65, .inl h_aside_f)), (h_past, .inl (cI, 260, .inl h_past_f)), (h_snapshot, .inl (cI, 65, .inl h_snapshot_f)), (h_pad, .inl (cI, 80, .inl h_pad_f)), (h_steps, .inl (cI, 320, .inl h_steps_f)), (h_summed, .inl (cI, 81, .inl h_summed_f)), (h_plus, .inl (cI, 81, .inl h_plus_f)), (h_parts, .inl (cI, 392, .inl h_parts_f))]) hcf (kX10_plain l D cI cC cT h h_s h_aside h_past h_snapshot h_pad h_steps h_summed h_plus h_parts h_s_f h_aside_f h_past_f h_pasts h_snapshot_f h_isKept h_pad_f h_length h_steps_f h_many h_value h_summed_f h_plus_f h_parts_f ((h_pad_f (((h_length - 1) - x3_12) : Int32).toNatClampNeg) - 48) x2_13 z_14 hz) (cwV 2 hts gX10_sumOneWay_X10_plain rfl rfl rfl (by decide +kernel) ⟨Nat.le_of_ble_eq_true rfl, Nat.le_of_ble_eq_true rfl⟩) hE (hP.sub [0, 1, 2, 3, 4, 5, 6, 7, 8, 9] rfl) (va_recv hK hP (ci := 7) (q0 := 0) rfl rfl) rfl hl.1 rfl (Nat.le_of_ble_eq_true rfl) dX10_sumOneWay_80 ⟨Nat.le_of_ble_eq_true rfl, Nat.le_of_ble_eq_true rfl⟩ ?_
            refine W.eq (g2 := F0 m 83 ls [.int z_14]) rfl ?_
            refine lv_istore_n (lv' := [(2, .int z_14), (3, .int x3_12), (0, .ref h), (1, .int p1)]) hx hb dX10_sumOneWay_83 rfl hl (by decide) rfl (fun ls hl => ?_)
            refine lv_iinc (v := (x3_12 + 1)) (lv' := [(3, .int (x3_12 + 1)), (2, .int z_14), (0, .ref h), (1, .int p1)]) hx hb dX10_sumOneWay_84 hl (k := 1) rfl rfl (by decide) rfl (fun ls hl => ?_)
            refine lv_goto (tgt := 33) hx hb dX10_sumOneWay_87 (by decide) ?_
            exact ih33 (x3_12 + 1) z_14 ls h0 hl
          · have h0 := it_f c9 h0
            refine lv_aload_n hx hb dX10_sumOneWay_45 rfl (lv_at hl 2 rfl) ?_
            refine lv_iload_n hx hb dX10_sumOneWay_46 rfl (lv_at hl 1 rfl) ?_
            refine lv_aload_n hx hb dX10_sumOneWay_47 rfl (lv_at hl 2 rfl) ?_
            refine va_get (D := D) (ci := 7) (v := .ref h_pad) (C := RX10) (T := TX10) (N := 14) hx hb hts hi_X10 hown hK hP 0 rfl rfl 6 (by decide) hf_22 (fun _ h9 => h9) rfl dX10_sumOneWay_48 ?_
            refine lv_iload_n hx hb dX10_sumOneWay_51 rfl (lv_at hl 0 rfl) ?_
            obtain ⟨g0, h0⟩ := gd_ok h0
            refine va_iald hx hb hK hP 5 0 rfl rfl (inb_ok g0) dX10_sumOneWay_52 ?_
            refine lv_bipush (v := 48) hx hb dX10_sumOneWay_53 (by decide) ?_
            refine lv_isub hx hb dX10_sumOneWay_55 ?_
            obtain ⟨z_15, hz, h0⟩ := bd_ok h0
            refine ro_V (As := [.int x2_13, .int ((h_pad_f (x3_12 : Int32).toNatClampNeg) - 48)]) (rest := []) (wc := [(h, .inr (7, [.ref h_s, .ref h_aside, .ref h_past, .int h_pasts, .ref h_snapshot, .int h_isKept, .ref h_pad, .int h_length, .ref h_steps, .int h_many, .int h_value, .ref h_summed, .ref h_plus, .ref h_parts])), (h_s, .inl (cI, 65, .inl h_s_f)), (h_aside, .inl (cI, 65, .inl h_aside_f)), (h_past, .inl (cI, 260, .inl h_past_f)), (h_snapshot, .inl (cI, 65, .inl h_snapshot_f)), (h_pad, .inl (cI, 80, .inl h_pad_f)), (h_steps, .inl (cI, 320, .inl h_steps_f)), (h_summed, .inl (cI, 81, .inl h_summed_f)), (h_plus, .inl (cI, 81, .inl h_plus_f)), (h_parts, .inl (cI, 392, .inl h_parts_f))]) hcf (kX10_plain l D cI cC cT h h_s h_aside h_past h_snapshot h_pad h_steps h_summed h_plus h_parts h_s_f h_aside_f h_past_f h_pasts h_snapshot_f h_isKept h_pad_f h_length h_steps_f h_many h_value h_summed_f h_plus_f h_parts_f x2_13 ((h_pad_f (x3_12 : Int32).toNatClampNeg) - 48) z_15 hz) (cwV 2 hts gX10_sumOneWay_X10_plain rfl rfl rfl (by decide +kernel) ⟨Nat.le_of_ble_eq_true rfl, Nat.le_of_ble_eq_true rfl⟩) hE (hP.sub [0, 1, 2, 3, 4, 5, 6, 7, 8, 9] rfl) (va_recv hK hP (ci := 7) (q0 := 0) rfl rfl) rfl hl.1 rfl (Nat.le_of_ble_eq_true rfl) dX10_sumOneWay_56 ⟨Nat.le_of_ble_eq_true rfl, Nat.le_of_ble_eq_true rfl⟩ ?_
            refine W.eq (g2 := F0 m 59 ls [.int z_15]) rfl ?_
            refine lv_goto (tgt := 83) hx hb dX10_sumOneWay_59 (by decide) ?_
            refine lv_istore_n (lv' := [(2, .int z_15), (3, .int x3_12), (0, .ref h), (1, .int p1)]) hx hb dX10_sumOneWay_83 rfl hl (by decide) rfl (fun ls hl => ?_)
            refine lv_iinc (v := (x3_12 + 1)) (lv' := [(3, .int (x3_12 + 1)), (2, .int z_15), (0, .ref h), (1, .int p1)]) hx hb dX10_sumOneWay_84 hl (k := 1) rfl rfl (by decide) rfl (fun ls hl => ?_)
            refine lv_goto (tgt := 33) hx hb dX10_sumOneWay_87 (by decide) ?_
            exact ih33 (x3_12 + 1) z_15 ls h0 hl
    exact L_33_15 FU 1 ((h_pad_f (0 : Int32).toNatClampNeg) - 48) ls h0 hl
noncomputable def mX10_waysTo (h_length : Int32) (h_parts_f : Nat → Int32) (p1 : Int32) : Option (Int32) :=
  bd (mX10_part 0 (h_length - 1) p1) (fun z_1 => gd (inb z_1 392) (some ((h_parts_f (z_1 : Int32).toNatClampNeg))))
set_option maxHeartbeats 8000000 in
set_option maxRecDepth 100000 in
theorem kX10_waysTo (l : Launch) (D : va_G) (cI cC cT : ClassId) (h h_s h_aside h_past h_snapshot h_pad h_steps h_summed h_plus h_parts : Nat) (h_s_f : Nat → Int32) (h_aside_f : Nat → Int32) (h_past_f : Nat → Int32) (h_pasts : Int32) (h_snapshot_f : Nat → Int32) (h_isKept : Int32) (h_pad_f : Nat → Int32) (h_length : Int32) (h_steps_f : Nat → Int32) (h_many : Int32) (h_value : Int32) (h_summed_f : Nat → Int32) (h_plus_f : Nat → Int32) (h_parts_f : Nat → Int32) (p1 : Int32) (z : Int32) (h0 : mX10_waysTo h_length h_parts_f p1 = some z) : Met l yX10_waysTo wsX10_waysTo ({ frames := 1, cells := 0, slots := 0, locals := 22 } : Room) (va_Pc [.ref h, .int p1] (rP D cI cC cT [(h, .inr (7, [.ref h_s, .ref h_aside, .ref h_past, .int h_pasts, .ref h_snapshot, .int h_isKept, .ref h_pad, .int h_length, .ref h_steps, .int h_many, .int h_value, .ref h_summed, .ref h_plus, .ref h_parts])), (h_s, .inl (cI, 65, .inl h_s_f)), (h_aside, .inl (cI, 65, .inl h_aside_f)), (h_past, .inl (cI, 260, .inl h_past_f)), (h_snapshot, .inl (cI, 65, .inl h_snapshot_f)), (h_pad, .inl (cI, 80, .inl h_pad_f)), (h_steps, .inl (cI, 320, .inl h_steps_f)), (h_summed, .inl (cI, 81, .inl h_summed_f)), (h_plus, .inl (cI, 81, .inl h_plus_f)), (h_parts, .inl (cI, 392, .inl h_parts_f))])) (rQ (some (.int z))) 0 0 (fun _ => False) := by
  refine Met.ofW (cc := cX10_waysTo) (maxL := 2) (ret := (some .int)) (by decide) rfl ?_
  intro p e s m args below meth c s₁ B hml hv
  obtain ⟨rfl, hP, hE⟩ := hv
  have hx := B.exec
  have hb := B.bytes
  have hr := B.returns
  have hts := atoms_spec (ws := wsX10_waysTo) B.pre
  have hown : s.vm.findClass RX10 = some m.cls := findClass_of_methodNamed B.named
  have hlocks := B.notSynchronized
  have hK := hE.1
  have hcf : CallFix p m c cX10_waysTo 2 s ([.ref h, .int p1] : List Value).toArray wsX10_waysTo RX10 := ⟨hx, hb, hml, hown, hts⟩
  have hP : va_P D vwCl [(h, .inr (7, [.ref h_s, .ref h_aside, .ref h_past, .int h_pasts, .ref h_snapshot, .int h_isKept, .ref h_pad, .int h_length, .ref h_steps, .int h_many, .int h_value, .ref h_summed, .ref h_plus, .ref h_parts])), (h_s, .inl (cI, 65, .inl h_s_f)), (h_aside, .inl (cI, 65, .inl h_aside_f)), (h_past, .inl (cI, 260, .inl h_past_f)), (h_snapshot, .inl (cI, 65, .inl h_snapshot_f)), (h_pad, .inl (cI, 80, .inl h_pad_f)), (h_steps, .inl (cI, 320, .inl h_steps_f)), (h_summed, .inl (cI, 81, .inl h_summed_f)), (h_plus, .inl (cI, 81, .inl h_plus_f)), (h_parts, .inl (cI, 392, .inl h_parts_f))] s.heap := hP
  have hf_34 := hts (.fieldLink RX10 34 "CrookedSumsModel" "parts" "[I") (by decide +kernel)
  have hi_X10 := (show ∀ w ∈ u_ws RX10 TX10 14, w ∈ wsX10_waysTo from by decide +kernel)
  have hf_111 := hts (.fieldLink RX10 111 "CrookedSumsModel" "length" "I") (by decide +kernel)
  have hl := lv_entry ([.ref h, .int p1]) (n := 2) (Nat.le_of_ble_eq_true rfl)
  rw [lg_entry_eq]
  generalize (lg_sl ([.ref h, .int p1]) ++ List.replicate (2 - (lg_sl ([.ref h, .int p1])).length) Slot.unset).toArray = ls at hl ⊢
  have hl : lv_has ls 2 [(0, .ref h), (1, .int p1)] := hl
  unfold mX10_waysTo at h0
  refine lv_aload_n hx hb dX10_waysTo_0 rfl (lv_at hl 0 rfl) ?_
  refine va_get (D := D) (ci := 7) (v := .ref h_parts) (C := RX10) (T := TX10) (N := 14) hx hb hts hi_X10 hown hK hP 0 rfl rfl 13 (by decide) hf_34 (fun _ h9 => h9) rfl dX10_waysTo_1 ?_
  refine lv_iconst (v := 0) hx hb dX10_waysTo_4 (by decide) ?_
  refine lv_aload_n hx hb dX10_waysTo_5 rfl (lv_at hl 0 rfl) ?_
  refine va_get (D := D) (ci := 7) (v := .int h_length) (C := RX10) (T := TX10) (N := 14) hx hb hts hi_X10 hown hK hP 0 rfl rfl 7 (by decide) hf_111 (fun _ h9 => h9) rfl dX10_waysTo_6 ?_
  refine lv_iconst (v := 1) hx hb dX10_waysTo_9 (by decide) ?_
  refine lv_isub hx hb dX10_waysTo_10 ?_
  refine lv_iload_n hx hb dX10_waysTo_11 rfl (lv_at hl 1 rfl) ?_
  obtain ⟨z_1, hz, h0⟩ := bd_ok h0
  refine ro_S (As := [.int 0, .int (h_length - 1), .int p1]) (rest := [.ref h_parts]) (wc := []) hcf (kX10_part l D cI cC cT 0 (h_length - 1) p1 z_1 hz) (va_cwS 3 hts gX10_waysTo_X10_part rfl rfl rfl (by decide +kernel) ⟨Nat.le_of_ble_eq_true rfl, Nat.le_of_ble_eq_true rfl⟩) hE (hP.sub [] rfl) rfl hl.1 rfl (Nat.le_of_ble_eq_true rfl) dX10_waysTo_12 ⟨Nat.le_of_ble_eq_true rfl, Nat.le_of_ble_eq_true rfl⟩ ?_
  refine W.eq (g2 := F0 m 15 ls [.int z_1, .ref h_parts]) rfl ?_
  obtain ⟨g0, h0⟩ := gd_ok h0
  refine va_iald hx hb hK hP 9 0 rfl rfl (inb_ok g0) dX10_waysTo_15 ?_
  have e0 := Option.some.inj h0
  subst e0
  exact W.iret (v := (h_parts_f (z_1 : Int32).toNatClampNeg)) hx hb hr (fun t ht hW => ⟨rfl, ht⟩) (fun q hq => absurd hq List.not_mem_nil) dX10_waysTo_16
noncomputable def mX10_sums_L33 (h_s_f : Nat → Int32) (h_length : Int32) (z_3 : (Nat → Int32)) (k33_91 : Int32 → Int32 → Int32 → Option (Int32 × (Nat → Int32))) : Nat → Int32 → Int32 → Int32 → Option (Int32 × (Nat → Int32))
  | 0, _, _, _ => none
  | F + 1, x4_10, x2_11, x3_12 => if (h_s_f (0 : Int32).toNatClampNeg) ≤ x4_10 then (k33_91 x4_10 x2_11 x3_12) else (bd (mX10_waysTo h_length z_3 x4_10) (fun z_13 => if z_13 ≤ 0 then (bd (mX10_waysTo h_length z_3 x4_10) (fun z_14 => bd (mX10_waysTo h_length z_3 x3_12) (fun z_15 => if z_14 ≤ z_15 then (mX10_sums_L33 h_s_f h_length z_3 k33_91 F (x4_10 + 1) (x2_11 ||| 0) x3_12) else (mX10_sums_L33 h_s_f h_length z_3 k33_91 F (x4_10 + 1) (x2_11 ||| 0) x4_10)))) else (bd (mX10_waysTo h_length z_3 x4_10) (fun z_16 => bd (mX10_waysTo h_length z_3 x3_12) (fun z_17 => if z_16 ≤ z_17 then (mX10_sums_L33 h_s_f h_length z_3 k33_91 F (x4_10 + 1) (x2_11 ||| ((1 : Int32) <<< (x4_10 &&& 31))) x3_12) else (mX10_sums_L33 h_s_f h_length z_3 k33_91 F (x4_10 + 1) (x2_11 ||| ((1 : Int32) <<< (x4_10 &&& 31))) x4_10))))))
noncomputable def mX10_sums (h_s_f : Nat → Int32) (h_pad_f : Nat → Int32) (h_length : Int32) (h_parts_f : Nat → Int32) (p1 : Int32) : Option (Int32 × (Nat → Int32)) :=
  bd (mX10_in p1 0 3) (fun z_1 => if z_1 = 0 then (some ((-1), h_parts_f)) else (bd (mX10_rowFault h_s_f h_pad_f h_length) (fun z_2 => if z_2 = (-1) then (bd (mX10_laysParts h_s_f h_pad_f h_length h_parts_f) (fun z_3 => mX10_sums_L33 h_s_f h_length z_3 (fun (x4_4 : Int32) (x2_5 : Int32) (x3_6 : Int32) => if p1 = 0 then (some (x2_5, z_3)) else (if p1 = 3 then (some (x3_6, z_3)) else (if p1 = 1 then (bd (mX10_sumOneWay h_s_f h_pad_f h_length 1) (fun z_8 => some (z_8, z_3))) else (bd (mX10_sumOneWay h_s_f h_pad_f h_length 0) (fun z_7 => some (z_7, z_3)))))) FU 0 0 0)) else (some ((-2), h_parts_f)))))
set_option maxHeartbeats 8000000 in
set_option maxRecDepth 100000 in
theorem kX10_sums (l : Launch) (D : va_G) (cI cC cT : ClassId) (h h_s h_aside h_past h_snapshot h_pad h_steps h_summed h_plus h_parts : Nat) (h_s_f : Nat → Int32) (h_aside_f : Nat → Int32) (h_past_f : Nat → Int32) (h_pasts : Int32) (h_snapshot_f : Nat → Int32) (h_isKept : Int32) (h_pad_f : Nat → Int32) (h_length : Int32) (h_steps_f : Nat → Int32) (h_many : Int32) (h_value : Int32) (h_summed_f : Nat → Int32) (h_plus_f : Nat → Int32) (h_parts_f : Nat → Int32) (p1 : Int32) (sz : Nat) (z : Int32 × (Nat → Int32)) (h0 : mX10_sums h_s_f h_pad_f h_length h_parts_f p1 = some z) : Met l yX10_sums wsX10_sums ({ frames := 4, cells := 0, slots := 0, locals := 91 } : Room) (va_Pc [.ref h, .int p1] (wP D cI cC cT [(h, .inr (7, [.ref h_s, .ref h_aside, .ref h_past, .int h_pasts, .ref h_snapshot, .int h_isKept, .ref h_pad, .int h_length, .ref h_steps, .int h_many, .int h_value, .ref h_summed, .ref h_plus, .ref h_parts])), (h_s, .inl (cI, 65, .inl h_s_f)), (h_aside, .inl (cI, 65, .inl h_aside_f)), (h_past, .inl (cI, 260, .inl h_past_f)), (h_snapshot, .inl (cI, 65, .inl h_snapshot_f)), (h_pad, .inl (cI, 80, .inl h_pad_f)), (h_steps, .inl (cI, 320, .inl h_steps_f)), (h_summed, .inl (cI, 81, .inl h_summed_f)), (h_plus, .inl (cI, 81, .inl h_plus_f)), (h_parts, .inl (cI, 392, .inl h_parts_f))] sz)) (wQ D (some (.int z.1)) (va_A [(h, .inr (7, [.ref h_s, .ref h_aside, .ref h_past, .int h_pasts, .ref h_snapshot, .int h_isKept, .ref h_pad, .int h_length, .ref h_steps, .int h_many, .int h_value, .ref h_summed, .ref h_plus, .ref h_parts])), (h_s, .inl (cI, 65, .inl h_s_f)), (h_aside, .inl (cI, 65, .inl h_aside_f)), (h_past, .inl (cI, 260, .inl h_past_f)), (h_snapshot, .inl (cI, 65, .inl h_snapshot_f)), (h_pad, .inl (cI, 80, .inl h_pad_f)), (h_steps, .inl (cI, 320, .inl h_steps_f)), (h_summed, .inl (cI, 81, .inl h_summed_f)), (h_plus, .inl (cI, 81, .inl h_plus_f)), (h_parts, .inl (cI, 392, .inl h_parts_f))] sz) (fun (u : Unit) => [(h, .inr (7, [.ref h_s, .ref h_aside, .ref h_past, .int h_pasts, .ref h_snapshot, .int h_isKept, .ref h_pad, .int h_length, .ref h_steps, .int h_many, .int h_value, .ref h_summed, .ref h_plus, .ref h_parts])), (h_s, .inl (cI, 65, .inl h_s_f)), (h_aside, .inl (cI, 65, .inl h_aside_f)), (h_past, .inl (cI, 260, .inl h_past_f)), (h_snapshot, .inl (cI, 65, .inl h_snapshot_f)), (h_pad, .inl (cI, 80, .inl h_pad_f)), (h_steps, .inl (cI, 320, .inl h_steps_f)), (h_summed, .inl (cI, 81, .inl h_summed_f)), (h_plus, .inl (cI, 81, .inl h_plus_f)), (h_parts, .inl (cI, 392, .inl z.2))])) 0 0 (va_A [(h, .inr (7, [.ref h_s, .ref h_aside, .ref h_past, .int h_pasts, .ref h_snapshot, .int h_isKept, .ref h_pad, .int h_length, .ref h_steps, .int h_many, .int h_value, .ref h_summed, .ref h_plus, .ref h_parts])), (h_s, .inl (cI, 65, .inl h_s_f)), (h_aside, .inl (cI, 65, .inl h_aside_f)), (h_past, .inl (cI, 260, .inl h_past_f)), (h_snapshot, .inl (cI, 65, .inl h_snapshot_f)), (h_pad, .inl (cI, 80, .inl h_pad_f)), (h_steps, .inl (cI, 320, .inl h_steps_f)), (h_summed, .inl (cI, 81, .inl h_summed_f)), (h_plus, .inl (cI, 81, .inl h_plus_f)), (h_parts, .inl (cI, 392, .inl h_parts_f))] sz) := by
  refine Met.ofW (cc := cX10_sums) (maxL := 5) (ret := (some .int)) (by decide) rfl ?_
  intro p e s m args below meth c s₁ B hml hv
  obtain ⟨rfl, hsz, hP, hE, hD0⟩ := hv
  have hx := B.exec
  have hb := B.bytes
  have hr := B.returns
  have hts := atoms_spec (ws := wsX10_sums) B.pre
  have hown : s.vm.findClass RX10 = some m.cls := findClass_of_methodNamed B.named
  have hlocks := B.notSynchronized
  have hK := hE.1
  have hcf : CallFix p m c cX10_sums 5 s ([.ref h, .int p1] : List Value).toArray wsX10_sums RX10 := ⟨hx, hb, hml, hown, hts⟩
  subst hsz
  have hD := hD0.self (sz := s.heap.size)
  generalize hAe : va_A [(h, .inr (7, [.ref h_s, .ref h_aside, .ref h_past, .int h_pasts, .ref h_snapshot, .int h_isKept, .ref h_pad, .int h_length, .ref h_steps, .int h_many, .int h_value, .ref h_summed, .ref h_plus, .ref h_parts])), (h_s, .inl (cI, 65, .inl h_s_f)), (h_aside, .inl (cI, 65, .inl h_aside_f)), (h_past, .inl (cI, 260, .inl h_past_f)), (h_snapshot, .inl (cI, 65, .inl h_snapshot_f)), (h_pad, .inl (cI, 80, .inl h_pad_f)), (h_steps, .inl (cI, 320, .inl h_steps_f)), (h_summed, .inl (cI, 81, .inl h_summed_f)), (h_plus, .inl (cI, 81, .inl h_plus_f)), (h_parts, .inl (cI, 392, .inl h_parts_f))] s.heap.size = A at hD ⊢
  have hA : ∀ q : Nat, s.heap.size ≤ q → A q := fun q h => by rw [← hAe]; exact Or.inr h
  have hS : va_S A s.heap s.heap [] := va_S.rf
  have hP : va_P D vwCl [(h, .inr (7, [.ref h_s, .ref h_aside, .ref h_past, .int h_pasts, .ref h_snapshot, .int h_isKept, .ref h_pad, .int h_length, .ref h_steps, .int h_many, .int h_value, .ref h_summed, .ref h_plus, .ref h_parts])), (h_s, .inl (cI, 65, .inl h_s_f)), (h_aside, .inl (cI, 65, .inl h_aside_f)), (h_past, .inl (cI, 260, .inl h_past_f)), (h_snapshot, .inl (cI, 65, .inl h_snapshot_f)), (h_pad, .inl (cI, 80, .inl h_pad_f)), (h_steps, .inl (cI, 320, .inl h_steps_f)), (h_summed, .inl (cI, 81, .inl h_summed_f)), (h_plus, .inl (cI, 81, .inl h_plus_f)), (h_parts, .inl (cI, 392, .inl h_parts_f))] s.heap := hP
  have hf_7 := hts (.fieldLink RX10 7 "CrookedSumsModel" "s" "[I") (by decide +kernel)
  have hi_X10 := (show ∀ w ∈ u_ws RX10 TX10 14, w ∈ wsX10_sums from by decide +kernel)
  have hl := lv_entry ([.ref h, .int p1]) (n := 5) (Nat.le_of_ble_eq_true rfl)
  rw [lg_entry_eq]
  generalize (lg_sl ([.ref h, .int p1]) ++ List.replicate (5 - (lg_sl ([.ref h, .int p1])).length) Slot.unset).toArray = ls at hl ⊢
  have hl : lv_has ls 5 [(0, .ref h), (1, .int p1)] := hl
  unfold mX10_sums at h0
  refine lv_iload_n hx hb dX10_sums_0 rfl (lv_at hl 1 rfl) ?_
  refine lv_iconst (v := 0) hx hb dX10_sums_1 (by decide) ?_
  refine lv_iconst (v := 3) hx hb dX10_sums_2 (by decide) ?_
  obtain ⟨z_1, hz, h0⟩ := bd_ok h0
  refine ro_S (As := [.int p1, .int 0, .int 3]) (rest := []) (wc := []) hcf (kX10_in l D cI cC cT p1 0 3 z_1 hz) (va_cwS 3 hts gX10_sums_X10_in rfl rfl rfl (by decide +kernel) ⟨Nat.le_of_ble_eq_true rfl, Nat.le_of_ble_eq_true rfl⟩) hE (hP.sub [] rfl) rfl hl.1 rfl (Nat.le_of_ble_eq_true rfl) dX10_sums_3 ⟨Nat.le_of_ble_eq_true rfl, Nat.le_of_ble_eq_true rfl⟩ ?_
  refine W.eq (g2 := F0 m 6 ls [.int z_1]) rfl ?_
  refine lv_if_ne (tgt := 11) hx hb dX10_sums_6 (by decide) (fun c9 => ?_) (fun c9 => ?_)
  · have h0 := it_f c9 h0
    refine lv_aload_n hx hb dX10_sums_11 rfl (lv_at hl 0 rfl) ?_
    obtain ⟨z_2, hz, h0⟩ := bd_ok h0
    refine ro_V (As := []) (rest := []) (wc := [(h, .inr (7, [.ref h_s, .ref h_aside, .ref h_past, .int h_pasts, .ref h_snapshot, .int h_isKept, .ref h_pad, .int h_length, .ref h_steps, .int h_many, .int h_value, .ref h_summed, .ref h_plus, .ref h_parts])), (h_s, .inl (cI, 65, .inl h_s_f)), (h_aside, .inl (cI, 65, .inl h_aside_f)), (h_past, .inl (cI, 260, .inl h_past_f)), (h_snapshot, .inl (cI, 65, .inl h_snapshot_f)), (h_pad, .inl (cI, 80, .inl h_pad_f)), (h_steps, .inl (cI, 320, .inl h_steps_f)), (h_summed, .inl (cI, 81, .inl h_summed_f)), (h_plus, .inl (cI, 81, .inl h_plus_f)), (h_parts, .inl (cI, 392, .inl h_parts_f))]) hcf (kX10_rowFault l D cI cC cT h h_s h_aside h_past h_snapshot h_pad h_steps h_summed h_plus h_parts h_s_f h_aside_f h_past_f h_pasts h_snapshot_f h_isKept h_pad_f h_length h_steps_f h_many h_value h_summed_f h_plus_f h_parts_f z_2 hz) (cwV 0 hts gX10_sums_X10_rowFault rfl rfl rfl (by decide +kernel) ⟨Nat.le_of_ble_eq_true rfl, Nat.le_of_ble_eq_true rfl⟩) hE (hP.sub [0, 1, 2, 3, 4, 5, 6, 7, 8, 9] rfl) (va_recv hK hP (ci := 7) (q0 := 0) rfl rfl) rfl hl.1 rfl (Nat.le_of_ble_eq_true rfl) dX10_sums_12 ⟨Nat.le_of_ble_eq_true rfl, Nat.le_of_ble_eq_true rfl⟩ ?_
    refine W.eq (g2 := F0 m 15 ls [.int z_2]) rfl ?_
    refine lv_iconst (v := (-1)) hx hb dX10_sums_15 (by decide) ?_
    refine lv_icmp_eq (tgt := 22) hx hb dX10_sums_16 (by decide) (fun c9 => ?_) (fun c9 => ?_)
    · have h0 := it_t c9 h0
      refine lv_aload_n hx hb dX10_sums_22 rfl (lv_at hl 0 rfl) ?_
      obtain ⟨z_3, hz, h0⟩ := bd_ok h0
      refine wr_V (As := []) (rest := []) (wc := [(h, .inr (7, [.ref h_s, .ref h_aside, .ref h_past, .int h_pasts, .ref h_snapshot, .int h_isKept, .ref h_pad, .int h_length, .ref h_steps, .int h_many, .int h_value, .ref h_summed, .ref h_plus, .ref h_parts])), (h_s, .inl (cI, 65, .inl h_s_f)), (h_aside, .inl (cI, 65, .inl h_aside_f)), (h_past, .inl (cI, 260, .inl h_past_f)), (h_snapshot, .inl (cI, 65, .inl h_snapshot_f)), (h_pad, .inl (cI, 80, .inl h_pad_f)), (h_steps, .inl (cI, 320, .inl h_steps_f)), (h_summed, .inl (cI, 81, .inl h_summed_f)), (h_plus, .inl (cI, 81, .inl h_plus_f)), (h_parts, .inl (cI, 392, .inl h_parts_f))]) (wr := []) hcf (kX10_laysParts l D cI cC cT h h_s h_aside h_past h_snapshot h_pad h_steps h_summed h_plus h_parts h_s_f h_aside_f h_past_f h_pasts h_snapshot_f h_isKept h_pad_f h_length h_steps_f h_many h_value h_summed_f h_plus_f h_parts_f _ z_3 hz) (cwV 0 hts gX10_sums_X10_laysParts rfl rfl rfl (by decide +kernel) ⟨Nat.le_of_ble_eq_true rfl, Nat.le_of_ble_eq_true rfl⟩) hE hP hD hS hA [0, 1, 2, 3, 4, 5, 6, 7, 8, 9] [] (hP.sub [0, 1, 2, 3, 4, 5, 6, 7, 8, 9] rfl) (hD.sub [0, 1, 2, 3, 4, 5, 6, 7, 8, 9] (by decide) rfl) (va_recv hK hP (ci := 7) (q0 := 0) rfl rfl) rfl rfl (by decide) (by decide) rfl hl.1 rfl (Nat.le_of_ble_eq_true rfl) dX10_sums_23 ⟨Nat.le_of_ble_eq_true rfl, Nat.le_of_ble_eq_true rfl⟩ (fun u H locs hP hD hS => ?_)
      have hP : va_P D vwCl [(h, .inr (7, [.ref h_s, .ref h_aside, .ref h_past, .int h_pasts, .ref h_snapshot, .int h_isKept, .ref h_pad, .int h_length, .ref h_steps, .int h_many, .int h_value, .ref h_summed, .ref h_plus, .ref h_parts])), (h_s, .inl (cI, 65, .inl h_s_f)), (h_aside, .inl (cI, 65, .inl h_aside_f)), (h_past, .inl (cI, 260, .inl h_past_f)), (h_snapshot, .inl (cI, 65, .inl h_snapshot_f)), (h_pad, .inl (cI, 80, .inl h_pad_f)), (h_steps, .inl (cI, 320, .inl h_steps_f)), (h_summed, .inl (cI, 81, .inl h_summed_f)), (h_plus, .inl (cI, 81, .inl h_plus_f)), (h_parts, .inl (cI, 392, .inl z_3))] H := hP
      have hD : va_D A [(h, .inr (7, [.ref h_s, .ref h_aside, .ref h_past, .int h_pasts, .ref h_snapshot, .int h_isKept, .ref h_pad, .int h_length, .ref h_steps, .int h_many, .int h_value, .ref h_summed, .ref h_plus, .ref h_parts])), (h_s, .inl (cI, 65, .inl h_s_f)), (h_aside, .inl (cI, 65, .inl h_aside_f)), (h_past, .inl (cI, 260, .inl h_past_f)), (h_snapshot, .inl (cI, 65, .inl h_snapshot_f)), (h_pad, .inl (cI, 80, .inl h_pad_f)), (h_steps, .inl (cI, 320, .inl h_steps_f)), (h_summed, .inl (cI, 81, .inl h_summed_f)), (h_plus, .inl (cI, 81, .inl h_plus_f)), (h_parts, .inl (cI, 392, .inl z_3))] := hD
      refine W.eq (g2 := F0 m 26 ls []) rfl ?_
      refine lv_iconst (v := 0) hx hb dX10_sums_26 (by decide) ?_
      refine lv_istore_n (lv' := [(2, .int 0), (0, .ref h), (1, .int p1)]) hx hb dX10_sums_27 rfl hl (by decide) rfl (fun ls hl => ?_)
      refine lv_iconst (v := 0) hx hb dX10_sums_28 (by decide) ?_
      refine lv_istore_n (lv' := [(3, .int 0), (2, .int 0), (0, .ref h), (1, .int p1)]) hx hb dX10_sums_29 rfl hl (by decide) rfl (fun ls hl => ?_)
      refine lv_iconst (v := 0) hx hb dX10_sums_30 (by decide) ?_
      refine lv_istore (lv' := [(4, .int 0), (3, .int 0), (2, .int 0), (0, .ref h), (1, .int p1)]) hx hb dX10_sums_31 hl (by decide) rfl (fun ls hl => ?_)
      have E_33_91_8 : ∀ (x4_4 : Int32) (x2_5 : Int32) (x3_6 : Int32) (H : Heap) (locs : List Loc) (ls : Array Slot), (if p1 = 0 then (some (x2_5, z_3)) else (if p1 = 3 then (some (x3_6, z_3)) else (if p1 = 1 then (bd (mX10_sumOneWay h_s_f h_pad_f h_length 1) (fun z_8 => some (z_8, z_3))) else (bd (mX10_sumOneWay h_s_f h_pad_f h_length 0) (fun z_7 => some (z_7, z_3)))))) = some z → va_P D vwCl [(h, .inr (7, [.ref h_s, .ref h_aside, .ref h_past, .int h_pasts, .ref h_snapshot, .int h_isKept, .ref h_pad, .int h_length, .ref h_steps, .int h_many, .int h_value, .ref h_summed, .ref h_plus, .ref h_parts])), (h_s, .inl (cI, 65, .inl h_s_f)), (h_aside, .inl (cI, 65, .inl h_aside_f)), (h_past, .inl (cI, 260, .inl h_past_f)), (h_snapshot, .inl (cI, 65, .inl h_snapshot_f)), (h_pad, .inl (cI, 80, .inl h_pad_f)), (h_steps, .inl (cI, 320, .inl h_steps_f)), (h_summed, .inl (cI, 81, .inl h_summed_f)), (h_plus, .inl (cI, 81, .inl h_plus_f)), (h_parts, .inl (cI, 392, .inl z_3))] H → va_D A [(h, .inr (7, [.ref h_s, .ref h_aside, .ref h_past, .int h_pasts, .ref h_snapshot, .int h_isKept, .ref h_pad, .int h_length, .ref h_steps, .int h_many, .int h_value, .ref h_summed, .ref h_plus, .ref h_parts])), (h_s, .inl (cI, 65, .inl h_s_f)), (h_aside, .inl (cI, 65, .inl h_aside_f)), (h_past, .inl (cI, 260, .inl h_past_f)), (h_snapshot, .inl (cI, 65, .inl h_snapshot_f)), (h_pad, .inl (cI, 80, .inl h_pad_f)), (h_steps, .inl (cI, 320, .inl h_steps_f)), (h_summed, .inl (cI, 81, .inl h_summed_f)), (h_plus, .inl (cI, 81, .inl h_plus_f)), (h_parts, .inl (cI, 392, .inl z_3))] → va_S A s.heap H locs → lv_has ls 5 [(4, .int x4_4), (3, .int x3_6), (2, .int x2_5), (0, .ref h), (1, .int p1)] → W p l e (headSpec wsX10_sums ({ frames := 4, cells := 0, slots := 0, locals := 91 } : Room)).room s m (([.ref h, .int p1] : List Value).toArray) below meth c H locs 0 0 (MQ below (wQ D (some (.int z.1)) A (fun (u : Unit) => [(h, .inr (7, [.ref h_s, .ref h_aside, .ref h_past, .int h_pasts, .ref h_snapshot, .int h_isKept, .ref h_pad, .int h_length, .ref h_steps, .int h_many, .int h_value, .ref h_summed, .ref h_plus, .ref h_parts])), (h_s, .inl (cI, 65, .inl h_s_f)), (h_aside, .inl (cI, 65, .inl h_aside_f)), (h_past, .inl (cI, 260, .inl h_past_f)), (h_snapshot, .inl (cI, 65, .inl h_snapshot_f)), (h_pad, .inl (cI, 80, .inl h_pad_f)), (h_steps, .inl (cI, 320, .inl h_steps_f)), (h_summed, .inl (cI, 81, .inl h_summed_f)), (h_plus, .inl (cI, 81, .inl h_plus_f)), (h_parts, .inl (cI, 392, .inl z.2))])) (([.ref h, .int p1] : List Value).toArray) s 0 0 A) (F0 m 91 ls []) := by
        intro x4_4 x2_5 x3_6 H locs ls h0 hP hD hS hl
        refine lv_iload_n hx hb dX10_sums_91 rfl (lv_at hl 4 rfl) ?_
        refine lv_if_ne (tgt := 99) hx hb dX10_sums_92 (by decide) (fun c9 => ?_) (fun c9 => ?_)
        · have h0 := it_f c9 h0
          refine lv_iload_n hx hb dX10_sums_99 rfl (lv_at hl 4 rfl) ?_
          refine lv_iconst (v := 3) hx hb dX10_sums_100 (by decide) ?_
          refine lv_icmp_ne (tgt := 108) hx hb dX10_sums_101 (by decide) (fun c9 => ?_) (fun c9 => ?_)
          · have h0 := it_f c9 h0
            refine lv_aload_n hx hb dX10_sums_108 rfl (lv_at hl 3 rfl) ?_
            refine lv_iload_n hx hb dX10_sums_109 rfl (lv_at hl 4 rfl) ?_
            refine lv_iconst (v := 1) hx hb dX10_sums_110 (by decide) ?_
            refine lv_icmp_ne (tgt := 118) hx hb dX10_sums_111 (by decide) (fun c9 => ?_) (fun c9 => ?_)
            · have h0 := it_f c9 h0
              refine lv_iconst (v := 0) hx hb dX10_sums_118 (by decide) ?_
              obtain ⟨z_7, hz, h0⟩ := bd_ok h0
              refine ro_V (As := [.int 0]) (rest := []) (wc := [(h, .inr (7, [.ref h_s, .ref h_aside, .ref h_past, .int h_pasts, .ref h_snapshot, .int h_isKept, .ref h_pad, .int h_length, .ref h_steps, .int h_many, .int h_value, .ref h_summed, .ref h_plus, .ref h_parts])), (h_s, .inl (cI, 65, .inl h_s_f)), (h_aside, .inl (cI, 65, .inl h_aside_f)), (h_past, .inl (cI, 260, .inl h_past_f)), (h_snapshot, .inl (cI, 65, .inl h_snapshot_f)), (h_pad, .inl (cI, 80, .inl h_pad_f)), (h_steps, .inl (cI, 320, .inl h_steps_f)), (h_summed, .inl (cI, 81, .inl h_summed_f)), (h_plus, .inl (cI, 81, .inl h_plus_f)), (h_parts, .inl (cI, 392, .inl z_3))]) hcf (kX10_sumOneWay l D cI cC cT h h_s h_aside h_past h_snapshot h_pad h_steps h_summed h_plus h_parts h_s_f h_aside_f h_past_f h_pasts h_snapshot_f h_isKept h_pad_f h_length h_steps_f h_many h_value h_summed_f h_plus_f z_3 0 z_7 hz) (cwV 1 hts gX10_sums_X10_sumOneWay rfl rfl rfl (by decide +kernel) ⟨Nat.le_of_ble_eq_true rfl, Nat.le_of_ble_eq_true rfl⟩) hE (hP.sub [0, 1, 2, 3, 4, 5, 6, 7, 8, 9] rfl) (va_recv hK hP (ci := 7) (q0 := 0) rfl rfl) rfl hl.1 rfl (Nat.le_of_ble_eq_true rfl) dX10_sums_119 ⟨Nat.le_of_ble_eq_true rfl, Nat.le_of_ble_eq_true rfl⟩ ?_
              refine W.eq (g2 := F0 m 122 ls [.int z_7]) rfl ?_
              have e0 := Option.some.inj h0
              subst e0
              exact W.iret (v := z_7) hx hb hr (fun t ht hW => wr_end () ht hP hD hS) hS.2.2 dX10_sums_122
            · have h0 := it_t c9 h0
              refine lv_iconst (v := 1) hx hb dX10_sums_114 (by decide) ?_
              refine lv_goto (tgt := 119) hx hb dX10_sums_115 (by decide) ?_
              obtain ⟨z_8, hz, h0⟩ := bd_ok h0
              refine ro_V (As := [.int 1]) (rest := []) (wc := [(h, .inr (7, [.ref h_s, .ref h_aside, .ref h_past, .int h_pasts, .ref h_snapshot, .int h_isKept, .ref h_pad, .int h_length, .ref h_steps, .int h_many, .int h_value, .ref h_summed, .ref h_plus, .ref h_parts])), (h_s, .inl (cI, 65, .inl h_s_f)), (h_aside, .inl (cI, 65, .inl h_aside_f)), (h_past, .inl (cI, 260, .inl h_past_f)), (h_snapshot, .inl (cI, 65, .inl h_snapshot_f)), (h_pad, .inl (cI, 80, .inl h_pad_f)), (h_steps, .inl (cI, 320, .inl h_steps_f)), (h_summed, .inl (cI, 81, .inl h_summed_f)), (h_plus, .inl (cI, 81, .inl h_plus_f)), (h_parts, .inl (cI, 392, .inl z_3))]) hcf (kX10_sumOneWay l D cI cC cT h h_s h_aside h_past h_snapshot h_pad h_steps h_summed h_plus h_parts h_s_f h_aside_f h_past_f h_pasts h_snapshot_f h_isKept h_pad_f h_length h_steps_f h_many h_value h_summed_f h_plus_f z_3 1 z_8 hz) (cwV 1 hts gX10_sums_X10_sumOneWay rfl rfl rfl (by decide +kernel) ⟨Nat.le_of_ble_eq_true rfl, Nat.le_of_ble_eq_true rfl⟩) hE (hP.sub [0, 1, 2, 3, 4, 5, 6, 7, 8, 9] rfl) (va_recv hK hP (ci := 7) (q0 := 0) rfl rfl) rfl hl.1 rfl (Nat.le_of_ble_eq_true rfl) dX10_sums_119 ⟨Nat.le_of_ble_eq_true rfl, Nat.le_of_ble_eq_true rfl⟩ ?_
              refine W.eq (g2 := F0 m 122 ls [.int z_8]) rfl ?_
              have e0 := Option.some.inj h0
              subst e0
              exact W.iret (v := z_8) hx hb hr (fun t ht hW => wr_end () ht hP hD hS) hS.2.2 dX10_sums_122
          · have h0 := it_t c9 h0
            refine lv_iload_n hx hb dX10_sums_104 rfl (lv_at hl 1 rfl) ?_
            refine lv_goto (tgt := 122) hx hb dX10_sums_105 (by decide) ?_
            have e0 := Option.some.inj h0
            subst e0
            exact W.iret (v := x3_6) hx hb hr (fun t ht hW => wr_end () ht hP hD hS) hS.2.2 dX10_sums_122
        · have h0 := it_t c9 h0
          refine lv_iload_n hx hb dX10_sums_95 rfl (lv_at hl 2 rfl) ?_
          refine lv_goto (tgt := 122) hx hb dX10_sums_96 (by decide) ?_
          have e0 := Option.some.inj h0
          subst e0
          exact W.iret (v := x2_5) hx hb hr (fun t ht hW => wr_end () ht hP hD hS) hS.2.2 dX10_sums_122
      have L_33_17 : ∀ (F33 : Nat) (x4_10 : Int32) (x2_11 : Int32) (x3_12 : Int32) (H : Heap) (locs : List Loc) (ls : Array Slot), mX10_sums_L33 h_s_f h_length z_3 (fun (x4_4 : Int32) (x2_5 : Int32) (x3_6 : Int32) => if p1 = 0 then (some (x2_5, z_3)) else (if p1 = 3 then (some (x3_6, z_3)) else (if p1 = 1 then (bd (mX10_sumOneWay h_s_f h_pad_f h_length 1) (fun z_8 => some (z_8, z_3))) else (bd (mX10_sumOneWay h_s_f h_pad_f h_length 0) (fun z_7 => some (z_7, z_3)))))) F33 x4_10 x2_11 x3_12 = some z → va_P D vwCl [(h, .inr (7, [.ref h_s, .ref h_aside, .ref h_past, .int h_pasts, .ref h_snapshot, .int h_isKept, .ref h_pad, .int h_length, .ref h_steps, .int h_many, .int h_value, .ref h_summed, .ref h_plus, .ref h_parts])), (h_s, .inl (cI, 65, .inl h_s_f)), (h_aside, .inl (cI, 65, .inl h_aside_f)), (h_past, .inl (cI, 260, .inl h_past_f)), (h_snapshot, .inl (cI, 65, .inl h_snapshot_f)), (h_pad, .inl (cI, 80, .inl h_pad_f)), (h_steps, .inl (cI, 320, .inl h_steps_f)), (h_summed, .inl (cI, 81, .inl h_summed_f)), (h_plus, .inl (cI, 81, .inl h_plus_f)), (h_parts, .inl (cI, 392, .inl z_3))] H → va_D A [(h, .inr (7, [.ref h_s, .ref h_aside, .ref h_past, .int h_pasts, .ref h_snapshot, .int h_isKept, .ref h_pad, .int h_length, .ref h_steps, .int h_many, .int h_value, .ref h_summed, .ref h_plus, .ref h_parts])), (h_s, .inl (cI, 65, .inl h_s_f)), (h_aside, .inl (cI, 65, .inl h_aside_f)), (h_past, .inl (cI, 260, .inl h_past_f)), (h_snapshot, .inl (cI, 65, .inl h_snapshot_f)), (h_pad, .inl (cI, 80, .inl h_pad_f)), (h_steps, .inl (cI, 320, .inl h_steps_f)), (h_summed, .inl (cI, 81, .inl h_summed_f)), (h_plus, .inl (cI, 81, .inl h_plus_f)), (h_parts, .inl (cI, 392, .inl z_3))] → va_S A s.heap H locs → lv_has ls 5 [(4, .int x4_10), (3, .int x3_12), (2, .int x2_11), (0, .ref h), (1, .int p1)] → W p l e (headSpec wsX10_sums ({ frames := 4, cells := 0, slots := 0, locals := 91 } : Room)).room s m (([.ref h, .int p1] : List Value).toArray) below meth c H locs 0 0 (MQ below (wQ D (some (.int z.1)) A (fun (u : Unit) => [(h, .inr (7, [.ref h_s, .ref h_aside, .ref h_past, .int h_pasts, .ref h_snapshot, .int h_isKept, .ref h_pad, .int h_length, .ref h_steps, .int h_many, .int h_value, .ref h_summed, .ref h_plus, .ref h_parts])), (h_s, .inl (cI, 65, .inl h_s_f)), (h_aside, .inl (cI, 65, .inl h_aside_f)), (h_past, .inl (cI, 260, .inl h_past_f)), (h_snapshot, .inl (cI, 65, .inl h_snapshot_f)), (h_pad, .inl (cI, 80, .inl h_pad_f)), (h_steps, .inl (cI, 320, .inl h_steps_f)), (h_summed, .inl (cI, 81, .inl h_summed_f)), (h_plus, .inl (cI, 81, .inl h_plus_f)), (h_parts, .inl (cI, 392, .inl z.2))])) (([.ref h, .int p1] : List Value).toArray) s 0 0 A) (F0 m 33 ls []) := by
        intro F33
        induction F33 with
        | zero => intro x4_10 x2_11 x3_12 H locs ls h0 hP hD hS hl; cases h0
        | succ F33 ih33 =>
          intro x4_10 x2_11 x3_12 H locs ls h0 hP hD hS hl
          rw [mX10_sums_L33] at h0
          refine lv_iload hx hb dX10_sums_33 (lv_at hl 0 rfl) ?_
          refine lv_aload_n hx hb dX10_sums_35 rfl (lv_at hl 3 rfl) ?_
          refine va_get (D := D) (ci := 7) (v := .ref h_s) (C := RX10) (T := TX10) (N := 14) hx hb hts hi_X10 hown hK hP 0 rfl rfl 0 (by decide) hf_7 (fun _ h9 => h9) rfl dX10_sums_36 ?_
          refine lv_iconst (v := 0) hx hb dX10_sums_39 (by decide) ?_
          refine va_iald hx hb hK hP 1 0 rfl rfl (by unfold vp_in; decide) dX10_sums_40 ?_
          refine lv_icmp_ge (tgt := 91) hx hb dX10_sums_41 (by decide) (fun c9 => ?_) (fun c9 => ?_)
          · have h0 := it_t c9 h0
            exact E_33_91_8 x4_10 x2_11 x3_12 _ _ ls h0 hP hD hS hl
          · have h0 := it_f c9 h0
            refine lv_iload_n hx hb dX10_sums_44 rfl (lv_at hl 2 rfl) ?_
            refine lv_aload_n hx hb dX10_sums_45 rfl (lv_at hl 3 rfl) ?_
            refine lv_iload hx hb dX10_sums_46 (lv_at hl 0 rfl) ?_
            obtain ⟨z_13, hz, h0⟩ := bd_ok h0
            refine ro_V (As := [.int x4_10]) (rest := [.int x2_11]) (wc := [(h, .inr (7, [.ref h_s, .ref h_aside, .ref h_past, .int h_pasts, .ref h_snapshot, .int h_isKept, .ref h_pad, .int h_length, .ref h_steps, .int h_many, .int h_value, .ref h_summed, .ref h_plus, .ref h_parts])), (h_s, .inl (cI, 65, .inl h_s_f)), (h_aside, .inl (cI, 65, .inl h_aside_f)), (h_past, .inl (cI, 260, .inl h_past_f)), (h_snapshot, .inl (cI, 65, .inl h_snapshot_f)), (h_pad, .inl (cI, 80, .inl h_pad_f)), (h_steps, .inl (cI, 320, .inl h_steps_f)), (h_summed, .inl (cI, 81, .inl h_summed_f)), (h_plus, .inl (cI, 81, .inl h_plus_f)), (h_parts, .inl (cI, 392, .inl z_3))]) hcf (kX10_waysTo l D cI cC cT h h_s h_aside h_past h_snapshot h_pad h_steps h_summed h_plus h_parts h_s_f h_aside_f h_past_f h_pasts h_snapshot_f h_isKept h_pad_f h_length h_steps_f h_many h_value h_summed_f h_plus_f z_3 x4_10 z_13 hz) (cwV 1 hts gX10_sums_X10_waysTo rfl rfl rfl (by decide +kernel) ⟨Nat.le_of_ble_eq_true rfl, Nat.le_of_ble_eq_true rfl⟩) hE (hP.sub [0, 1, 2, 3, 4, 5, 6, 7, 8, 9] rfl) (va_recv hK hP (ci := 7) (q0 := 0) rfl rfl) rfl hl.1 rfl (Nat.le_of_ble_eq_true rfl) dX10_sums_48 ⟨Nat.le_of_ble_eq_true rfl, Nat.le_of_ble_eq_true rfl⟩ ?_
            refine W.eq (g2 := F0 m 51 ls [.int z_13, .int x2_11]) rfl ?_
            refine lv_if_le (tgt := 61) hx hb dX10_sums_51 (by decide) (fun c9 => ?_) (fun c9 => ?_)
            · have h0 := it_t c9 h0
              refine lv_iconst (v := 0) hx hb dX10_sums_61 (by decide) ?_
              refine lv_ior hx hb dX10_sums_62 ?_
              refine lv_istore_n (lv' := [(2, .int (x2_11 ||| 0)), (4, .int x4_10), (3, .int x3_12), (0, .ref h), (1, .int p1)]) hx hb dX10_sums_63 rfl hl (by decide) rfl (fun ls hl => ?_)
              refine lv_aload_n hx hb dX10_sums_64 rfl (lv_at hl 3 rfl) ?_
              refine lv_iload hx hb dX10_sums_65 (lv_at hl 1 rfl) ?_
              obtain ⟨z_14, hz, h0⟩ := bd_ok h0
              refine ro_V (As := [.int x4_10]) (rest := []) (wc := [(h, .inr (7, [.ref h_s, .ref h_aside, .ref h_past, .int h_pasts, .ref h_snapshot, .int h_isKept, .ref h_pad, .int h_length, .ref h_steps, .int h_many, .int h_value, .ref h_summed, .ref h_plus, .ref h_parts])), (h_s, .inl (cI, 65, .inl h_s_f)), (h_aside, .inl (cI, 65, .inl h_aside_f)), (h_past, .inl (cI, 260, .inl h_past_f)), (h_snapshot, .inl (cI, 65, .inl h_snapshot_f)), (h_pad, .inl (cI, 80, .inl h_pad_f)), (h_steps, .inl (cI, 320, .inl h_steps_f)), (h_summed, .inl (cI, 81, .inl h_summed_f)), (h_plus, .inl (cI, 81, .inl h_plus_f)), (h_parts, .inl (cI, 392, .inl z_3))]) hcf (kX10_waysTo l D cI cC cT h h_s h_aside h_past h_snapshot h_pad h_steps h_summed h_plus h_parts h_s_f h_aside_f h_past_f h_pasts h_snapshot_f h_isKept h_pad_f h_length h_steps_f h_many h_value h_summed_f h_plus_f z_3 x4_10 z_14 hz) (cwV 1 hts gX10_sums_X10_waysTo rfl rfl rfl (by decide +kernel) ⟨Nat.le_of_ble_eq_true rfl, Nat.le_of_ble_eq_true rfl⟩) hE (hP.sub [0, 1, 2, 3, 4, 5, 6, 7, 8, 9] rfl) (va_recv hK hP (ci := 7) (q0 := 0) rfl rfl) rfl hl.1 rfl (Nat.le_of_ble_eq_true rfl) dX10_sums_67 ⟨Nat.le_of_ble_eq_true rfl, Nat.le_of_ble_eq_true rfl⟩ ?_
              refine W.eq (g2 := F0 m 70 ls [.int z_14]) rfl ?_
              refine lv_aload_n hx hb dX10_sums_70 rfl (lv_at hl 3 rfl) ?_
              refine lv_iload_n hx hb dX10_sums_71 rfl (lv_at hl 2 rfl) ?_
              obtain ⟨z_15, hz, h0⟩ := bd_ok h0
              refine ro_V (As := [.int x3_12]) (rest := [.int z_14]) (wc := [(h, .inr (7, [.ref h_s, .ref h_aside, .ref h_past, .int h_pasts, .ref h_snapshot, .int h_isKept, .ref h_pad, .int h_length, .ref h_steps, .int h_many, .int h_value, .ref h_summed, .ref h_plus, .ref h_parts])), (h_s, .inl (cI, 65, .inl h_s_f)), (h_aside, .inl (cI, 65, .inl h_aside_f)), (h_past, .inl (cI, 260, .inl h_past_f)), (h_snapshot, .inl (cI, 65, .inl h_snapshot_f)), (h_pad, .inl (cI, 80, .inl h_pad_f)), (h_steps, .inl (cI, 320, .inl h_steps_f)), (h_summed, .inl (cI, 81, .inl h_summed_f)), (h_plus, .inl (cI, 81, .inl h_plus_f)), (h_parts, .inl (cI, 392, .inl z_3))]) hcf (kX10_waysTo l D cI cC cT h h_s h_aside h_past h_snapshot h_pad h_steps h_summed h_plus h_parts h_s_f h_aside_f h_past_f h_pasts h_snapshot_f h_isKept h_pad_f h_length h_steps_f h_many h_value h_summed_f h_plus_f z_3 x3_12 z_15 hz) (cwV 1 hts gX10_sums_X10_waysTo rfl rfl rfl (by decide +kernel) ⟨Nat.le_of_ble_eq_true rfl, Nat.le_of_ble_eq_true rfl⟩) hE (hP.sub [0, 1, 2, 3, 4, 5, 6, 7, 8, 9] rfl) (va_recv hK hP (ci := 7) (q0 := 0) rfl rfl) rfl hl.1 rfl (Nat.le_of_ble_eq_true rfl) dX10_sums_72 ⟨Nat.le_of_ble_eq_true rfl, Nat.le_of_ble_eq_true rfl⟩ ?_
              refine W.eq (g2 := F0 m 75 ls [.int z_15, .int z_14]) rfl ?_
              refine lv_icmp_le (tgt := 83) hx hb dX10_sums_75 (by decide) (fun c9 => ?_) (fun c9 => ?_)
              · have h0 := it_t c9 h0
                refine lv_iload_n hx hb dX10_sums_83 rfl (lv_at hl 2 rfl) ?_
                refine lv_istore_n (lv' := [(3, .int x3_12), (2, .int (x2_11 ||| 0)), (4, .int x4_10), (0, .ref h), (1, .int p1)]) hx hb dX10_sums_84 rfl hl (by decide) rfl (fun ls hl => ?_)
                refine lv_iinc (v := (x4_10 + 1)) (lv' := [(4, .int (x4_10 + 1)), (3, .int x3_12), (2, .int (x2_11 ||| 0)), (0, .ref h), (1, .int p1)]) hx hb dX10_sums_85 hl (k := 2) rfl rfl (by decide) rfl (fun ls hl => ?_)
                refine lv_goto (tgt := 33) hx hb dX10_sums_88 (by decide) ?_
                exact ih33 (x4_10 + 1) (x2_11 ||| 0) x3_12 _ _ ls h0 hP hD hS hl
              · have h0 := it_f c9 h0
                refine lv_iload hx hb dX10_sums_78 (lv_at hl 1 rfl) ?_
                refine lv_goto (tgt := 84) hx hb dX10_sums_80 (by decide) ?_
                refine lv_istore_n (lv' := [(3, .int x4_10), (2, .int (x2_11 ||| 0)), (4, .int x4_10), (0, .ref h), (1, .int p1)]) hx hb dX10_sums_84 rfl hl (by decide) rfl (fun ls hl => ?_)
                refine lv_iinc (v := (x4_10 + 1)) (lv' := [(4, .int (x4_10 + 1)), (3, .int x4_10), (2, .int (x2_11 ||| 0)), (0, .ref h), (1, .int p1)]) hx hb dX10_sums_85 hl (k := 2) rfl rfl (by decide) rfl (fun ls hl => ?_)
                refine lv_goto (tgt := 33) hx hb dX10_sums_88 (by decide) ?_
                exact ih33 (x4_10 + 1) (x2_11 ||| 0) x4_10 _ _ ls h0 hP hD hS hl
            · have h0 := it_f c9 h0
              refine lv_iconst (v := 1) hx hb dX10_sums_54 (by decide) ?_
              refine lv_iload hx hb dX10_sums_55 (lv_at hl 0 rfl) ?_
              refine lv_ishl hx hb dX10_sums_57 ?_
              refine lv_goto (tgt := 62) hx hb dX10_sums_58 (by decide) ?_
              refine lv_ior hx hb dX10_sums_62 ?_
              refine lv_istore_n (lv' := [(2, .int (x2_11 ||| ((1 : Int32) <<< (x4_10 &&& 31)))), (4, .int x4_10), (3, .int x3_12), (0, .ref h), (1, .int p1)]) hx hb dX10_sums_63 rfl hl (by decide) rfl (fun ls hl => ?_)
              refine lv_aload_n hx hb dX10_sums_64 rfl (lv_at hl 3 rfl) ?_
              refine lv_iload hx hb dX10_sums_65 (lv_at hl 1 rfl) ?_
              obtain ⟨z_16, hz, h0⟩ := bd_ok h0
              refine ro_V (As := [.int x4_10]) (rest := []) (wc := [(h, .inr (7, [.ref h_s, .ref h_aside, .ref h_past, .int h_pasts, .ref h_snapshot, .int h_isKept, .ref h_pad, .int h_length, .ref h_steps, .int h_many, .int h_value, .ref h_summed, .ref h_plus, .ref h_parts])), (h_s, .inl (cI, 65, .inl h_s_f)), (h_aside, .inl (cI, 65, .inl h_aside_f)), (h_past, .inl (cI, 260, .inl h_past_f)), (h_snapshot, .inl (cI, 65, .inl h_snapshot_f)), (h_pad, .inl (cI, 80, .inl h_pad_f)), (h_steps, .inl (cI, 320, .inl h_steps_f)), (h_summed, .inl (cI, 81, .inl h_summed_f)), (h_plus, .inl (cI, 81, .inl h_plus_f)), (h_parts, .inl (cI, 392, .inl z_3))]) hcf (kX10_waysTo l D cI cC cT h h_s h_aside h_past h_snapshot h_pad h_steps h_summed h_plus h_parts h_s_f h_aside_f h_past_f h_pasts h_snapshot_f h_isKept h_pad_f h_length h_steps_f h_many h_value h_summed_f h_plus_f z_3 x4_10 z_16 hz) (cwV 1 hts gX10_sums_X10_waysTo rfl rfl rfl (by decide +kernel) ⟨Nat.le_of_ble_eq_true rfl, Nat.le_of_ble_eq_true rfl⟩) hE (hP.sub [0, 1, 2, 3, 4, 5, 6, 7, 8, 9] rfl) (va_recv hK hP (ci := 7) (q0 := 0) rfl rfl) rfl hl.1 rfl (Nat.le_of_ble_eq_true rfl) dX10_sums_67 ⟨Nat.le_of_ble_eq_true rfl, Nat.le_of_ble_eq_true rfl⟩ ?_
              refine W.eq (g2 := F0 m 70 ls [.int z_16]) rfl ?_
              refine lv_aload_n hx hb dX10_sums_70 rfl (lv_at hl 3 rfl) ?_
              refine lv_iload_n hx hb dX10_sums_71 rfl (lv_at hl 2 rfl) ?_
              obtain ⟨z_17, hz, h0⟩ := bd_ok h0
              refine ro_V (As := [.int x3_12]) (rest := [.int z_16]) (wc := [(h, .inr (7, [.ref h_s, .ref h_aside, .ref h_past, .int h_pasts, .ref h_snapshot, .int h_isKept, .ref h_pad, .int h_length, .ref h_steps, .int h_many, .int h_value, .ref h_summed, .ref h_plus, .ref h_parts])), (h_s, .inl (cI, 65, .inl h_s_f)), (h_aside, .inl (cI, 65, .inl h_aside_f)), (h_past, .inl (cI, 260, .inl h_past_f)), (h_snapshot, .inl (cI, 65, .inl h_snapshot_f)), (h_pad, .inl (cI, 80, .inl h_pad_f)), (h_steps, .inl (cI, 320, .inl h_steps_f)), (h_summed, .inl (cI, 81, .inl h_summed_f)), (h_plus, .inl (cI, 81, .inl h_plus_f)), (h_parts, .inl (cI, 392, .inl z_3))]) hcf (kX10_waysTo l D cI cC cT h h_s h_aside h_past h_snapshot h_pad h_steps h_summed h_plus h_parts h_s_f h_aside_f h_past_f h_pasts h_snapshot_f h_isKept h_pad_f h_length h_steps_f h_many h_value h_summed_f h_plus_f z_3 x3_12 z_17 hz) (cwV 1 hts gX10_sums_X10_waysTo rfl rfl rfl (by decide +kernel) ⟨Nat.le_of_ble_eq_true rfl, Nat.le_of_ble_eq_true rfl⟩) hE (hP.sub [0, 1, 2, 3, 4, 5, 6, 7, 8, 9] rfl) (va_recv hK hP (ci := 7) (q0 := 0) rfl rfl) rfl hl.1 rfl (Nat.le_of_ble_eq_true rfl) dX10_sums_72 ⟨Nat.le_of_ble_eq_true rfl, Nat.le_of_ble_eq_true rfl⟩ ?_
              refine W.eq (g2 := F0 m 75 ls [.int z_17, .int z_16]) rfl ?_
              refine lv_icmp_le (tgt := 83) hx hb dX10_sums_75 (by decide) (fun c9 => ?_) (fun c9 => ?_)
              · have h0 := it_t c9 h0
                refine lv_iload_n hx hb dX10_sums_83 rfl (lv_at hl 2 rfl) ?_
                refine lv_istore_n (lv' := [(3, .int x3_12), (2, .int (x2_11 ||| ((1 : Int32) <<< (x4_10 &&& 31)))), (4, .int x4_10), (0, .ref h), (1, .int p1)]) hx hb dX10_sums_84 rfl hl (by decide) rfl (fun ls hl => ?_)
                refine lv_iinc (v := (x4_10 + 1)) (lv' := [(4, .int (x4_10 + 1)), (3, .int x3_12), (2, .int (x2_11 ||| ((1 : Int32) <<< (x4_10 &&& 31)))), (0, .ref h), (1, .int p1)]) hx hb dX10_sums_85 hl (k := 2) rfl rfl (by decide) rfl (fun ls hl => ?_)
                refine lv_goto (tgt := 33) hx hb dX10_sums_88 (by decide) ?_
                exact ih33 (x4_10 + 1) (x2_11 ||| ((1 : Int32) <<< (x4_10 &&& 31))) x3_12 _ _ ls h0 hP hD hS hl
              · have h0 := it_f c9 h0
                refine lv_iload hx hb dX10_sums_78 (lv_at hl 1 rfl) ?_
                refine lv_goto (tgt := 84) hx hb dX10_sums_80 (by decide) ?_
                refine lv_istore_n (lv' := [(3, .int x4_10), (2, .int (x2_11 ||| ((1 : Int32) <<< (x4_10 &&& 31)))), (4, .int x4_10), (0, .ref h), (1, .int p1)]) hx hb dX10_sums_84 rfl hl (by decide) rfl (fun ls hl => ?_)
                refine lv_iinc (v := (x4_10 + 1)) (lv' := [(4, .int (x4_10 + 1)), (3, .int x4_10), (2, .int (x2_11 ||| ((1 : Int32) <<< (x4_10 &&& 31)))), (0, .ref h), (1, .int p1)]) hx hb dX10_sums_85 hl (k := 2) rfl rfl (by decide) rfl (fun ls hl => ?_)
                refine lv_goto (tgt := 33) hx hb dX10_sums_88 (by decide) ?_
                exact ih33 (x4_10 + 1) (x2_11 ||| ((1 : Int32) <<< (x4_10 &&& 31))) x4_10 _ _ ls h0 hP hD hS hl
      exact L_33_17 FU 0 0 0 _ _ ls h0 hP hD hS hl
    · have h0 := it_f c9 h0
      refine lv_bipush (v := (-2)) hx hb dX10_sums_19 (by decide) ?_
      have e0 := Option.some.inj h0
      subst e0
      exact W.iret (v := (-2)) hx hb hr (fun t ht hW => wr_end () ht hP hD hS) hS.2.2 dX10_sums_21
  · have h0 := it_t c9 h0
    refine lv_iconst (v := (-1)) hx hb dX10_sums_9 (by decide) ?_
    have e0 := Option.some.inj h0
    subst e0
    exact W.iret (v := (-1)) hx hb hr (fun t ht hW => wr_end () ht hP hD hS) hS.2.2 dX10_sums_10
noncomputable def mX10_ways (h_s_f : Nat → Int32) (h_pad_f : Nat → Int32) (h_length : Int32) (h_parts_f : Nat → Int32) (p1 : Int32) (p2 : Int32) : Option (Int32 × (Nat → Int32)) :=
  bd (mX10_isToken h_s_f p1) (fun z_1 => if z_1 = 0 then (some ((-1), h_parts_f)) else (bd (mX10_in p2 0 1) (fun z_2 => if z_2 = 0 then (some ((-1), h_parts_f)) else (bd (mX10_rowFault h_s_f h_pad_f h_length) (fun z_3 => if z_3 = (-1) then (bd (mX10_laysParts h_s_f h_pad_f h_length h_parts_f) (fun z_4 => bd (mX10_waysTo h_length z_4 p1) (fun z_5 => some (z_5, z_4)))) else (some ((-2), h_parts_f)))))))
set_option maxHeartbeats 8000000 in
set_option maxRecDepth 100000 in
theorem kX10_ways (l : Launch) (D : va_G) (cI cC cT : ClassId) (h h_s h_aside h_past h_snapshot h_pad h_steps h_summed h_plus h_parts : Nat) (h_s_f : Nat → Int32) (h_aside_f : Nat → Int32) (h_past_f : Nat → Int32) (h_pasts : Int32) (h_snapshot_f : Nat → Int32) (h_isKept : Int32) (h_pad_f : Nat → Int32) (h_length : Int32) (h_steps_f : Nat → Int32) (h_many : Int32) (h_value : Int32) (h_summed_f : Nat → Int32) (h_plus_f : Nat → Int32) (h_parts_f : Nat → Int32) (p1 : Int32) (p2 : Int32) (sz : Nat) (z : Int32 × (Nat → Int32)) (h0 : mX10_ways h_s_f h_pad_f h_length h_parts_f p1 p2 = some z) : Met l yX10_ways wsX10_ways ({ frames := 4, cells := 0, slots := 0, locals := 91 } : Room) (va_Pc [.ref h, .int p1, .int p2] (wP D cI cC cT [(h, .inr (7, [.ref h_s, .ref h_aside, .ref h_past, .int h_pasts, .ref h_snapshot, .int h_isKept, .ref h_pad, .int h_length, .ref h_steps, .int h_many, .int h_value, .ref h_summed, .ref h_plus, .ref h_parts])), (h_s, .inl (cI, 65, .inl h_s_f)), (h_aside, .inl (cI, 65, .inl h_aside_f)), (h_past, .inl (cI, 260, .inl h_past_f)), (h_snapshot, .inl (cI, 65, .inl h_snapshot_f)), (h_pad, .inl (cI, 80, .inl h_pad_f)), (h_steps, .inl (cI, 320, .inl h_steps_f)), (h_summed, .inl (cI, 81, .inl h_summed_f)), (h_plus, .inl (cI, 81, .inl h_plus_f)), (h_parts, .inl (cI, 392, .inl h_parts_f))] sz)) (wQ D (some (.int z.1)) (va_A [(h, .inr (7, [.ref h_s, .ref h_aside, .ref h_past, .int h_pasts, .ref h_snapshot, .int h_isKept, .ref h_pad, .int h_length, .ref h_steps, .int h_many, .int h_value, .ref h_summed, .ref h_plus, .ref h_parts])), (h_s, .inl (cI, 65, .inl h_s_f)), (h_aside, .inl (cI, 65, .inl h_aside_f)), (h_past, .inl (cI, 260, .inl h_past_f)), (h_snapshot, .inl (cI, 65, .inl h_snapshot_f)), (h_pad, .inl (cI, 80, .inl h_pad_f)), (h_steps, .inl (cI, 320, .inl h_steps_f)), (h_summed, .inl (cI, 81, .inl h_summed_f)), (h_plus, .inl (cI, 81, .inl h_plus_f)), (h_parts, .inl (cI, 392, .inl h_parts_f))] sz) (fun (u : Unit) => [(h, .inr (7, [.ref h_s, .ref h_aside, .ref h_past, .int h_pasts, .ref h_snapshot, .int h_isKept, .ref h_pad, .int h_length, .ref h_steps, .int h_many, .int h_value, .ref h_summed, .ref h_plus, .ref h_parts])), (h_s, .inl (cI, 65, .inl h_s_f)), (h_aside, .inl (cI, 65, .inl h_aside_f)), (h_past, .inl (cI, 260, .inl h_past_f)), (h_snapshot, .inl (cI, 65, .inl h_snapshot_f)), (h_pad, .inl (cI, 80, .inl h_pad_f)), (h_steps, .inl (cI, 320, .inl h_steps_f)), (h_summed, .inl (cI, 81, .inl h_summed_f)), (h_plus, .inl (cI, 81, .inl h_plus_f)), (h_parts, .inl (cI, 392, .inl z.2))])) 0 0 (va_A [(h, .inr (7, [.ref h_s, .ref h_aside, .ref h_past, .int h_pasts, .ref h_snapshot, .int h_isKept, .ref h_pad, .int h_length, .ref h_steps, .int h_many, .int h_value, .ref h_summed, .ref h_plus, .ref h_parts])), (h_s, .inl (cI, 65, .inl h_s_f)), (h_aside, .inl (cI, 65, .inl h_aside_f)), (h_past, .inl (cI, 260, .inl h_past_f)), (h_snapshot, .inl (cI, 65, .inl h_snapshot_f)), (h_pad, .inl (cI, 80, .inl h_pad_f)), (h_steps, .inl (cI, 320, .inl h_steps_f)), (h_summed, .inl (cI, 81, .inl h_summed_f)), (h_plus, .inl (cI, 81, .inl h_plus_f)), (h_parts, .inl (cI, 392, .inl h_parts_f))] sz) := by
  refine Met.ofW (cc := cX10_ways) (maxL := 3) (ret := (some .int)) (by decide) rfl ?_
  intro p e s m args below meth c s₁ B hml hv
  obtain ⟨rfl, hsz, hP, hE, hD0⟩ := hv
  have hx := B.exec
  have hb := B.bytes
  have hr := B.returns
  have hts := atoms_spec (ws := wsX10_ways) B.pre
  have hown : s.vm.findClass RX10 = some m.cls := findClass_of_methodNamed B.named
  have hlocks := B.notSynchronized
  have hK := hE.1
  have hcf : CallFix p m c cX10_ways 3 s ([.ref h, .int p1, .int p2] : List Value).toArray wsX10_ways RX10 := ⟨hx, hb, hml, hown, hts⟩
  subst hsz
  have hD := hD0.self (sz := s.heap.size)
  generalize hAe : va_A [(h, .inr (7, [.ref h_s, .ref h_aside, .ref h_past, .int h_pasts, .ref h_snapshot, .int h_isKept, .ref h_pad, .int h_length, .ref h_steps, .int h_many, .int h_value, .ref h_summed, .ref h_plus, .ref h_parts])), (h_s, .inl (cI, 65, .inl h_s_f)), (h_aside, .inl (cI, 65, .inl h_aside_f)), (h_past, .inl (cI, 260, .inl h_past_f)), (h_snapshot, .inl (cI, 65, .inl h_snapshot_f)), (h_pad, .inl (cI, 80, .inl h_pad_f)), (h_steps, .inl (cI, 320, .inl h_steps_f)), (h_summed, .inl (cI, 81, .inl h_summed_f)), (h_plus, .inl (cI, 81, .inl h_plus_f)), (h_parts, .inl (cI, 392, .inl h_parts_f))] s.heap.size = A at hD ⊢
  have hA : ∀ q : Nat, s.heap.size ≤ q → A q := fun q h => by rw [← hAe]; exact Or.inr h
  have hS : va_S A s.heap s.heap [] := va_S.rf
  have hP : va_P D vwCl [(h, .inr (7, [.ref h_s, .ref h_aside, .ref h_past, .int h_pasts, .ref h_snapshot, .int h_isKept, .ref h_pad, .int h_length, .ref h_steps, .int h_many, .int h_value, .ref h_summed, .ref h_plus, .ref h_parts])), (h_s, .inl (cI, 65, .inl h_s_f)), (h_aside, .inl (cI, 65, .inl h_aside_f)), (h_past, .inl (cI, 260, .inl h_past_f)), (h_snapshot, .inl (cI, 65, .inl h_snapshot_f)), (h_pad, .inl (cI, 80, .inl h_pad_f)), (h_steps, .inl (cI, 320, .inl h_steps_f)), (h_summed, .inl (cI, 81, .inl h_summed_f)), (h_plus, .inl (cI, 81, .inl h_plus_f)), (h_parts, .inl (cI, 392, .inl h_parts_f))] s.heap := hP
  have hl := lv_entry ([.ref h, .int p1, .int p2]) (n := 3) (Nat.le_of_ble_eq_true rfl)
  rw [lg_entry_eq]
  generalize (lg_sl ([.ref h, .int p1, .int p2]) ++ List.replicate (3 - (lg_sl ([.ref h, .int p1, .int p2])).length) Slot.unset).toArray = ls at hl ⊢
  have hl : lv_has ls 3 [(0, .ref h), (1, .int p1), (2, .int p2)] := hl
  unfold mX10_ways at h0
  refine lv_aload_n hx hb dX10_ways_0 rfl (lv_at hl 0 rfl) ?_
  refine lv_iload_n hx hb dX10_ways_1 rfl (lv_at hl 1 rfl) ?_
  obtain ⟨z_1, hz, h0⟩ := bd_ok h0
  refine ro_V (As := [.int p1]) (rest := []) (wc := [(h, .inr (7, [.ref h_s, .ref h_aside, .ref h_past, .int h_pasts, .ref h_snapshot, .int h_isKept, .ref h_pad, .int h_length, .ref h_steps, .int h_many, .int h_value, .ref h_summed, .ref h_plus, .ref h_parts])), (h_s, .inl (cI, 65, .inl h_s_f)), (h_aside, .inl (cI, 65, .inl h_aside_f)), (h_past, .inl (cI, 260, .inl h_past_f)), (h_snapshot, .inl (cI, 65, .inl h_snapshot_f)), (h_pad, .inl (cI, 80, .inl h_pad_f)), (h_steps, .inl (cI, 320, .inl h_steps_f)), (h_summed, .inl (cI, 81, .inl h_summed_f)), (h_plus, .inl (cI, 81, .inl h_plus_f)), (h_parts, .inl (cI, 392, .inl h_parts_f))]) hcf (kX10_isToken l D cI cC cT h h_s h_aside h_past h_snapshot h_pad h_steps h_summed h_plus h_parts h_s_f h_aside_f h_past_f h_pasts h_snapshot_f h_isKept h_pad_f h_length h_steps_f h_many h_value h_summed_f h_plus_f h_parts_f p1 z_1 hz) (cwV 1 hts gX10_ways_X10_isToken rfl rfl rfl (by decide +kernel) ⟨Nat.le_of_ble_eq_true rfl, Nat.le_of_ble_eq_true rfl⟩) hE (hP.sub [0, 1, 2, 3, 4, 5, 6, 7, 8, 9] rfl) (va_recv hK hP (ci := 7) (q0 := 0) rfl rfl) rfl hl.1 rfl (Nat.le_of_ble_eq_true rfl) dX10_ways_2 ⟨Nat.le_of_ble_eq_true rfl, Nat.le_of_ble_eq_true rfl⟩ ?_
  refine W.eq (g2 := F0 m 5 ls [.int z_1]) rfl ?_
  refine lv_if_eq (tgt := 17) hx hb dX10_ways_5 (by decide) (fun c9 => ?_) (fun c9 => ?_)
  · have h0 := it_t c9 h0
    refine lv_iconst (v := (-1)) hx hb dX10_ways_17 (by decide) ?_
    have e0 := Option.some.inj h0
    subst e0
    exact W.iret (v := (-1)) hx hb hr (fun t ht hW => wr_end () ht hP hD hS) hS.2.2 dX10_ways_18
  · have h0 := it_f c9 h0
    refine lv_iload_n hx hb dX10_ways_8 rfl (lv_at hl 2 rfl) ?_
    refine lv_iconst (v := 0) hx hb dX10_ways_9 (by decide) ?_
    refine lv_iconst (v := 1) hx hb dX10_ways_10 (by decide) ?_
    obtain ⟨z_2, hz, h0⟩ := bd_ok h0
    refine ro_S (As := [.int p2, .int 0, .int 1]) (rest := []) (wc := []) hcf (kX10_in l D cI cC cT p2 0 1 z_2 hz) (va_cwS 3 hts gX10_ways_X10_in rfl rfl rfl (by decide +kernel) ⟨Nat.le_of_ble_eq_true rfl, Nat.le_of_ble_eq_true rfl⟩) hE (hP.sub [] rfl) rfl hl.1 rfl (Nat.le_of_ble_eq_true rfl) dX10_ways_11 ⟨Nat.le_of_ble_eq_true rfl, Nat.le_of_ble_eq_true rfl⟩ ?_
    refine W.eq (g2 := F0 m 14 ls [.int z_2]) rfl ?_
    refine lv_if_ne (tgt := 19) hx hb dX10_ways_14 (by decide) (fun c9 => ?_) (fun c9 => ?_)
    · have h0 := it_f c9 h0
      refine lv_aload_n hx hb dX10_ways_19 rfl (lv_at hl 0 rfl) ?_
      obtain ⟨z_3, hz, h0⟩ := bd_ok h0
      refine ro_V (As := []) (rest := []) (wc := [(h, .inr (7, [.ref h_s, .ref h_aside, .ref h_past, .int h_pasts, .ref h_snapshot, .int h_isKept, .ref h_pad, .int h_length, .ref h_steps, .int h_many, .int h_value, .ref h_summed, .ref h_plus, .ref h_parts])), (h_s, .inl (cI, 65, .inl h_s_f)), (h_aside, .inl (cI, 65, .inl h_aside_f)), (h_past, .inl (cI, 260, .inl h_past_f)), (h_snapshot, .inl (cI, 65, .inl h_snapshot_f)), (h_pad, .inl (cI, 80, .inl h_pad_f)), (h_steps, .inl (cI, 320, .inl h_steps_f)), (h_summed, .inl (cI, 81, .inl h_summed_f)), (h_plus, .inl (cI, 81, .inl h_plus_f)), (h_parts, .inl (cI, 392, .inl h_parts_f))]) hcf (kX10_rowFault l D cI cC cT h h_s h_aside h_past h_snapshot h_pad h_steps h_summed h_plus h_parts h_s_f h_aside_f h_past_f h_pasts h_snapshot_f h_isKept h_pad_f h_length h_steps_f h_many h_value h_summed_f h_plus_f h_parts_f z_3 hz) (cwV 0 hts gX10_ways_X10_rowFault rfl rfl rfl (by decide +kernel) ⟨Nat.le_of_ble_eq_true rfl, Nat.le_of_ble_eq_true rfl⟩) hE (hP.sub [0, 1, 2, 3, 4, 5, 6, 7, 8, 9] rfl) (va_recv hK hP (ci := 7) (q0 := 0) rfl rfl) rfl hl.1 rfl (Nat.le_of_ble_eq_true rfl) dX10_ways_20 ⟨Nat.le_of_ble_eq_true rfl, Nat.le_of_ble_eq_true rfl⟩ ?_
      refine W.eq (g2 := F0 m 23 ls [.int z_3]) rfl ?_
      refine lv_iconst (v := (-1)) hx hb dX10_ways_23 (by decide) ?_
      refine lv_icmp_eq (tgt := 30) hx hb dX10_ways_24 (by decide) (fun c9 => ?_) (fun c9 => ?_)
      · have h0 := it_t c9 h0
        refine lv_aload_n hx hb dX10_ways_30 rfl (lv_at hl 0 rfl) ?_
        obtain ⟨z_4, hz, h0⟩ := bd_ok h0
        refine wr_V (As := []) (rest := []) (wc := [(h, .inr (7, [.ref h_s, .ref h_aside, .ref h_past, .int h_pasts, .ref h_snapshot, .int h_isKept, .ref h_pad, .int h_length, .ref h_steps, .int h_many, .int h_value, .ref h_summed, .ref h_plus, .ref h_parts])), (h_s, .inl (cI, 65, .inl h_s_f)), (h_aside, .inl (cI, 65, .inl h_aside_f)), (h_past, .inl (cI, 260, .inl h_past_f)), (h_snapshot, .inl (cI, 65, .inl h_snapshot_f)), (h_pad, .inl (cI, 80, .inl h_pad_f)), (h_steps, .inl (cI, 320, .inl h_steps_f)), (h_summed, .inl (cI, 81, .inl h_summed_f)), (h_plus, .inl (cI, 81, .inl h_plus_f)), (h_parts, .inl (cI, 392, .inl h_parts_f))]) (wr := []) hcf (kX10_laysParts l D cI cC cT h h_s h_aside h_past h_snapshot h_pad h_steps h_summed h_plus h_parts h_s_f h_aside_f h_past_f h_pasts h_snapshot_f h_isKept h_pad_f h_length h_steps_f h_many h_value h_summed_f h_plus_f h_parts_f _ z_4 hz) (cwV 0 hts gX10_ways_X10_laysParts rfl rfl rfl (by decide +kernel) ⟨Nat.le_of_ble_eq_true rfl, Nat.le_of_ble_eq_true rfl⟩) hE hP hD hS hA [0, 1, 2, 3, 4, 5, 6, 7, 8, 9] [] (hP.sub [0, 1, 2, 3, 4, 5, 6, 7, 8, 9] rfl) (hD.sub [0, 1, 2, 3, 4, 5, 6, 7, 8, 9] (by decide) rfl) (va_recv hK hP (ci := 7) (q0 := 0) rfl rfl) rfl rfl (by decide) (by decide) rfl hl.1 rfl (Nat.le_of_ble_eq_true rfl) dX10_ways_31 ⟨Nat.le_of_ble_eq_true rfl, Nat.le_of_ble_eq_true rfl⟩ (fun u H locs hP hD hS => ?_)
        have hP : va_P D vwCl [(h, .inr (7, [.ref h_s, .ref h_aside, .ref h_past, .int h_pasts, .ref h_snapshot, .int h_isKept, .ref h_pad, .int h_length, .ref h_steps, .int h_many, .int h_value, .ref h_summed, .ref h_plus, .ref h_parts])), (h_s, .inl (cI, 65, .inl h_s_f)), (h_aside, .inl (cI, 65, .inl h_aside_f)), (h_past, .inl (cI, 260, .inl h_past_f)), (h_snapshot, .inl (cI, 65, .inl h_snapshot_f)), (h_pad, .inl (cI, 80, .inl h_pad_f)), (h_steps, .inl (cI, 320, .inl h_steps_f)), (h_summed, .inl (cI, 81, .inl h_summed_f)), (h_plus, .inl (cI, 81, .inl h_plus_f)), (h_parts, .inl (cI, 392, .inl z_4))] H := hP
        have hD : va_D A [(h, .inr (7, [.ref h_s, .ref h_aside, .ref h_past, .int h_pasts, .ref h_snapshot, .int h_isKept, .ref h_pad, .int h_length, .ref h_steps, .int h_many, .int h_value, .ref h_summed, .ref h_plus, .ref h_parts])), (h_s, .inl (cI, 65, .inl h_s_f)), (h_aside, .inl (cI, 65, .inl h_aside_f)), (h_past, .inl (cI, 260, .inl h_past_f)), (h_snapshot, .inl (cI, 65, .inl h_snapshot_f)), (h_pad, .inl (cI, 80, .inl h_pad_f)), (h_steps, .inl (cI, 320, .inl h_steps_f)), (h_summed, .inl (cI, 81, .inl h_summed_f)), (h_plus, .inl (cI, 81, .inl h_plus_f)), (h_parts, .inl (cI, 392, .inl z_4))] := hD
        refine W.eq (g2 := F0 m 34 ls []) rfl ?_
        refine lv_aload_n hx hb dX10_ways_34 rfl (lv_at hl 0 rfl) ?_
        refine lv_iload_n hx hb dX10_ways_35 rfl (lv_at hl 1 rfl) ?_
        obtain ⟨z_5, hz, h0⟩ := bd_ok h0
        refine ro_V (As := [.int p1]) (rest := []) (wc := [(h, .inr (7, [.ref h_s, .ref h_aside, .ref h_past, .int h_pasts, .ref h_snapshot, .int h_isKept, .ref h_pad, .int h_length, .ref h_steps, .int h_many, .int h_value, .ref h_summed, .ref h_plus, .ref h_parts])), (h_s, .inl (cI, 65, .inl h_s_f)), (h_aside, .inl (cI, 65, .inl h_aside_f)), (h_past, .inl (cI, 260, .inl h_past_f)), (h_snapshot, .inl (cI, 65, .inl h_snapshot_f)), (h_pad, .inl (cI, 80, .inl h_pad_f)), (h_steps, .inl (cI, 320, .inl h_steps_f)), (h_summed, .inl (cI, 81, .inl h_summed_f)), (h_plus, .inl (cI, 81, .inl h_plus_f)), (h_parts, .inl (cI, 392, .inl z_4))]) hcf (kX10_waysTo l D cI cC cT h h_s h_aside h_past h_snapshot h_pad h_steps h_summed h_plus h_parts h_s_f h_aside_f h_past_f h_pasts h_snapshot_f h_isKept h_pad_f h_length h_steps_f h_many h_value h_summed_f h_plus_f z_4 p1 z_5 hz) (cwV 1 hts gX10_ways_X10_waysTo rfl rfl rfl (by decide +kernel) ⟨Nat.le_of_ble_eq_true rfl, Nat.le_of_ble_eq_true rfl⟩) hE (hP.sub [0, 1, 2, 3, 4, 5, 6, 7, 8, 9] rfl) (va_recv hK hP (ci := 7) (q0 := 0) rfl rfl) rfl hl.1 rfl (Nat.le_of_ble_eq_true rfl) dX10_ways_36 ⟨Nat.le_of_ble_eq_true rfl, Nat.le_of_ble_eq_true rfl⟩ ?_
        refine W.eq (g2 := F0 m 39 ls [.int z_5]) rfl ?_
        have e0 := Option.some.inj h0
        subst e0
        exact W.iret (v := z_5) hx hb hr (fun t ht hW => wr_end () ht hP hD hS) hS.2.2 dX10_ways_39
      · have h0 := it_f c9 h0
        refine lv_bipush (v := (-2)) hx hb dX10_ways_27 (by decide) ?_
        have e0 := Option.some.inj h0
        subst e0
        exact W.iret (v := (-2)) hx hb hr (fun t ht hW => wr_end () ht hP hD hS) hS.2.2 dX10_ways_29
    · have h0 := it_t c9 h0
      refine lv_iconst (v := (-1)) hx hb dX10_ways_17 (by decide) ?_
      have e0 := Option.some.inj h0
      subst e0
      exact W.iret (v := (-1)) hx hb hr (fun t ht hW => wr_end () ht hP hD hS) hS.2.2 dX10_ways_18
