noncomputable def mX10_begin (h_s_f : Nat → Int32) (h_aside_f : Nat → Int32) (h_past_f : Nat → Int32) (h_pasts : Int32) (p1 : Int32) (p2 : Int32) : Option (Int32 × (Nat → Int32) × (Nat → Int32) × (Nat → Int32) × Int32) :=
  bd (mX10_in p1 2 8) (fun z_1 => if z_1 = 0 then (some ((-1), h_s_f, h_aside_f, h_past_f, h_pasts)) else (bd (mX10_in p2 1 7) (fun z_2 => if z_2 = 0 then (some ((-1), h_s_f, h_aside_f, h_past_f, h_pasts)) else (bd (mX10_arePrime p1 p2) (fun z_3 => if z_3 = 0 then (some ((-1), h_s_f, h_aside_f, h_past_f, h_pasts)) else (bd (mX10_records h_s_f h_aside_f h_past_f h_pasts) (fun z_4 => bd (mX10_lays h_s_f p1 p2) (fun z_5 => bd (mX10_triples z_5) (fun z_6 => some (z_6, z_5, z_4.1, z_4.2.1, z_4.2.2))))))))))
set_option maxHeartbeats 8000000 in
set_option maxRecDepth 100000 in
theorem kX10_begin (l : Launch) (D : va_G) (cI cC cT : ClassId) (h h_s h_aside h_past h_snapshot h_pad h_steps h_summed h_plus h_parts : Nat) (h_s_f : Nat → Int32) (h_aside_f : Nat → Int32) (h_past_f : Nat → Int32) (h_pasts : Int32) (h_snapshot_f : Nat → Int32) (h_isKept : Int32) (h_pad_f : Nat → Int32) (h_length : Int32) (h_steps_f : Nat → Int32) (h_many : Int32) (h_value : Int32) (h_summed_f : Nat → Int32) (h_plus_f : Nat → Int32) (h_parts_f : Nat → Int32) (p1 : Int32) (p2 : Int32) (sz : Nat) (z : Int32 × (Nat → Int32) × (Nat → Int32) × (Nat → Int32) × Int32) (h0 : mX10_begin h_s_f h_aside_f h_past_f h_pasts p1 p2 = some z) : Met l yX10_begin wsX10_begin ({ frames := 5, cells := 0, slots := 0, locals := 112 } : Room) (va_Pc [.ref h, .int p1, .int p2] (wP D cI cC cT [(h, .inr (7, [.ref h_s, .ref h_aside, .ref h_past, .int h_pasts, .ref h_snapshot, .int h_isKept, .ref h_pad, .int h_length, .ref h_steps, .int h_many, .int h_value, .ref h_summed, .ref h_plus, .ref h_parts])), (h_s, .inl (cI, 65, .inl h_s_f)), (h_aside, .inl (cI, 65, .inl h_aside_f)), (h_past, .inl (cI, 260, .inl h_past_f)), (h_snapshot, .inl (cI, 65, .inl h_snapshot_f)), (h_pad, .inl (cI, 80, .inl h_pad_f)), (h_steps, .inl (cI, 320, .inl h_steps_f)), (h_summed, .inl (cI, 81, .inl h_summed_f)), (h_plus, .inl (cI, 81, .inl h_plus_f)), (h_parts, .inl (cI, 392, .inl h_parts_f))] sz)) (wQ D (some (.int z.1)) (va_A [(h, .inr (7, [.ref h_s, .ref h_aside, .ref h_past, .int h_pasts, .ref h_snapshot, .int h_isKept, .ref h_pad, .int h_length, .ref h_steps, .int h_many, .int h_value, .ref h_summed, .ref h_plus, .ref h_parts])), (h_s, .inl (cI, 65, .inl h_s_f)), (h_aside, .inl (cI, 65, .inl h_aside_f)), (h_past, .inl (cI, 260, .inl h_past_f)), (h_snapshot, .inl (cI, 65, .inl h_snapshot_f)), (h_pad, .inl (cI, 80, .inl h_pad_f)), (h_steps, .inl (cI, 320, .inl h_steps_f)), (h_summed, .inl (cI, 81, .inl h_summed_f)), (h_plus, .inl (cI, 81, .inl h_plus_f)), (h_parts, .inl (cI, 392, .inl h_parts_f))] sz) (fun (u : Unit) => [(h, .inr (7, [.ref h_s, .ref h_aside, .ref h_past, .int z.2.2.2.2, .ref h_snapshot, .int h_isKept, .ref h_pad, .int h_length, .ref h_steps, .int h_many, .int h_value, .ref h_summed, .ref h_plus, .ref h_parts])), (h_s, .inl (cI, 65, .inl z.2.1)), (h_aside, .inl (cI, 65, .inl z.2.2.1)), (h_past, .inl (cI, 260, .inl z.2.2.2.1)), (h_snapshot, .inl (cI, 65, .inl h_snapshot_f)), (h_pad, .inl (cI, 80, .inl h_pad_f)), (h_steps, .inl (cI, 320, .inl h_steps_f)), (h_summed, .inl (cI, 81, .inl h_summed_f)), (h_plus, .inl (cI, 81, .inl h_plus_f)), (h_parts, .inl (cI, 392, .inl h_parts_f))])) 0 0 (va_A [(h, .inr (7, [.ref h_s, .ref h_aside, .ref h_past, .int h_pasts, .ref h_snapshot, .int h_isKept, .ref h_pad, .int h_length, .ref h_steps, .int h_many, .int h_value, .ref h_summed, .ref h_plus, .ref h_parts])), (h_s, .inl (cI, 65, .inl h_s_f)), (h_aside, .inl (cI, 65, .inl h_aside_f)), (h_past, .inl (cI, 260, .inl h_past_f)), (h_snapshot, .inl (cI, 65, .inl h_snapshot_f)), (h_pad, .inl (cI, 80, .inl h_pad_f)), (h_steps, .inl (cI, 320, .inl h_steps_f)), (h_summed, .inl (cI, 81, .inl h_summed_f)), (h_plus, .inl (cI, 81, .inl h_plus_f)), (h_parts, .inl (cI, 392, .inl h_parts_f))] sz) := by
  refine Met.ofW (cc := cX10_begin) (maxL := 3) (ret := (some .int)) (by decide) rfl ?_
  intro p e s m args below meth c s₁ B hml hv
  obtain ⟨rfl, hsz, hP, hE, hD0⟩ := hv
  have hx := B.exec
  have hb := B.bytes
  have hr := B.returns
  have hts := atoms_spec (ws := wsX10_begin) B.pre
  have hown : s.vm.findClass RX10 = some m.cls := findClass_of_methodNamed B.named
  have hlocks := B.notSynchronized
  have hK := hE.1
  have hcf : CallFix p m c cX10_begin 3 s ([.ref h, .int p1, .int p2] : List Value).toArray wsX10_begin RX10 := ⟨hx, hb, hml, hown, hts⟩
  subst hsz
  have hD := hD0.self (sz := s.heap.size)
  generalize hAe : va_A [(h, .inr (7, [.ref h_s, .ref h_aside, .ref h_past, .int h_pasts, .ref h_snapshot, .int h_isKept, .ref h_pad, .int h_length, .ref h_steps, .int h_many, .int h_value, .ref h_summed, .ref h_plus, .ref h_parts])), (h_s, .inl (cI, 65, .inl h_s_f)), (h_aside, .inl (cI, 65, .inl h_aside_f)), (h_past, .inl (cI, 260, .inl h_past_f)), (h_snapshot, .inl (cI, 65, .inl h_snapshot_f)), (h_pad, .inl (cI, 80, .inl h_pad_f)), (h_steps, .inl (cI, 320, .inl h_steps_f)), (h_summed, .inl (cI, 81, .inl h_summed_f)), (h_plus, .inl (cI, 81, .inl h_plus_f)), (h_parts, .inl (cI, 392, .inl h_parts_f))] s.heap.size = A at hD ⊢
  have hA : ∀ q : Nat, s.heap.size ≤ q → A q := fun q h => by rw [← hAe]; exact Or.inr h
  have hS : va_S A s.heap s.heap [] := va_S.rf
  have hP : va_P D vwCl [(h, .inr (7, [.ref h_s, .ref h_aside, .ref h_past, .int h_pasts, .ref h_snapshot, .int h_isKept, .ref h_pad, .int h_length, .ref h_steps, .int h_many, .int h_value, .ref h_summed, .ref h_plus, .ref h_parts])), (h_s, .inl (cI, 65, .inl h_s_f)), (h_aside, .inl (cI, 65, .inl h_aside_f)), (h_past, .inl (cI, 260, .inl h_past_f)), (h_snapshot, .inl (cI, 65, .inl h_snapshot_f)), (h_pad, .inl (cI, 80, .inl h_pad_f)), (h_steps, .inl (cI, 320, .inl h_steps_f)), (h_summed, .inl (cI, 81, .inl h_summed_f)), (h_plus, .inl (cI, 81, .inl h_plus_f)), (h_parts, .inl (cI, 392, .inl h_parts_f))] s.heap := hP
  have hl := lv_entry ([.ref h, .int p1, .int p2]) (n := 3) (Nat.le_of_ble_eq_true rfl)
  rw [lg_entry_eq]
  generalize (lg_sl ([.ref h, .int p1, .int p2]) ++ List.replicate (3 - (lg_sl ([.ref h, .int p1, .int p2])).length) Slot.unset).toArray = ls at hl ⊢
  have hl : lv_has ls 3 [(0, .ref h), (1, .int p1), (2, .int p2)] := hl
  unfold mX10_begin at h0
  refine lv_iload_n hx hb dX10_begin_0 rfl (lv_at hl 1 rfl) ?_
  refine lv_iconst (v := 2) hx hb dX10_begin_1 (by decide) ?_
  refine lv_bipush (v := 8) hx hb dX10_begin_2 (by decide) ?_
  obtain ⟨z_1, hz, h0⟩ := bd_ok h0
  refine ro_S (As := [.int p1, .int 2, .int 8]) (rest := []) (wc := []) hcf (kX10_in l D cI cC cT p1 2 8 z_1 hz) (va_cwS 3 hts gX10_begin_X10_in rfl rfl rfl (by decide +kernel) ⟨Nat.le_of_ble_eq_true rfl, Nat.le_of_ble_eq_true rfl⟩) hE (hP.sub [] rfl) rfl hl.1 rfl (Nat.le_of_ble_eq_true rfl) dX10_begin_4 ⟨Nat.le_of_ble_eq_true rfl, Nat.le_of_ble_eq_true rfl⟩ ?_
  refine W.eq (g2 := F0 m 7 ls [.int z_1]) rfl ?_
  refine lv_if_eq (tgt := 28) hx hb dX10_begin_7 (by decide) (fun c9 => ?_) (fun c9 => ?_)
  · have h0 := it_t c9 h0
    refine lv_iconst (v := (-1)) hx hb dX10_begin_28 (by decide) ?_
    have e0 := Option.some.inj h0
    subst e0
    exact W.iret (v := (-1)) hx hb hr (fun t ht hW => wr_end () ht hP hD hS) hS.2.2 dX10_begin_29
  · have h0 := it_f c9 h0
    refine lv_iload_n hx hb dX10_begin_10 rfl (lv_at hl 2 rfl) ?_
    refine lv_iconst (v := 1) hx hb dX10_begin_11 (by decide) ?_
    refine lv_bipush (v := 7) hx hb dX10_begin_12 (by decide) ?_
    obtain ⟨z_2, hz, h0⟩ := bd_ok h0
    refine ro_S (As := [.int p2, .int 1, .int 7]) (rest := []) (wc := []) hcf (kX10_in l D cI cC cT p2 1 7 z_2 hz) (va_cwS 3 hts gX10_begin_X10_in rfl rfl rfl (by decide +kernel) ⟨Nat.le_of_ble_eq_true rfl, Nat.le_of_ble_eq_true rfl⟩) hE (hP.sub [] rfl) rfl hl.1 rfl (Nat.le_of_ble_eq_true rfl) dX10_begin_14 ⟨Nat.le_of_ble_eq_true rfl, Nat.le_of_ble_eq_true rfl⟩ ?_
    refine W.eq (g2 := F0 m 17 ls [.int z_2]) rfl ?_
    refine lv_if_eq (tgt := 28) hx hb dX10_begin_17 (by decide) (fun c9 => ?_) (fun c9 => ?_)
    · have h0 := it_t c9 h0
      refine lv_iconst (v := (-1)) hx hb dX10_begin_28 (by decide) ?_
      have e0 := Option.some.inj h0
      subst e0
      exact W.iret (v := (-1)) hx hb hr (fun t ht hW => wr_end () ht hP hD hS) hS.2.2 dX10_begin_29
    · have h0 := it_f c9 h0
      refine lv_iload_n hx hb dX10_begin_20 rfl (lv_at hl 1 rfl) ?_
      refine lv_iload_n hx hb dX10_begin_21 rfl (lv_at hl 2 rfl) ?_
      obtain ⟨z_3, hz, h0⟩ := bd_ok h0
      refine ro_S (As := [.int p1, .int p2]) (rest := []) (wc := []) hcf (kX10_arePrime l D cI cC cT p1 p2 z_3 hz) (va_cwS 2 hts gX10_begin_X10_arePrime rfl rfl rfl (by decide +kernel) ⟨Nat.le_of_ble_eq_true rfl, Nat.le_of_ble_eq_true rfl⟩) hE (hP.sub [] rfl) rfl hl.1 rfl (Nat.le_of_ble_eq_true rfl) dX10_begin_22 ⟨Nat.le_of_ble_eq_true rfl, Nat.le_of_ble_eq_true rfl⟩ ?_
      refine W.eq (g2 := F0 m 25 ls [.int z_3]) rfl ?_
      refine lv_if_ne (tgt := 30) hx hb dX10_begin_25 (by decide) (fun c9 => ?_) (fun c9 => ?_)
      · have h0 := it_f c9 h0
        refine lv_aload_n hx hb dX10_begin_30 rfl (lv_at hl 0 rfl) ?_
        obtain ⟨z_4, hz, h0⟩ := bd_ok h0
        refine wr_V (As := []) (rest := []) (wc := [(h, .inr (7, [.ref h_s, .ref h_aside, .ref h_past, .int h_pasts, .ref h_snapshot, .int h_isKept, .ref h_pad, .int h_length, .ref h_steps, .int h_many, .int h_value, .ref h_summed, .ref h_plus, .ref h_parts])), (h_s, .inl (cI, 65, .inl h_s_f)), (h_aside, .inl (cI, 65, .inl h_aside_f)), (h_past, .inl (cI, 260, .inl h_past_f)), (h_snapshot, .inl (cI, 65, .inl h_snapshot_f)), (h_pad, .inl (cI, 80, .inl h_pad_f)), (h_steps, .inl (cI, 320, .inl h_steps_f)), (h_summed, .inl (cI, 81, .inl h_summed_f)), (h_plus, .inl (cI, 81, .inl h_plus_f)), (h_parts, .inl (cI, 392, .inl h_parts_f))]) (wr := []) hcf (kX10_records l D cI cC cT h h_s h_aside h_past h_snapshot h_pad h_steps h_summed h_plus h_parts h_s_f h_aside_f h_past_f h_pasts h_snapshot_f h_isKept h_pad_f h_length h_steps_f h_many h_value h_summed_f h_plus_f h_parts_f _ z_4 hz) (cwV 0 hts gX10_begin_X10_records rfl rfl rfl (by decide +kernel) ⟨Nat.le_of_ble_eq_true rfl, Nat.le_of_ble_eq_true rfl⟩) hE hP hD hS hA [0, 1, 2, 3, 4, 5, 6, 7, 8, 9] [] (hP.sub [0, 1, 2, 3, 4, 5, 6, 7, 8, 9] rfl) (hD.sub [0, 1, 2, 3, 4, 5, 6, 7, 8, 9] (by decide) rfl) (va_recv hK hP (ci := 7) (q0 := 0) rfl rfl) rfl rfl (by decide) (by decide) rfl hl.1 rfl (Nat.le_of_ble_eq_true rfl) dX10_begin_31 ⟨Nat.le_of_ble_eq_true rfl, Nat.le_of_ble_eq_true rfl⟩ (fun u H locs hP hD hS => ?_)
        have hP : va_P D vwCl [(h, .inr (7, [.ref h_s, .ref h_aside, .ref h_past, .int z_4.2.2, .ref h_snapshot, .int h_isKept, .ref h_pad, .int h_length, .ref h_steps, .int h_many, .int h_value, .ref h_summed, .ref h_plus, .ref h_parts])), (h_s, .inl (cI, 65, .inl h_s_f)), (h_aside, .inl (cI, 65, .inl z_4.1)), (h_past, .inl (cI, 260, .inl z_4.2.1)), (h_snapshot, .inl (cI, 65, .inl h_snapshot_f)), (h_pad, .inl (cI, 80, .inl h_pad_f)), (h_steps, .inl (cI, 320, .inl h_steps_f)), (h_summed, .inl (cI, 81, .inl h_summed_f)), (h_plus, .inl (cI, 81, .inl h_plus_f)), (h_parts, .inl (cI, 392, .inl h_parts_f))] H := hP
        have hD : va_D A [(h, .inr (7, [.ref h_s, .ref h_aside, .ref h_past, .int z_4.2.2, .ref h_snapshot, .int h_isKept, .ref h_pad, .int h_length, .ref h_steps, .int h_many, .int h_value, .ref h_summed, .ref h_plus, .ref h_parts])), (h_s, .inl (cI, 65, .inl h_s_f)), (h_aside, .inl (cI, 65, .inl z_4.1)), (h_past, .inl (cI, 260, .inl z_4.2.1)), (h_snapshot, .inl (cI, 65, .inl h_snapshot_f)), (h_pad, .inl (cI, 80, .inl h_pad_f)), (h_steps, .inl (cI, 320, .inl h_steps_f)), (h_summed, .inl (cI, 81, .inl h_summed_f)), (h_plus, .inl (cI, 81, .inl h_plus_f)), (h_parts, .inl (cI, 392, .inl h_parts_f))] := hD
        refine W.eq (g2 := F0 m 34 ls []) rfl ?_
        refine lv_aload_n hx hb dX10_begin_34 rfl (lv_at hl 0 rfl) ?_
        refine lv_iload_n hx hb dX10_begin_35 rfl (lv_at hl 1 rfl) ?_
        refine lv_iload_n hx hb dX10_begin_36 rfl (lv_at hl 2 rfl) ?_
        obtain ⟨z_5, hz, h0⟩ := bd_ok h0
        refine wr_V (As := [.int p1, .int p2]) (rest := []) (wc := [(h, .inr (7, [.ref h_s, .ref h_aside, .ref h_past, .int z_4.2.2, .ref h_snapshot, .int h_isKept, .ref h_pad, .int h_length, .ref h_steps, .int h_many, .int h_value, .ref h_summed, .ref h_plus, .ref h_parts])), (h_s, .inl (cI, 65, .inl h_s_f)), (h_aside, .inl (cI, 65, .inl z_4.1)), (h_past, .inl (cI, 260, .inl z_4.2.1)), (h_snapshot, .inl (cI, 65, .inl h_snapshot_f)), (h_pad, .inl (cI, 80, .inl h_pad_f)), (h_steps, .inl (cI, 320, .inl h_steps_f)), (h_summed, .inl (cI, 81, .inl h_summed_f)), (h_plus, .inl (cI, 81, .inl h_plus_f)), (h_parts, .inl (cI, 392, .inl h_parts_f))]) (wr := []) hcf (kX10_lays l D cI cC cT h h_s h_aside h_past h_snapshot h_pad h_steps h_summed h_plus h_parts h_s_f z_4.1 z_4.2.1 z_4.2.2 h_snapshot_f h_isKept h_pad_f h_length h_steps_f h_many h_value h_summed_f h_plus_f h_parts_f p1 p2 _ z_5 hz) (cwV 2 hts gX10_begin_X10_lays rfl rfl rfl (by decide +kernel) ⟨Nat.le_of_ble_eq_true rfl, Nat.le_of_ble_eq_true rfl⟩) hE hP hD hS hA [0, 1, 2, 3, 4, 5, 6, 7, 8, 9] [] (hP.sub [0, 1, 2, 3, 4, 5, 6, 7, 8, 9] rfl) (hD.sub [0, 1, 2, 3, 4, 5, 6, 7, 8, 9] (by decide) rfl) (va_recv hK hP (ci := 7) (q0 := 0) rfl rfl) rfl rfl (by decide) (by decide) rfl hl.1 rfl (Nat.le_of_ble_eq_true rfl) dX10_begin_37 ⟨Nat.le_of_ble_eq_true rfl, Nat.le_of_ble_eq_true rfl⟩ (fun u H locs hP hD hS => ?_)
        have hP : va_P D vwCl [(h, .inr (7, [.ref h_s, .ref h_aside, .ref h_past, .int z_4.2.2, .ref h_snapshot, .int h_isKept, .ref h_pad, .int h_length, .ref h_steps, .int h_many, .int h_value, .ref h_summed, .ref h_plus, .ref h_parts])), (h_s, .inl (cI, 65, .inl z_5)), (h_aside, .inl (cI, 65, .inl z_4.1)), (h_past, .inl (cI, 260, .inl z_4.2.1)), (h_snapshot, .inl (cI, 65, .inl h_snapshot_f)), (h_pad, .inl (cI, 80, .inl h_pad_f)), (h_steps, .inl (cI, 320, .inl h_steps_f)), (h_summed, .inl (cI, 81, .inl h_summed_f)), (h_plus, .inl (cI, 81, .inl h_plus_f)), (h_parts, .inl (cI, 392, .inl h_parts_f))] H := hP
        have hD : va_D A [(h, .inr (7, [.ref h_s, .ref h_aside, .ref h_past, .int z_4.2.2, .ref h_snapshot, .int h_isKept, .ref h_pad, .int h_length, .ref h_steps, .int h_many, .int h_value, .ref h_summed, .ref h_plus, .ref h_parts])), (h_s, .inl (cI, 65, .inl z_5)), (h_aside, .inl (cI, 65, .inl z_4.1)), (h_past, .inl (cI, 260, .inl z_4.2.1)), (h_snapshot, .inl (cI, 65, .inl h_snapshot_f)), (h_pad, .inl (cI, 80, .inl h_pad_f)), (h_steps, .inl (cI, 320, .inl h_steps_f)), (h_summed, .inl (cI, 81, .inl h_summed_f)), (h_plus, .inl (cI, 81, .inl h_plus_f)), (h_parts, .inl (cI, 392, .inl h_parts_f))] := hD
        refine W.eq (g2 := F0 m 40 ls []) rfl ?_
        refine lv_aload_n hx hb dX10_begin_40 rfl (lv_at hl 0 rfl) ?_
        obtain ⟨z_6, hz, h0⟩ := bd_ok h0
        refine ro_V (As := []) (rest := []) (wc := [(h, .inr (7, [.ref h_s, .ref h_aside, .ref h_past, .int z_4.2.2, .ref h_snapshot, .int h_isKept, .ref h_pad, .int h_length, .ref h_steps, .int h_many, .int h_value, .ref h_summed, .ref h_plus, .ref h_parts])), (h_s, .inl (cI, 65, .inl z_5)), (h_aside, .inl (cI, 65, .inl z_4.1)), (h_past, .inl (cI, 260, .inl z_4.2.1)), (h_snapshot, .inl (cI, 65, .inl h_snapshot_f)), (h_pad, .inl (cI, 80, .inl h_pad_f)), (h_steps, .inl (cI, 320, .inl h_steps_f)), (h_summed, .inl (cI, 81, .inl h_summed_f)), (h_plus, .inl (cI, 81, .inl h_plus_f)), (h_parts, .inl (cI, 392, .inl h_parts_f))]) hcf (kX10_triples l D cI cC cT h h_s h_aside h_past h_snapshot h_pad h_steps h_summed h_plus h_parts z_5 z_4.1 z_4.2.1 z_4.2.2 h_snapshot_f h_isKept h_pad_f h_length h_steps_f h_many h_value h_summed_f h_plus_f h_parts_f z_6 hz) (cwV 0 hts gX10_begin_X10_triples rfl rfl rfl (by decide +kernel) ⟨Nat.le_of_ble_eq_true rfl, Nat.le_of_ble_eq_true rfl⟩) hE (hP.sub [0, 1, 2, 3, 4, 5, 6, 7, 8, 9] rfl) (va_recv hK hP (ci := 7) (q0 := 0) rfl rfl) rfl hl.1 rfl (Nat.le_of_ble_eq_true rfl) dX10_begin_41 ⟨Nat.le_of_ble_eq_true rfl, Nat.le_of_ble_eq_true rfl⟩ ?_
        refine W.eq (g2 := F0 m 44 ls [.int z_6]) rfl ?_
        have e0 := Option.some.inj h0
        subst e0
        exact W.iret (v := z_6) hx hb hr (fun t ht hW => wr_end () ht hP hD hS) hS.2.2 dX10_begin_44
      · have h0 := it_t c9 h0
        refine lv_iconst (v := (-1)) hx hb dX10_begin_28 (by decide) ?_
        have e0 := Option.some.inj h0
        subst e0
        exact W.iret (v := (-1)) hx hb hr (fun t ht hW => wr_end () ht hP hD hS) hS.2.2 dX10_begin_29
noncomputable def mX10_between_L24 (h_s_f : Nat → Int32) (p1 : Int32) (p2 : Int32) (p3 : Int32) (k24_75 : Int32 → Int32 → Option (Int32)) : Nat → Int32 → Int32 → Option (Int32)
  | 0, _, _ => none
  | F + 1, x5_6, x4_7 => if (h_s_f (0 : Int32).toNatClampNeg) ≤ x5_6 then (k24_75 x5_6 x4_7) else (if p3 = 0 then (bd (mX10_plain h_s_f p1 x5_6) (fun z_8 => if z_8 = p2 then (mX10_between_L24 h_s_f p1 p2 p3 k24_75 F (x5_6 + 1) x5_6) else (mX10_between_L24 h_s_f p1 p2 p3 k24_75 F (x5_6 + 1) x4_7))) else (bd (mX10_plain h_s_f x5_6 p1) (fun z_9 => if z_9 = p2 then (mX10_between_L24 h_s_f p1 p2 p3 k24_75 F (x5_6 + 1) x5_6) else (mX10_between_L24 h_s_f p1 p2 p3 k24_75 F (x5_6 + 1) x4_7))))
noncomputable def mX10_between (h_s_f : Nat → Int32) (p1 : Int32) (p2 : Int32) (p3 : Int32) : Option (Int32) :=
  bd (mX10_isToken h_s_f p1) (fun z_1 => if z_1 = 0 then (some ((-1))) else (bd (mX10_isToken h_s_f p2) (fun z_2 => if z_2 = 0 then (some ((-1))) else (mX10_between_L24 h_s_f p1 p2 p3 (fun (x5_3 : Int32) (x4_4 : Int32) => some (x4_4)) FU 0 0))))
set_option maxHeartbeats 8000000 in
set_option maxRecDepth 100000 in
theorem kX10_between (l : Launch) (D : va_G) (cI cC cT : ClassId) (h h_s h_aside h_past h_snapshot h_pad h_steps h_summed h_plus h_parts : Nat) (h_s_f : Nat → Int32) (h_aside_f : Nat → Int32) (h_past_f : Nat → Int32) (h_pasts : Int32) (h_snapshot_f : Nat → Int32) (h_isKept : Int32) (h_pad_f : Nat → Int32) (h_length : Int32) (h_steps_f : Nat → Int32) (h_many : Int32) (h_value : Int32) (h_summed_f : Nat → Int32) (h_plus_f : Nat → Int32) (h_parts_f : Nat → Int32) (p1 : Int32) (p2 : Int32) (p3 : Int32) (z : Int32) (h0 : mX10_between h_s_f p1 p2 p3 = some z) : Met l yX10_between wsX10_between ({ frames := 2, cells := 0, slots := 0, locals := 43 } : Room) (va_Pc [.ref h, .int p1, .int p2, .int p3] (rP D cI cC cT [(h, .inr (7, [.ref h_s, .ref h_aside, .ref h_past, .int h_pasts, .ref h_snapshot, .int h_isKept, .ref h_pad, .int h_length, .ref h_steps, .int h_many, .int h_value, .ref h_summed, .ref h_plus, .ref h_parts])), (h_s, .inl (cI, 65, .inl h_s_f)), (h_aside, .inl (cI, 65, .inl h_aside_f)), (h_past, .inl (cI, 260, .inl h_past_f)), (h_snapshot, .inl (cI, 65, .inl h_snapshot_f)), (h_pad, .inl (cI, 80, .inl h_pad_f)), (h_steps, .inl (cI, 320, .inl h_steps_f)), (h_summed, .inl (cI, 81, .inl h_summed_f)), (h_plus, .inl (cI, 81, .inl h_plus_f)), (h_parts, .inl (cI, 392, .inl h_parts_f))])) (rQ (some (.int z))) 0 0 (fun _ => False) := by
  refine Met.ofW (cc := cX10_between) (maxL := 6) (ret := (some .int)) (by decide) rfl ?_
  intro p e s m args below meth c s₁ B hml hv
  obtain ⟨rfl, hP, hE⟩ := hv
  have hx := B.exec
  have hb := B.bytes
  have hr := B.returns
  have hts := atoms_spec (ws := wsX10_between) B.pre
  have hown : s.vm.findClass RX10 = some m.cls := findClass_of_methodNamed B.named
  have hlocks := B.notSynchronized
  have hK := hE.1
  have hcf : CallFix p m c cX10_between 6 s ([.ref h, .int p1, .int p2, .int p3] : List Value).toArray wsX10_between RX10 := ⟨hx, hb, hml, hown, hts⟩
  have hP : va_P D vwCl [(h, .inr (7, [.ref h_s, .ref h_aside, .ref h_past, .int h_pasts, .ref h_snapshot, .int h_isKept, .ref h_pad, .int h_length, .ref h_steps, .int h_many, .int h_value, .ref h_summed, .ref h_plus, .ref h_parts])), (h_s, .inl (cI, 65, .inl h_s_f)), (h_aside, .inl (cI, 65, .inl h_aside_f)), (h_past, .inl (cI, 260, .inl h_past_f)), (h_snapshot, .inl (cI, 65, .inl h_snapshot_f)), (h_pad, .inl (cI, 80, .inl h_pad_f)), (h_steps, .inl (cI, 320, .inl h_steps_f)), (h_summed, .inl (cI, 81, .inl h_summed_f)), (h_plus, .inl (cI, 81, .inl h_plus_f)), (h_parts, .inl (cI, 392, .inl h_parts_f))] s.heap := hP
  have hf_7 := hts (.fieldLink RX10 7 "CrookedSumsModel" "s" "[I") (by decide +kernel)
  have hi_X10 := (show ∀ w ∈ u_ws RX10 TX10 14, w ∈ wsX10_between from by decide +kernel)
  have hl := lv_entry ([.ref h, .int p1, .int p2, .int p3]) (n := 6) (Nat.le_of_ble_eq_true rfl)
  rw [lg_entry_eq]
  generalize (lg_sl ([.ref h, .int p1, .int p2, .int p3]) ++ List.replicate (6 - (lg_sl ([.ref h, .int p1, .int p2, .int p3])).length) Slot.unset).toArray = ls at hl ⊢
  have hl : lv_has ls 6 [(0, .ref h), (1, .int p1), (2, .int p2), (3, .int p3)] := hl
  unfold mX10_between at h0
  refine lv_aload_n hx hb dX10_between_0 rfl (lv_at hl 0 rfl) ?_
  refine lv_iload_n hx hb dX10_between_1 rfl (lv_at hl 1 rfl) ?_
  obtain ⟨z_1, hz, h0⟩ := bd_ok h0
  refine ro_V (As := [.int p1]) (rest := []) (wc := [(h, .inr (7, [.ref h_s, .ref h_aside, .ref h_past, .int h_pasts, .ref h_snapshot, .int h_isKept, .ref h_pad, .int h_length, .ref h_steps, .int h_many, .int h_value, .ref h_summed, .ref h_plus, .ref h_parts])), (h_s, .inl (cI, 65, .inl h_s_f)), (h_aside, .inl (cI, 65, .inl h_aside_f)), (h_past, .inl (cI, 260, .inl h_past_f)), (h_snapshot, .inl (cI, 65, .inl h_snapshot_f)), (h_pad, .inl (cI, 80, .inl h_pad_f)), (h_steps, .inl (cI, 320, .inl h_steps_f)), (h_summed, .inl (cI, 81, .inl h_summed_f)), (h_plus, .inl (cI, 81, .inl h_plus_f)), (h_parts, .inl (cI, 392, .inl h_parts_f))]) hcf (kX10_isToken l D cI cC cT h h_s h_aside h_past h_snapshot h_pad h_steps h_summed h_plus h_parts h_s_f h_aside_f h_past_f h_pasts h_snapshot_f h_isKept h_pad_f h_length h_steps_f h_many h_value h_summed_f h_plus_f h_parts_f p1 z_1 hz) (cwV 1 hts gX10_between_X10_isToken rfl rfl rfl (by decide +kernel) ⟨Nat.le_of_ble_eq_true rfl, Nat.le_of_ble_eq_true rfl⟩) hE (hP.sub [0, 1, 2, 3, 4, 5, 6, 7, 8, 9] rfl) (va_recv hK hP (ci := 7) (q0 := 0) rfl rfl) rfl hl.1 rfl (Nat.le_of_ble_eq_true rfl) dX10_between_2 ⟨Nat.le_of_ble_eq_true rfl, Nat.le_of_ble_eq_true rfl⟩ ?_
  refine W.eq (g2 := F0 m 5 ls [.int z_1]) rfl ?_
  refine lv_if_eq (tgt := 16) hx hb dX10_between_5 (by decide) (fun c9 => ?_) (fun c9 => ?_)
  · have h0 := it_t c9 h0
    refine lv_iconst (v := (-1)) hx hb dX10_between_16 (by decide) ?_
    have e0 := Option.some.inj h0
    subst e0
    exact W.iret (v := (-1)) hx hb hr (fun t ht hW => ⟨rfl, ht⟩) (fun q hq => absurd hq List.not_mem_nil) dX10_between_17
  · have h0 := it_f c9 h0
    refine lv_aload_n hx hb dX10_between_8 rfl (lv_at hl 0 rfl) ?_
    refine lv_iload_n hx hb dX10_between_9 rfl (lv_at hl 2 rfl) ?_
    obtain ⟨z_2, hz, h0⟩ := bd_ok h0
    refine ro_V (As := [.int p2]) (rest := []) (wc := [(h, .inr (7, [.ref h_s, .ref h_aside, .ref h_past, .int h_pasts, .ref h_snapshot, .int h_isKept, .ref h_pad, .int h_length, .ref h_steps, .int h_many, .int h_value, .ref h_summed, .ref h_plus, .ref h_parts])), (h_s, .inl (cI, 65, .inl h_s_f)), (h_aside, .inl (cI, 65, .inl h_aside_f)), (h_past, .inl (cI, 260, .inl h_past_f)), (h_snapshot, .inl (cI, 65, .inl h_snapshot_f)), (h_pad, .inl (cI, 80, .inl h_pad_f)), (h_steps, .inl (cI, 320, .inl h_steps_f)), (h_summed, .inl (cI, 81, .inl h_summed_f)), (h_plus, .inl (cI, 81, .inl h_plus_f)), (h_parts, .inl (cI, 392, .inl h_parts_f))]) hcf (kX10_isToken l D cI cC cT h h_s h_aside h_past h_snapshot h_pad h_steps h_summed h_plus h_parts h_s_f h_aside_f h_past_f h_pasts h_snapshot_f h_isKept h_pad_f h_length h_steps_f h_many h_value h_summed_f h_plus_f h_parts_f p2 z_2 hz) (cwV 1 hts gX10_between_X10_isToken rfl rfl rfl (by decide +kernel) ⟨Nat.le_of_ble_eq_true rfl, Nat.le_of_ble_eq_true rfl⟩) hE (hP.sub [0, 1, 2, 3, 4, 5, 6, 7, 8, 9] rfl) (va_recv hK hP (ci := 7) (q0 := 0) rfl rfl) rfl hl.1 rfl (Nat.le_of_ble_eq_true rfl) dX10_between_10 ⟨Nat.le_of_ble_eq_true rfl, Nat.le_of_ble_eq_true rfl⟩ ?_
    refine W.eq (g2 := F0 m 13 ls [.int z_2]) rfl ?_
    refine lv_if_ne (tgt := 18) hx hb dX10_between_13 (by decide) (fun c9 => ?_) (fun c9 => ?_)
    · have h0 := it_f c9 h0
      refine lv_iconst (v := 0) hx hb dX10_between_18 (by decide) ?_
      refine lv_istore (lv' := [(4, .int 0), (0, .ref h), (1, .int p1), (2, .int p2), (3, .int p3)]) hx hb dX10_between_19 hl (by decide) rfl (fun ls hl => ?_)
      refine lv_iconst (v := 0) hx hb dX10_between_21 (by decide) ?_
      refine lv_istore (lv' := [(5, .int 0), (4, .int 0), (0, .ref h), (1, .int p1), (2, .int p2), (3, .int p3)]) hx hb dX10_between_22 hl (by decide) rfl (fun ls hl => ?_)
      have E_24_75_4 : ∀ (x5_3 : Int32) (x4_4 : Int32) (ls : Array Slot), (some (x4_4)) = some z → lv_has ls 6 [(5, .int x5_3), (4, .int x4_4), (0, .ref h), (1, .int p1), (2, .int p2), (3, .int p3)] → W p l e (headSpec wsX10_between ({ frames := 2, cells := 0, slots := 0, locals := 43 } : Room)).room s m (([.ref h, .int p1, .int p2, .int p3] : List Value).toArray) below meth c s.heap [] 0 0 (MQ below (rQ (some (.int z))) (([.ref h, .int p1, .int p2, .int p3] : List Value).toArray) s 0 0 (fun _ => False)) (F0 m 75 ls []) := by
        intro x5_3 x4_4 ls h0 hl
        refine lv_iload hx hb dX10_between_75 (lv_at hl 1 rfl) ?_
        have e0 := Option.some.inj h0
        subst e0
        exact W.iret (v := x4_4) hx hb hr (fun t ht hW => ⟨rfl, ht⟩) (fun q hq => absurd hq List.not_mem_nil) dX10_between_77
      have L_24_9 : ∀ (F24 : Nat) (x5_6 : Int32) (x4_7 : Int32) (ls : Array Slot), mX10_between_L24 h_s_f p1 p2 p3 (fun (x5_3 : Int32) (x4_4 : Int32) => some (x4_4)) F24 x5_6 x4_7 = some z → lv_has ls 6 [(5, .int x5_6), (4, .int x4_7), (0, .ref h), (1, .int p1), (2, .int p2), (3, .int p3)] → W p l e (headSpec wsX10_between ({ frames := 2, cells := 0, slots := 0, locals := 43 } : Room)).room s m (([.ref h, .int p1, .int p2, .int p3] : List Value).toArray) below meth c s.heap [] 0 0 (MQ below (rQ (some (.int z))) (([.ref h, .int p1, .int p2, .int p3] : List Value).toArray) s 0 0 (fun _ => False)) (F0 m 24 ls []) := by
        intro F24
        induction F24 with
        | zero => intro x5_6 x4_7 ls h0 hl; cases h0
        | succ F24 ih24 =>
          intro x5_6 x4_7 ls h0 hl
          rw [mX10_between_L24] at h0
          refine lv_iload hx hb dX10_between_24 (lv_at hl 0 rfl) ?_
          refine lv_aload_n hx hb dX10_between_26 rfl (lv_at hl 2 rfl) ?_
          refine va_get (D := D) (ci := 7) (v := .ref h_s) (C := RX10) (T := TX10) (N := 14) hx hb hts hi_X10 hown hK hP 0 rfl rfl 0 (by decide) hf_7 (fun _ h9 => h9) rfl dX10_between_27 ?_
          refine lv_iconst (v := 0) hx hb dX10_between_30 (by decide) ?_
          refine va_iald hx hb hK hP 1 0 rfl rfl (by unfold vp_in; decide) dX10_between_31 ?_
          refine lv_icmp_ge (tgt := 75) hx hb dX10_between_32 (by decide) (fun c9 => ?_) (fun c9 => ?_)
          · have h0 := it_t c9 h0
            exact E_24_75_4 x5_6 x4_7 ls h0 hl
          · have h0 := it_f c9 h0
            refine lv_iload_n hx hb dX10_between_35 rfl (lv_at hl 5 rfl) ?_
            refine lv_if_eq (tgt := 49) hx hb dX10_between_36 (by decide) (fun c9 => ?_) (fun c9 => ?_)
            · have h0 := it_t c9 h0
              refine lv_aload_n hx hb dX10_between_49 rfl (lv_at hl 2 rfl) ?_
              refine lv_iload_n hx hb dX10_between_50 rfl (lv_at hl 3 rfl) ?_
              refine lv_iload hx hb dX10_between_51 (lv_at hl 0 rfl) ?_
              obtain ⟨z_8, hz, h0⟩ := bd_ok h0
              refine ro_V (As := [.int p1, .int x5_6]) (rest := []) (wc := [(h, .inr (7, [.ref h_s, .ref h_aside, .ref h_past, .int h_pasts, .ref h_snapshot, .int h_isKept, .ref h_pad, .int h_length, .ref h_steps, .int h_many, .int h_value, .ref h_summed, .ref h_plus, .ref h_parts])), (h_s, .inl (cI, 65, .inl h_s_f)), (h_aside, .inl (cI, 65, .inl h_aside_f)), (h_past, .inl (cI, 260, .inl h_past_f)), (h_snapshot, .inl (cI, 65, .inl h_snapshot_f)), (h_pad, .inl (cI, 80, .inl h_pad_f)), (h_steps, .inl (cI, 320, .inl h_steps_f)), (h_summed, .inl (cI, 81, .inl h_summed_f)), (h_plus, .inl (cI, 81, .inl h_plus_f)), (h_parts, .inl (cI, 392, .inl h_parts_f))]) hcf (kX10_plain l D cI cC cT h h_s h_aside h_past h_snapshot h_pad h_steps h_summed h_plus h_parts h_s_f h_aside_f h_past_f h_pasts h_snapshot_f h_isKept h_pad_f h_length h_steps_f h_many h_value h_summed_f h_plus_f h_parts_f p1 x5_6 z_8 hz) (cwV 2 hts gX10_between_X10_plain rfl rfl rfl (by decide +kernel) ⟨Nat.le_of_ble_eq_true rfl, Nat.le_of_ble_eq_true rfl⟩) hE (hP.sub [0, 1, 2, 3, 4, 5, 6, 7, 8, 9] rfl) (va_recv hK hP (ci := 7) (q0 := 0) rfl rfl) rfl hl.1 rfl (Nat.le_of_ble_eq_true rfl) dX10_between_53 ⟨Nat.le_of_ble_eq_true rfl, Nat.le_of_ble_eq_true rfl⟩ ?_
              refine W.eq (g2 := F0 m 56 ls [.int z_8]) rfl ?_
              refine lv_iload_n hx hb dX10_between_56 rfl (lv_at hl 4 rfl) ?_
              refine lv_icmp_ne (tgt := 65) hx hb dX10_between_57 (by decide) (fun c9 => ?_) (fun c9 => ?_)
              · have h0 := it_f c9 h0
                refine lv_iload hx hb dX10_between_65 (lv_at hl 1 rfl) ?_
                refine lv_istore (lv' := [(4, .int x4_7), (5, .int x5_6), (0, .ref h), (1, .int p1), (2, .int p2), (3, .int p3)]) hx hb dX10_between_67 hl (by decide) rfl (fun ls hl => ?_)
                refine lv_iinc (v := (x5_6 + 1)) (lv' := [(5, .int (x5_6 + 1)), (4, .int x4_7), (0, .ref h), (1, .int p1), (2, .int p2), (3, .int p3)]) hx hb dX10_between_69 hl (k := 1) rfl rfl (by decide) rfl (fun ls hl => ?_)
                refine lv_goto (tgt := 24) hx hb dX10_between_72 (by decide) ?_
                exact ih24 (x5_6 + 1) x4_7 ls h0 hl
              · have h0 := it_t c9 h0
                refine lv_iload hx hb dX10_between_60 (lv_at hl 0 rfl) ?_
                refine lv_goto (tgt := 67) hx hb dX10_between_62 (by decide) ?_
                refine lv_istore (lv' := [(4, .int x5_6), (5, .int x5_6), (0, .ref h), (1, .int p1), (2, .int p2), (3, .int p3)]) hx hb dX10_between_67 hl (by decide) rfl (fun ls hl => ?_)
                refine lv_iinc (v := (x5_6 + 1)) (lv' := [(5, .int (x5_6 + 1)), (4, .int x5_6), (0, .ref h), (1, .int p1), (2, .int p2), (3, .int p3)]) hx hb dX10_between_69 hl (k := 1) rfl rfl (by decide) rfl (fun ls hl => ?_)
                refine lv_goto (tgt := 24) hx hb dX10_between_72 (by decide) ?_
                exact ih24 (x5_6 + 1) x5_6 ls h0 hl
            · have h0 := it_f c9 h0
              refine lv_aload_n hx hb dX10_between_39 rfl (lv_at hl 2 rfl) ?_
              refine lv_iload hx hb dX10_between_40 (lv_at hl 0 rfl) ?_
              refine lv_iload_n hx hb dX10_between_42 rfl (lv_at hl 3 rfl) ?_
              obtain ⟨z_9, hz, h0⟩ := bd_ok h0
              refine ro_V (As := [.int x5_6, .int p1]) (rest := []) (wc := [(h, .inr (7, [.ref h_s, .ref h_aside, .ref h_past, .int h_pasts, .ref h_snapshot, .int h_isKept, .ref h_pad, .int h_length, .ref h_steps, .int h_many, .int h_value, .ref h_summed, .ref h_plus, .ref h_parts])), (h_s, .inl (cI, 65, .inl h_s_f)), (h_aside, .inl (cI, 65, .inl h_aside_f)), (h_past, .inl (cI, 260, .inl h_past_f)), (h_snapshot, .inl (cI, 65, .inl h_snapshot_f)), (h_pad, .inl (cI, 80, .inl h_pad_f)), (h_steps, .inl (cI, 320, .inl h_steps_f)), (h_summed, .inl (cI, 81, .inl h_summed_f)), (h_plus, .inl (cI, 81, .inl h_plus_f)), (h_parts, .inl (cI, 392, .inl h_parts_f))]) hcf (kX10_plain l D cI cC cT h h_s h_aside h_past h_snapshot h_pad h_steps h_summed h_plus h_parts h_s_f h_aside_f h_past_f h_pasts h_snapshot_f h_isKept h_pad_f h_length h_steps_f h_many h_value h_summed_f h_plus_f h_parts_f x5_6 p1 z_9 hz) (cwV 2 hts gX10_between_X10_plain rfl rfl rfl (by decide +kernel) ⟨Nat.le_of_ble_eq_true rfl, Nat.le_of_ble_eq_true rfl⟩) hE (hP.sub [0, 1, 2, 3, 4, 5, 6, 7, 8, 9] rfl) (va_recv hK hP (ci := 7) (q0 := 0) rfl rfl) rfl hl.1 rfl (Nat.le_of_ble_eq_true rfl) dX10_between_43 ⟨Nat.le_of_ble_eq_true rfl, Nat.le_of_ble_eq_true rfl⟩ ?_
              refine W.eq (g2 := F0 m 46 ls [.int z_9]) rfl ?_
              refine lv_goto (tgt := 56) hx hb dX10_between_46 (by decide) ?_
              refine lv_iload_n hx hb dX10_between_56 rfl (lv_at hl 4 rfl) ?_
              refine lv_icmp_ne (tgt := 65) hx hb dX10_between_57 (by decide) (fun c9 => ?_) (fun c9 => ?_)
              · have h0 := it_f c9 h0
                refine lv_iload hx hb dX10_between_65 (lv_at hl 1 rfl) ?_
                refine lv_istore (lv' := [(4, .int x4_7), (5, .int x5_6), (0, .ref h), (1, .int p1), (2, .int p2), (3, .int p3)]) hx hb dX10_between_67 hl (by decide) rfl (fun ls hl => ?_)
                refine lv_iinc (v := (x5_6 + 1)) (lv' := [(5, .int (x5_6 + 1)), (4, .int x4_7), (0, .ref h), (1, .int p1), (2, .int p2), (3, .int p3)]) hx hb dX10_between_69 hl (k := 1) rfl rfl (by decide) rfl (fun ls hl => ?_)
                refine lv_goto (tgt := 24) hx hb dX10_between_72 (by decide) ?_
                exact ih24 (x5_6 + 1) x4_7 ls h0 hl
              · have h0 := it_t c9 h0
                refine lv_iload hx hb dX10_between_60 (lv_at hl 0 rfl) ?_
                refine lv_goto (tgt := 67) hx hb dX10_between_62 (by decide) ?_
                refine lv_istore (lv' := [(4, .int x5_6), (5, .int x5_6), (0, .ref h), (1, .int p1), (2, .int p2), (3, .int p3)]) hx hb dX10_between_67 hl (by decide) rfl (fun ls hl => ?_)
                refine lv_iinc (v := (x5_6 + 1)) (lv' := [(5, .int (x5_6 + 1)), (4, .int x5_6), (0, .ref h), (1, .int p1), (2, .int p2), (3, .int p3)]) hx hb dX10_between_69 hl (k := 1) rfl rfl (by decide) rfl (fun ls hl => ?_)
                refine lv_goto (tgt := 24) hx hb dX10_between_72 (by decide) ?_
                exact ih24 (x5_6 + 1) x5_6 ls h0 hl
      exact L_24_9 FU 0 0 ls h0 hl
    · have h0 := it_t c9 h0
      refine lv_iconst (v := (-1)) hx hb dX10_between_16 (by decide) ?_
      have e0 := Option.some.inj h0
      subst e0
      exact W.iret (v := (-1)) hx hb hr (fun t ht hW => ⟨rfl, ht⟩) (fun q hq => absurd hq List.not_mem_nil) dX10_between_17
noncomputable def mX10_columns_L17 (p1 : Int32) (p2 : Int32) (k17_47 : Int32 → (Nat → Int32) → Option (Int32 × (Nat → Int32) × (Nat → Int32) × (Nat → Int32) × Int32)) : Nat → Int32 → (Nat → Int32) → Option (Int32 × (Nat → Int32) × (Nat → Int32) × (Nat → Int32) × Int32)
  | 0, _, _ => none
  | F + 1, x3_7, f_8 => if (f_8 (0 : Int32).toNatClampNeg) ≤ x3_7 then (k17_47 x3_7 f_8) else (bd (mX10_at x3_7 p1) (fun z_9 => bd (mX10_at x3_7 p2) (fun z_10 => bd (mX10_exchanges f_8 z_9 z_10) (fun z_11 => mX10_columns_L17 p1 p2 k17_47 F (x3_7 + 1) z_11))))
noncomputable def mX10_columns (h_s_f : Nat → Int32) (h_aside_f : Nat → Int32) (h_past_f : Nat → Int32) (h_pasts : Int32) (p1 : Int32) (p2 : Int32) : Option (Int32 × (Nat → Int32) × (Nat → Int32) × (Nat → Int32) × Int32) :=
  bd (mX10_isPair h_s_f p1 p2) (fun z_1 => if z_1 = 0 then (some ((-1), h_s_f, h_aside_f, h_past_f, h_pasts)) else (bd (mX10_records h_s_f h_aside_f h_past_f h_pasts) (fun z_2 => mX10_columns_L17 p1 p2 (fun (x3_3 : Int32) (f_4 : Nat → Int32) => bd (mX10_others f_4 z_2.1) (fun z_5 => some (z_5, f_4, z_2.1, z_2.2.1, z_2.2.2))) FU 0 h_s_f)))
set_option maxHeartbeats 8000000 in
set_option maxRecDepth 100000 in
theorem kX10_columns (l : Launch) (D : va_G) (cI cC cT : ClassId) (h h_s h_aside h_past h_snapshot h_pad h_steps h_summed h_plus h_parts : Nat) (h_s_f : Nat → Int32) (h_aside_f : Nat → Int32) (h_past_f : Nat → Int32) (h_pasts : Int32) (h_snapshot_f : Nat → Int32) (h_isKept : Int32) (h_pad_f : Nat → Int32) (h_length : Int32) (h_steps_f : Nat → Int32) (h_many : Int32) (h_value : Int32) (h_summed_f : Nat → Int32) (h_plus_f : Nat → Int32) (h_parts_f : Nat → Int32) (p1 : Int32) (p2 : Int32) (sz : Nat) (z : Int32 × (Nat → Int32) × (Nat → Int32) × (Nat → Int32) × Int32) (h0 : mX10_columns h_s_f h_aside_f h_past_f h_pasts p1 p2 = some z) : Met l yX10_columns wsX10_columns ({ frames := 3, cells := 0, slots := 0, locals := 65 } : Room) (va_Pc [.ref h, .int p1, .int p2] (wP D cI cC cT [(h, .inr (7, [.ref h_s, .ref h_aside, .ref h_past, .int h_pasts, .ref h_snapshot, .int h_isKept, .ref h_pad, .int h_length, .ref h_steps, .int h_many, .int h_value, .ref h_summed, .ref h_plus, .ref h_parts])), (h_s, .inl (cI, 65, .inl h_s_f)), (h_aside, .inl (cI, 65, .inl h_aside_f)), (h_past, .inl (cI, 260, .inl h_past_f)), (h_snapshot, .inl (cI, 65, .inl h_snapshot_f)), (h_pad, .inl (cI, 80, .inl h_pad_f)), (h_steps, .inl (cI, 320, .inl h_steps_f)), (h_summed, .inl (cI, 81, .inl h_summed_f)), (h_plus, .inl (cI, 81, .inl h_plus_f)), (h_parts, .inl (cI, 392, .inl h_parts_f))] sz)) (wQ D (some (.int z.1)) (va_A [(h, .inr (7, [.ref h_s, .ref h_aside, .ref h_past, .int h_pasts, .ref h_snapshot, .int h_isKept, .ref h_pad, .int h_length, .ref h_steps, .int h_many, .int h_value, .ref h_summed, .ref h_plus, .ref h_parts])), (h_s, .inl (cI, 65, .inl h_s_f)), (h_aside, .inl (cI, 65, .inl h_aside_f)), (h_past, .inl (cI, 260, .inl h_past_f)), (h_snapshot, .inl (cI, 65, .inl h_snapshot_f)), (h_pad, .inl (cI, 80, .inl h_pad_f)), (h_steps, .inl (cI, 320, .inl h_steps_f)), (h_summed, .inl (cI, 81, .inl h_summed_f)), (h_plus, .inl (cI, 81, .inl h_plus_f)), (h_parts, .inl (cI, 392, .inl h_parts_f))] sz) (fun (u : Unit) => [(h, .inr (7, [.ref h_s, .ref h_aside, .ref h_past, .int z.2.2.2.2, .ref h_snapshot, .int h_isKept, .ref h_pad, .int h_length, .ref h_steps, .int h_many, .int h_value, .ref h_summed, .ref h_plus, .ref h_parts])), (h_s, .inl (cI, 65, .inl z.2.1)), (h_aside, .inl (cI, 65, .inl z.2.2.1)), (h_past, .inl (cI, 260, .inl z.2.2.2.1)), (h_snapshot, .inl (cI, 65, .inl h_snapshot_f)), (h_pad, .inl (cI, 80, .inl h_pad_f)), (h_steps, .inl (cI, 320, .inl h_steps_f)), (h_summed, .inl (cI, 81, .inl h_summed_f)), (h_plus, .inl (cI, 81, .inl h_plus_f)), (h_parts, .inl (cI, 392, .inl h_parts_f))])) 0 0 (va_A [(h, .inr (7, [.ref h_s, .ref h_aside, .ref h_past, .int h_pasts, .ref h_snapshot, .int h_isKept, .ref h_pad, .int h_length, .ref h_steps, .int h_many, .int h_value, .ref h_summed, .ref h_plus, .ref h_parts])), (h_s, .inl (cI, 65, .inl h_s_f)), (h_aside, .inl (cI, 65, .inl h_aside_f)), (h_past, .inl (cI, 260, .inl h_past_f)), (h_snapshot, .inl (cI, 65, .inl h_snapshot_f)), (h_pad, .inl (cI, 80, .inl h_pad_f)), (h_steps, .inl (cI, 320, .inl h_steps_f)), (h_summed, .inl (cI, 81, .inl h_summed_f)), (h_plus, .inl (cI, 81, .inl h_plus_f)), (h_parts, .inl (cI, 392, .inl h_parts_f))] sz) := by
  refine Met.ofW (cc := cX10_columns) (maxL := 4) (ret := (some .int)) (by decide) rfl ?_
  intro p e s m args below meth c s₁ B hml hv
  obtain ⟨rfl, hsz, hP, hE, hD0⟩ := hv
  have hx := B.exec
  have hb := B.bytes
  have hr := B.returns
  have hts := atoms_spec (ws := wsX10_columns) B.pre
  have hown : s.vm.findClass RX10 = some m.cls := findClass_of_methodNamed B.named
  have hlocks := B.notSynchronized
  have hK := hE.1
  have hcf : CallFix p m c cX10_columns 4 s ([.ref h, .int p1, .int p2] : List Value).toArray wsX10_columns RX10 := ⟨hx, hb, hml, hown, hts⟩
  subst hsz
  have hD := hD0.self (sz := s.heap.size)
  generalize hAe : va_A [(h, .inr (7, [.ref h_s, .ref h_aside, .ref h_past, .int h_pasts, .ref h_snapshot, .int h_isKept, .ref h_pad, .int h_length, .ref h_steps, .int h_many, .int h_value, .ref h_summed, .ref h_plus, .ref h_parts])), (h_s, .inl (cI, 65, .inl h_s_f)), (h_aside, .inl (cI, 65, .inl h_aside_f)), (h_past, .inl (cI, 260, .inl h_past_f)), (h_snapshot, .inl (cI, 65, .inl h_snapshot_f)), (h_pad, .inl (cI, 80, .inl h_pad_f)), (h_steps, .inl (cI, 320, .inl h_steps_f)), (h_summed, .inl (cI, 81, .inl h_summed_f)), (h_plus, .inl (cI, 81, .inl h_plus_f)), (h_parts, .inl (cI, 392, .inl h_parts_f))] s.heap.size = A at hD ⊢
  have hA : ∀ q : Nat, s.heap.size ≤ q → A q := fun q h => by rw [← hAe]; exact Or.inr h
  have hS : va_S A s.heap s.heap [] := va_S.rf
  have hP : va_P D vwCl [(h, .inr (7, [.ref h_s, .ref h_aside, .ref h_past, .int h_pasts, .ref h_snapshot, .int h_isKept, .ref h_pad, .int h_length, .ref h_steps, .int h_many, .int h_value, .ref h_summed, .ref h_plus, .ref h_parts])), (h_s, .inl (cI, 65, .inl h_s_f)), (h_aside, .inl (cI, 65, .inl h_aside_f)), (h_past, .inl (cI, 260, .inl h_past_f)), (h_snapshot, .inl (cI, 65, .inl h_snapshot_f)), (h_pad, .inl (cI, 80, .inl h_pad_f)), (h_steps, .inl (cI, 320, .inl h_steps_f)), (h_summed, .inl (cI, 81, .inl h_summed_f)), (h_plus, .inl (cI, 81, .inl h_plus_f)), (h_parts, .inl (cI, 392, .inl h_parts_f))] s.heap := hP
  have hf_7 := hts (.fieldLink RX10 7 "CrookedSumsModel" "s" "[I") (by decide +kernel)
  have hi_X10 := (show ∀ w ∈ u_ws RX10 TX10 14, w ∈ wsX10_columns from by decide +kernel)
  have hl := lv_entry ([.ref h, .int p1, .int p2]) (n := 4) (Nat.le_of_ble_eq_true rfl)
  rw [lg_entry_eq]
  generalize (lg_sl ([.ref h, .int p1, .int p2]) ++ List.replicate (4 - (lg_sl ([.ref h, .int p1, .int p2])).length) Slot.unset).toArray = ls at hl ⊢
  have hl : lv_has ls 4 [(0, .ref h), (1, .int p1), (2, .int p2)] := hl
  unfold mX10_columns at h0
  refine lv_aload_n hx hb dX10_columns_0 rfl (lv_at hl 0 rfl) ?_
  refine lv_iload_n hx hb dX10_columns_1 rfl (lv_at hl 1 rfl) ?_
  refine lv_iload_n hx hb dX10_columns_2 rfl (lv_at hl 2 rfl) ?_
  obtain ⟨z_1, hz, h0⟩ := bd_ok h0
  refine ro_V (As := [.int p1, .int p2]) (rest := []) (wc := [(h, .inr (7, [.ref h_s, .ref h_aside, .ref h_past, .int h_pasts, .ref h_snapshot, .int h_isKept, .ref h_pad, .int h_length, .ref h_steps, .int h_many, .int h_value, .ref h_summed, .ref h_plus, .ref h_parts])), (h_s, .inl (cI, 65, .inl h_s_f)), (h_aside, .inl (cI, 65, .inl h_aside_f)), (h_past, .inl (cI, 260, .inl h_past_f)), (h_snapshot, .inl (cI, 65, .inl h_snapshot_f)), (h_pad, .inl (cI, 80, .inl h_pad_f)), (h_steps, .inl (cI, 320, .inl h_steps_f)), (h_summed, .inl (cI, 81, .inl h_summed_f)), (h_plus, .inl (cI, 81, .inl h_plus_f)), (h_parts, .inl (cI, 392, .inl h_parts_f))]) hcf (kX10_isPair l D cI cC cT h h_s h_aside h_past h_snapshot h_pad h_steps h_summed h_plus h_parts h_s_f h_aside_f h_past_f h_pasts h_snapshot_f h_isKept h_pad_f h_length h_steps_f h_many h_value h_summed_f h_plus_f h_parts_f p1 p2 z_1 hz) (cwV 2 hts gX10_columns_X10_isPair rfl rfl rfl (by decide +kernel) ⟨Nat.le_of_ble_eq_true rfl, Nat.le_of_ble_eq_true rfl⟩) hE (hP.sub [0, 1, 2, 3, 4, 5, 6, 7, 8, 9] rfl) (va_recv hK hP (ci := 7) (q0 := 0) rfl rfl) rfl hl.1 rfl (Nat.le_of_ble_eq_true rfl) dX10_columns_3 ⟨Nat.le_of_ble_eq_true rfl, Nat.le_of_ble_eq_true rfl⟩ ?_
  refine W.eq (g2 := F0 m 6 ls [.int z_1]) rfl ?_
  refine lv_if_ne (tgt := 11) hx hb dX10_columns_6 (by decide) (fun c9 => ?_) (fun c9 => ?_)
  · have h0 := it_f c9 h0
    refine lv_aload_n hx hb dX10_columns_11 rfl (lv_at hl 0 rfl) ?_
    obtain ⟨z_2, hz, h0⟩ := bd_ok h0
    refine wr_V (As := []) (rest := []) (wc := [(h, .inr (7, [.ref h_s, .ref h_aside, .ref h_past, .int h_pasts, .ref h_snapshot, .int h_isKept, .ref h_pad, .int h_length, .ref h_steps, .int h_many, .int h_value, .ref h_summed, .ref h_plus, .ref h_parts])), (h_s, .inl (cI, 65, .inl h_s_f)), (h_aside, .inl (cI, 65, .inl h_aside_f)), (h_past, .inl (cI, 260, .inl h_past_f)), (h_snapshot, .inl (cI, 65, .inl h_snapshot_f)), (h_pad, .inl (cI, 80, .inl h_pad_f)), (h_steps, .inl (cI, 320, .inl h_steps_f)), (h_summed, .inl (cI, 81, .inl h_summed_f)), (h_plus, .inl (cI, 81, .inl h_plus_f)), (h_parts, .inl (cI, 392, .inl h_parts_f))]) (wr := []) hcf (kX10_records l D cI cC cT h h_s h_aside h_past h_snapshot h_pad h_steps h_summed h_plus h_parts h_s_f h_aside_f h_past_f h_pasts h_snapshot_f h_isKept h_pad_f h_length h_steps_f h_many h_value h_summed_f h_plus_f h_parts_f _ z_2 hz) (cwV 0 hts gX10_columns_X10_records rfl rfl rfl (by decide +kernel) ⟨Nat.le_of_ble_eq_true rfl, Nat.le_of_ble_eq_true rfl⟩) hE hP hD hS hA [0, 1, 2, 3, 4, 5, 6, 7, 8, 9] [] (hP.sub [0, 1, 2, 3, 4, 5, 6, 7, 8, 9] rfl) (hD.sub [0, 1, 2, 3, 4, 5, 6, 7, 8, 9] (by decide) rfl) (va_recv hK hP (ci := 7) (q0 := 0) rfl rfl) rfl rfl (by decide) (by decide) rfl hl.1 rfl (Nat.le_of_ble_eq_true rfl) dX10_columns_12 ⟨Nat.le_of_ble_eq_true rfl, Nat.le_of_ble_eq_true rfl⟩ (fun u H locs hP hD hS => ?_)
    have hP : va_P D vwCl [(h, .inr (7, [.ref h_s, .ref h_aside, .ref h_past, .int z_2.2.2, .ref h_snapshot, .int h_isKept, .ref h_pad, .int h_length, .ref h_steps, .int h_many, .int h_value, .ref h_summed, .ref h_plus, .ref h_parts])), (h_s, .inl (cI, 65, .inl h_s_f)), (h_aside, .inl (cI, 65, .inl z_2.1)), (h_past, .inl (cI, 260, .inl z_2.2.1)), (h_snapshot, .inl (cI, 65, .inl h_snapshot_f)), (h_pad, .inl (cI, 80, .inl h_pad_f)), (h_steps, .inl (cI, 320, .inl h_steps_f)), (h_summed, .inl (cI, 81, .inl h_summed_f)), (h_plus, .inl (cI, 81, .inl h_plus_f)), (h_parts, .inl (cI, 392, .inl h_parts_f))] H := hP
    have hD : va_D A [(h, .inr (7, [.ref h_s, .ref h_aside, .ref h_past, .int z_2.2.2, .ref h_snapshot, .int h_isKept, .ref h_pad, .int h_length, .ref h_steps, .int h_many, .int h_value, .ref h_summed, .ref h_plus, .ref h_parts])), (h_s, .inl (cI, 65, .inl h_s_f)), (h_aside, .inl (cI, 65, .inl z_2.1)), (h_past, .inl (cI, 260, .inl z_2.2.1)), (h_snapshot, .inl (cI, 65, .inl h_snapshot_f)), (h_pad, .inl (cI, 80, .inl h_pad_f)), (h_steps, .inl (cI, 320, .inl h_steps_f)), (h_summed, .inl (cI, 81, .inl h_summed_f)), (h_plus, .inl (cI, 81, .inl h_plus_f)), (h_parts, .inl (cI, 392, .inl h_parts_f))] := hD
    refine W.eq (g2 := F0 m 15 ls []) rfl ?_
    refine lv_iconst (v := 0) hx hb dX10_columns_15 (by decide) ?_
    refine lv_istore_n (lv' := [(3, .int 0), (0, .ref h), (1, .int p1), (2, .int p2)]) hx hb dX10_columns_16 rfl hl (by decide) rfl (fun ls hl => ?_)
    have E_17_47_5 : ∀ (x3_3 : Int32) (f_4 : Nat → Int32) (H : Heap) (locs : List Loc) (ls : Array Slot), (bd (mX10_others f_4 z_2.1) (fun z_5 => some (z_5, f_4, z_2.1, z_2.2.1, z_2.2.2))) = some z → va_P D vwCl [(h, .inr (7, [.ref h_s, .ref h_aside, .ref h_past, .int z_2.2.2, .ref h_snapshot, .int h_isKept, .ref h_pad, .int h_length, .ref h_steps, .int h_many, .int h_value, .ref h_summed, .ref h_plus, .ref h_parts])), (h_s, .inl (cI, 65, .inl f_4)), (h_aside, .inl (cI, 65, .inl z_2.1)), (h_past, .inl (cI, 260, .inl z_2.2.1)), (h_snapshot, .inl (cI, 65, .inl h_snapshot_f)), (h_pad, .inl (cI, 80, .inl h_pad_f)), (h_steps, .inl (cI, 320, .inl h_steps_f)), (h_summed, .inl (cI, 81, .inl h_summed_f)), (h_plus, .inl (cI, 81, .inl h_plus_f)), (h_parts, .inl (cI, 392, .inl h_parts_f))] H → va_D A [(h, .inr (7, [.ref h_s, .ref h_aside, .ref h_past, .int z_2.2.2, .ref h_snapshot, .int h_isKept, .ref h_pad, .int h_length, .ref h_steps, .int h_many, .int h_value, .ref h_summed, .ref h_plus, .ref h_parts])), (h_s, .inl (cI, 65, .inl f_4)), (h_aside, .inl (cI, 65, .inl z_2.1)), (h_past, .inl (cI, 260, .inl z_2.2.1)), (h_snapshot, .inl (cI, 65, .inl h_snapshot_f)), (h_pad, .inl (cI, 80, .inl h_pad_f)), (h_steps, .inl (cI, 320, .inl h_steps_f)), (h_summed, .inl (cI, 81, .inl h_summed_f)), (h_plus, .inl (cI, 81, .inl h_plus_f)), (h_parts, .inl (cI, 392, .inl h_parts_f))] → va_S A s.heap H locs → lv_has ls 4 [(3, .int x3_3), (0, .ref h), (1, .int p1), (2, .int p2)] → W p l e (headSpec wsX10_columns ({ frames := 3, cells := 0, slots := 0, locals := 65 } : Room)).room s m (([.ref h, .int p1, .int p2] : List Value).toArray) below meth c H locs 0 0 (MQ below (wQ D (some (.int z.1)) A (fun (u : Unit) => [(h, .inr (7, [.ref h_s, .ref h_aside, .ref h_past, .int z.2.2.2.2, .ref h_snapshot, .int h_isKept, .ref h_pad, .int h_length, .ref h_steps, .int h_many, .int h_value, .ref h_summed, .ref h_plus, .ref h_parts])), (h_s, .inl (cI, 65, .inl z.2.1)), (h_aside, .inl (cI, 65, .inl z.2.2.1)), (h_past, .inl (cI, 260, .inl z.2.2.2.1)), (h_snapshot, .inl (cI, 65, .inl h_snapshot_f)), (h_pad, .inl (cI, 80, .inl h_pad_f)), (h_steps, .inl (cI, 320, .inl h_steps_f)), (h_summed, .inl (cI, 81, .inl h_summed_f)), (h_plus, .inl (cI, 81, .inl h_plus_f)), (h_parts, .inl (cI, 392, .inl h_parts_f))])) (([.ref h, .int p1, .int p2] : List Value).toArray) s 0 0 A) (F0 m 47 ls []) := by
      intro x3_3 f_4 H locs ls h0 hP hD hS hl
      refine lv_aload_n hx hb dX10_columns_47 rfl (lv_at hl 1 rfl) ?_
      obtain ⟨z_5, hz, h0⟩ := bd_ok h0
      refine ro_V (As := []) (rest := []) (wc := [(h, .inr (7, [.ref h_s, .ref h_aside, .ref h_past, .int z_2.2.2, .ref h_snapshot, .int h_isKept, .ref h_pad, .int h_length, .ref h_steps, .int h_many, .int h_value, .ref h_summed, .ref h_plus, .ref h_parts])), (h_s, .inl (cI, 65, .inl f_4)), (h_aside, .inl (cI, 65, .inl z_2.1)), (h_past, .inl (cI, 260, .inl z_2.2.1)), (h_snapshot, .inl (cI, 65, .inl h_snapshot_f)), (h_pad, .inl (cI, 80, .inl h_pad_f)), (h_steps, .inl (cI, 320, .inl h_steps_f)), (h_summed, .inl (cI, 81, .inl h_summed_f)), (h_plus, .inl (cI, 81, .inl h_plus_f)), (h_parts, .inl (cI, 392, .inl h_parts_f))]) hcf (kX10_others l D cI cC cT h h_s h_aside h_past h_snapshot h_pad h_steps h_summed h_plus h_parts f_4 z_2.1 z_2.2.1 z_2.2.2 h_snapshot_f h_isKept h_pad_f h_length h_steps_f h_many h_value h_summed_f h_plus_f h_parts_f z_5 hz) (cwV 0 hts gX10_columns_X10_others rfl rfl rfl (by decide +kernel) ⟨Nat.le_of_ble_eq_true rfl, Nat.le_of_ble_eq_true rfl⟩) hE (hP.sub [0, 1, 2, 3, 4, 5, 6, 7, 8, 9] rfl) (va_recv hK hP (ci := 7) (q0 := 0) rfl rfl) rfl hl.1 rfl (Nat.le_of_ble_eq_true rfl) dX10_columns_48 ⟨Nat.le_of_ble_eq_true rfl, Nat.le_of_ble_eq_true rfl⟩ ?_
      refine W.eq (g2 := F0 m 51 ls [.int z_5]) rfl ?_
      have e0 := Option.some.inj h0
      subst e0
      exact W.iret (v := z_5) hx hb hr (fun t ht hW => wr_end () ht hP hD hS) hS.2.2 dX10_columns_51
    have L_17_11 : ∀ (F17 : Nat) (x3_7 : Int32) (f_8 : Nat → Int32) (H : Heap) (locs : List Loc) (ls : Array Slot), mX10_columns_L17 p1 p2 (fun (x3_3 : Int32) (f_4 : Nat → Int32) => bd (mX10_others f_4 z_2.1) (fun z_5 => some (z_5, f_4, z_2.1, z_2.2.1, z_2.2.2))) F17 x3_7 f_8 = some z → va_P D vwCl [(h, .inr (7, [.ref h_s, .ref h_aside, .ref h_past, .int z_2.2.2, .ref h_snapshot, .int h_isKept, .ref h_pad, .int h_length, .ref h_steps, .int h_many, .int h_value, .ref h_summed, .ref h_plus, .ref h_parts])), (h_s, .inl (cI, 65, .inl f_8)), (h_aside, .inl (cI, 65, .inl z_2.1)), (h_past, .inl (cI, 260, .inl z_2.2.1)), (h_snapshot, .inl (cI, 65, .inl h_snapshot_f)), (h_pad, .inl (cI, 80, .inl h_pad_f)), (h_steps, .inl (cI, 320, .inl h_steps_f)), (h_summed, .inl (cI, 81, .inl h_summed_f)), (h_plus, .inl (cI, 81, .inl h_plus_f)), (h_parts, .inl (cI, 392, .inl h_parts_f))] H → va_D A [(h, .inr (7, [.ref h_s, .ref h_aside, .ref h_past, .int z_2.2.2, .ref h_snapshot, .int h_isKept, .ref h_pad, .int h_length, .ref h_steps, .int h_many, .int h_value, .ref h_summed, .ref h_plus, .ref h_parts])), (h_s, .inl (cI, 65, .inl f_8)), (h_aside, .inl (cI, 65, .inl z_2.1)), (h_past, .inl (cI, 260, .inl z_2.2.1)), (h_snapshot, .inl (cI, 65, .inl h_snapshot_f)), (h_pad, .inl (cI, 80, .inl h_pad_f)), (h_steps, .inl (cI, 320, .inl h_steps_f)), (h_summed, .inl (cI, 81, .inl h_summed_f)), (h_plus, .inl (cI, 81, .inl h_plus_f)), (h_parts, .inl (cI, 392, .inl h_parts_f))] → va_S A s.heap H locs → lv_has ls 4 [(3, .int x3_7), (0, .ref h), (1, .int p1), (2, .int p2)] → W p l e (headSpec wsX10_columns ({ frames := 3, cells := 0, slots := 0, locals := 65 } : Room)).room s m (([.ref h, .int p1, .int p2] : List Value).toArray) below meth c H locs 0 0 (MQ below (wQ D (some (.int z.1)) A (fun (u : Unit) => [(h, .inr (7, [.ref h_s, .ref h_aside, .ref h_past, .int z.2.2.2.2, .ref h_snapshot, .int h_isKept, .ref h_pad, .int h_length, .ref h_steps, .int h_many, .int h_value, .ref h_summed, .ref h_plus, .ref h_parts])), (h_s, .inl (cI, 65, .inl z.2.1)), (h_aside, .inl (cI, 65, .inl z.2.2.1)), (h_past, .inl (cI, 260, .inl z.2.2.2.1)), (h_snapshot, .inl (cI, 65, .inl h_snapshot_f)), (h_pad, .inl (cI, 80, .inl h_pad_f)), (h_steps, .inl (cI, 320, .inl h_steps_f)), (h_summed, .inl (cI, 81, .inl h_summed_f)), (h_plus, .inl (cI, 81, .inl h_plus_f)), (h_parts, .inl (cI, 392, .inl h_parts_f))])) (([.ref h, .int p1, .int p2] : List Value).toArray) s 0 0 A) (F0 m 17 ls []) := by
      intro F17
      induction F17 with
      | zero => intro x3_7 f_8 H locs ls h0 hP hD hS hl; cases h0
      | succ F17 ih17 =>
        intro x3_7 f_8 H locs ls h0 hP hD hS hl
        rw [mX10_columns_L17] at h0
        refine lv_iload_n hx hb dX10_columns_17 rfl (lv_at hl 0 rfl) ?_
        refine lv_aload_n hx hb dX10_columns_18 rfl (lv_at hl 1 rfl) ?_
        refine va_get (D := D) (ci := 7) (v := .ref h_s) (C := RX10) (T := TX10) (N := 14) hx hb hts hi_X10 hown hK hP 0 rfl rfl 0 (by decide) hf_7 (fun _ h9 => h9) rfl dX10_columns_19 ?_
        refine lv_iconst (v := 0) hx hb dX10_columns_22 (by decide) ?_
        refine va_iald hx hb hK hP 1 0 rfl rfl (by unfold vp_in; decide) dX10_columns_23 ?_
        refine lv_icmp_ge (tgt := 47) hx hb dX10_columns_24 (by decide) (fun c9 => ?_) (fun c9 => ?_)
        · have h0 := it_t c9 h0
          exact E_17_47_5 x3_7 f_8 _ _ ls h0 hP hD hS hl
        · have h0 := it_f c9 h0
          refine lv_aload_n hx hb dX10_columns_27 rfl (lv_at hl 1 rfl) ?_
          refine lv_iload_n hx hb dX10_columns_28 rfl (lv_at hl 0 rfl) ?_
          refine lv_iload_n hx hb dX10_columns_29 rfl (lv_at hl 2 rfl) ?_
          obtain ⟨z_9, hz, h0⟩ := bd_ok h0
          refine ro_S (As := [.int x3_7, .int p1]) (rest := [.ref h]) (wc := []) hcf (kX10_at l D cI cC cT x3_7 p1 z_9 hz) (va_cwS 2 hts gX10_columns_X10_at rfl rfl rfl (by decide +kernel) ⟨Nat.le_of_ble_eq_true rfl, Nat.le_of_ble_eq_true rfl⟩) hE (hP.sub [] rfl) rfl hl.1 rfl (Nat.le_of_ble_eq_true rfl) dX10_columns_30 ⟨Nat.le_of_ble_eq_true rfl, Nat.le_of_ble_eq_true rfl⟩ ?_
          refine W.eq (g2 := F0 m 33 ls [.int z_9, .ref h]) rfl ?_
          refine lv_iload_n hx hb dX10_columns_33 rfl (lv_at hl 0 rfl) ?_
          refine lv_iload_n hx hb dX10_columns_34 rfl (lv_at hl 3 rfl) ?_
          obtain ⟨z_10, hz, h0⟩ := bd_ok h0
          refine ro_S (As := [.int x3_7, .int p2]) (rest := [.int z_9, .ref h]) (wc := []) hcf (kX10_at l D cI cC cT x3_7 p2 z_10 hz) (va_cwS 2 hts gX10_columns_X10_at rfl rfl rfl (by decide +kernel) ⟨Nat.le_of_ble_eq_true rfl, Nat.le_of_ble_eq_true rfl⟩) hE (hP.sub [] rfl) rfl hl.1 rfl (Nat.le_of_ble_eq_true rfl) dX10_columns_35 ⟨Nat.le_of_ble_eq_true rfl, Nat.le_of_ble_eq_true rfl⟩ ?_
          refine W.eq (g2 := F0 m 38 ls [.int z_10, .int z_9, .ref h]) rfl ?_
          obtain ⟨z_11, hz, h0⟩ := bd_ok h0
          refine wr_V (As := [.int z_9, .int z_10]) (rest := []) (wc := [(h, .inr (7, [.ref h_s, .ref h_aside, .ref h_past, .int z_2.2.2, .ref h_snapshot, .int h_isKept, .ref h_pad, .int h_length, .ref h_steps, .int h_many, .int h_value, .ref h_summed, .ref h_plus, .ref h_parts])), (h_s, .inl (cI, 65, .inl f_8)), (h_aside, .inl (cI, 65, .inl z_2.1)), (h_past, .inl (cI, 260, .inl z_2.2.1)), (h_snapshot, .inl (cI, 65, .inl h_snapshot_f)), (h_pad, .inl (cI, 80, .inl h_pad_f)), (h_steps, .inl (cI, 320, .inl h_steps_f)), (h_summed, .inl (cI, 81, .inl h_summed_f)), (h_plus, .inl (cI, 81, .inl h_plus_f)), (h_parts, .inl (cI, 392, .inl h_parts_f))]) (wr := []) hcf (kX10_exchanges l D cI cC cT h h_s h_aside h_past h_snapshot h_pad h_steps h_summed h_plus h_parts f_8 z_2.1 z_2.2.1 z_2.2.2 h_snapshot_f h_isKept h_pad_f h_length h_steps_f h_many h_value h_summed_f h_plus_f h_parts_f z_9 z_10 _ z_11 hz) (cwV 2 hts gX10_columns_X10_exchanges rfl rfl rfl (by decide +kernel) ⟨Nat.le_of_ble_eq_true rfl, Nat.le_of_ble_eq_true rfl⟩) hE hP hD hS hA [0, 1, 2, 3, 4, 5, 6, 7, 8, 9] [] (hP.sub [0, 1, 2, 3, 4, 5, 6, 7, 8, 9] rfl) (hD.sub [0, 1, 2, 3, 4, 5, 6, 7, 8, 9] (by decide) rfl) (va_recv hK hP (ci := 7) (q0 := 0) rfl rfl) rfl rfl (by decide) (by decide) rfl hl.1 rfl (Nat.le_of_ble_eq_true rfl) dX10_columns_38 ⟨Nat.le_of_ble_eq_true rfl, Nat.le_of_ble_eq_true rfl⟩ (fun u H locs hP hD hS => ?_)
          have hP : va_P D vwCl [(h, .inr (7, [.ref h_s, .ref h_aside, .ref h_past, .int z_2.2.2, .ref h_snapshot, .int h_isKept, .ref h_pad, .int h_length, .ref h_steps, .int h_many, .int h_value, .ref h_summed, .ref h_plus, .ref h_parts])), (h_s, .inl (cI, 65, .inl z_11)), (h_aside, .inl (cI, 65, .inl z_2.1)), (h_past, .inl (cI, 260, .inl z_2.2.1)), (h_snapshot, .inl (cI, 65, .inl h_snapshot_f)), (h_pad, .inl (cI, 80, .inl h_pad_f)), (h_steps, .inl (cI, 320, .inl h_steps_f)), (h_summed, .inl (cI, 81, .inl h_summed_f)), (h_plus, .inl (cI, 81, .inl h_plus_f)), (h_parts, .inl (cI, 392, .inl h_parts_f))] H := hP
          have hD : va_D A [(h, .inr (7, [.ref h_s, .ref h_aside, .ref h_past, .int z_2.2.2, .ref h_snapshot, .int h_isKept, .ref h_pad, .int h_length, .ref h_steps, .int h_many, .int h_value, .ref h_summed, .ref h_plus, .ref h_parts])), (h_s, .inl (cI, 65, .inl z_11)), (h_aside, .inl (cI, 65, .inl z_2.1)), (h_past, .inl (cI, 260, .inl z_2.2.1)), (h_snapshot, .inl (cI, 65, .inl h_snapshot_f)), (h_pad, .inl (cI, 80, .inl h_pad_f)), (h_steps, .inl (cI, 320, .inl h_steps_f)), (h_summed, .inl (cI, 81, .inl h_summed_f)), (h_plus, .inl (cI, 81, .inl h_plus_f)), (h_parts, .inl (cI, 392, .inl h_parts_f))] := hD
          refine W.eq (g2 := F0 m 41 ls []) rfl ?_
          refine lv_iinc (v := (x3_7 + 1)) (lv' := [(3, .int (x3_7 + 1)), (0, .ref h), (1, .int p1), (2, .int p2)]) hx hb dX10_columns_41 hl (k := 0) rfl rfl (by decide) rfl (fun ls hl => ?_)
          refine lv_goto (tgt := 17) hx hb dX10_columns_44 (by decide) ?_
          exact ih17 (x3_7 + 1) z_11 _ _ ls h0 hP hD hS hl
    exact L_17_11 FU 0 h_s_f _ _ ls h0 hP hD hS hl
  · have h0 := it_t c9 h0
    refine lv_iconst (v := (-1)) hx hb dX10_columns_9 (by decide) ?_
    have e0 := Option.some.inj h0
    subst e0
    exact W.iret (v := (-1)) hx hb hr (fun t ht hW => wr_end () ht hP hD hS) hS.2.2 dX10_columns_10
noncomputable def mX10_commuteWith_L4 (h_s_f : Nat → Int32) (p1 : Int32) (k4_43 : Int32 → Int32 → Option (Int32)) : Nat → Int32 → Int32 → Option (Int32)
  | 0, _, _ => none
  | F + 1, x3_4, x2_5 => if (h_s_f (0 : Int32).toNatClampNeg) ≤ x3_4 then (k4_43 x3_4 x2_5) else (bd (mX10_plain h_s_f p1 x3_4) (fun z_6 => bd (mX10_plain h_s_f x3_4 p1) (fun z_7 => if z_6 = z_7 then (mX10_commuteWith_L4 h_s_f p1 k4_43 F (x3_4 + 1) (x2_5 + 1)) else (mX10_commuteWith_L4 h_s_f p1 k4_43 F (x3_4 + 1) (x2_5 + 0)))))
noncomputable def mX10_commuteWith (h_s_f : Nat → Int32) (p1 : Int32) : Option (Int32) :=
  mX10_commuteWith_L4 h_s_f p1 (fun (x3_1 : Int32) (x2_2 : Int32) => some (x2_2)) FU 0 0
set_option maxHeartbeats 8000000 in
set_option maxRecDepth 100000 in
theorem kX10_commuteWith (l : Launch) (D : va_G) (cI cC cT : ClassId) (h h_s h_aside h_past h_snapshot h_pad h_steps h_summed h_plus h_parts : Nat) (h_s_f : Nat → Int32) (h_aside_f : Nat → Int32) (h_past_f : Nat → Int32) (h_pasts : Int32) (h_snapshot_f : Nat → Int32) (h_isKept : Int32) (h_pad_f : Nat → Int32) (h_length : Int32) (h_steps_f : Nat → Int32) (h_many : Int32) (h_value : Int32) (h_summed_f : Nat → Int32) (h_plus_f : Nat → Int32) (h_parts_f : Nat → Int32) (p1 : Int32) (z : Int32) (h0 : mX10_commuteWith h_s_f p1 = some z) : Met l yX10_commuteWith wsX10_commuteWith ({ frames := 2, cells := 0, slots := 0, locals := 43 } : Room) (va_Pc [.ref h, .int p1] (rP D cI cC cT [(h, .inr (7, [.ref h_s, .ref h_aside, .ref h_past, .int h_pasts, .ref h_snapshot, .int h_isKept, .ref h_pad, .int h_length, .ref h_steps, .int h_many, .int h_value, .ref h_summed, .ref h_plus, .ref h_parts])), (h_s, .inl (cI, 65, .inl h_s_f)), (h_aside, .inl (cI, 65, .inl h_aside_f)), (h_past, .inl (cI, 260, .inl h_past_f)), (h_snapshot, .inl (cI, 65, .inl h_snapshot_f)), (h_pad, .inl (cI, 80, .inl h_pad_f)), (h_steps, .inl (cI, 320, .inl h_steps_f)), (h_summed, .inl (cI, 81, .inl h_summed_f)), (h_plus, .inl (cI, 81, .inl h_plus_f)), (h_parts, .inl (cI, 392, .inl h_parts_f))])) (rQ (some (.int z))) 0 0 (fun _ => False) := by
  refine Met.ofW (cc := cX10_commuteWith) (maxL := 4) (ret := (some .int)) (by decide) rfl ?_
  intro p e s m args below meth c s₁ B hml hv
  obtain ⟨rfl, hP, hE⟩ := hv
  have hx := B.exec
  have hb := B.bytes
  have hr := B.returns
  have hts := atoms_spec (ws := wsX10_commuteWith) B.pre
  have hown : s.vm.findClass RX10 = some m.cls := findClass_of_methodNamed B.named
  have hlocks := B.notSynchronized
  have hK := hE.1
  have hcf : CallFix p m c cX10_commuteWith 4 s ([.ref h, .int p1] : List Value).toArray wsX10_commuteWith RX10 := ⟨hx, hb, hml, hown, hts⟩
  have hP : va_P D vwCl [(h, .inr (7, [.ref h_s, .ref h_aside, .ref h_past, .int h_pasts, .ref h_snapshot, .int h_isKept, .ref h_pad, .int h_length, .ref h_steps, .int h_many, .int h_value, .ref h_summed, .ref h_plus, .ref h_parts])), (h_s, .inl (cI, 65, .inl h_s_f)), (h_aside, .inl (cI, 65, .inl h_aside_f)), (h_past, .inl (cI, 260, .inl h_past_f)), (h_snapshot, .inl (cI, 65, .inl h_snapshot_f)), (h_pad, .inl (cI, 80, .inl h_pad_f)), (h_steps, .inl (cI, 320, .inl h_steps_f)), (h_summed, .inl (cI, 81, .inl h_summed_f)), (h_plus, .inl (cI, 81, .inl h_plus_f)), (h_parts, .inl (cI, 392, .inl h_parts_f))] s.heap := hP
  have hf_7 := hts (.fieldLink RX10 7 "CrookedSumsModel" "s" "[I") (by decide +kernel)
  have hi_X10 := (show ∀ w ∈ u_ws RX10 TX10 14, w ∈ wsX10_commuteWith from by decide +kernel)
  have hl := lv_entry ([.ref h, .int p1]) (n := 4) (Nat.le_of_ble_eq_true rfl)
  rw [lg_entry_eq]
  generalize (lg_sl ([.ref h, .int p1]) ++ List.replicate (4 - (lg_sl ([.ref h, .int p1])).length) Slot.unset).toArray = ls at hl ⊢
  have hl : lv_has ls 4 [(0, .ref h), (1, .int p1)] := hl
  unfold mX10_commuteWith at h0
  refine lv_iconst (v := 0) hx hb dX10_commuteWith_0 (by decide) ?_
  refine lv_istore_n (lv' := [(2, .int 0), (0, .ref h), (1, .int p1)]) hx hb dX10_commuteWith_1 rfl hl (by decide) rfl (fun ls hl => ?_)
  refine lv_iconst (v := 0) hx hb dX10_commuteWith_2 (by decide) ?_
  refine lv_istore_n (lv' := [(3, .int 0), (2, .int 0), (0, .ref h), (1, .int p1)]) hx hb dX10_commuteWith_3 rfl hl (by decide) rfl (fun ls hl => ?_)
  have E_4_43_2 : ∀ (x3_1 : Int32) (x2_2 : Int32) (ls : Array Slot), (some (x2_2)) = some z → lv_has ls 4 [(3, .int x3_1), (2, .int x2_2), (0, .ref h), (1, .int p1)] → W p l e (headSpec wsX10_commuteWith ({ frames := 2, cells := 0, slots := 0, locals := 43 } : Room)).room s m (([.ref h, .int p1] : List Value).toArray) below meth c s.heap [] 0 0 (MQ below (rQ (some (.int z))) (([.ref h, .int p1] : List Value).toArray) s 0 0 (fun _ => False)) (F0 m 43 ls []) := by
    intro x3_1 x2_2 ls h0 hl
    refine lv_iload_n hx hb dX10_commuteWith_43 rfl (lv_at hl 1 rfl) ?_
    have e0 := Option.some.inj h0
    subst e0
    exact W.iret (v := x2_2) hx hb hr (fun t ht hW => ⟨rfl, ht⟩) (fun q hq => absurd hq List.not_mem_nil) dX10_commuteWith_44
  have L_4_7 : ∀ (F4 : Nat) (x3_4 : Int32) (x2_5 : Int32) (ls : Array Slot), mX10_commuteWith_L4 h_s_f p1 (fun (x3_1 : Int32) (x2_2 : Int32) => some (x2_2)) F4 x3_4 x2_5 = some z → lv_has ls 4 [(3, .int x3_4), (2, .int x2_5), (0, .ref h), (1, .int p1)] → W p l e (headSpec wsX10_commuteWith ({ frames := 2, cells := 0, slots := 0, locals := 43 } : Room)).room s m (([.ref h, .int p1] : List Value).toArray) below meth c s.heap [] 0 0 (MQ below (rQ (some (.int z))) (([.ref h, .int p1] : List Value).toArray) s 0 0 (fun _ => False)) (F0 m 4 ls []) := by
    intro F4
    induction F4 with
    | zero => intro x3_4 x2_5 ls h0 hl; cases h0
    | succ F4 ih4 =>
      intro x3_4 x2_5 ls h0 hl
      rw [mX10_commuteWith_L4] at h0
      refine lv_iload_n hx hb dX10_commuteWith_4 rfl (lv_at hl 0 rfl) ?_
      refine lv_aload_n hx hb dX10_commuteWith_5 rfl (lv_at hl 2 rfl) ?_
      refine va_get (D := D) (ci := 7) (v := .ref h_s) (C := RX10) (T := TX10) (N := 14) hx hb hts hi_X10 hown hK hP 0 rfl rfl 0 (by decide) hf_7 (fun _ h9 => h9) rfl dX10_commuteWith_6 ?_
      refine lv_iconst (v := 0) hx hb dX10_commuteWith_9 (by decide) ?_
      refine va_iald hx hb hK hP 1 0 rfl rfl (by unfold vp_in; decide) dX10_commuteWith_10 ?_
      refine lv_icmp_ge (tgt := 43) hx hb dX10_commuteWith_11 (by decide) (fun c9 => ?_) (fun c9 => ?_)
      · have h0 := it_t c9 h0
        exact E_4_43_2 x3_4 x2_5 ls h0 hl
      · have h0 := it_f c9 h0
        refine lv_iload_n hx hb dX10_commuteWith_14 rfl (lv_at hl 1 rfl) ?_
        refine lv_aload_n hx hb dX10_commuteWith_15 rfl (lv_at hl 2 rfl) ?_
        refine lv_iload_n hx hb dX10_commuteWith_16 rfl (lv_at hl 3 rfl) ?_
        refine lv_iload_n hx hb dX10_commuteWith_17 rfl (lv_at hl 0 rfl) ?_
        obtain ⟨z_6, hz, h0⟩ := bd_ok h0
        refine ro_V (As := [.int p1, .int x3_4]) (rest := [.int x2_5]) (wc := [(h, .inr (7, [.ref h_s, .ref h_aside, .ref h_past, .int h_pasts, .ref h_snapshot, .int h_isKept, .ref h_pad, .int h_length, .ref h_steps, .int h_many, .int h_value, .ref h_summed, .ref h_plus, .ref h_parts])), (h_s, .inl (cI, 65, .inl h_s_f)), (h_aside, .inl (cI, 65, .inl h_aside_f)), (h_past, .inl (cI, 260, .inl h_past_f)), (h_snapshot, .inl (cI, 65, .inl h_snapshot_f)), (h_pad, .inl (cI, 80, .inl h_pad_f)), (h_steps, .inl (cI, 320, .inl h_steps_f)), (h_summed, .inl (cI, 81, .inl h_summed_f)), (h_plus, .inl (cI, 81, .inl h_plus_f)), (h_parts, .inl (cI, 392, .inl h_parts_f))]) hcf (kX10_plain l D cI cC cT h h_s h_aside h_past h_snapshot h_pad h_steps h_summed h_plus h_parts h_s_f h_aside_f h_past_f h_pasts h_snapshot_f h_isKept h_pad_f h_length h_steps_f h_many h_value h_summed_f h_plus_f h_parts_f p1 x3_4 z_6 hz) (cwV 2 hts gX10_commuteWith_X10_plain rfl rfl rfl (by decide +kernel) ⟨Nat.le_of_ble_eq_true rfl, Nat.le_of_ble_eq_true rfl⟩) hE (hP.sub [0, 1, 2, 3, 4, 5, 6, 7, 8, 9] rfl) (va_recv hK hP (ci := 7) (q0 := 0) rfl rfl) rfl hl.1 rfl (Nat.le_of_ble_eq_true rfl) dX10_commuteWith_18 ⟨Nat.le_of_ble_eq_true rfl, Nat.le_of_ble_eq_true rfl⟩ ?_
        refine W.eq (g2 := F0 m 21 ls [.int z_6, .int x2_5]) rfl ?_
        refine lv_aload_n hx hb dX10_commuteWith_21 rfl (lv_at hl 2 rfl) ?_
        refine lv_iload_n hx hb dX10_commuteWith_22 rfl (lv_at hl 0 rfl) ?_
        refine lv_iload_n hx hb dX10_commuteWith_23 rfl (lv_at hl 3 rfl) ?_
        obtain ⟨z_7, hz, h0⟩ := bd_ok h0
        refine ro_V (As := [.int x3_4, .int p1]) (rest := [.int z_6, .int x2_5]) (wc := [(h, .inr (7, [.ref h_s, .ref h_aside, .ref h_past, .int h_pasts, .ref h_snapshot, .int h_isKept, .ref h_pad, .int h_length, .ref h_steps, .int h_many, .int h_value, .ref h_summed, .ref h_plus, .ref h_parts])), (h_s, .inl (cI, 65, .inl h_s_f)), (h_aside, .inl (cI, 65, .inl h_aside_f)), (h_past, .inl (cI, 260, .inl h_past_f)), (h_snapshot, .inl (cI, 65, .inl h_snapshot_f)), (h_pad, .inl (cI, 80, .inl h_pad_f)), (h_steps, .inl (cI, 320, .inl h_steps_f)), (h_summed, .inl (cI, 81, .inl h_summed_f)), (h_plus, .inl (cI, 81, .inl h_plus_f)), (h_parts, .inl (cI, 392, .inl h_parts_f))]) hcf (kX10_plain l D cI cC cT h h_s h_aside h_past h_snapshot h_pad h_steps h_summed h_plus h_parts h_s_f h_aside_f h_past_f h_pasts h_snapshot_f h_isKept h_pad_f h_length h_steps_f h_many h_value h_summed_f h_plus_f h_parts_f x3_4 p1 z_7 hz) (cwV 2 hts gX10_commuteWith_X10_plain rfl rfl rfl (by decide +kernel) ⟨Nat.le_of_ble_eq_true rfl, Nat.le_of_ble_eq_true rfl⟩) hE (hP.sub [0, 1, 2, 3, 4, 5, 6, 7, 8, 9] rfl) (va_recv hK hP (ci := 7) (q0 := 0) rfl rfl) rfl hl.1 rfl (Nat.le_of_ble_eq_true rfl) dX10_commuteWith_24 ⟨Nat.le_of_ble_eq_true rfl, Nat.le_of_ble_eq_true rfl⟩ ?_
        refine W.eq (g2 := F0 m 27 ls [.int z_7, .int z_6, .int x2_5]) rfl ?_
        refine lv_icmp_ne (tgt := 34) hx hb dX10_commuteWith_27 (by decide) (fun c9 => ?_) (fun c9 => ?_)
        · have h0 := it_f c9 h0
          refine lv_iconst (v := 0) hx hb dX10_commuteWith_34 (by decide) ?_
          refine lv_iadd hx hb dX10_commuteWith_35 ?_
          refine lv_istore_n (lv' := [(2, .int (x2_5 + 0)), (3, .int x3_4), (0, .ref h), (1, .int p1)]) hx hb dX10_commuteWith_36 rfl hl (by decide) rfl (fun ls hl => ?_)
          refine lv_iinc (v := (x3_4 + 1)) (lv' := [(3, .int (x3_4 + 1)), (2, .int (x2_5 + 0)), (0, .ref h), (1, .int p1)]) hx hb dX10_commuteWith_37 hl (k := 1) rfl rfl (by decide) rfl (fun ls hl => ?_)
          refine lv_goto (tgt := 4) hx hb dX10_commuteWith_40 (by decide) ?_
          exact ih4 (x3_4 + 1) (x2_5 + 0) ls h0 hl
        · have h0 := it_t c9 h0
          refine lv_iconst (v := 1) hx hb dX10_commuteWith_30 (by decide) ?_
          refine lv_goto (tgt := 35) hx hb dX10_commuteWith_31 (by decide) ?_
          refine lv_iadd hx hb dX10_commuteWith_35 ?_
          refine lv_istore_n (lv' := [(2, .int (x2_5 + 1)), (3, .int x3_4), (0, .ref h), (1, .int p1)]) hx hb dX10_commuteWith_36 rfl hl (by decide) rfl (fun ls hl => ?_)
          refine lv_iinc (v := (x3_4 + 1)) (lv' := [(3, .int (x3_4 + 1)), (2, .int (x2_5 + 1)), (0, .ref h), (1, .int p1)]) hx hb dX10_commuteWith_37 hl (k := 1) rfl rfl (by decide) rfl (fun ls hl => ?_)
          refine lv_goto (tgt := 4) hx hb dX10_commuteWith_40 (by decide) ?_
          exact ih4 (x3_4 + 1) (x2_5 + 1) ls h0 hl
  exact L_4_7 FU 0 0 ls h0 hl
noncomputable def mX10_commute_L4 (h_s_f : Nat → Int32) (k4_28 : Int32 → Int32 → Option (Int32)) : Nat → Int32 → Int32 → Option (Int32)
  | 0, _, _ => none
  | F + 1, x2_4, x1_5 => if (h_s_f (0 : Int32).toNatClampNeg) ≤ x2_4 then (k4_28 x2_4 x1_5) else (bd (mX10_commuteWith h_s_f x2_4) (fun z_6 => mX10_commute_L4 h_s_f k4_28 F (x2_4 + 1) (x1_5 + z_6)))
noncomputable def mX10_commute (h_s_f : Nat → Int32) : Option (Int32) :=
  mX10_commute_L4 h_s_f (fun (x2_1 : Int32) (x1_2 : Int32) => some (x1_2)) FU 0 0
set_option maxHeartbeats 8000000 in
set_option maxRecDepth 100000 in
theorem kX10_commute (l : Launch) (D : va_G) (cI cC cT : ClassId) (h h_s h_aside h_past h_snapshot h_pad h_steps h_summed h_plus h_parts : Nat) (h_s_f : Nat → Int32) (h_aside_f : Nat → Int32) (h_past_f : Nat → Int32) (h_pasts : Int32) (h_snapshot_f : Nat → Int32) (h_isKept : Int32) (h_pad_f : Nat → Int32) (h_length : Int32) (h_steps_f : Nat → Int32) (h_many : Int32) (h_value : Int32) (h_summed_f : Nat → Int32) (h_plus_f : Nat → Int32) (h_parts_f : Nat → Int32) (z : Int32) (h0 : mX10_commute h_s_f = some z) : Met l yX10_commute wsX10_commute ({ frames := 3, cells := 0, slots := 0, locals := 66 } : Room) (va_Pc [.ref h] (rP D cI cC cT [(h, .inr (7, [.ref h_s, .ref h_aside, .ref h_past, .int h_pasts, .ref h_snapshot, .int h_isKept, .ref h_pad, .int h_length, .ref h_steps, .int h_many, .int h_value, .ref h_summed, .ref h_plus, .ref h_parts])), (h_s, .inl (cI, 65, .inl h_s_f)), (h_aside, .inl (cI, 65, .inl h_aside_f)), (h_past, .inl (cI, 260, .inl h_past_f)), (h_snapshot, .inl (cI, 65, .inl h_snapshot_f)), (h_pad, .inl (cI, 80, .inl h_pad_f)), (h_steps, .inl (cI, 320, .inl h_steps_f)), (h_summed, .inl (cI, 81, .inl h_summed_f)), (h_plus, .inl (cI, 81, .inl h_plus_f)), (h_parts, .inl (cI, 392, .inl h_parts_f))])) (rQ (some (.int z))) 0 0 (fun _ => False) := by
  refine Met.ofW (cc := cX10_commute) (maxL := 3) (ret := (some .int)) (by decide) rfl ?_
  intro p e s m args below meth c s₁ B hml hv
  obtain ⟨rfl, hP, hE⟩ := hv
  have hx := B.exec
  have hb := B.bytes
  have hr := B.returns
  have hts := atoms_spec (ws := wsX10_commute) B.pre
  have hown : s.vm.findClass RX10 = some m.cls := findClass_of_methodNamed B.named
  have hlocks := B.notSynchronized
  have hK := hE.1
  have hcf : CallFix p m c cX10_commute 3 s ([.ref h] : List Value).toArray wsX10_commute RX10 := ⟨hx, hb, hml, hown, hts⟩
  have hP : va_P D vwCl [(h, .inr (7, [.ref h_s, .ref h_aside, .ref h_past, .int h_pasts, .ref h_snapshot, .int h_isKept, .ref h_pad, .int h_length, .ref h_steps, .int h_many, .int h_value, .ref h_summed, .ref h_plus, .ref h_parts])), (h_s, .inl (cI, 65, .inl h_s_f)), (h_aside, .inl (cI, 65, .inl h_aside_f)), (h_past, .inl (cI, 260, .inl h_past_f)), (h_snapshot, .inl (cI, 65, .inl h_snapshot_f)), (h_pad, .inl (cI, 80, .inl h_pad_f)), (h_steps, .inl (cI, 320, .inl h_steps_f)), (h_summed, .inl (cI, 81, .inl h_summed_f)), (h_plus, .inl (cI, 81, .inl h_plus_f)), (h_parts, .inl (cI, 392, .inl h_parts_f))] s.heap := hP
  have hf_7 := hts (.fieldLink RX10 7 "CrookedSumsModel" "s" "[I") (by decide +kernel)
  have hi_X10 := (show ∀ w ∈ u_ws RX10 TX10 14, w ∈ wsX10_commute from by decide +kernel)
  have hl := lv_entry ([.ref h]) (n := 3) (Nat.le_of_ble_eq_true rfl)
  rw [lg_entry_eq]
  generalize (lg_sl ([.ref h]) ++ List.replicate (3 - (lg_sl ([.ref h])).length) Slot.unset).toArray = ls at hl ⊢
  have hl : lv_has ls 3 [(0, .ref h)] := hl
  unfold mX10_commute at h0
  refine lv_iconst (v := 0) hx hb dX10_commute_0 (by decide) ?_
  refine lv_istore_n (lv' := [(1, .int 0), (0, .ref h)]) hx hb dX10_commute_1 rfl hl (by decide) rfl (fun ls hl => ?_)
  refine lv_iconst (v := 0) hx hb dX10_commute_2 (by decide) ?_
  refine lv_istore_n (lv' := [(2, .int 0), (1, .int 0), (0, .ref h)]) hx hb dX10_commute_3 rfl hl (by decide) rfl (fun ls hl => ?_)
  have E_4_28_2 : ∀ (x2_1 : Int32) (x1_2 : Int32) (ls : Array Slot), (some (x1_2)) = some z → lv_has ls 3 [(2, .int x2_1), (1, .int x1_2), (0, .ref h)] → W p l e (headSpec wsX10_commute ({ frames := 3, cells := 0, slots := 0, locals := 66 } : Room)).room s m (([.ref h] : List Value).toArray) below meth c s.heap [] 0 0 (MQ below (rQ (some (.int z))) (([.ref h] : List Value).toArray) s 0 0 (fun _ => False)) (F0 m 28 ls []) := by
    intro x2_1 x1_2 ls h0 hl
    refine lv_iload_n hx hb dX10_commute_28 rfl (lv_at hl 1 rfl) ?_
    have e0 := Option.some.inj h0
    subst e0
    exact W.iret (v := x1_2) hx hb hr (fun t ht hW => ⟨rfl, ht⟩) (fun q hq => absurd hq List.not_mem_nil) dX10_commute_29
  have L_4_6 : ∀ (F4 : Nat) (x2_4 : Int32) (x1_5 : Int32) (ls : Array Slot), mX10_commute_L4 h_s_f (fun (x2_1 : Int32) (x1_2 : Int32) => some (x1_2)) F4 x2_4 x1_5 = some z → lv_has ls 3 [(2, .int x2_4), (1, .int x1_5), (0, .ref h)] → W p l e (headSpec wsX10_commute ({ frames := 3, cells := 0, slots := 0, locals := 66 } : Room)).room s m (([.ref h] : List Value).toArray) below meth c s.heap [] 0 0 (MQ below (rQ (some (.int z))) (([.ref h] : List Value).toArray) s 0 0 (fun _ => False)) (F0 m 4 ls []) := by
    intro F4
    induction F4 with
    | zero => intro x2_4 x1_5 ls h0 hl; cases h0
    | succ F4 ih4 =>
      intro x2_4 x1_5 ls h0 hl
      rw [mX10_commute_L4] at h0
      refine lv_iload_n hx hb dX10_commute_4 rfl (lv_at hl 0 rfl) ?_
      refine lv_aload_n hx hb dX10_commute_5 rfl (lv_at hl 2 rfl) ?_
      refine va_get (D := D) (ci := 7) (v := .ref h_s) (C := RX10) (T := TX10) (N := 14) hx hb hts hi_X10 hown hK hP 0 rfl rfl 0 (by decide) hf_7 (fun _ h9 => h9) rfl dX10_commute_6 ?_
      refine lv_iconst (v := 0) hx hb dX10_commute_9 (by decide) ?_
      refine va_iald hx hb hK hP 1 0 rfl rfl (by unfold vp_in; decide) dX10_commute_10 ?_
      refine lv_icmp_ge (tgt := 28) hx hb dX10_commute_11 (by decide) (fun c9 => ?_) (fun c9 => ?_)
      · have h0 := it_t c9 h0
        exact E_4_28_2 x2_4 x1_5 ls h0 hl
      · have h0 := it_f c9 h0
        refine lv_iload_n hx hb dX10_commute_14 rfl (lv_at hl 1 rfl) ?_
        refine lv_aload_n hx hb dX10_commute_15 rfl (lv_at hl 2 rfl) ?_
        refine lv_iload_n hx hb dX10_commute_16 rfl (lv_at hl 0 rfl) ?_
        obtain ⟨z_6, hz, h0⟩ := bd_ok h0
        refine ro_V (As := [.int x2_4]) (rest := [.int x1_5]) (wc := [(h, .inr (7, [.ref h_s, .ref h_aside, .ref h_past, .int h_pasts, .ref h_snapshot, .int h_isKept, .ref h_pad, .int h_length, .ref h_steps, .int h_many, .int h_value, .ref h_summed, .ref h_plus, .ref h_parts])), (h_s, .inl (cI, 65, .inl h_s_f)), (h_aside, .inl (cI, 65, .inl h_aside_f)), (h_past, .inl (cI, 260, .inl h_past_f)), (h_snapshot, .inl (cI, 65, .inl h_snapshot_f)), (h_pad, .inl (cI, 80, .inl h_pad_f)), (h_steps, .inl (cI, 320, .inl h_steps_f)), (h_summed, .inl (cI, 81, .inl h_summed_f)), (h_plus, .inl (cI, 81, .inl h_plus_f)), (h_parts, .inl (cI, 392, .inl h_parts_f))]) hcf (kX10_commuteWith l D cI cC cT h h_s h_aside h_past h_snapshot h_pad h_steps h_summed h_plus h_parts h_s_f h_aside_f h_past_f h_pasts h_snapshot_f h_isKept h_pad_f h_length h_steps_f h_many h_value h_summed_f h_plus_f h_parts_f x2_4 z_6 hz) (cwV 1 hts gX10_commute_X10_commuteWith rfl rfl rfl (by decide +kernel) ⟨Nat.le_of_ble_eq_true rfl, Nat.le_of_ble_eq_true rfl⟩) hE (hP.sub [0, 1, 2, 3, 4, 5, 6, 7, 8, 9] rfl) (va_recv hK hP (ci := 7) (q0 := 0) rfl rfl) rfl hl.1 rfl (Nat.le_of_ble_eq_true rfl) dX10_commute_17 ⟨Nat.le_of_ble_eq_true rfl, Nat.le_of_ble_eq_true rfl⟩ ?_
        refine W.eq (g2 := F0 m 20 ls [.int z_6, .int x1_5]) rfl ?_
        refine lv_iadd hx hb dX10_commute_20 ?_
        refine lv_istore_n (lv' := [(1, .int (x1_5 + z_6)), (2, .int x2_4), (0, .ref h)]) hx hb dX10_commute_21 rfl hl (by decide) rfl (fun ls hl => ?_)
        refine lv_iinc (v := (x2_4 + 1)) (lv' := [(2, .int (x2_4 + 1)), (1, .int (x1_5 + z_6)), (0, .ref h)]) hx hb dX10_commute_22 hl (k := 1) rfl rfl (by decide) rfl (fun ls hl => ?_)
        refine lv_goto (tgt := 4) hx hb dX10_commute_25 (by decide) ?_
        exact ih4 (x2_4 + 1) (x1_5 + z_6) ls h0 hl
  exact L_4_6 FU 0 0 ls h0 hl
noncomputable def mX10_isIdle_L5 (h_s_f : Nat → Int32) (p1 : Int32) (p2 : Int32) (k5_58 : Int32 → Int32 → Option (Int32)) : Nat → Int32 → Int32 → Option (Int32)
  | 0, _, _ => none
  | F + 1, x4_4, x3_5 => if (h_s_f (0 : Int32).toNatClampNeg) ≤ x4_4 then (k5_58 x4_4 x3_5) else (if x3_5 = 0 then (mX10_isIdle_L5 h_s_f p1 p2 k5_58 F (x4_4 + 1) 0) else (if p2 = 0 then (bd (mX10_plain h_s_f x4_4 p1) (fun z_6 => if z_6 = x4_4 then (mX10_isIdle_L5 h_s_f p1 p2 k5_58 F (x4_4 + 1) 1) else (mX10_isIdle_L5 h_s_f p1 p2 k5_58 F (x4_4 + 1) 0))) else (bd (mX10_plain h_s_f p1 x4_4) (fun z_7 => if z_7 = x4_4 then (mX10_isIdle_L5 h_s_f p1 p2 k5_58 F (x4_4 + 1) 1) else (mX10_isIdle_L5 h_s_f p1 p2 k5_58 F (x4_4 + 1) 0)))))
noncomputable def mX10_isIdle (h_s_f : Nat → Int32) (p1 : Int32) (p2 : Int32) : Option (Int32) :=
  mX10_isIdle_L5 h_s_f p1 p2 (fun (x4_1 : Int32) (x3_2 : Int32) => gd (nbz x3_2) (some (x3_2))) FU 0 1
set_option maxHeartbeats 8000000 in
set_option maxRecDepth 100000 in
theorem kX10_isIdle (l : Launch) (D : va_G) (cI cC cT : ClassId) (h h_s h_aside h_past h_snapshot h_pad h_steps h_summed h_plus h_parts : Nat) (h_s_f : Nat → Int32) (h_aside_f : Nat → Int32) (h_past_f : Nat → Int32) (h_pasts : Int32) (h_snapshot_f : Nat → Int32) (h_isKept : Int32) (h_pad_f : Nat → Int32) (h_length : Int32) (h_steps_f : Nat → Int32) (h_many : Int32) (h_value : Int32) (h_summed_f : Nat → Int32) (h_plus_f : Nat → Int32) (h_parts_f : Nat → Int32) (p1 : Int32) (p2 : Int32) (z : Int32) (h0 : mX10_isIdle h_s_f p1 p2 = some z) : Met l yX10_isIdle wsX10_isIdle ({ frames := 2, cells := 0, slots := 0, locals := 43 } : Room) (va_Pc [.ref h, .int p1, .int p2] (rP D cI cC cT [(h, .inr (7, [.ref h_s, .ref h_aside, .ref h_past, .int h_pasts, .ref h_snapshot, .int h_isKept, .ref h_pad, .int h_length, .ref h_steps, .int h_many, .int h_value, .ref h_summed, .ref h_plus, .ref h_parts])), (h_s, .inl (cI, 65, .inl h_s_f)), (h_aside, .inl (cI, 65, .inl h_aside_f)), (h_past, .inl (cI, 260, .inl h_past_f)), (h_snapshot, .inl (cI, 65, .inl h_snapshot_f)), (h_pad, .inl (cI, 80, .inl h_pad_f)), (h_steps, .inl (cI, 320, .inl h_steps_f)), (h_summed, .inl (cI, 81, .inl h_summed_f)), (h_plus, .inl (cI, 81, .inl h_plus_f)), (h_parts, .inl (cI, 392, .inl h_parts_f))])) (rQ (some (.int z))) 0 0 (fun _ => False) := by
  refine Met.ofW (cc := cX10_isIdle) (maxL := 5) (ret := (some .boolean)) (by decide) rfl ?_
  intro p e s m args below meth c s₁ B hml hv
  obtain ⟨rfl, hP, hE⟩ := hv
  have hx := B.exec
  have hb := B.bytes
  have hr := B.returns
  have hts := atoms_spec (ws := wsX10_isIdle) B.pre
  have hown : s.vm.findClass RX10 = some m.cls := findClass_of_methodNamed B.named
  have hlocks := B.notSynchronized
  have hK := hE.1
  have hcf : CallFix p m c cX10_isIdle 5 s ([.ref h, .int p1, .int p2] : List Value).toArray wsX10_isIdle RX10 := ⟨hx, hb, hml, hown, hts⟩
  have hP : va_P D vwCl [(h, .inr (7, [.ref h_s, .ref h_aside, .ref h_past, .int h_pasts, .ref h_snapshot, .int h_isKept, .ref h_pad, .int h_length, .ref h_steps, .int h_many, .int h_value, .ref h_summed, .ref h_plus, .ref h_parts])), (h_s, .inl (cI, 65, .inl h_s_f)), (h_aside, .inl (cI, 65, .inl h_aside_f)), (h_past, .inl (cI, 260, .inl h_past_f)), (h_snapshot, .inl (cI, 65, .inl h_snapshot_f)), (h_pad, .inl (cI, 80, .inl h_pad_f)), (h_steps, .inl (cI, 320, .inl h_steps_f)), (h_summed, .inl (cI, 81, .inl h_summed_f)), (h_plus, .inl (cI, 81, .inl h_plus_f)), (h_parts, .inl (cI, 392, .inl h_parts_f))] s.heap := hP
  have hf_7 := hts (.fieldLink RX10 7 "CrookedSumsModel" "s" "[I") (by decide +kernel)
  have hi_X10 := (show ∀ w ∈ u_ws RX10 TX10 14, w ∈ wsX10_isIdle from by decide +kernel)
  have hl := lv_entry ([.ref h, .int p1, .int p2]) (n := 5) (Nat.le_of_ble_eq_true rfl)
  rw [lg_entry_eq]
  generalize (lg_sl ([.ref h, .int p1, .int p2]) ++ List.replicate (5 - (lg_sl ([.ref h, .int p1, .int p2])).length) Slot.unset).toArray = ls at hl ⊢
  have hl : lv_has ls 5 [(0, .ref h), (1, .int p1), (2, .int p2)] := hl
  unfold mX10_isIdle at h0
  refine lv_iconst (v := 1) hx hb dX10_isIdle_0 (by decide) ?_
  refine lv_istore_n (lv' := [(3, .int 1), (0, .ref h), (1, .int p1), (2, .int p2)]) hx hb dX10_isIdle_1 rfl hl (by decide) rfl (fun ls hl => ?_)
  refine lv_iconst (v := 0) hx hb dX10_isIdle_2 (by decide) ?_
  refine lv_istore (lv' := [(4, .int 0), (3, .int 1), (0, .ref h), (1, .int p1), (2, .int p2)]) hx hb dX10_isIdle_3 hl (by decide) rfl (fun ls hl => ?_)
  have E_5_58_2 : ∀ (x4_1 : Int32) (x3_2 : Int32) (ls : Array Slot), (gd (nbz x3_2) (some (x3_2))) = some z → lv_has ls 5 [(4, .int x4_1), (3, .int x3_2), (0, .ref h), (1, .int p1), (2, .int p2)] → W p l e (headSpec wsX10_isIdle ({ frames := 2, cells := 0, slots := 0, locals := 43 } : Room)).room s m (([.ref h, .int p1, .int p2] : List Value).toArray) below meth c s.heap [] 0 0 (MQ below (rQ (some (.int z))) (([.ref h, .int p1, .int p2] : List Value).toArray) s 0 0 (fun _ => False)) (F0 m 58 ls []) := by
    intro x4_1 x3_2 ls h0 hl
    refine lv_iload_n hx hb dX10_isIdle_58 rfl (lv_at hl 1 rfl) ?_
    obtain ⟨g0, h0⟩ := gd_ok h0
    have e0 := Option.some.inj h0
    subst e0
    exact W.zret (ty := .boolean) (v := x3_2) hx hb hr (nbz_ok g0) (fun t ht hW => ⟨rfl, ht⟩) (fun q hq => absurd hq List.not_mem_nil) dX10_isIdle_59
  have L_5_7 : ∀ (F5 : Nat) (x4_4 : Int32) (x3_5 : Int32) (ls : Array Slot), mX10_isIdle_L5 h_s_f p1 p2 (fun (x4_1 : Int32) (x3_2 : Int32) => gd (nbz x3_2) (some (x3_2))) F5 x4_4 x3_5 = some z → lv_has ls 5 [(4, .int x4_4), (3, .int x3_5), (0, .ref h), (1, .int p1), (2, .int p2)] → W p l e (headSpec wsX10_isIdle ({ frames := 2, cells := 0, slots := 0, locals := 43 } : Room)).room s m (([.ref h, .int p1, .int p2] : List Value).toArray) below meth c s.heap [] 0 0 (MQ below (rQ (some (.int z))) (([.ref h, .int p1, .int p2] : List Value).toArray) s 0 0 (fun _ => False)) (F0 m 5 ls []) := by
    intro F5
    induction F5 with
    | zero => intro x4_4 x3_5 ls h0 hl; cases h0
    | succ F5 ih5 =>
      intro x4_4 x3_5 ls h0 hl
      rw [mX10_isIdle_L5] at h0
      refine lv_iload hx hb dX10_isIdle_5 (lv_at hl 0 rfl) ?_
      refine lv_aload_n hx hb dX10_isIdle_7 rfl (lv_at hl 2 rfl) ?_
      refine va_get (D := D) (ci := 7) (v := .ref h_s) (C := RX10) (T := TX10) (N := 14) hx hb hts hi_X10 hown hK hP 0 rfl rfl 0 (by decide) hf_7 (fun _ h9 => h9) rfl dX10_isIdle_8 ?_
      refine lv_iconst (v := 0) hx hb dX10_isIdle_11 (by decide) ?_
      refine va_iald hx hb hK hP 1 0 rfl rfl (by unfold vp_in; decide) dX10_isIdle_12 ?_
      refine lv_icmp_ge (tgt := 58) hx hb dX10_isIdle_13 (by decide) (fun c9 => ?_) (fun c9 => ?_)
      · have h0 := it_t c9 h0
        exact E_5_58_2 x4_4 x3_5 ls h0 hl
      · have h0 := it_f c9 h0
        refine lv_iload_n hx hb dX10_isIdle_16 rfl (lv_at hl 1 rfl) ?_
        refine lv_if_eq (tgt := 50) hx hb dX10_isIdle_17 (by decide) (fun c9 => ?_) (fun c9 => ?_)
        · have h0 := it_t c9 h0
          refine lv_iconst (v := 0) hx hb dX10_isIdle_50 (by decide) ?_
          refine lv_istore_n (lv' := [(3, .int 0), (4, .int x4_4), (0, .ref h), (1, .int p1), (2, .int p2)]) hx hb dX10_isIdle_51 rfl hl (by decide) rfl (fun ls hl => ?_)
          refine lv_iinc (v := (x4_4 + 1)) (lv' := [(4, .int (x4_4 + 1)), (3, .int 0), (0, .ref h), (1, .int p1), (2, .int p2)]) hx hb dX10_isIdle_52 hl (k := 1) rfl rfl (by decide) rfl (fun ls hl => ?_)
          refine lv_goto (tgt := 5) hx hb dX10_isIdle_55 (by decide) ?_
          exact ih5 (x4_4 + 1) 0 ls h0 hl
        · have h0 := it_f c9 h0
          refine lv_iload_n hx hb dX10_isIdle_20 rfl (lv_at hl 4 rfl) ?_
          refine lv_if_eq (tgt := 34) hx hb dX10_isIdle_21 (by decide) (fun c9 => ?_) (fun c9 => ?_)
          · have h0 := it_t c9 h0
            refine lv_aload_n hx hb dX10_isIdle_34 rfl (lv_at hl 2 rfl) ?_
            refine lv_iload hx hb dX10_isIdle_35 (lv_at hl 0 rfl) ?_
            refine lv_iload_n hx hb dX10_isIdle_37 rfl (lv_at hl 3 rfl) ?_
            obtain ⟨z_6, hz, h0⟩ := bd_ok h0
            refine ro_V (As := [.int x4_4, .int p1]) (rest := []) (wc := [(h, .inr (7, [.ref h_s, .ref h_aside, .ref h_past, .int h_pasts, .ref h_snapshot, .int h_isKept, .ref h_pad, .int h_length, .ref h_steps, .int h_many, .int h_value, .ref h_summed, .ref h_plus, .ref h_parts])), (h_s, .inl (cI, 65, .inl h_s_f)), (h_aside, .inl (cI, 65, .inl h_aside_f)), (h_past, .inl (cI, 260, .inl h_past_f)), (h_snapshot, .inl (cI, 65, .inl h_snapshot_f)), (h_pad, .inl (cI, 80, .inl h_pad_f)), (h_steps, .inl (cI, 320, .inl h_steps_f)), (h_summed, .inl (cI, 81, .inl h_summed_f)), (h_plus, .inl (cI, 81, .inl h_plus_f)), (h_parts, .inl (cI, 392, .inl h_parts_f))]) hcf (kX10_plain l D cI cC cT h h_s h_aside h_past h_snapshot h_pad h_steps h_summed h_plus h_parts h_s_f h_aside_f h_past_f h_pasts h_snapshot_f h_isKept h_pad_f h_length h_steps_f h_many h_value h_summed_f h_plus_f h_parts_f x4_4 p1 z_6 hz) (cwV 2 hts gX10_isIdle_X10_plain rfl rfl rfl (by decide +kernel) ⟨Nat.le_of_ble_eq_true rfl, Nat.le_of_ble_eq_true rfl⟩) hE (hP.sub [0, 1, 2, 3, 4, 5, 6, 7, 8, 9] rfl) (va_recv hK hP (ci := 7) (q0 := 0) rfl rfl) rfl hl.1 rfl (Nat.le_of_ble_eq_true rfl) dX10_isIdle_38 ⟨Nat.le_of_ble_eq_true rfl, Nat.le_of_ble_eq_true rfl⟩ ?_
            refine W.eq (g2 := F0 m 41 ls [.int z_6]) rfl ?_
            refine lv_iload hx hb dX10_isIdle_41 (lv_at hl 0 rfl) ?_
            refine lv_icmp_ne (tgt := 50) hx hb dX10_isIdle_43 (by decide) (fun c9 => ?_) (fun c9 => ?_)
            · have h0 := it_f c9 h0
              refine lv_iconst (v := 0) hx hb dX10_isIdle_50 (by decide) ?_
              refine lv_istore_n (lv' := [(3, .int 0), (4, .int x4_4), (0, .ref h), (1, .int p1), (2, .int p2)]) hx hb dX10_isIdle_51 rfl hl (by decide) rfl (fun ls hl => ?_)
              refine lv_iinc (v := (x4_4 + 1)) (lv' := [(4, .int (x4_4 + 1)), (3, .int 0), (0, .ref h), (1, .int p1), (2, .int p2)]) hx hb dX10_isIdle_52 hl (k := 1) rfl rfl (by decide) rfl (fun ls hl => ?_)
              refine lv_goto (tgt := 5) hx hb dX10_isIdle_55 (by decide) ?_
              exact ih5 (x4_4 + 1) 0 ls h0 hl
            · have h0 := it_t c9 h0
              refine lv_iconst (v := 1) hx hb dX10_isIdle_46 (by decide) ?_
              refine lv_goto (tgt := 51) hx hb dX10_isIdle_47 (by decide) ?_
              refine lv_istore_n (lv' := [(3, .int 1), (4, .int x4_4), (0, .ref h), (1, .int p1), (2, .int p2)]) hx hb dX10_isIdle_51 rfl hl (by decide) rfl (fun ls hl => ?_)
              refine lv_iinc (v := (x4_4 + 1)) (lv' := [(4, .int (x4_4 + 1)), (3, .int 1), (0, .ref h), (1, .int p1), (2, .int p2)]) hx hb dX10_isIdle_52 hl (k := 1) rfl rfl (by decide) rfl (fun ls hl => ?_)
              refine lv_goto (tgt := 5) hx hb dX10_isIdle_55 (by decide) ?_
              exact ih5 (x4_4 + 1) 1 ls h0 hl
          · have h0 := it_f c9 h0
            refine lv_aload_n hx hb dX10_isIdle_24 rfl (lv_at hl 2 rfl) ?_
            refine lv_iload_n hx hb dX10_isIdle_25 rfl (lv_at hl 3 rfl) ?_
            refine lv_iload hx hb dX10_isIdle_26 (lv_at hl 0 rfl) ?_
            obtain ⟨z_7, hz, h0⟩ := bd_ok h0
            refine ro_V (As := [.int p1, .int x4_4]) (rest := []) (wc := [(h, .inr (7, [.ref h_s, .ref h_aside, .ref h_past, .int h_pasts, .ref h_snapshot, .int h_isKept, .ref h_pad, .int h_length, .ref h_steps, .int h_many, .int h_value, .ref h_summed, .ref h_plus, .ref h_parts])), (h_s, .inl (cI, 65, .inl h_s_f)), (h_aside, .inl (cI, 65, .inl h_aside_f)), (h_past, .inl (cI, 260, .inl h_past_f)), (h_snapshot, .inl (cI, 65, .inl h_snapshot_f)), (h_pad, .inl (cI, 80, .inl h_pad_f)), (h_steps, .inl (cI, 320, .inl h_steps_f)), (h_summed, .inl (cI, 81, .inl h_summed_f)), (h_plus, .inl (cI, 81, .inl h_plus_f)), (h_parts, .inl (cI, 392, .inl h_parts_f))]) hcf (kX10_plain l D cI cC cT h h_s h_aside h_past h_snapshot h_pad h_steps h_summed h_plus h_parts h_s_f h_aside_f h_past_f h_pasts h_snapshot_f h_isKept h_pad_f h_length h_steps_f h_many h_value h_summed_f h_plus_f h_parts_f p1 x4_4 z_7 hz) (cwV 2 hts gX10_isIdle_X10_plain rfl rfl rfl (by decide +kernel) ⟨Nat.le_of_ble_eq_true rfl, Nat.le_of_ble_eq_true rfl⟩) hE (hP.sub [0, 1, 2, 3, 4, 5, 6, 7, 8, 9] rfl) (va_recv hK hP (ci := 7) (q0 := 0) rfl rfl) rfl hl.1 rfl (Nat.le_of_ble_eq_true rfl) dX10_isIdle_28 ⟨Nat.le_of_ble_eq_true rfl, Nat.le_of_ble_eq_true rfl⟩ ?_
            refine W.eq (g2 := F0 m 31 ls [.int z_7]) rfl ?_
            refine lv_goto (tgt := 41) hx hb dX10_isIdle_31 (by decide) ?_
            refine lv_iload hx hb dX10_isIdle_41 (lv_at hl 0 rfl) ?_
            refine lv_icmp_ne (tgt := 50) hx hb dX10_isIdle_43 (by decide) (fun c9 => ?_) (fun c9 => ?_)
            · have h0 := it_f c9 h0
              refine lv_iconst (v := 0) hx hb dX10_isIdle_50 (by decide) ?_
              refine lv_istore_n (lv' := [(3, .int 0), (4, .int x4_4), (0, .ref h), (1, .int p1), (2, .int p2)]) hx hb dX10_isIdle_51 rfl hl (by decide) rfl (fun ls hl => ?_)
              refine lv_iinc (v := (x4_4 + 1)) (lv' := [(4, .int (x4_4 + 1)), (3, .int 0), (0, .ref h), (1, .int p1), (2, .int p2)]) hx hb dX10_isIdle_52 hl (k := 1) rfl rfl (by decide) rfl (fun ls hl => ?_)
              refine lv_goto (tgt := 5) hx hb dX10_isIdle_55 (by decide) ?_
              exact ih5 (x4_4 + 1) 0 ls h0 hl
            · have h0 := it_t c9 h0
              refine lv_iconst (v := 1) hx hb dX10_isIdle_46 (by decide) ?_
              refine lv_goto (tgt := 51) hx hb dX10_isIdle_47 (by decide) ?_
              refine lv_istore_n (lv' := [(3, .int 1), (4, .int x4_4), (0, .ref h), (1, .int p1), (2, .int p2)]) hx hb dX10_isIdle_51 rfl hl (by decide) rfl (fun ls hl => ?_)
              refine lv_iinc (v := (x4_4 + 1)) (lv' := [(4, .int (x4_4 + 1)), (3, .int 1), (0, .ref h), (1, .int p1), (2, .int p2)]) hx hb dX10_isIdle_52 hl (k := 1) rfl rfl (by decide) rfl (fun ls hl => ?_)
              refine lv_goto (tgt := 5) hx hb dX10_isIdle_55 (by decide) ?_
              exact ih5 (x4_4 + 1) 1 ls h0 hl
  exact L_5_7 FU 0 1 ls h0 hl
noncomputable def mX10_idle_L5 (h_s_f : Nat → Int32) (p1 : Int32) (k5_36 : Int32 → Int32 → Option (Int32)) : Nat → Int32 → Int32 → Option (Int32)
  | 0, _, _ => none
  | F + 1, x3_4, x2_5 => if (h_s_f (0 : Int32).toNatClampNeg) ≤ x3_4 then (k5_36 x3_4 x2_5) else (bd (mX10_isIdle h_s_f x3_4 p1) (fun z_6 => if z_6 = 0 then (mX10_idle_L5 h_s_f p1 k5_36 F (x3_4 + 1) x2_5) else (mX10_idle_L5 h_s_f p1 k5_36 F (x3_4 + 1) x3_4)))
noncomputable def mX10_idle (h_s_f : Nat → Int32) (p1 : Int32) : Option (Int32) :=
  mX10_idle_L5 h_s_f p1 (fun (x3_1 : Int32) (x2_2 : Int32) => some (x2_2)) FU 0 (-4)
set_option maxHeartbeats 8000000 in
set_option maxRecDepth 100000 in
theorem kX10_idle (l : Launch) (D : va_G) (cI cC cT : ClassId) (h h_s h_aside h_past h_snapshot h_pad h_steps h_summed h_plus h_parts : Nat) (h_s_f : Nat → Int32) (h_aside_f : Nat → Int32) (h_past_f : Nat → Int32) (h_pasts : Int32) (h_snapshot_f : Nat → Int32) (h_isKept : Int32) (h_pad_f : Nat → Int32) (h_length : Int32) (h_steps_f : Nat → Int32) (h_many : Int32) (h_value : Int32) (h_summed_f : Nat → Int32) (h_plus_f : Nat → Int32) (h_parts_f : Nat → Int32) (p1 : Int32) (z : Int32) (h0 : mX10_idle h_s_f p1 = some z) : Met l yX10_idle wsX10_idle ({ frames := 3, cells := 0, slots := 0, locals := 67 } : Room) (va_Pc [.ref h, .int p1] (rP D cI cC cT [(h, .inr (7, [.ref h_s, .ref h_aside, .ref h_past, .int h_pasts, .ref h_snapshot, .int h_isKept, .ref h_pad, .int h_length, .ref h_steps, .int h_many, .int h_value, .ref h_summed, .ref h_plus, .ref h_parts])), (h_s, .inl (cI, 65, .inl h_s_f)), (h_aside, .inl (cI, 65, .inl h_aside_f)), (h_past, .inl (cI, 260, .inl h_past_f)), (h_snapshot, .inl (cI, 65, .inl h_snapshot_f)), (h_pad, .inl (cI, 80, .inl h_pad_f)), (h_steps, .inl (cI, 320, .inl h_steps_f)), (h_summed, .inl (cI, 81, .inl h_summed_f)), (h_plus, .inl (cI, 81, .inl h_plus_f)), (h_parts, .inl (cI, 392, .inl h_parts_f))])) (rQ (some (.int z))) 0 0 (fun _ => False) := by
  refine Met.ofW (cc := cX10_idle) (maxL := 4) (ret := (some .int)) (by decide) rfl ?_
  intro p e s m args below meth c s₁ B hml hv
  obtain ⟨rfl, hP, hE⟩ := hv
  have hx := B.exec
  have hb := B.bytes
  have hr := B.returns
  have hts := atoms_spec (ws := wsX10_idle) B.pre
  have hown : s.vm.findClass RX10 = some m.cls := findClass_of_methodNamed B.named
  have hlocks := B.notSynchronized
  have hK := hE.1
  have hcf : CallFix p m c cX10_idle 4 s ([.ref h, .int p1] : List Value).toArray wsX10_idle RX10 := ⟨hx, hb, hml, hown, hts⟩
  have hP : va_P D vwCl [(h, .inr (7, [.ref h_s, .ref h_aside, .ref h_past, .int h_pasts, .ref h_snapshot, .int h_isKept, .ref h_pad, .int h_length, .ref h_steps, .int h_many, .int h_value, .ref h_summed, .ref h_plus, .ref h_parts])), (h_s, .inl (cI, 65, .inl h_s_f)), (h_aside, .inl (cI, 65, .inl h_aside_f)), (h_past, .inl (cI, 260, .inl h_past_f)), (h_snapshot, .inl (cI, 65, .inl h_snapshot_f)), (h_pad, .inl (cI, 80, .inl h_pad_f)), (h_steps, .inl (cI, 320, .inl h_steps_f)), (h_summed, .inl (cI, 81, .inl h_summed_f)), (h_plus, .inl (cI, 81, .inl h_plus_f)), (h_parts, .inl (cI, 392, .inl h_parts_f))] s.heap := hP
  have hf_7 := hts (.fieldLink RX10 7 "CrookedSumsModel" "s" "[I") (by decide +kernel)
  have hi_X10 := (show ∀ w ∈ u_ws RX10 TX10 14, w ∈ wsX10_idle from by decide +kernel)
  have hl := lv_entry ([.ref h, .int p1]) (n := 4) (Nat.le_of_ble_eq_true rfl)
  rw [lg_entry_eq]
  generalize (lg_sl ([.ref h, .int p1]) ++ List.replicate (4 - (lg_sl ([.ref h, .int p1])).length) Slot.unset).toArray = ls at hl ⊢
  have hl : lv_has ls 4 [(0, .ref h), (1, .int p1)] := hl
  unfold mX10_idle at h0
  refine lv_bipush (v := (-4)) hx hb dX10_idle_0 (by decide) ?_
  refine lv_istore_n (lv' := [(2, .int (-4)), (0, .ref h), (1, .int p1)]) hx hb dX10_idle_2 rfl hl (by decide) rfl (fun ls hl => ?_)
  refine lv_iconst (v := 0) hx hb dX10_idle_3 (by decide) ?_
  refine lv_istore_n (lv' := [(3, .int 0), (2, .int (-4)), (0, .ref h), (1, .int p1)]) hx hb dX10_idle_4 rfl hl (by decide) rfl (fun ls hl => ?_)
  have E_5_36_2 : ∀ (x3_1 : Int32) (x2_2 : Int32) (ls : Array Slot), (some (x2_2)) = some z → lv_has ls 4 [(3, .int x3_1), (2, .int x2_2), (0, .ref h), (1, .int p1)] → W p l e (headSpec wsX10_idle ({ frames := 3, cells := 0, slots := 0, locals := 67 } : Room)).room s m (([.ref h, .int p1] : List Value).toArray) below meth c s.heap [] 0 0 (MQ below (rQ (some (.int z))) (([.ref h, .int p1] : List Value).toArray) s 0 0 (fun _ => False)) (F0 m 36 ls []) := by
    intro x3_1 x2_2 ls h0 hl
    refine lv_iload_n hx hb dX10_idle_36 rfl (lv_at hl 1 rfl) ?_
    have e0 := Option.some.inj h0
    subst e0
    exact W.iret (v := x2_2) hx hb hr (fun t ht hW => ⟨rfl, ht⟩) (fun q hq => absurd hq List.not_mem_nil) dX10_idle_37
  have L_5_6 : ∀ (F5 : Nat) (x3_4 : Int32) (x2_5 : Int32) (ls : Array Slot), mX10_idle_L5 h_s_f p1 (fun (x3_1 : Int32) (x2_2 : Int32) => some (x2_2)) F5 x3_4 x2_5 = some z → lv_has ls 4 [(3, .int x3_4), (2, .int x2_5), (0, .ref h), (1, .int p1)] → W p l e (headSpec wsX10_idle ({ frames := 3, cells := 0, slots := 0, locals := 67 } : Room)).room s m (([.ref h, .int p1] : List Value).toArray) below meth c s.heap [] 0 0 (MQ below (rQ (some (.int z))) (([.ref h, .int p1] : List Value).toArray) s 0 0 (fun _ => False)) (F0 m 5 ls []) := by
    intro F5
    induction F5 with
    | zero => intro x3_4 x2_5 ls h0 hl; cases h0
    | succ F5 ih5 =>
      intro x3_4 x2_5 ls h0 hl
      rw [mX10_idle_L5] at h0
      refine lv_iload_n hx hb dX10_idle_5 rfl (lv_at hl 0 rfl) ?_
      refine lv_aload_n hx hb dX10_idle_6 rfl (lv_at hl 2 rfl) ?_
      refine va_get (D := D) (ci := 7) (v := .ref h_s) (C := RX10) (T := TX10) (N := 14) hx hb hts hi_X10 hown hK hP 0 rfl rfl 0 (by decide) hf_7 (fun _ h9 => h9) rfl dX10_idle_7 ?_
      refine lv_iconst (v := 0) hx hb dX10_idle_10 (by decide) ?_
      refine va_iald hx hb hK hP 1 0 rfl rfl (by unfold vp_in; decide) dX10_idle_11 ?_
      refine lv_icmp_ge (tgt := 36) hx hb dX10_idle_12 (by decide) (fun c9 => ?_) (fun c9 => ?_)
      · have h0 := it_t c9 h0
        exact E_5_36_2 x3_4 x2_5 ls h0 hl
      · have h0 := it_f c9 h0
        refine lv_aload_n hx hb dX10_idle_15 rfl (lv_at hl 2 rfl) ?_
        refine lv_iload_n hx hb dX10_idle_16 rfl (lv_at hl 0 rfl) ?_
        refine lv_iload_n hx hb dX10_idle_17 rfl (lv_at hl 3 rfl) ?_
        obtain ⟨z_6, hz, h0⟩ := bd_ok h0
        refine ro_V (As := [.int x3_4, .int p1]) (rest := []) (wc := [(h, .inr (7, [.ref h_s, .ref h_aside, .ref h_past, .int h_pasts, .ref h_snapshot, .int h_isKept, .ref h_pad, .int h_length, .ref h_steps, .int h_many, .int h_value, .ref h_summed, .ref h_plus, .ref h_parts])), (h_s, .inl (cI, 65, .inl h_s_f)), (h_aside, .inl (cI, 65, .inl h_aside_f)), (h_past, .inl (cI, 260, .inl h_past_f)), (h_snapshot, .inl (cI, 65, .inl h_snapshot_f)), (h_pad, .inl (cI, 80, .inl h_pad_f)), (h_steps, .inl (cI, 320, .inl h_steps_f)), (h_summed, .inl (cI, 81, .inl h_summed_f)), (h_plus, .inl (cI, 81, .inl h_plus_f)), (h_parts, .inl (cI, 392, .inl h_parts_f))]) hcf (kX10_isIdle l D cI cC cT h h_s h_aside h_past h_snapshot h_pad h_steps h_summed h_plus h_parts h_s_f h_aside_f h_past_f h_pasts h_snapshot_f h_isKept h_pad_f h_length h_steps_f h_many h_value h_summed_f h_plus_f h_parts_f x3_4 p1 z_6 hz) (cwV 2 hts gX10_idle_X10_isIdle rfl rfl rfl (by decide +kernel) ⟨Nat.le_of_ble_eq_true rfl, Nat.le_of_ble_eq_true rfl⟩) hE (hP.sub [0, 1, 2, 3, 4, 5, 6, 7, 8, 9] rfl) (va_recv hK hP (ci := 7) (q0 := 0) rfl rfl) rfl hl.1 rfl (Nat.le_of_ble_eq_true rfl) dX10_idle_18 ⟨Nat.le_of_ble_eq_true rfl, Nat.le_of_ble_eq_true rfl⟩ ?_
        refine W.eq (g2 := F0 m 21 ls [.int z_6]) rfl ?_
        refine lv_if_eq (tgt := 28) hx hb dX10_idle_21 (by decide) (fun c9 => ?_) (fun c9 => ?_)
        · have h0 := it_t c9 h0
          refine lv_iload_n hx hb dX10_idle_28 rfl (lv_at hl 1 rfl) ?_
          refine lv_istore_n (lv' := [(2, .int x2_5), (3, .int x3_4), (0, .ref h), (1, .int p1)]) hx hb dX10_idle_29 rfl hl (by decide) rfl (fun ls hl => ?_)
          refine lv_iinc (v := (x3_4 + 1)) (lv' := [(3, .int (x3_4 + 1)), (2, .int x2_5), (0, .ref h), (1, .int p1)]) hx hb dX10_idle_30 hl (k := 1) rfl rfl (by decide) rfl (fun ls hl => ?_)
          refine lv_goto (tgt := 5) hx hb dX10_idle_33 (by decide) ?_
          exact ih5 (x3_4 + 1) x2_5 ls h0 hl
        · have h0 := it_f c9 h0
          refine lv_iload_n hx hb dX10_idle_24 rfl (lv_at hl 0 rfl) ?_
          refine lv_goto (tgt := 29) hx hb dX10_idle_25 (by decide) ?_
          refine lv_istore_n (lv' := [(2, .int x3_4), (3, .int x3_4), (0, .ref h), (1, .int p1)]) hx hb dX10_idle_29 rfl hl (by decide) rfl (fun ls hl => ?_)
          refine lv_iinc (v := (x3_4 + 1)) (lv' := [(3, .int (x3_4 + 1)), (2, .int x3_4), (0, .ref h), (1, .int p1)]) hx hb dX10_idle_30 hl (k := 1) rfl rfl (by decide) rfl (fun ls hl => ?_)
          refine lv_goto (tgt := 5) hx hb dX10_idle_33 (by decide) ?_
          exact ih5 (x3_4 + 1) x3_4 ls h0 hl
  exact L_5_6 FU 0 (-4) ls h0 hl
noncomputable def mX10_names_L17 (p1 : Int32) (p2 : Int32) (k17_105 : Int32 → (Nat → Int32) → Option (Int32 × (Nat → Int32) × (Nat → Int32) × (Nat → Int32) × Int32)) : Nat → Int32 → (Nat → Int32) → Option (Int32 × (Nat → Int32) × (Nat → Int32) × (Nat → Int32) × Int32)
  | 0, _, _ => none
  | F + 1, x3_7, f_8 => if ((f_8 (0 : Int32).toNatClampNeg) * (f_8 (0 : Int32).toNatClampNeg)) ≤ x3_7 then (k17_105 x3_7 f_8) else (gd (nzb (f_8 (0 : Int32).toNatClampNeg)) (gd (nzb (f_8 (0 : Int32).toNatClampNeg)) (bd (mX10_at (x3_7 / (f_8 (0 : Int32).toNatClampNeg)) (x3_7 - x3_7 / (f_8 (0 : Int32).toNatClampNeg) * (f_8 (0 : Int32).toNatClampNeg))) (fun z_9 => gd (inb z_9 65) (if (f_8 (z_9 : Int32).toNatClampNeg) = p1 then (gd (inb z_9 65) (mX10_names_L17 p1 p2 k17_105 F (x3_7 + 1) (upd f_8 (z_9 : Int32).toNatClampNeg p2))) else (gd (inb z_9 65) (if (f_8 (z_9 : Int32).toNatClampNeg) = p2 then (gd (inb z_9 65) (mX10_names_L17 p1 p2 k17_105 F (x3_7 + 1) (upd f_8 (z_9 : Int32).toNatClampNeg p1))) else (gd (inb z_9 65) (gd (inb z_9 65) (mX10_names_L17 p1 p2 k17_105 F (x3_7 + 1) (upd f_8 (z_9 : Int32).toNatClampNeg (f_8 (z_9 : Int32).toNatClampNeg))))))))))))
noncomputable def mX10_names (h_s_f : Nat → Int32) (h_aside_f : Nat → Int32) (h_past_f : Nat → Int32) (h_pasts : Int32) (p1 : Int32) (p2 : Int32) : Option (Int32 × (Nat → Int32) × (Nat → Int32) × (Nat → Int32) × Int32) :=
  bd (mX10_isPair h_s_f p1 p2) (fun z_1 => if z_1 = 0 then (some ((-1), h_s_f, h_aside_f, h_past_f, h_pasts)) else (bd (mX10_records h_s_f h_aside_f h_past_f h_pasts) (fun z_2 => mX10_names_L17 p1 p2 (fun (x3_3 : Int32) (f_4 : Nat → Int32) => bd (mX10_others f_4 z_2.1) (fun z_5 => some (z_5, f_4, z_2.1, z_2.2.1, z_2.2.2))) FU 0 h_s_f)))
set_option maxHeartbeats 8000000 in
set_option maxRecDepth 100000 in
theorem kX10_names (l : Launch) (D : va_G) (cI cC cT : ClassId) (h h_s h_aside h_past h_snapshot h_pad h_steps h_summed h_plus h_parts : Nat) (h_s_f : Nat → Int32) (h_aside_f : Nat → Int32) (h_past_f : Nat → Int32) (h_pasts : Int32) (h_snapshot_f : Nat → Int32) (h_isKept : Int32) (h_pad_f : Nat → Int32) (h_length : Int32) (h_steps_f : Nat → Int32) (h_many : Int32) (h_value : Int32) (h_summed_f : Nat → Int32) (h_plus_f : Nat → Int32) (h_parts_f : Nat → Int32) (p1 : Int32) (p2 : Int32) (sz : Nat) (z : Int32 × (Nat → Int32) × (Nat → Int32) × (Nat → Int32) × Int32) (h0 : mX10_names h_s_f h_aside_f h_past_f h_pasts p1 p2 = some z) : Met l yX10_names wsX10_names ({ frames := 3, cells := 0, slots := 0, locals := 65 } : Room) (va_Pc [.ref h, .int p1, .int p2] (wP D cI cC cT [(h, .inr (7, [.ref h_s, .ref h_aside, .ref h_past, .int h_pasts, .ref h_snapshot, .int h_isKept, .ref h_pad, .int h_length, .ref h_steps, .int h_many, .int h_value, .ref h_summed, .ref h_plus, .ref h_parts])), (h_s, .inl (cI, 65, .inl h_s_f)), (h_aside, .inl (cI, 65, .inl h_aside_f)), (h_past, .inl (cI, 260, .inl h_past_f)), (h_snapshot, .inl (cI, 65, .inl h_snapshot_f)), (h_pad, .inl (cI, 80, .inl h_pad_f)), (h_steps, .inl (cI, 320, .inl h_steps_f)), (h_summed, .inl (cI, 81, .inl h_summed_f)), (h_plus, .inl (cI, 81, .inl h_plus_f)), (h_parts, .inl (cI, 392, .inl h_parts_f))] sz)) (wQ D (some (.int z.1)) (va_A [(h, .inr (7, [.ref h_s, .ref h_aside, .ref h_past, .int h_pasts, .ref h_snapshot, .int h_isKept, .ref h_pad, .int h_length, .ref h_steps, .int h_many, .int h_value, .ref h_summed, .ref h_plus, .ref h_parts])), (h_s, .inl (cI, 65, .inl h_s_f)), (h_aside, .inl (cI, 65, .inl h_aside_f)), (h_past, .inl (cI, 260, .inl h_past_f)), (h_snapshot, .inl (cI, 65, .inl h_snapshot_f)), (h_pad, .inl (cI, 80, .inl h_pad_f)), (h_steps, .inl (cI, 320, .inl h_steps_f)), (h_summed, .inl (cI, 81, .inl h_summed_f)), (h_plus, .inl (cI, 81, .inl h_plus_f)), (h_parts, .inl (cI, 392, .inl h_parts_f))] sz) (fun (u : Unit) => [(h, .inr (7, [.ref h_s, .ref h_aside, .ref h_past, .int z.2.2.2.2, .ref h_snapshot, .int h_isKept, .ref h_pad, .int h_length, .ref h_steps, .int h_many, .int h_value, .ref h_summed, .ref h_plus, .ref h_parts])), (h_s, .inl (cI, 65, .inl z.2.1)), (h_aside, .inl (cI, 65, .inl z.2.2.1)), (h_past, .inl (cI, 260, .inl z.2.2.2.1)), (h_snapshot, .inl (cI, 65, .inl h_snapshot_f)), (h_pad, .inl (cI, 80, .inl h_pad_f)), (h_steps, .inl (cI, 320, .inl h_steps_f)), (h_summed, .inl (cI, 81, .inl h_summed_f)), (h_plus, .inl (cI, 81, .inl h_plus_f)), (h_parts, .inl (cI, 392, .inl h_parts_f))])) 0 0 (va_A [(h, .inr (7, [.ref h_s, .ref h_aside, .ref h_past, .int h_pasts, .ref h_snapshot, .int h_isKept, .ref h_pad, .int h_length, .ref h_steps, .int h_many, .int h_value, .ref h_summed, .ref h_plus, .ref h_parts])), (h_s, .inl (cI, 65, .inl h_s_f)), (h_aside, .inl (cI, 65, .inl h_aside_f)), (h_past, .inl (cI, 260, .inl h_past_f)), (h_snapshot, .inl (cI, 65, .inl h_snapshot_f)), (h_pad, .inl (cI, 80, .inl h_pad_f)), (h_steps, .inl (cI, 320, .inl h_steps_f)), (h_summed, .inl (cI, 81, .inl h_summed_f)), (h_plus, .inl (cI, 81, .inl h_plus_f)), (h_parts, .inl (cI, 392, .inl h_parts_f))] sz) := by
  refine Met.ofW (cc := cX10_names) (maxL := 5) (ret := (some .int)) (by decide) rfl ?_
  intro p e s m args below meth c s₁ B hml hv
  obtain ⟨rfl, hsz, hP, hE, hD0⟩ := hv
  have hx := B.exec
  have hb := B.bytes
  have hr := B.returns
  have hts := atoms_spec (ws := wsX10_names) B.pre
  have hown : s.vm.findClass RX10 = some m.cls := findClass_of_methodNamed B.named
  have hlocks := B.notSynchronized
  have hK := hE.1
  have hcf : CallFix p m c cX10_names 5 s ([.ref h, .int p1, .int p2] : List Value).toArray wsX10_names RX10 := ⟨hx, hb, hml, hown, hts⟩
  subst hsz
  have hD := hD0.self (sz := s.heap.size)
  generalize hAe : va_A [(h, .inr (7, [.ref h_s, .ref h_aside, .ref h_past, .int h_pasts, .ref h_snapshot, .int h_isKept, .ref h_pad, .int h_length, .ref h_steps, .int h_many, .int h_value, .ref h_summed, .ref h_plus, .ref h_parts])), (h_s, .inl (cI, 65, .inl h_s_f)), (h_aside, .inl (cI, 65, .inl h_aside_f)), (h_past, .inl (cI, 260, .inl h_past_f)), (h_snapshot, .inl (cI, 65, .inl h_snapshot_f)), (h_pad, .inl (cI, 80, .inl h_pad_f)), (h_steps, .inl (cI, 320, .inl h_steps_f)), (h_summed, .inl (cI, 81, .inl h_summed_f)), (h_plus, .inl (cI, 81, .inl h_plus_f)), (h_parts, .inl (cI, 392, .inl h_parts_f))] s.heap.size = A at hD ⊢
  have hA : ∀ q : Nat, s.heap.size ≤ q → A q := fun q h => by rw [← hAe]; exact Or.inr h
  have hS : va_S A s.heap s.heap [] := va_S.rf
  have hP : va_P D vwCl [(h, .inr (7, [.ref h_s, .ref h_aside, .ref h_past, .int h_pasts, .ref h_snapshot, .int h_isKept, .ref h_pad, .int h_length, .ref h_steps, .int h_many, .int h_value, .ref h_summed, .ref h_plus, .ref h_parts])), (h_s, .inl (cI, 65, .inl h_s_f)), (h_aside, .inl (cI, 65, .inl h_aside_f)), (h_past, .inl (cI, 260, .inl h_past_f)), (h_snapshot, .inl (cI, 65, .inl h_snapshot_f)), (h_pad, .inl (cI, 80, .inl h_pad_f)), (h_steps, .inl (cI, 320, .inl h_steps_f)), (h_summed, .inl (cI, 81, .inl h_summed_f)), (h_plus, .inl (cI, 81, .inl h_plus_f)), (h_parts, .inl (cI, 392, .inl h_parts_f))] s.heap := hP
  have hf_7 := hts (.fieldLink RX10 7 "CrookedSumsModel" "s" "[I") (by decide +kernel)
  have hi_X10 := (show ∀ w ∈ u_ws RX10 TX10 14, w ∈ wsX10_names from by decide +kernel)
  have hl := lv_entry ([.ref h, .int p1, .int p2]) (n := 5) (Nat.le_of_ble_eq_true rfl)
  rw [lg_entry_eq]
  generalize (lg_sl ([.ref h, .int p1, .int p2]) ++ List.replicate (5 - (lg_sl ([.ref h, .int p1, .int p2])).length) Slot.unset).toArray = ls at hl ⊢
  have hl : lv_has ls 5 [(0, .ref h), (1, .int p1), (2, .int p2)] := hl
  unfold mX10_names at h0
  refine lv_aload_n hx hb dX10_names_0 rfl (lv_at hl 0 rfl) ?_
  refine lv_iload_n hx hb dX10_names_1 rfl (lv_at hl 1 rfl) ?_
  refine lv_iload_n hx hb dX10_names_2 rfl (lv_at hl 2 rfl) ?_
  obtain ⟨z_1, hz, h0⟩ := bd_ok h0
  refine ro_V (As := [.int p1, .int p2]) (rest := []) (wc := [(h, .inr (7, [.ref h_s, .ref h_aside, .ref h_past, .int h_pasts, .ref h_snapshot, .int h_isKept, .ref h_pad, .int h_length, .ref h_steps, .int h_many, .int h_value, .ref h_summed, .ref h_plus, .ref h_parts])), (h_s, .inl (cI, 65, .inl h_s_f)), (h_aside, .inl (cI, 65, .inl h_aside_f)), (h_past, .inl (cI, 260, .inl h_past_f)), (h_snapshot, .inl (cI, 65, .inl h_snapshot_f)), (h_pad, .inl (cI, 80, .inl h_pad_f)), (h_steps, .inl (cI, 320, .inl h_steps_f)), (h_summed, .inl (cI, 81, .inl h_summed_f)), (h_plus, .inl (cI, 81, .inl h_plus_f)), (h_parts, .inl (cI, 392, .inl h_parts_f))]) hcf (kX10_isPair l D cI cC cT h h_s h_aside h_past h_snapshot h_pad h_steps h_summed h_plus h_parts h_s_f h_aside_f h_past_f h_pasts h_snapshot_f h_isKept h_pad_f h_length h_steps_f h_many h_value h_summed_f h_plus_f h_parts_f p1 p2 z_1 hz) (cwV 2 hts gX10_names_X10_isPair rfl rfl rfl (by decide +kernel) ⟨Nat.le_of_ble_eq_true rfl, Nat.le_of_ble_eq_true rfl⟩) hE (hP.sub [0, 1, 2, 3, 4, 5, 6, 7, 8, 9] rfl) (va_recv hK hP (ci := 7) (q0 := 0) rfl rfl) rfl hl.1 rfl (Nat.le_of_ble_eq_true rfl) dX10_names_3 ⟨Nat.le_of_ble_eq_true rfl, Nat.le_of_ble_eq_true rfl⟩ ?_
  refine W.eq (g2 := F0 m 6 ls [.int z_1]) rfl ?_
  refine lv_if_ne (tgt := 11) hx hb dX10_names_6 (by decide) (fun c9 => ?_) (fun c9 => ?_)
  · have h0 := it_f c9 h0
    refine lv_aload_n hx hb dX10_names_11 rfl (lv_at hl 0 rfl) ?_
    obtain ⟨z_2, hz, h0⟩ := bd_ok h0
    refine wr_V (As := []) (rest := []) (wc := [(h, .inr (7, [.ref h_s, .ref h_aside, .ref h_past, .int h_pasts, .ref h_snapshot, .int h_isKept, .ref h_pad, .int h_length, .ref h_steps, .int h_many, .int h_value, .ref h_summed, .ref h_plus, .ref h_parts])), (h_s, .inl (cI, 65, .inl h_s_f)), (h_aside, .inl (cI, 65, .inl h_aside_f)), (h_past, .inl (cI, 260, .inl h_past_f)), (h_snapshot, .inl (cI, 65, .inl h_snapshot_f)), (h_pad, .inl (cI, 80, .inl h_pad_f)), (h_steps, .inl (cI, 320, .inl h_steps_f)), (h_summed, .inl (cI, 81, .inl h_summed_f)), (h_plus, .inl (cI, 81, .inl h_plus_f)), (h_parts, .inl (cI, 392, .inl h_parts_f))]) (wr := []) hcf (kX10_records l D cI cC cT h h_s h_aside h_past h_snapshot h_pad h_steps h_summed h_plus h_parts h_s_f h_aside_f h_past_f h_pasts h_snapshot_f h_isKept h_pad_f h_length h_steps_f h_many h_value h_summed_f h_plus_f h_parts_f _ z_2 hz) (cwV 0 hts gX10_names_X10_records rfl rfl rfl (by decide +kernel) ⟨Nat.le_of_ble_eq_true rfl, Nat.le_of_ble_eq_true rfl⟩) hE hP hD hS hA [0, 1, 2, 3, 4, 5, 6, 7, 8, 9] [] (hP.sub [0, 1, 2, 3, 4, 5, 6, 7, 8, 9] rfl) (hD.sub [0, 1, 2, 3, 4, 5, 6, 7, 8, 9] (by decide) rfl) (va_recv hK hP (ci := 7) (q0 := 0) rfl rfl) rfl rfl (by decide) (by decide) rfl hl.1 rfl (Nat.le_of_ble_eq_true rfl) dX10_names_12 ⟨Nat.le_of_ble_eq_true rfl, Nat.le_of_ble_eq_true rfl⟩ (fun u H locs hP hD hS => ?_)
    have hP : va_P D vwCl [(h, .inr (7, [.ref h_s, .ref h_aside, .ref h_past, .int z_2.2.2, .ref h_snapshot, .int h_isKept, .ref h_pad, .int h_length, .ref h_steps, .int h_many, .int h_value, .ref h_summed, .ref h_plus, .ref h_parts])), (h_s, .inl (cI, 65, .inl h_s_f)), (h_aside, .inl (cI, 65, .inl z_2.1)), (h_past, .inl (cI, 260, .inl z_2.2.1)), (h_snapshot, .inl (cI, 65, .inl h_snapshot_f)), (h_pad, .inl (cI, 80, .inl h_pad_f)), (h_steps, .inl (cI, 320, .inl h_steps_f)), (h_summed, .inl (cI, 81, .inl h_summed_f)), (h_plus, .inl (cI, 81, .inl h_plus_f)), (h_parts, .inl (cI, 392, .inl h_parts_f))] H := hP
    have hD : va_D A [(h, .inr (7, [.ref h_s, .ref h_aside, .ref h_past, .int z_2.2.2, .ref h_snapshot, .int h_isKept, .ref h_pad, .int h_length, .ref h_steps, .int h_many, .int h_value, .ref h_summed, .ref h_plus, .ref h_parts])), (h_s, .inl (cI, 65, .inl h_s_f)), (h_aside, .inl (cI, 65, .inl z_2.1)), (h_past, .inl (cI, 260, .inl z_2.2.1)), (h_snapshot, .inl (cI, 65, .inl h_snapshot_f)), (h_pad, .inl (cI, 80, .inl h_pad_f)), (h_steps, .inl (cI, 320, .inl h_steps_f)), (h_summed, .inl (cI, 81, .inl h_summed_f)), (h_plus, .inl (cI, 81, .inl h_plus_f)), (h_parts, .inl (cI, 392, .inl h_parts_f))] := hD
    refine W.eq (g2 := F0 m 15 ls []) rfl ?_
    refine lv_iconst (v := 0) hx hb dX10_names_15 (by decide) ?_
    refine lv_istore_n (lv' := [(3, .int 0), (0, .ref h), (1, .int p1), (2, .int p2)]) hx hb dX10_names_16 rfl hl (by decide) rfl (fun ls hl => ?_)
    have E_17_105_5 : ∀ (x3_3 : Int32) (f_4 : Nat → Int32) (H : Heap) (locs : List Loc) (ls : Array Slot), (bd (mX10_others f_4 z_2.1) (fun z_5 => some (z_5, f_4, z_2.1, z_2.2.1, z_2.2.2))) = some z → va_P D vwCl [(h, .inr (7, [.ref h_s, .ref h_aside, .ref h_past, .int z_2.2.2, .ref h_snapshot, .int h_isKept, .ref h_pad, .int h_length, .ref h_steps, .int h_many, .int h_value, .ref h_summed, .ref h_plus, .ref h_parts])), (h_s, .inl (cI, 65, .inl f_4)), (h_aside, .inl (cI, 65, .inl z_2.1)), (h_past, .inl (cI, 260, .inl z_2.2.1)), (h_snapshot, .inl (cI, 65, .inl h_snapshot_f)), (h_pad, .inl (cI, 80, .inl h_pad_f)), (h_steps, .inl (cI, 320, .inl h_steps_f)), (h_summed, .inl (cI, 81, .inl h_summed_f)), (h_plus, .inl (cI, 81, .inl h_plus_f)), (h_parts, .inl (cI, 392, .inl h_parts_f))] H → va_D A [(h, .inr (7, [.ref h_s, .ref h_aside, .ref h_past, .int z_2.2.2, .ref h_snapshot, .int h_isKept, .ref h_pad, .int h_length, .ref h_steps, .int h_many, .int h_value, .ref h_summed, .ref h_plus, .ref h_parts])), (h_s, .inl (cI, 65, .inl f_4)), (h_aside, .inl (cI, 65, .inl z_2.1)), (h_past, .inl (cI, 260, .inl z_2.2.1)), (h_snapshot, .inl (cI, 65, .inl h_snapshot_f)), (h_pad, .inl (cI, 80, .inl h_pad_f)), (h_steps, .inl (cI, 320, .inl h_steps_f)), (h_summed, .inl (cI, 81, .inl h_summed_f)), (h_plus, .inl (cI, 81, .inl h_plus_f)), (h_parts, .inl (cI, 392, .inl h_parts_f))] → va_S A s.heap H locs → lv_has ls 5 [(3, .int x3_3), (0, .ref h), (1, .int p1), (2, .int p2)] → W p l e (headSpec wsX10_names ({ frames := 3, cells := 0, slots := 0, locals := 65 } : Room)).room s m (([.ref h, .int p1, .int p2] : List Value).toArray) below meth c H locs 0 0 (MQ below (wQ D (some (.int z.1)) A (fun (u : Unit) => [(h, .inr (7, [.ref h_s, .ref h_aside, .ref h_past, .int z.2.2.2.2, .ref h_snapshot, .int h_isKept, .ref h_pad, .int h_length, .ref h_steps, .int h_many, .int h_value, .ref h_summed, .ref h_plus, .ref h_parts])), (h_s, .inl (cI, 65, .inl z.2.1)), (h_aside, .inl (cI, 65, .inl z.2.2.1)), (h_past, .inl (cI, 260, .inl z.2.2.2.1)), (h_snapshot, .inl (cI, 65, .inl h_snapshot_f)), (h_pad, .inl (cI, 80, .inl h_pad_f)), (h_steps, .inl (cI, 320, .inl h_steps_f)), (h_summed, .inl (cI, 81, .inl h_summed_f)), (h_plus, .inl (cI, 81, .inl h_plus_f)), (h_parts, .inl (cI, 392, .inl h_parts_f))])) (([.ref h, .int p1, .int p2] : List Value).toArray) s 0 0 A) (F0 m 105 ls []) := by
      intro x3_3 f_4 H locs ls h0 hP hD hS hl
      refine lv_aload_n hx hb dX10_names_105 rfl (lv_at hl 1 rfl) ?_
      obtain ⟨z_5, hz, h0⟩ := bd_ok h0
      refine ro_V (As := []) (rest := []) (wc := [(h, .inr (7, [.ref h_s, .ref h_aside, .ref h_past, .int z_2.2.2, .ref h_snapshot, .int h_isKept, .ref h_pad, .int h_length, .ref h_steps, .int h_many, .int h_value, .ref h_summed, .ref h_plus, .ref h_parts])), (h_s, .inl (cI, 65, .inl f_4)), (h_aside, .inl (cI, 65, .inl z_2.1)), (h_past, .inl (cI, 260, .inl z_2.2.1)), (h_snapshot, .inl (cI, 65, .inl h_snapshot_f)), (h_pad, .inl (cI, 80, .inl h_pad_f)), (h_steps, .inl (cI, 320, .inl h_steps_f)), (h_summed, .inl (cI, 81, .inl h_summed_f)), (h_plus, .inl (cI, 81, .inl h_plus_f)), (h_parts, .inl (cI, 392, .inl h_parts_f))]) hcf (kX10_others l D cI cC cT h h_s h_aside h_past h_snapshot h_pad h_steps h_summed h_plus h_parts f_4 z_2.1 z_2.2.1 z_2.2.2 h_snapshot_f h_isKept h_pad_f h_length h_steps_f h_many h_value h_summed_f h_plus_f h_parts_f z_5 hz) (cwV 0 hts gX10_names_X10_others rfl rfl rfl (by decide +kernel) ⟨Nat.le_of_ble_eq_true rfl, Nat.le_of_ble_eq_true rfl⟩) hE (hP.sub [0, 1, 2, 3, 4, 5, 6, 7, 8, 9] rfl) (va_recv hK hP (ci := 7) (q0 := 0) rfl rfl) rfl hl.1 rfl (Nat.le_of_ble_eq_true rfl) dX10_names_106 ⟨Nat.le_of_ble_eq_true rfl, Nat.le_of_ble_eq_true rfl⟩ ?_
      refine W.eq (g2 := F0 m 109 ls [.int z_5]) rfl ?_
      have e0 := Option.some.inj h0
      subst e0
      exact W.iret (v := z_5) hx hb hr (fun t ht hW => wr_end () ht hP hD hS) hS.2.2 dX10_names_109
    have L_17_9 : ∀ (F17 : Nat) (x3_7 : Int32) (f_8 : Nat → Int32) (H : Heap) (locs : List Loc) (ls : Array Slot), mX10_names_L17 p1 p2 (fun (x3_3 : Int32) (f_4 : Nat → Int32) => bd (mX10_others f_4 z_2.1) (fun z_5 => some (z_5, f_4, z_2.1, z_2.2.1, z_2.2.2))) F17 x3_7 f_8 = some z → va_P D vwCl [(h, .inr (7, [.ref h_s, .ref h_aside, .ref h_past, .int z_2.2.2, .ref h_snapshot, .int h_isKept, .ref h_pad, .int h_length, .ref h_steps, .int h_many, .int h_value, .ref h_summed, .ref h_plus, .ref h_parts])), (h_s, .inl (cI, 65, .inl f_8)), (h_aside, .inl (cI, 65, .inl z_2.1)), (h_past, .inl (cI, 260, .inl z_2.2.1)), (h_snapshot, .inl (cI, 65, .inl h_snapshot_f)), (h_pad, .inl (cI, 80, .inl h_pad_f)), (h_steps, .inl (cI, 320, .inl h_steps_f)), (h_summed, .inl (cI, 81, .inl h_summed_f)), (h_plus, .inl (cI, 81, .inl h_plus_f)), (h_parts, .inl (cI, 392, .inl h_parts_f))] H → va_D A [(h, .inr (7, [.ref h_s, .ref h_aside, .ref h_past, .int z_2.2.2, .ref h_snapshot, .int h_isKept, .ref h_pad, .int h_length, .ref h_steps, .int h_many, .int h_value, .ref h_summed, .ref h_plus, .ref h_parts])), (h_s, .inl (cI, 65, .inl f_8)), (h_aside, .inl (cI, 65, .inl z_2.1)), (h_past, .inl (cI, 260, .inl z_2.2.1)), (h_snapshot, .inl (cI, 65, .inl h_snapshot_f)), (h_pad, .inl (cI, 80, .inl h_pad_f)), (h_steps, .inl (cI, 320, .inl h_steps_f)), (h_summed, .inl (cI, 81, .inl h_summed_f)), (h_plus, .inl (cI, 81, .inl h_plus_f)), (h_parts, .inl (cI, 392, .inl h_parts_f))] → va_S A s.heap H locs → lv_has ls 5 [(3, .int x3_7), (0, .ref h), (1, .int p1), (2, .int p2)] → W p l e (headSpec wsX10_names ({ frames := 3, cells := 0, slots := 0, locals := 65 } : Room)).room s m (([.ref h, .int p1, .int p2] : List Value).toArray) below meth c H locs 0 0 (MQ below (wQ D (some (.int z.1)) A (fun (u : Unit) => [(h, .inr (7, [.ref h_s, .ref h_aside, .ref h_past, .int z.2.2.2.2, .ref h_snapshot, .int h_isKept, .ref h_pad, .int h_length, .ref h_steps, .int h_many, .int h_value, .ref h_summed, .ref h_plus, .ref h_parts])), (h_s, .inl (cI, 65, .inl z.2.1)), (h_aside, .inl (cI, 65, .inl z.2.2.1)), (h_past, .inl (cI, 260, .inl z.2.2.2.1)), (h_snapshot, .inl (cI, 65, .inl h_snapshot_f)), (h_pad, .inl (cI, 80, .inl h_pad_f)), (h_steps, .inl (cI, 320, .inl h_steps_f)), (h_summed, .inl (cI, 81, .inl h_summed_f)), (h_plus, .inl (cI, 81, .inl h_plus_f)), (h_parts, .inl (cI, 392, .inl h_parts_f))])) (([.ref h, .int p1, .int p2] : List Value).toArray) s 0 0 A) (F0 m 17 ls []) := by
      intro F17
      induction F17 with
      | zero => intro x3_7 f_8 H locs ls h0 hP hD hS hl; cases h0
      | succ F17 ih17 =>
        intro x3_7 f_8 H locs ls h0 hP hD hS hl
        rw [mX10_names_L17] at h0
        refine lv_iload_n hx hb dX10_names_17 rfl (lv_at hl 0 rfl) ?_
        refine lv_aload_n hx hb dX10_names_18 rfl (lv_at hl 1 rfl) ?_
        refine va_get (D := D) (ci := 7) (v := .ref h_s) (C := RX10) (T := TX10) (N := 14) hx hb hts hi_X10 hown hK hP 0 rfl rfl 0 (by decide) hf_7 (fun _ h9 => h9) rfl dX10_names_19 ?_
        refine lv_iconst (v := 0) hx hb dX10_names_22 (by decide) ?_
        refine va_iald hx hb hK hP 1 0 rfl rfl (by unfold vp_in; decide) dX10_names_23 ?_
        refine lv_aload_n hx hb dX10_names_24 rfl (lv_at hl 1 rfl) ?_
        refine va_get (D := D) (ci := 7) (v := .ref h_s) (C := RX10) (T := TX10) (N := 14) hx hb hts hi_X10 hown hK hP 0 rfl rfl 0 (by decide) hf_7 (fun _ h9 => h9) rfl dX10_names_25 ?_
        refine lv_iconst (v := 0) hx hb dX10_names_28 (by decide) ?_
        refine va_iald hx hb hK hP 1 0 rfl rfl (by unfold vp_in; decide) dX10_names_29 ?_
        refine lv_imul hx hb dX10_names_30 ?_
        refine lv_icmp_ge (tgt := 105) hx hb dX10_names_31 (by decide) (fun c9 => ?_) (fun c9 => ?_)
        · have h0 := it_t c9 h0
          exact E_17_105_5 x3_7 f_8 _ _ ls h0 hP hD hS hl
        · have h0 := it_f c9 h0
          refine lv_iload_n hx hb dX10_names_34 rfl (lv_at hl 0 rfl) ?_
          refine lv_aload_n hx hb dX10_names_35 rfl (lv_at hl 1 rfl) ?_
          refine va_get (D := D) (ci := 7) (v := .ref h_s) (C := RX10) (T := TX10) (N := 14) hx hb hts hi_X10 hown hK hP 0 rfl rfl 0 (by decide) hf_7 (fun _ h9 => h9) rfl dX10_names_36 ?_
          refine lv_iconst (v := 0) hx hb dX10_names_39 (by decide) ?_
          refine va_iald hx hb hK hP 1 0 rfl rfl (by unfold vp_in; decide) dX10_names_40 ?_
          obtain ⟨g0, h0⟩ := gd_ok h0
          refine lv_idiv hx hb dX10_names_41 (nzb_ok g0) ?_
          refine lv_iload_n hx hb dX10_names_42 rfl (lv_at hl 0 rfl) ?_
          refine lv_aload_n hx hb dX10_names_43 rfl (lv_at hl 1 rfl) ?_
          refine va_get (D := D) (ci := 7) (v := .ref h_s) (C := RX10) (T := TX10) (N := 14) hx hb hts hi_X10 hown hK hP 0 rfl rfl 0 (by decide) hf_7 (fun _ h9 => h9) rfl dX10_names_44 ?_
          refine lv_iconst (v := 0) hx hb dX10_names_47 (by decide) ?_
          refine va_iald hx hb hK hP 1 0 rfl rfl (by unfold vp_in; decide) dX10_names_48 ?_
          obtain ⟨g0, h0⟩ := gd_ok h0
          refine lv_irem hx hb dX10_names_49 (nzb_ok g0) ?_
          obtain ⟨z_9, hz, h0⟩ := bd_ok h0
          refine ro_S (As := [.int (x3_7 / (f_8 (0 : Int32).toNatClampNeg)), .int (x3_7 - x3_7 / (f_8 (0 : Int32).toNatClampNeg) * (f_8 (0 : Int32).toNatClampNeg))]) (rest := []) (wc := []) hcf (kX10_at l D cI cC cT (x3_7 / (f_8 (0 : Int32).toNatClampNeg)) (x3_7 - x3_7 / (f_8 (0 : Int32).toNatClampNeg) * (f_8 (0 : Int32).toNatClampNeg)) z_9 hz) (va_cwS 2 hts gX10_names_X10_at rfl rfl rfl (by decide +kernel) ⟨Nat.le_of_ble_eq_true rfl, Nat.le_of_ble_eq_true rfl⟩) hE (hP.sub [] rfl) rfl hl.1 rfl (Nat.le_of_ble_eq_true rfl) dX10_names_50 ⟨Nat.le_of_ble_eq_true rfl, Nat.le_of_ble_eq_true rfl⟩ ?_
          refine W.eq (g2 := F0 m 53 ls [.int z_9]) rfl ?_
          refine lv_istore (lv' := [(4, .int z_9), (3, .int x3_7), (0, .ref h), (1, .int p1), (2, .int p2)]) hx hb dX10_names_53 hl (by decide) rfl (fun ls hl => ?_)
          refine lv_aload_n hx hb dX10_names_55 rfl (lv_at hl 2 rfl) ?_
          refine va_get (D := D) (ci := 7) (v := .ref h_s) (C := RX10) (T := TX10) (N := 14) hx hb hts hi_X10 hown hK hP 0 rfl rfl 0 (by decide) hf_7 (fun _ h9 => h9) rfl dX10_names_56 ?_
          refine lv_iload hx hb dX10_names_59 (lv_at hl 0 rfl) ?_
          refine lv_aload_n hx hb dX10_names_61 rfl (lv_at hl 2 rfl) ?_
          refine va_get (D := D) (ci := 7) (v := .ref h_s) (C := RX10) (T := TX10) (N := 14) hx hb hts hi_X10 hown hK hP 0 rfl rfl 0 (by decide) hf_7 (fun _ h9 => h9) rfl dX10_names_62 ?_
          refine lv_iload hx hb dX10_names_65 (lv_at hl 0 rfl) ?_
          obtain ⟨g0, h0⟩ := gd_ok h0
          refine va_iald hx hb hK hP 1 0 rfl rfl (inb_ok g0) dX10_names_67 ?_
          refine lv_iload_n hx hb dX10_names_68 rfl (lv_at hl 3 rfl) ?_
          refine lv_icmp_ne (tgt := 76) hx hb dX10_names_69 (by decide) (fun c9 => ?_) (fun c9 => ?_)
          · have h0 := it_f c9 h0
            refine lv_aload_n hx hb dX10_names_76 rfl (lv_at hl 2 rfl) ?_
            refine va_get (D := D) (ci := 7) (v := .ref h_s) (C := RX10) (T := TX10) (N := 14) hx hb hts hi_X10 hown hK hP 0 rfl rfl 0 (by decide) hf_7 (fun _ h9 => h9) rfl dX10_names_77 ?_
            refine lv_iload hx hb dX10_names_80 (lv_at hl 0 rfl) ?_
            obtain ⟨g0, h0⟩ := gd_ok h0
            refine va_iald hx hb hK hP 1 0 rfl rfl (inb_ok g0) dX10_names_82 ?_
            refine lv_iload_n hx hb dX10_names_83 rfl (lv_at hl 4 rfl) ?_
            refine lv_icmp_ne (tgt := 91) hx hb dX10_names_84 (by decide) (fun c9 => ?_) (fun c9 => ?_)
            · have h0 := it_f c9 h0
              refine lv_aload_n hx hb dX10_names_91 rfl (lv_at hl 2 rfl) ?_
              refine va_get (D := D) (ci := 7) (v := .ref h_s) (C := RX10) (T := TX10) (N := 14) hx hb hts hi_X10 hown hK hP 0 rfl rfl 0 (by decide) hf_7 (fun _ h9 => h9) rfl dX10_names_92 ?_
              refine lv_iload hx hb dX10_names_95 (lv_at hl 0 rfl) ?_
              obtain ⟨g0, h0⟩ := gd_ok h0
              refine va_iald hx hb hK hP 1 0 rfl rfl (inb_ok g0) dX10_names_97 ?_
              obtain ⟨g0, h0⟩ := gd_ok h0
              refine va_iast hx hb hK hP hD hS 1 0 rfl rfl (inb_ok g0) dX10_names_98 (fun H locs hP hD hS => ?_)
              have hP : va_P D vwCl [(h, .inr (7, [.ref h_s, .ref h_aside, .ref h_past, .int z_2.2.2, .ref h_snapshot, .int h_isKept, .ref h_pad, .int h_length, .ref h_steps, .int h_many, .int h_value, .ref h_summed, .ref h_plus, .ref h_parts])), (h_s, .inl (cI, 65, .inl (upd f_8 (z_9 : Int32).toNatClampNeg (f_8 (z_9 : Int32).toNatClampNeg)))), (h_aside, .inl (cI, 65, .inl z_2.1)), (h_past, .inl (cI, 260, .inl z_2.2.1)), (h_snapshot, .inl (cI, 65, .inl h_snapshot_f)), (h_pad, .inl (cI, 80, .inl h_pad_f)), (h_steps, .inl (cI, 320, .inl h_steps_f)), (h_summed, .inl (cI, 81, .inl h_summed_f)), (h_plus, .inl (cI, 81, .inl h_plus_f)), (h_parts, .inl (cI, 392, .inl h_parts_f))] H := hP
              have hD : va_D A [(h, .inr (7, [.ref h_s, .ref h_aside, .ref h_past, .int z_2.2.2, .ref h_snapshot, .int h_isKept, .ref h_pad, .int h_length, .ref h_steps, .int h_many, .int h_value, .ref h_summed, .ref h_plus, .ref h_parts])), (h_s, .inl (cI, 65, .inl (upd f_8 (z_9 : Int32).toNatClampNeg (f_8 (z_9 : Int32).toNatClampNeg)))), (h_aside, .inl (cI, 65, .inl z_2.1)), (h_past, .inl (cI, 260, .inl z_2.2.1)), (h_snapshot, .inl (cI, 65, .inl h_snapshot_f)), (h_pad, .inl (cI, 80, .inl h_pad_f)), (h_steps, .inl (cI, 320, .inl h_steps_f)), (h_summed, .inl (cI, 81, .inl h_summed_f)), (h_plus, .inl (cI, 81, .inl h_plus_f)), (h_parts, .inl (cI, 392, .inl h_parts_f))] := hD
              refine lv_iinc (v := (x3_7 + 1)) (lv' := [(3, .int (x3_7 + 1)), (4, .int z_9), (0, .ref h), (1, .int p1), (2, .int p2)]) hx hb dX10_names_99 hl (k := 1) rfl rfl (by decide) rfl (fun ls hl => ?_)
              refine lv_goto (tgt := 17) hx hb dX10_names_102 (by decide) ?_
              exact ih17 (x3_7 + 1) (upd f_8 (z_9 : Int32).toNatClampNeg (f_8 (z_9 : Int32).toNatClampNeg)) _ _ ls h0 hP hD hS (lv_sub hl [0, 2, 3, 4] rfl)
            · have h0 := it_t c9 h0
              refine lv_iload_n hx hb dX10_names_87 rfl (lv_at hl 3 rfl) ?_
              refine lv_goto (tgt := 98) hx hb dX10_names_88 (by decide) ?_
              obtain ⟨g0, h0⟩ := gd_ok h0
              refine va_iast hx hb hK hP hD hS 1 0 rfl rfl (inb_ok g0) dX10_names_98 (fun H locs hP hD hS => ?_)
              have hP : va_P D vwCl [(h, .inr (7, [.ref h_s, .ref h_aside, .ref h_past, .int z_2.2.2, .ref h_snapshot, .int h_isKept, .ref h_pad, .int h_length, .ref h_steps, .int h_many, .int h_value, .ref h_summed, .ref h_plus, .ref h_parts])), (h_s, .inl (cI, 65, .inl (upd f_8 (z_9 : Int32).toNatClampNeg p1))), (h_aside, .inl (cI, 65, .inl z_2.1)), (h_past, .inl (cI, 260, .inl z_2.2.1)), (h_snapshot, .inl (cI, 65, .inl h_snapshot_f)), (h_pad, .inl (cI, 80, .inl h_pad_f)), (h_steps, .inl (cI, 320, .inl h_steps_f)), (h_summed, .inl (cI, 81, .inl h_summed_f)), (h_plus, .inl (cI, 81, .inl h_plus_f)), (h_parts, .inl (cI, 392, .inl h_parts_f))] H := hP
              have hD : va_D A [(h, .inr (7, [.ref h_s, .ref h_aside, .ref h_past, .int z_2.2.2, .ref h_snapshot, .int h_isKept, .ref h_pad, .int h_length, .ref h_steps, .int h_many, .int h_value, .ref h_summed, .ref h_plus, .ref h_parts])), (h_s, .inl (cI, 65, .inl (upd f_8 (z_9 : Int32).toNatClampNeg p1))), (h_aside, .inl (cI, 65, .inl z_2.1)), (h_past, .inl (cI, 260, .inl z_2.2.1)), (h_snapshot, .inl (cI, 65, .inl h_snapshot_f)), (h_pad, .inl (cI, 80, .inl h_pad_f)), (h_steps, .inl (cI, 320, .inl h_steps_f)), (h_summed, .inl (cI, 81, .inl h_summed_f)), (h_plus, .inl (cI, 81, .inl h_plus_f)), (h_parts, .inl (cI, 392, .inl h_parts_f))] := hD
              refine lv_iinc (v := (x3_7 + 1)) (lv' := [(3, .int (x3_7 + 1)), (4, .int z_9), (0, .ref h), (1, .int p1), (2, .int p2)]) hx hb dX10_names_99 hl (k := 1) rfl rfl (by decide) rfl (fun ls hl => ?_)
              refine lv_goto (tgt := 17) hx hb dX10_names_102 (by decide) ?_
              exact ih17 (x3_7 + 1) (upd f_8 (z_9 : Int32).toNatClampNeg p1) _ _ ls h0 hP hD hS (lv_sub hl [0, 2, 3, 4] rfl)
          · have h0 := it_t c9 h0
            refine lv_iload_n hx hb dX10_names_72 rfl (lv_at hl 4 rfl) ?_
            refine lv_goto (tgt := 98) hx hb dX10_names_73 (by decide) ?_
            obtain ⟨g0, h0⟩ := gd_ok h0
            refine va_iast hx hb hK hP hD hS 1 0 rfl rfl (inb_ok g0) dX10_names_98 (fun H locs hP hD hS => ?_)
            have hP : va_P D vwCl [(h, .inr (7, [.ref h_s, .ref h_aside, .ref h_past, .int z_2.2.2, .ref h_snapshot, .int h_isKept, .ref h_pad, .int h_length, .ref h_steps, .int h_many, .int h_value, .ref h_summed, .ref h_plus, .ref h_parts])), (h_s, .inl (cI, 65, .inl (upd f_8 (z_9 : Int32).toNatClampNeg p2))), (h_aside, .inl (cI, 65, .inl z_2.1)), (h_past, .inl (cI, 260, .inl z_2.2.1)), (h_snapshot, .inl (cI, 65, .inl h_snapshot_f)), (h_pad, .inl (cI, 80, .inl h_pad_f)), (h_steps, .inl (cI, 320, .inl h_steps_f)), (h_summed, .inl (cI, 81, .inl h_summed_f)), (h_plus, .inl (cI, 81, .inl h_plus_f)), (h_parts, .inl (cI, 392, .inl h_parts_f))] H := hP
            have hD : va_D A [(h, .inr (7, [.ref h_s, .ref h_aside, .ref h_past, .int z_2.2.2, .ref h_snapshot, .int h_isKept, .ref h_pad, .int h_length, .ref h_steps, .int h_many, .int h_value, .ref h_summed, .ref h_plus, .ref h_parts])), (h_s, .inl (cI, 65, .inl (upd f_8 (z_9 : Int32).toNatClampNeg p2))), (h_aside, .inl (cI, 65, .inl z_2.1)), (h_past, .inl (cI, 260, .inl z_2.2.1)), (h_snapshot, .inl (cI, 65, .inl h_snapshot_f)), (h_pad, .inl (cI, 80, .inl h_pad_f)), (h_steps, .inl (cI, 320, .inl h_steps_f)), (h_summed, .inl (cI, 81, .inl h_summed_f)), (h_plus, .inl (cI, 81, .inl h_plus_f)), (h_parts, .inl (cI, 392, .inl h_parts_f))] := hD
            refine lv_iinc (v := (x3_7 + 1)) (lv' := [(3, .int (x3_7 + 1)), (4, .int z_9), (0, .ref h), (1, .int p1), (2, .int p2)]) hx hb dX10_names_99 hl (k := 1) rfl rfl (by decide) rfl (fun ls hl => ?_)
            refine lv_goto (tgt := 17) hx hb dX10_names_102 (by decide) ?_
            exact ih17 (x3_7 + 1) (upd f_8 (z_9 : Int32).toNatClampNeg p2) _ _ ls h0 hP hD hS (lv_sub hl [0, 2, 3, 4] rfl)
    exact L_17_9 FU 0 h_s_f _ _ ls h0 hP hD hS hl
  · have h0 := it_t c9 h0
    refine lv_iconst (v := (-1)) hx hb dX10_names_9 (by decide) ?_
    have e0 := Option.some.inj h0
    subst e0
    exact W.iret (v := (-1)) hx hb hr (fun t ht hW => wr_end () ht hP hD hS) hS.2.2 dX10_names_10
noncomputable def mX10_returns (h_s_f : Nat → Int32) (p1 : Int32) (p2 : Int32) (p3 : Int32) : Option (Int32) :=
  bd (mX10_isToken h_s_f p1) (fun z_1 => if z_1 = 0 then (some ((-1))) else (bd (mX10_isToken h_s_f p2) (fun z_2 => if z_2 = 0 then (some ((-1))) else (bd (mX10_roundOf h_s_f p1 p2 p3) (fun z_3 => some (z_3))))))
set_option maxHeartbeats 8000000 in
set_option maxRecDepth 100000 in
theorem kX10_returns (l : Launch) (D : va_G) (cI cC cT : ClassId) (h h_s h_aside h_past h_snapshot h_pad h_steps h_summed h_plus h_parts : Nat) (h_s_f : Nat → Int32) (h_aside_f : Nat → Int32) (h_past_f : Nat → Int32) (h_pasts : Int32) (h_snapshot_f : Nat → Int32) (h_isKept : Int32) (h_pad_f : Nat → Int32) (h_length : Int32) (h_steps_f : Nat → Int32) (h_many : Int32) (h_value : Int32) (h_summed_f : Nat → Int32) (h_plus_f : Nat → Int32) (h_parts_f : Nat → Int32) (p1 : Int32) (p2 : Int32) (p3 : Int32) (z : Int32) (h0 : mX10_returns h_s_f p1 p2 p3 = some z) : Met l yX10_returns wsX10_returns ({ frames := 3, cells := 0, slots := 0, locals := 68 } : Room) (va_Pc [.ref h, .int p1, .int p2, .int p3] (rP D cI cC cT [(h, .inr (7, [.ref h_s, .ref h_aside, .ref h_past, .int h_pasts, .ref h_snapshot, .int h_isKept, .ref h_pad, .int h_length, .ref h_steps, .int h_many, .int h_value, .ref h_summed, .ref h_plus, .ref h_parts])), (h_s, .inl (cI, 65, .inl h_s_f)), (h_aside, .inl (cI, 65, .inl h_aside_f)), (h_past, .inl (cI, 260, .inl h_past_f)), (h_snapshot, .inl (cI, 65, .inl h_snapshot_f)), (h_pad, .inl (cI, 80, .inl h_pad_f)), (h_steps, .inl (cI, 320, .inl h_steps_f)), (h_summed, .inl (cI, 81, .inl h_summed_f)), (h_plus, .inl (cI, 81, .inl h_plus_f)), (h_parts, .inl (cI, 392, .inl h_parts_f))])) (rQ (some (.int z))) 0 0 (fun _ => False) := by
  refine Met.ofW (cc := cX10_returns) (maxL := 4) (ret := (some .int)) (by decide) rfl ?_
  intro p e s m args below meth c s₁ B hml hv
  obtain ⟨rfl, hP, hE⟩ := hv
  have hx := B.exec
  have hb := B.bytes
  have hr := B.returns
  have hts := atoms_spec (ws := wsX10_returns) B.pre
  have hown : s.vm.findClass RX10 = some m.cls := findClass_of_methodNamed B.named
  have hlocks := B.notSynchronized
  have hK := hE.1
  have hcf : CallFix p m c cX10_returns 4 s ([.ref h, .int p1, .int p2, .int p3] : List Value).toArray wsX10_returns RX10 := ⟨hx, hb, hml, hown, hts⟩
  have hP : va_P D vwCl [(h, .inr (7, [.ref h_s, .ref h_aside, .ref h_past, .int h_pasts, .ref h_snapshot, .int h_isKept, .ref h_pad, .int h_length, .ref h_steps, .int h_many, .int h_value, .ref h_summed, .ref h_plus, .ref h_parts])), (h_s, .inl (cI, 65, .inl h_s_f)), (h_aside, .inl (cI, 65, .inl h_aside_f)), (h_past, .inl (cI, 260, .inl h_past_f)), (h_snapshot, .inl (cI, 65, .inl h_snapshot_f)), (h_pad, .inl (cI, 80, .inl h_pad_f)), (h_steps, .inl (cI, 320, .inl h_steps_f)), (h_summed, .inl (cI, 81, .inl h_summed_f)), (h_plus, .inl (cI, 81, .inl h_plus_f)), (h_parts, .inl (cI, 392, .inl h_parts_f))] s.heap := hP
  have hl := lv_entry ([.ref h, .int p1, .int p2, .int p3]) (n := 4) (Nat.le_of_ble_eq_true rfl)
  rw [lg_entry_eq]
  generalize (lg_sl ([.ref h, .int p1, .int p2, .int p3]) ++ List.replicate (4 - (lg_sl ([.ref h, .int p1, .int p2, .int p3])).length) Slot.unset).toArray = ls at hl ⊢
  have hl : lv_has ls 4 [(0, .ref h), (1, .int p1), (2, .int p2), (3, .int p3)] := hl
  unfold mX10_returns at h0
  refine lv_aload_n hx hb dX10_returns_0 rfl (lv_at hl 0 rfl) ?_
  refine lv_iload_n hx hb dX10_returns_1 rfl (lv_at hl 1 rfl) ?_
  obtain ⟨z_1, hz, h0⟩ := bd_ok h0
  refine ro_V (As := [.int p1]) (rest := []) (wc := [(h, .inr (7, [.ref h_s, .ref h_aside, .ref h_past, .int h_pasts, .ref h_snapshot, .int h_isKept, .ref h_pad, .int h_length, .ref h_steps, .int h_many, .int h_value, .ref h_summed, .ref h_plus, .ref h_parts])), (h_s, .inl (cI, 65, .inl h_s_f)), (h_aside, .inl (cI, 65, .inl h_aside_f)), (h_past, .inl (cI, 260, .inl h_past_f)), (h_snapshot, .inl (cI, 65, .inl h_snapshot_f)), (h_pad, .inl (cI, 80, .inl h_pad_f)), (h_steps, .inl (cI, 320, .inl h_steps_f)), (h_summed, .inl (cI, 81, .inl h_summed_f)), (h_plus, .inl (cI, 81, .inl h_plus_f)), (h_parts, .inl (cI, 392, .inl h_parts_f))]) hcf (kX10_isToken l D cI cC cT h h_s h_aside h_past h_snapshot h_pad h_steps h_summed h_plus h_parts h_s_f h_aside_f h_past_f h_pasts h_snapshot_f h_isKept h_pad_f h_length h_steps_f h_many h_value h_summed_f h_plus_f h_parts_f p1 z_1 hz) (cwV 1 hts gX10_returns_X10_isToken rfl rfl rfl (by decide +kernel) ⟨Nat.le_of_ble_eq_true rfl, Nat.le_of_ble_eq_true rfl⟩) hE (hP.sub [0, 1, 2, 3, 4, 5, 6, 7, 8, 9] rfl) (va_recv hK hP (ci := 7) (q0 := 0) rfl rfl) rfl hl.1 rfl (Nat.le_of_ble_eq_true rfl) dX10_returns_2 ⟨Nat.le_of_ble_eq_true rfl, Nat.le_of_ble_eq_true rfl⟩ ?_
  refine W.eq (g2 := F0 m 5 ls [.int z_1]) rfl ?_
  refine lv_if_eq (tgt := 26) hx hb dX10_returns_5 (by decide) (fun c9 => ?_) (fun c9 => ?_)
  · have h0 := it_t c9 h0
    refine lv_iconst (v := (-1)) hx hb dX10_returns_26 (by decide) ?_
    have e0 := Option.some.inj h0
    subst e0
    exact W.iret (v := (-1)) hx hb hr (fun t ht hW => ⟨rfl, ht⟩) (fun q hq => absurd hq List.not_mem_nil) dX10_returns_27
  · have h0 := it_f c9 h0
    refine lv_aload_n hx hb dX10_returns_8 rfl (lv_at hl 0 rfl) ?_
    refine lv_iload_n hx hb dX10_returns_9 rfl (lv_at hl 2 rfl) ?_
    obtain ⟨z_2, hz, h0⟩ := bd_ok h0
    refine ro_V (As := [.int p2]) (rest := []) (wc := [(h, .inr (7, [.ref h_s, .ref h_aside, .ref h_past, .int h_pasts, .ref h_snapshot, .int h_isKept, .ref h_pad, .int h_length, .ref h_steps, .int h_many, .int h_value, .ref h_summed, .ref h_plus, .ref h_parts])), (h_s, .inl (cI, 65, .inl h_s_f)), (h_aside, .inl (cI, 65, .inl h_aside_f)), (h_past, .inl (cI, 260, .inl h_past_f)), (h_snapshot, .inl (cI, 65, .inl h_snapshot_f)), (h_pad, .inl (cI, 80, .inl h_pad_f)), (h_steps, .inl (cI, 320, .inl h_steps_f)), (h_summed, .inl (cI, 81, .inl h_summed_f)), (h_plus, .inl (cI, 81, .inl h_plus_f)), (h_parts, .inl (cI, 392, .inl h_parts_f))]) hcf (kX10_isToken l D cI cC cT h h_s h_aside h_past h_snapshot h_pad h_steps h_summed h_plus h_parts h_s_f h_aside_f h_past_f h_pasts h_snapshot_f h_isKept h_pad_f h_length h_steps_f h_many h_value h_summed_f h_plus_f h_parts_f p2 z_2 hz) (cwV 1 hts gX10_returns_X10_isToken rfl rfl rfl (by decide +kernel) ⟨Nat.le_of_ble_eq_true rfl, Nat.le_of_ble_eq_true rfl⟩) hE (hP.sub [0, 1, 2, 3, 4, 5, 6, 7, 8, 9] rfl) (va_recv hK hP (ci := 7) (q0 := 0) rfl rfl) rfl hl.1 rfl (Nat.le_of_ble_eq_true rfl) dX10_returns_10 ⟨Nat.le_of_ble_eq_true rfl, Nat.le_of_ble_eq_true rfl⟩ ?_
    refine W.eq (g2 := F0 m 13 ls [.int z_2]) rfl ?_
    refine lv_if_eq (tgt := 26) hx hb dX10_returns_13 (by decide) (fun c9 => ?_) (fun c9 => ?_)
    · have h0 := it_t c9 h0
      refine lv_iconst (v := (-1)) hx hb dX10_returns_26 (by decide) ?_
      have e0 := Option.some.inj h0
      subst e0
      exact W.iret (v := (-1)) hx hb hr (fun t ht hW => ⟨rfl, ht⟩) (fun q hq => absurd hq List.not_mem_nil) dX10_returns_27
    · have h0 := it_f c9 h0
      refine lv_aload_n hx hb dX10_returns_16 rfl (lv_at hl 0 rfl) ?_
      refine lv_iload_n hx hb dX10_returns_17 rfl (lv_at hl 1 rfl) ?_
      refine lv_iload_n hx hb dX10_returns_18 rfl (lv_at hl 2 rfl) ?_
      refine lv_iload_n hx hb dX10_returns_19 rfl (lv_at hl 3 rfl) ?_
      obtain ⟨z_3, hz, h0⟩ := bd_ok h0
      refine ro_V (As := [.int p1, .int p2, .int p3]) (rest := []) (wc := [(h, .inr (7, [.ref h_s, .ref h_aside, .ref h_past, .int h_pasts, .ref h_snapshot, .int h_isKept, .ref h_pad, .int h_length, .ref h_steps, .int h_many, .int h_value, .ref h_summed, .ref h_plus, .ref h_parts])), (h_s, .inl (cI, 65, .inl h_s_f)), (h_aside, .inl (cI, 65, .inl h_aside_f)), (h_past, .inl (cI, 260, .inl h_past_f)), (h_snapshot, .inl (cI, 65, .inl h_snapshot_f)), (h_pad, .inl (cI, 80, .inl h_pad_f)), (h_steps, .inl (cI, 320, .inl h_steps_f)), (h_summed, .inl (cI, 81, .inl h_summed_f)), (h_plus, .inl (cI, 81, .inl h_plus_f)), (h_parts, .inl (cI, 392, .inl h_parts_f))]) hcf (kX10_roundOf l D cI cC cT h h_s h_aside h_past h_snapshot h_pad h_steps h_summed h_plus h_parts h_s_f h_aside_f h_past_f h_pasts h_snapshot_f h_isKept h_pad_f h_length h_steps_f h_many h_value h_summed_f h_plus_f h_parts_f p1 p2 p3 z_3 hz) (cwV 3 hts gX10_returns_X10_roundOf rfl rfl rfl (by decide +kernel) ⟨Nat.le_of_ble_eq_true rfl, Nat.le_of_ble_eq_true rfl⟩) hE (hP.sub [0, 1, 2, 3, 4, 5, 6, 7, 8, 9] rfl) (va_recv hK hP (ci := 7) (q0 := 0) rfl rfl) rfl hl.1 rfl (Nat.le_of_ble_eq_true rfl) dX10_returns_20 ⟨Nat.le_of_ble_eq_true rfl, Nat.le_of_ble_eq_true rfl⟩ ?_
      refine W.eq (g2 := F0 m 23 ls [.int z_3]) rfl ?_
      refine lv_goto (tgt := 27) hx hb dX10_returns_23 (by decide) ?_
      have e0 := Option.some.inj h0
      subst e0
      exact W.iret (v := z_3) hx hb hr (fun t ht hW => ⟨rfl, ht⟩) (fun q hq => absurd hq List.not_mem_nil) dX10_returns_27
noncomputable def mX10_rows_L17 (p1 : Int32) (p2 : Int32) (k17_47 : Int32 → (Nat → Int32) → Option (Int32 × (Nat → Int32) × (Nat → Int32) × (Nat → Int32) × Int32)) : Nat → Int32 → (Nat → Int32) → Option (Int32 × (Nat → Int32) × (Nat → Int32) × (Nat → Int32) × Int32)
  | 0, _, _ => none
  | F + 1, x3_7, f_8 => if (f_8 (0 : Int32).toNatClampNeg) ≤ x3_7 then (k17_47 x3_7 f_8) else (bd (mX10_at p1 x3_7) (fun z_9 => bd (mX10_at p2 x3_7) (fun z_10 => bd (mX10_exchanges f_8 z_9 z_10) (fun z_11 => mX10_rows_L17 p1 p2 k17_47 F (x3_7 + 1) z_11))))
noncomputable def mX10_rows (h_s_f : Nat → Int32) (h_aside_f : Nat → Int32) (h_past_f : Nat → Int32) (h_pasts : Int32) (p1 : Int32) (p2 : Int32) : Option (Int32 × (Nat → Int32) × (Nat → Int32) × (Nat → Int32) × Int32) :=
  bd (mX10_isPair h_s_f p1 p2) (fun z_1 => if z_1 = 0 then (some ((-1), h_s_f, h_aside_f, h_past_f, h_pasts)) else (bd (mX10_records h_s_f h_aside_f h_past_f h_pasts) (fun z_2 => mX10_rows_L17 p1 p2 (fun (x3_3 : Int32) (f_4 : Nat → Int32) => bd (mX10_others f_4 z_2.1) (fun z_5 => some (z_5, f_4, z_2.1, z_2.2.1, z_2.2.2))) FU 0 h_s_f)))
set_option maxHeartbeats 8000000 in
set_option maxRecDepth 100000 in
theorem kX10_rows (l : Launch) (D : va_G) (cI cC cT : ClassId) (h h_s h_aside h_past h_snapshot h_pad h_steps h_summed h_plus h_parts : Nat) (h_s_f : Nat → Int32) (h_aside_f : Nat → Int32) (h_past_f : Nat → Int32) (h_pasts : Int32) (h_snapshot_f : Nat → Int32) (h_isKept : Int32) (h_pad_f : Nat → Int32) (h_length : Int32) (h_steps_f : Nat → Int32) (h_many : Int32) (h_value : Int32) (h_summed_f : Nat → Int32) (h_plus_f : Nat → Int32) (h_parts_f : Nat → Int32) (p1 : Int32) (p2 : Int32) (sz : Nat) (z : Int32 × (Nat → Int32) × (Nat → Int32) × (Nat → Int32) × Int32) (h0 : mX10_rows h_s_f h_aside_f h_past_f h_pasts p1 p2 = some z) : Met l yX10_rows wsX10_rows ({ frames := 3, cells := 0, slots := 0, locals := 65 } : Room) (va_Pc [.ref h, .int p1, .int p2] (wP D cI cC cT [(h, .inr (7, [.ref h_s, .ref h_aside, .ref h_past, .int h_pasts, .ref h_snapshot, .int h_isKept, .ref h_pad, .int h_length, .ref h_steps, .int h_many, .int h_value, .ref h_summed, .ref h_plus, .ref h_parts])), (h_s, .inl (cI, 65, .inl h_s_f)), (h_aside, .inl (cI, 65, .inl h_aside_f)), (h_past, .inl (cI, 260, .inl h_past_f)), (h_snapshot, .inl (cI, 65, .inl h_snapshot_f)), (h_pad, .inl (cI, 80, .inl h_pad_f)), (h_steps, .inl (cI, 320, .inl h_steps_f)), (h_summed, .inl (cI, 81, .inl h_summed_f)), (h_plus, .inl (cI, 81, .inl h_plus_f)), (h_parts, .inl (cI, 392, .inl h_parts_f))] sz)) (wQ D (some (.int z.1)) (va_A [(h, .inr (7, [.ref h_s, .ref h_aside, .ref h_past, .int h_pasts, .ref h_snapshot, .int h_isKept, .ref h_pad, .int h_length, .ref h_steps, .int h_many, .int h_value, .ref h_summed, .ref h_plus, .ref h_parts])), (h_s, .inl (cI, 65, .inl h_s_f)), (h_aside, .inl (cI, 65, .inl h_aside_f)), (h_past, .inl (cI, 260, .inl h_past_f)), (h_snapshot, .inl (cI, 65, .inl h_snapshot_f)), (h_pad, .inl (cI, 80, .inl h_pad_f)), (h_steps, .inl (cI, 320, .inl h_steps_f)), (h_summed, .inl (cI, 81, .inl h_summed_f)), (h_plus, .inl (cI, 81, .inl h_plus_f)), (h_parts, .inl (cI, 392, .inl h_parts_f))] sz) (fun (u : Unit) => [(h, .inr (7, [.ref h_s, .ref h_aside, .ref h_past, .int z.2.2.2.2, .ref h_snapshot, .int h_isKept, .ref h_pad, .int h_length, .ref h_steps, .int h_many, .int h_value, .ref h_summed, .ref h_plus, .ref h_parts])), (h_s, .inl (cI, 65, .inl z.2.1)), (h_aside, .inl (cI, 65, .inl z.2.2.1)), (h_past, .inl (cI, 260, .inl z.2.2.2.1)), (h_snapshot, .inl (cI, 65, .inl h_snapshot_f)), (h_pad, .inl (cI, 80, .inl h_pad_f)), (h_steps, .inl (cI, 320, .inl h_steps_f)), (h_summed, .inl (cI, 81, .inl h_summed_f)), (h_plus, .inl (cI, 81, .inl h_plus_f)), (h_parts, .inl (cI, 392, .inl h_parts_f))])) 0 0 (va_A [(h, .inr (7, [.ref h_s, .ref h_aside, .ref h_past, .int h_pasts, .ref h_snapshot, .int h_isKept, .ref h_pad, .int h_length, .ref h_steps, .int h_many, .int h_value, .ref h_summed, .ref h_plus, .ref h_parts])), (h_s, .inl (cI, 65, .inl h_s_f)), (h_aside, .inl (cI, 65, .inl h_aside_f)), (h_past, .inl (cI, 260, .inl h_past_f)), (h_snapshot, .inl (cI, 65, .inl h_snapshot_f)), (h_pad, .inl (cI, 80, .inl h_pad_f)), (h_steps, .inl (cI, 320, .inl h_steps_f)), (h_summed, .inl (cI, 81, .inl h_summed_f)), (h_plus, .inl (cI, 81, .inl h_plus_f)), (h_parts, .inl (cI, 392, .inl h_parts_f))] sz) := by
  refine Met.ofW (cc := cX10_rows) (maxL := 4) (ret := (some .int)) (by decide) rfl ?_
  intro p e s m args below meth c s₁ B hml hv
  obtain ⟨rfl, hsz, hP, hE, hD0⟩ := hv
  have hx := B.exec
  have hb := B.bytes
  have hr := B.returns
  have hts := atoms_spec (ws := wsX10_rows) B.pre
  have hown : s.vm.findClass RX10 = some m.cls := findClass_of_methodNamed B.named
  have hlocks := B.notSynchronized
  have hK := hE.1
  have hcf : CallFix p m c cX10_rows 4 s ([.ref h, .int p1, .int p2] : List Value).toArray wsX10_rows RX10 := ⟨hx, hb, hml, hown, hts⟩
  subst hsz
  have hD := hD0.self (sz := s.heap.size)
  generalize hAe : va_A [(h, .inr (7, [.ref h_s, .ref h_aside, .ref h_past, .int h_pasts, .ref h_snapshot, .int h_isKept, .ref h_pad, .int h_length, .ref h_steps, .int h_many, .int h_value, .ref h_summed, .ref h_plus, .ref h_parts])), (h_s, .inl (cI, 65, .inl h_s_f)), (h_aside, .inl (cI, 65, .inl h_aside_f)), (h_past, .inl (cI, 260, .inl h_past_f)), (h_snapshot, .inl (cI, 65, .inl h_snapshot_f)), (h_pad, .inl (cI, 80, .inl h_pad_f)), (h_steps, .inl (cI, 320, .inl h_steps_f)), (h_summed, .inl (cI, 81, .inl h_summed_f)), (h_plus, .inl (cI, 81, .inl h_plus_f)), (h_parts, .inl (cI, 392, .inl h_parts_f))] s.heap.size = A at hD ⊢
  have hA : ∀ q : Nat, s.heap.size ≤ q → A q := fun q h => by rw [← hAe]; exact Or.inr h
  have hS : va_S A s.heap s.heap [] := va_S.rf
  have hP : va_P D vwCl [(h, .inr (7, [.ref h_s, .ref h_aside, .ref h_past, .int h_pasts, .ref h_snapshot, .int h_isKept, .ref h_pad, .int h_length, .ref h_steps, .int h_many, .int h_value, .ref h_summed, .ref h_plus, .ref h_parts])), (h_s, .inl (cI, 65, .inl h_s_f)), (h_aside, .inl (cI, 65, .inl h_aside_f)), (h_past, .inl (cI, 260, .inl h_past_f)), (h_snapshot, .inl (cI, 65, .inl h_snapshot_f)), (h_pad, .inl (cI, 80, .inl h_pad_f)), (h_steps, .inl (cI, 320, .inl h_steps_f)), (h_summed, .inl (cI, 81, .inl h_summed_f)), (h_plus, .inl (cI, 81, .inl h_plus_f)), (h_parts, .inl (cI, 392, .inl h_parts_f))] s.heap := hP
  have hf_7 := hts (.fieldLink RX10 7 "CrookedSumsModel" "s" "[I") (by decide +kernel)
  have hi_X10 := (show ∀ w ∈ u_ws RX10 TX10 14, w ∈ wsX10_rows from by decide +kernel)
  have hl := lv_entry ([.ref h, .int p1, .int p2]) (n := 4) (Nat.le_of_ble_eq_true rfl)
  rw [lg_entry_eq]
  generalize (lg_sl ([.ref h, .int p1, .int p2]) ++ List.replicate (4 - (lg_sl ([.ref h, .int p1, .int p2])).length) Slot.unset).toArray = ls at hl ⊢
  have hl : lv_has ls 4 [(0, .ref h), (1, .int p1), (2, .int p2)] := hl
  unfold mX10_rows at h0
  refine lv_aload_n hx hb dX10_rows_0 rfl (lv_at hl 0 rfl) ?_
  refine lv_iload_n hx hb dX10_rows_1 rfl (lv_at hl 1 rfl) ?_
  refine lv_iload_n hx hb dX10_rows_2 rfl (lv_at hl 2 rfl) ?_
  obtain ⟨z_1, hz, h0⟩ := bd_ok h0
  refine ro_V (As := [.int p1, .int p2]) (rest := []) (wc := [(h, .inr (7, [.ref h_s, .ref h_aside, .ref h_past, .int h_pasts, .ref h_snapshot, .int h_isKept, .ref h_pad, .int h_length, .ref h_steps, .int h_many, .int h_value, .ref h_summed, .ref h_plus, .ref h_parts])), (h_s, .inl (cI, 65, .inl h_s_f)), (h_aside, .inl (cI, 65, .inl h_aside_f)), (h_past, .inl (cI, 260, .inl h_past_f)), (h_snapshot, .inl (cI, 65, .inl h_snapshot_f)), (h_pad, .inl (cI, 80, .inl h_pad_f)), (h_steps, .inl (cI, 320, .inl h_steps_f)), (h_summed, .inl (cI, 81, .inl h_summed_f)), (h_plus, .inl (cI, 81, .inl h_plus_f)), (h_parts, .inl (cI, 392, .inl h_parts_f))]) hcf (kX10_isPair l D cI cC cT h h_s h_aside h_past h_snapshot h_pad h_steps h_summed h_plus h_parts h_s_f h_aside_f h_past_f h_pasts h_snapshot_f h_isKept h_pad_f h_length h_steps_f h_many h_value h_summed_f h_plus_f h_parts_f p1 p2 z_1 hz) (cwV 2 hts gX10_rows_X10_isPair rfl rfl rfl (by decide +kernel) ⟨Nat.le_of_ble_eq_true rfl, Nat.le_of_ble_eq_true rfl⟩) hE (hP.sub [0, 1, 2, 3, 4, 5, 6, 7, 8, 9] rfl) (va_recv hK hP (ci := 7) (q0 := 0) rfl rfl) rfl hl.1 rfl (Nat.le_of_ble_eq_true rfl) dX10_rows_3 ⟨Nat.le_of_ble_eq_true rfl, Nat.le_of_ble_eq_true rfl⟩ ?_
  refine W.eq (g2 := F0 m 6 ls [.int z_1]) rfl ?_
  refine lv_if_ne (tgt := 11) hx hb dX10_rows_6 (by decide) (fun c9 => ?_) (fun c9 => ?_)
  · have h0 := it_f c9 h0
    refine lv_aload_n hx hb dX10_rows_11 rfl (lv_at hl 0 rfl) ?_
    obtain ⟨z_2, hz, h0⟩ := bd_ok h0
    refine wr_V (As := []) (rest := []) (wc := [(h, .inr (7, [.ref h_s, .ref h_aside, .ref h_past, .int h_pasts, .ref h_snapshot, .int h_isKept, .ref h_pad, .int h_length, .ref h_steps, .int h_many, .int h_value, .ref h_summed, .ref h_plus, .ref h_parts])), (h_s, .inl (cI, 65, .inl h_s_f)), (h_aside, .inl (cI, 65, .inl h_aside_f)), (h_past, .inl (cI, 260, .inl h_past_f)), (h_snapshot, .inl (cI, 65, .inl h_snapshot_f)), (h_pad, .inl (cI, 80, .inl h_pad_f)), (h_steps, .inl (cI, 320, .inl h_steps_f)), (h_summed, .inl (cI, 81, .inl h_summed_f)), (h_plus, .inl (cI, 81, .inl h_plus_f)), (h_parts, .inl (cI, 392, .inl h_parts_f))]) (wr := []) hcf (kX10_records l D cI cC cT h h_s h_aside h_past h_snapshot h_pad h_steps h_summed h_plus h_parts h_s_f h_aside_f h_past_f h_pasts h_snapshot_f h_isKept h_pad_f h_length h_steps_f h_many h_value h_summed_f h_plus_f h_parts_f _ z_2 hz) (cwV 0 hts gX10_rows_X10_records rfl rfl rfl (by decide +kernel) ⟨Nat.le_of_ble_eq_true rfl, Nat.le_of_ble_eq_true rfl⟩) hE hP hD hS hA [0, 1, 2, 3, 4, 5, 6, 7, 8, 9] [] (hP.sub [0, 1, 2, 3, 4, 5, 6, 7, 8, 9] rfl) (hD.sub [0, 1, 2, 3, 4, 5, 6, 7, 8, 9] (by decide) rfl) (va_recv hK hP (ci := 7) (q0 := 0) rfl rfl) rfl rfl (by decide) (by decide) rfl hl.1 rfl (Nat.le_of_ble_eq_true rfl) dX10_rows_12 ⟨Nat.le_of_ble_eq_true rfl, Nat.le_of_ble_eq_true rfl⟩ (fun u H locs hP hD hS => ?_)
    have hP : va_P D vwCl [(h, .inr (7, [.ref h_s, .ref h_aside, .ref h_past, .int z_2.2.2, .ref h_snapshot, .int h_isKept, .ref h_pad, .int h_length, .ref h_steps, .int h_many, .int h_value, .ref h_summed, .ref h_plus, .ref h_parts])), (h_s, .inl (cI, 65, .inl h_s_f)), (h_aside, .inl (cI, 65, .inl z_2.1)), (h_past, .inl (cI, 260, .inl z_2.2.1)), (h_snapshot, .inl (cI, 65, .inl h_snapshot_f)), (h_pad, .inl (cI, 80, .inl h_pad_f)), (h_steps, .inl (cI, 320, .inl h_steps_f)), (h_summed, .inl (cI, 81, .inl h_summed_f)), (h_plus, .inl (cI, 81, .inl h_plus_f)), (h_parts, .inl (cI, 392, .inl h_parts_f))] H := hP
    have hD : va_D A [(h, .inr (7, [.ref h_s, .ref h_aside, .ref h_past, .int z_2.2.2, .ref h_snapshot, .int h_isKept, .ref h_pad, .int h_length, .ref h_steps, .int h_many, .int h_value, .ref h_summed, .ref h_plus, .ref h_parts])), (h_s, .inl (cI, 65, .inl h_s_f)), (h_aside, .inl (cI, 65, .inl z_2.1)), (h_past, .inl (cI, 260, .inl z_2.2.1)), (h_snapshot, .inl (cI, 65, .inl h_snapshot_f)), (h_pad, .inl (cI, 80, .inl h_pad_f)), (h_steps, .inl (cI, 320, .inl h_steps_f)), (h_summed, .inl (cI, 81, .inl h_summed_f)), (h_plus, .inl (cI, 81, .inl h_plus_f)), (h_parts, .inl (cI, 392, .inl h_parts_f))] := hD
    refine W.eq (g2 := F0 m 15 ls []) rfl ?_
    refine lv_iconst (v := 0) hx hb dX10_rows_15 (by decide) ?_
    refine lv_istore_n (lv' := [(3, .int 0), (0, .ref h), (1, .int p1), (2, .int p2)]) hx hb dX10_rows_16 rfl hl (by decide) rfl (fun ls hl => ?_)
    have E_17_47_5 : ∀ (x3_3 : Int32) (f_4 : Nat → Int32) (H : Heap) (locs : List Loc) (ls : Array Slot), (bd (mX10_others f_4 z_2.1) (fun z_5 => some (z_5, f_4, z_2.1, z_2.2.1, z_2.2.2))) = some z → va_P D vwCl [(h, .inr (7, [.ref h_s, .ref h_aside, .ref h_past, .int z_2.2.2, .ref h_snapshot, .int h_isKept, .ref h_pad, .int h_length, .ref h_steps, .int h_many, .int h_value, .ref h_summed, .ref h_plus, .ref h_parts])), (h_s, .inl (cI, 65, .inl f_4)), (h_aside, .inl (cI, 65, .inl z_2.1)), (h_past, .inl (cI, 260, .inl z_2.2.1)), (h_snapshot, .inl (cI, 65, .inl h_snapshot_f)), (h_pad, .inl (cI, 80, .inl h_pad_f)), (h_steps, .inl (cI, 320, .inl h_steps_f)), (h_summed, .inl (cI, 81, .inl h_summed_f)), (h_plus, .inl (cI, 81, .inl h_plus_f)), (h_parts, .inl (cI, 392, .inl h_parts_f))] H → va_D A [(h, .inr (7, [.ref h_s, .ref h_aside, .ref h_past, .int z_2.2.2, .ref h_snapshot, .int h_isKept, .ref h_pad, .int h_length, .ref h_steps, .int h_many, .int h_value, .ref h_summed, .ref h_plus, .ref h_parts])), (h_s, .inl (cI, 65, .inl f_4)), (h_aside, .inl (cI, 65, .inl z_2.1)), (h_past, .inl (cI, 260, .inl z_2.2.1)), (h_snapshot, .inl (cI, 65, .inl h_snapshot_f)), (h_pad, .inl (cI, 80, .inl h_pad_f)), (h_steps, .inl (cI, 320, .inl h_steps_f)), (h_summed, .inl (cI, 81, .inl h_summed_f)), (h_plus, .inl (cI, 81, .inl h_plus_f)), (h_parts, .inl (cI, 392, .inl h_parts_f))] → va_S A s.heap H locs → lv_has ls 4 [(3, .int x3_3), (0, .ref h), (1, .int p1), (2, .int p2)] → W p l e (headSpec wsX10_rows ({ frames := 3, cells := 0, slots := 0, locals := 65 } : Room)).room s m (([.ref h, .int p1, .int p2] : List Value).toArray) below meth c H locs 0 0 (MQ below (wQ D (some (.int z.1)) A (fun (u : Unit) => [(h, .inr (7, [.ref h_s, .ref h_aside, .ref h_past, .int z.2.2.2.2, .ref h_snapshot, .int h_isKept, .ref h_pad, .int h_length, .ref h_steps, .int h_many, .int h_value, .ref h_summed, .ref h_plus, .ref h_parts])), (h_s, .inl (cI, 65, .inl z.2.1)), (h_aside, .inl (cI, 65, .inl z.2.2.1)), (h_past, .inl (cI, 260, .inl z.2.2.2.1)), (h_snapshot, .inl (cI, 65, .inl h_snapshot_f)), (h_pad, .inl (cI, 80, .inl h_pad_f)), (h_steps, .inl (cI, 320, .inl h_steps_f)), (h_summed, .inl (cI, 81, .inl h_summed_f)), (h_plus, .inl (cI, 81, .inl h_plus_f)), (h_parts, .inl (cI, 392, .inl h_parts_f))])) (([.ref h, .int p1, .int p2] : List Value).toArray) s 0 0 A) (F0 m 47 ls []) := by
      intro x3_3 f_4 H locs ls h0 hP hD hS hl
      refine lv_aload_n hx hb dX10_rows_47 rfl (lv_at hl 1 rfl) ?_
      obtain ⟨z_5, hz, h0⟩ := bd_ok h0
      refine ro_V (As := []) (rest := []) (wc := [(h, .inr (7, [.ref h_s, .ref h_aside, .ref h_past, .int z_2.2.2, .ref h_snapshot, .int h_isKept, .ref h_pad, .int h_length, .ref h_steps, .int h_many, .int h_value, .ref h_summed, .ref h_plus, .ref h_parts])), (h_s, .inl (cI, 65, .inl f_4)), (h_aside, .inl (cI, 65, .inl z_2.1)), (h_past, .inl (cI, 260, .inl z_2.2.1)), (h_snapshot, .inl (cI, 65, .inl h_snapshot_f)), (h_pad, .inl (cI, 80, .inl h_pad_f)), (h_steps, .inl (cI, 320, .inl h_steps_f)), (h_summed, .inl (cI, 81, .inl h_summed_f)), (h_plus, .inl (cI, 81, .inl h_plus_f)), (h_parts, .inl (cI, 392, .inl h_parts_f))]) hcf (kX10_others l D cI cC cT h h_s h_aside h_past h_snapshot h_pad h_steps h_summed h_plus h_parts f_4 z_2.1 z_2.2.1 z_2.2.2 h_snapshot_f h_isKept h_pad_f h_length h_steps_f h_many h_value h_summed_f h_plus_f h_parts_f z_5 hz) (cwV 0 hts gX10_rows_X10_others rfl rfl rfl (by decide +kernel) ⟨Nat.le_of_ble_eq_true rfl, Nat.le_of_ble_eq_true rfl⟩) hE (hP.sub [0, 1, 2, 3, 4, 5, 6, 7, 8, 9] rfl) (va_recv hK hP (ci := 7) (q0 := 0) rfl rfl) rfl hl.1 rfl (Nat.le_of_ble_eq_true rfl) dX10_rows_48 ⟨Nat.le_of_ble_eq_true rfl, Nat.le_of_ble_eq_true rfl⟩ ?_
      refine W.eq (g2 := F0 m 51 ls [.int z_5]) rfl ?_
      have e0 := Option.some.inj h0
      subst e0
      exact W.iret (v := z_5) hx hb hr (fun t ht hW => wr_end () ht hP hD hS) hS.2.2 dX10_rows_51
    have L_17_11 : ∀ (F17 : Nat) (x3_7 : Int32) (f_8 : Nat → Int32) (H : Heap) (locs : List Loc) (ls : Array Slot), mX10_rows_L17 p1 p2 (fun (x3_3 : Int32) (f_4 : Nat → Int32) => bd (mX10_others f_4 z_2.1) (fun z_5 => some (z_5, f_4, z_2.1, z_2.2.1, z_2.2.2))) F17 x3_7 f_8 = some z → va_P D vwCl [(h, .inr (7, [.ref h_s, .ref h_aside, .ref h_past, .int z_2.2.2, .ref h_snapshot, .int h_isKept, .ref h_pad, .int h_length, .ref h_steps, .int h_many, .int h_value, .ref h_summed, .ref h_plus, .ref h_parts])), (h_s, .inl (cI, 65, .inl f_8)), (h_aside, .inl (cI, 65, .inl z_2.1)), (h_past, .inl (cI, 260, .inl z_2.2.1)), (h_snapshot, .inl (cI, 65, .inl h_snapshot_f)), (h_pad, .inl (cI, 80, .inl h_pad_f)), (h_steps, .inl (cI, 320, .inl h_steps_f)), (h_summed, .inl (cI, 81, .inl h_summed_f)), (h_plus, .inl (cI, 81, .inl h_plus_f)), (h_parts, .inl (cI, 392, .inl h_parts_f))] H → va_D A [(h, .inr (7, [.ref h_s, .ref h_aside, .ref h_past, .int z_2.2.2, .ref h_snapshot, .int h_isKept, .ref h_pad, .int h_length, .ref h_steps, .int h_many, .int h_value, .ref h_summed, .ref h_plus, .ref h_parts])), (h_s, .inl (cI, 65, .inl f_8)), (h_aside, .inl (cI, 65, .inl z_2.1)), (h_past, .inl (cI, 260, .inl z_2.2.1)), (h_snapshot, .inl (cI, 65, .inl h_snapshot_f)), (h_pad, .inl (cI, 80, .inl h_pad_f)), (h_steps, .inl (cI, 320, .inl h_steps_f)), (h_summed, .inl (cI, 81, .inl h_summed_f)), (h_plus, .inl (cI, 81, .inl h_plus_f)), (h_parts, .inl (cI, 392, .inl h_parts_f))] → va_S A s.heap H locs → lv_has ls 4 [(3, .int x3_7), (0, .ref h), (1, .int p1), (2, .int p2)] → W p l e (headSpec wsX10_rows ({ frames := 3, cells := 0, slots := 0, locals := 65 } : Room)).room s m (([.ref h, .int p1, .int p2] : List Value).toArray) below meth c H locs 0 0 (MQ below (wQ D (some (.int z.1)) A (fun (u : Unit) => [(h, .inr (7, [.ref h_s, .ref h_aside, .ref h_past, .int z.2.2.2.2, .ref h_snapshot, .int h_isKept, .ref h_pad, .int h_length, .ref h_steps, .int h_many, .int h_value, .ref h_summed, .ref h_plus, .ref h_parts])), (h_s, .inl (cI, 65, .inl z.2.1)), (h_aside, .inl (cI, 65, .inl z.2.2.1)), (h_past, .inl (cI, 260, .inl z.2.2.2.1)), (h_snapshot, .inl (cI, 65, .inl h_snapshot_f)), (h_pad, .inl (cI, 80, .inl h_pad_f)), (h_steps, .inl (cI, 320, .inl h_steps_f)), (h_summed, .inl (cI, 81, .inl h_summed_f)), (h_plus, .inl (cI, 81, .inl h_plus_f)), (h_parts, .inl (cI, 392, .inl h_parts_f))])) (([.ref h, .int p1, .int p2] : List Value).toArray) s 0 0 A) (F0 m 17 ls []) := by
      intro F17
      induction F17 with
      | zero => intro x3_7 f_8 H locs ls h0 hP hD hS hl; cases h0
      | succ F17 ih17 =>
        intro x3_7 f_8 H locs ls h0 hP hD hS hl
        rw [mX10_rows_L17] at h0
        refine lv_iload_n hx hb dX10_rows_17 rfl (lv_at hl 0 rfl) ?_
        refine lv_aload_n hx hb dX10_rows_18 rfl (lv_at hl 1 rfl) ?_
        refine va_get (D := D) (ci := 7) (v := .ref h_s) (C := RX10) (T := TX10) (N := 14) hx hb hts hi_X10 hown hK hP 0 rfl rfl 0 (by decide) hf_7 (fun _ h9 => h9) rfl dX10_rows_19 ?_
        refine lv_iconst (v := 0) hx hb dX10_rows_22 (by decide) ?_
        refine va_iald hx hb hK hP 1 0 rfl rfl (by unfold vp_in; decide) dX10_rows_23 ?_
        refine lv_icmp_ge (tgt := 47) hx hb dX10_rows_24 (by decide) (fun c9 => ?_) (fun c9 => ?_)
        · have h0 := it_t c9 h0
          exact E_17_47_5 x3_7 f_8 _ _ ls h0 hP hD hS hl
        · have h0 := it_f c9 h0
          refine lv_aload_n hx hb dX10_rows_27 rfl (lv_at hl 1 rfl) ?_
          refine lv_iload_n hx hb dX10_rows_28 rfl (lv_at hl 2 rfl) ?_
          refine lv_iload_n hx hb dX10_rows_29 rfl (lv_at hl 0 rfl) ?_
          obtain ⟨z_9, hz, h0⟩ := bd_ok h0
          refine ro_S (As := [.int p1, .int x3_7]) (rest := [.ref h]) (wc := []) hcf (kX10_at l D cI cC cT p1 x3_7 z_9 hz) (va_cwS 2 hts gX10_rows_X10_at rfl rfl rfl (by decide +kernel) ⟨Nat.le_of_ble_eq_true rfl, Nat.le_of_ble_eq_true rfl⟩) hE (hP.sub [] rfl) rfl hl.1 rfl (Nat.le_of_ble_eq_true rfl) dX10_rows_30 ⟨Nat.le_of_ble_eq_true rfl, Nat.le_of_ble_eq_true rfl⟩ ?_
          refine W.eq (g2 := F0 m 33 ls [.int z_9, .ref h]) rfl ?_
          refine lv_iload_n hx hb dX10_rows_33 rfl (lv_at hl 3 rfl) ?_
          refine lv_iload_n hx hb dX10_rows_34 rfl (lv_at hl 0 rfl) ?_
          obtain ⟨z_10, hz, h0⟩ := bd_ok h0
          refine ro_S (As := [.int p2, .int x3_7]) (rest := [.int z_9, .ref h]) (wc := []) hcf (kX10_at l D cI cC cT p2 x3_7 z_10 hz) (va_cwS 2 hts gX10_rows_X10_at rfl rfl rfl (by decide +kernel) ⟨Nat.le_of_ble_eq_true rfl, Nat.le_of_ble_eq_true rfl⟩) hE (hP.sub [] rfl) rfl hl.1 rfl (Nat.le_of_ble_eq_true rfl) dX10_rows_35 ⟨Nat.le_of_ble_eq_true rfl, Nat.le_of_ble_eq_true rfl⟩ ?_
          refine W.eq (g2 := F0 m 38 ls [.int z_10, .int z_9, .ref h]) rfl ?_
          obtain ⟨z_11, hz, h0⟩ := bd_ok h0
          refine wr_V (As := [.int z_9, .int z_10]) (rest := []) (wc := [(h, .inr (7, [.ref h_s, .ref h_aside, .ref h_past, .int z_2.2.2, .ref h_snapshot, .int h_isKept, .ref h_pad, .int h_length, .ref h_steps, .int h_many, .int h_value, .ref h_summed, .ref h_plus, .ref h_parts])), (h_s, .inl (cI, 65, .inl f_8)), (h_aside, .inl (cI, 65, .inl z_2.1)), (h_past, .inl (cI, 260, .inl z_2.2.1)), (h_snapshot, .inl (cI, 65, .inl h_snapshot_f)), (h_pad, .inl (cI, 80, .inl h_pad_f)), (h_steps, .inl (cI, 320, .inl h_steps_f)), (h_summed, .inl (cI, 81, .inl h_summed_f)), (h_plus, .inl (cI, 81, .inl h_plus_f)), (h_parts, .inl (cI, 392, .inl h_parts_f))]) (wr := []) hcf (kX10_exchanges l D cI cC cT h h_s h_aside h_past h_snapshot h_pad h_steps h_summed h_plus h_parts f_8 z_2.1 z_2.2.1 z_2.2.2 h_snapshot_f h_isKept h_pad_f h_length h_steps_f h_many h_value h_summed_f h_plus_f h_parts_f z_9 z_10 _ z_11 hz) (cwV 2 hts gX10_rows_X10_exchanges rfl rfl rfl (by decide +kernel) ⟨Nat.le_of_ble_eq_true rfl, Nat.le_of_ble_eq_true rfl⟩) hE hP hD hS hA [0, 1, 2, 3, 4, 5, 6, 7, 8, 9] [] (hP.sub [0, 1, 2, 3, 4, 5, 6, 7, 8, 9] rfl) (hD.sub [0, 1, 2, 3, 4, 5, 6, 7, 8, 9] (by decide) rfl) (va_recv hK hP (ci := 7) (q0 := 0) rfl rfl) rfl rfl (by decide) (by decide) rfl hl.1 rfl (Nat.le_of_ble_eq_true rfl) dX10_rows_38 ⟨Nat.le_of_ble_eq_true rfl, Nat.le_of_ble_eq_true rfl⟩ (fun u H locs hP hD hS => ?_)
          have hP : va_P D vwCl [(h, .inr (7, [.ref h_s, .ref h_aside, .ref h_past, .int z_2.2.2, .ref h_snapshot, .int h_isKept, .ref h_pad, .int h_length, .ref h_steps, .int h_many, .int h_value, .ref h_summed, .ref h_plus, .ref h_parts])), (h_s, .inl (cI, 65, .inl z_11)), (h_aside, .inl (cI, 65, .inl z_2.1)), (h_past, .inl (cI, 260, .inl z_2.2.1)), (h_snapshot, .inl (cI, 65, .inl h_snapshot_f)), (h_pad, .inl (cI, 80, .inl h_pad_f)), (h_steps, .inl (cI, 320, .inl h_steps_f)), (h_summed, .inl (cI, 81, .inl h_summed_f)), (h_plus, .inl (cI, 81, .inl h_plus_f)), (h_parts, .inl (cI, 392, .inl h_parts_f))] H := hP
          have hD : va_D A [(h, .inr (7, [.ref h_s, .ref h_aside, .ref h_past, .int z_2.2.2, .ref h_snapshot, .int h_isKept, .ref h_pad, .int h_length, .ref h_steps, .int h_many, .int h_value, .ref h_summed, .ref h_plus, .ref h_parts])), (h_s, .inl (cI, 65, .inl z_11)), (h_aside, .inl (cI, 65, .inl z_2.1)), (h_past, .inl (cI, 260, .inl z_2.2.1)), (h_snapshot, .inl (cI, 65, .inl h_snapshot_f)), (h_pad, .inl (cI, 80, .inl h_pad_f)), (h_steps, .inl (cI, 320, .inl h_steps_f)), (h_summed, .inl (cI, 81, .inl h_summed_f)), (h_plus, .inl (cI, 81, .inl h_plus_f)), (h_parts, .inl (cI, 392, .inl h_parts_f))] := hD
          refine W.eq (g2 := F0 m 41 ls []) rfl ?_
          refine lv_iinc (v := (x3_7 + 1)) (lv' := [(3, .int (x3_7 + 1)), (0, .ref h), (1, .int p1), (2, .int p2)]) hx hb dX10_rows_41 hl (k := 0) rfl rfl (by decide) rfl (fun ls hl => ?_)
          refine lv_goto (tgt := 17) hx hb dX10_rows_44 (by decide) ?_
          exact ih17 (x3_7 + 1) z_11 _ _ ls h0 hP hD hS hl
    exact L_17_11 FU 0 h_s_f _ _ ls h0 hP hD hS hl
  · have h0 := it_t c9 h0
    refine lv_iconst (v := (-1)) hx hb dX10_rows_9 (by decide) ?_
    have e0 := Option.some.inj h0
    subst e0
    exact W.iret (v := (-1)) hx hb hr (fun t ht hW => wr_end () ht hP hD hS) hS.2.2 dX10_rows_10
noncomputable def mX10_sum (h_s_f : Nat → Int32) (p1 : Int32) (p2 : Int32) : Option (Int32) :=
  bd (mX10_isToken h_s_f p1) (fun z_1 => if z_1 = 0 then (some ((-1))) else (bd (mX10_isToken h_s_f p2) (fun z_2 => if z_2 = 0 then (some ((-1))) else (bd (mX10_plain h_s_f p1 p2) (fun z_3 => some (z_3))))))
set_option maxHeartbeats 8000000 in
set_option maxRecDepth 100000 in
theorem kX10_sum (l : Launch) (D : va_G) (cI cC cT : ClassId) (h h_s h_aside h_past h_snapshot h_pad h_steps h_summed h_plus h_parts : Nat) (h_s_f : Nat → Int32) (h_aside_f : Nat → Int32) (h_past_f : Nat → Int32) (h_pasts : Int32) (h_snapshot_f : Nat → Int32) (h_isKept : Int32) (h_pad_f : Nat → Int32) (h_length : Int32) (h_steps_f : Nat → Int32) (h_many : Int32) (h_value : Int32) (h_summed_f : Nat → Int32) (h_plus_f : Nat → Int32) (h_parts_f : Nat → Int32) (p1 : Int32) (p2 : Int32) (z : Int32) (h0 : mX10_sum h_s_f p1 p2 = some z) : Met l yX10_sum wsX10_sum ({ frames := 2, cells := 0, slots := 0, locals := 43 } : Room) (va_Pc [.ref h, .int p1, .int p2] (rP D cI cC cT [(h, .inr (7, [.ref h_s, .ref h_aside, .ref h_past, .int h_pasts, .ref h_snapshot, .int h_isKept, .ref h_pad, .int h_length, .ref h_steps, .int h_many, .int h_value, .ref h_summed, .ref h_plus, .ref h_parts])), (h_s, .inl (cI, 65, .inl h_s_f)), (h_aside, .inl (cI, 65, .inl h_aside_f)), (h_past, .inl (cI, 260, .inl h_past_f)), (h_snapshot, .inl (cI, 65, .inl h_snapshot_f)), (h_pad, .inl (cI, 80, .inl h_pad_f)), (h_steps, .inl (cI, 320, .inl h_steps_f)), (h_summed, .inl (cI, 81, .inl h_summed_f)), (h_plus, .inl (cI, 81, .inl h_plus_f)), (h_parts, .inl (cI, 392, .inl h_parts_f))])) (rQ (some (.int z))) 0 0 (fun _ => False) := by
  refine Met.ofW (cc := cX10_sum) (maxL := 3) (ret := (some .int)) (by decide) rfl ?_
  intro p e s m args below meth c s₁ B hml hv
  obtain ⟨rfl, hP, hE⟩ := hv
  have hx := B.exec
  have hb := B.bytes
  have hr := B.returns
  have hts := atoms_spec (ws := wsX10_sum) B.pre
  have hown : s.vm.findClass RX10 = some m.cls := findClass_of_methodNamed B.named
  have hlocks := B.notSynchronized
  have hK := hE.1
  have hcf : CallFix p m c cX10_sum 3 s ([.ref h, .int p1, .int p2] : List Value).toArray wsX10_sum RX10 := ⟨hx, hb, hml, hown, hts⟩
  have hP : va_P D vwCl [(h, .inr (7, [.ref h_s, .ref h_aside, .ref h_past, .int h_pasts, .ref h_snapshot, .int h_isKept, .ref h_pad, .int h_length, .ref h_steps, .int h_many, .int h_value, .ref h_summed, .ref h_plus, .ref h_parts])), (h_s, .inl (cI, 65, .inl h_s_f)), (h_aside, .inl (cI, 65, .inl h_aside_f)), (h_past, .inl (cI, 260, .inl h_past_f)), (h_snapshot, .inl (cI, 65, .inl h_snapshot_f)), (h_pad, .inl (cI, 80, .inl h_pad_f)), (h_steps, .inl (cI, 320, .inl h_steps_f)), (h_summed, .inl (cI, 81, .inl h_summed_f)), (h_plus, .inl (cI, 81, .inl h_plus_f)), (h_parts, .inl (cI, 392, .inl h_parts_f))] s.heap := hP
  have hl := lv_entry ([.ref h, .int p1, .int p2]) (n := 3) (Nat.le_of_ble_eq_true rfl)
  rw [lg_entry_eq]
  generalize (lg_sl ([.ref h, .int p1, .int p2]) ++ List.replicate (3 - (lg_sl ([.ref h, .int p1, .int p2])).length) Slot.unset).toArray = ls at hl ⊢
  have hl : lv_has ls 3 [(0, .ref h), (1, .int p1), (2, .int p2)] := hl
  unfold mX10_sum at h0
  refine lv_aload_n hx hb dX10_sum_0 rfl (lv_at hl 0 rfl) ?_
  refine lv_iload_n hx hb dX10_sum_1 rfl (lv_at hl 1 rfl) ?_
  obtain ⟨z_1, hz, h0⟩ := bd_ok h0
  refine ro_V (As := [.int p1]) (rest := []) (wc := [(h, .inr (7, [.ref h_s, .ref h_aside, .ref h_past, .int h_pasts, .ref h_snapshot, .int h_isKept, .ref h_pad, .int h_length, .ref h_steps, .int h_many, .int h_value, .ref h_summed, .ref h_plus, .ref h_parts])), (h_s, .inl (cI, 65, .inl h_s_f)), (h_aside, .inl (cI, 65, .inl h_aside_f)), (h_past, .inl (cI, 260, .inl h_past_f)), (h_snapshot, .inl (cI, 65, .inl h_snapshot_f)), (h_pad, .inl (cI, 80, .inl h_pad_f)), (h_steps, .inl (cI, 320, .inl h_steps_f)), (h_summed, .inl (cI, 81, .inl h_summed_f)), (h_plus, .inl (cI, 81, .inl h_plus_f)), (h_parts, .inl (cI, 392, .inl h_parts_f))]) hcf (kX10_isToken l D cI cC cT h h_s h_aside h_past h_snapshot h_pad h_steps h_summed h_plus h_parts h_s_f h_aside_f h_past_f h_pasts h_snapshot_f h_isKept h_pad_f h_length h_steps_f h_many h_value h_summed_f h_plus_f h_parts_f p1 z_1 hz) (cwV 1 hts gX10_sum_X10_isToken rfl rfl rfl (by decide +kernel) ⟨Nat.le_of_ble_eq_true rfl, Nat.le_of_ble_eq_true rfl⟩) hE (hP.sub [0, 1, 2, 3, 4, 5, 6, 7, 8, 9] rfl) (va_recv hK hP (ci := 7) (q0 := 0) rfl rfl) rfl hl.1 rfl (Nat.le_of_ble_eq_true rfl) dX10_sum_2 ⟨Nat.le_of_ble_eq_true rfl, Nat.le_of_ble_eq_true rfl⟩ ?_
  refine W.eq (g2 := F0 m 5 ls [.int z_1]) rfl ?_
  refine lv_if_eq (tgt := 25) hx hb dX10_sum_5 (by decide) (fun c9 => ?_) (fun c9 => ?_)
  · have h0 := it_t c9 h0
    refine lv_iconst (v := (-1)) hx hb dX10_sum_25 (by decide) ?_
    have e0 := Option.some.inj h0
    subst e0
    exact W.iret (v := (-1)) hx hb hr (fun t ht hW => ⟨rfl, ht⟩) (fun q hq => absurd hq List.not_mem_nil) dX10_sum_26
  · have h0 := it_f c9 h0
    refine lv_aload_n hx hb dX10_sum_8 rfl (lv_at hl 0 rfl) ?_
    refine lv_iload_n hx hb dX10_sum_9 rfl (lv_at hl 2 rfl) ?_
    obtain ⟨z_2, hz, h0⟩ := bd_ok h0
    refine ro_V (As := [.int p2]) (rest := []) (wc := [(h, .inr (7, [.ref h_s, .ref h_aside, .ref h_past, .int h_pasts, .ref h_snapshot, .int h_isKept, .ref h_pad, .int h_length, .ref h_steps, .int h_many, .int h_value, .ref h_summed, .ref h_plus, .ref h_parts])), (h_s, .inl (cI, 65, .inl h_s_f)), (h_aside, .inl (cI, 65, .inl h_aside_f)), (h_past, .inl (cI, 260, .inl h_past_f)), (h_snapshot, .inl (cI, 65, .inl h_snapshot_f)), (h_pad, .inl (cI, 80, .inl h_pad_f)), (h_steps, .inl (cI, 320, .inl h_steps_f)), (h_summed, .inl (cI, 81, .inl h_summed_f)), (h_plus, .inl (cI, 81, .inl h_plus_f)), (h_parts, .inl (cI, 392, .inl h_parts_f))]) hcf (kX10_isToken l D cI cC cT h h_s h_aside h_past h_snapshot h_pad h_steps h_summed h_plus h_parts h_s_f h_aside_f h_past_f h_pasts h_snapshot_f h_isKept h_pad_f h_length h_steps_f h_many h_value h_summed_f h_plus_f h_parts_f p2 z_2 hz) (cwV 1 hts gX10_sum_X10_isToken rfl rfl rfl (by decide +kernel) ⟨Nat.le_of_ble_eq_true rfl, Nat.le_of_ble_eq_true rfl⟩) hE (hP.sub [0, 1, 2, 3, 4, 5, 6, 7, 8, 9] rfl) (va_recv hK hP (ci := 7) (q0 := 0) rfl rfl) rfl hl.1 rfl (Nat.le_of_ble_eq_true rfl) dX10_sum_10 ⟨Nat.le_of_ble_eq_true rfl, Nat.le_of_ble_eq_true rfl⟩ ?_
    refine W.eq (g2 := F0 m 13 ls [.int z_2]) rfl ?_
    refine lv_if_eq (tgt := 25) hx hb dX10_sum_13 (by decide) (fun c9 => ?_) (fun c9 => ?_)
    · have h0 := it_t c9 h0
      refine lv_iconst (v := (-1)) hx hb dX10_sum_25 (by decide) ?_
      have e0 := Option.some.inj h0
      subst e0
      exact W.iret (v := (-1)) hx hb hr (fun t ht hW => ⟨rfl, ht⟩) (fun q hq => absurd hq List.not_mem_nil) dX10_sum_26
    · have h0 := it_f c9 h0
      refine lv_aload_n hx hb dX10_sum_16 rfl (lv_at hl 0 rfl) ?_
      refine lv_iload_n hx hb dX10_sum_17 rfl (lv_at hl 1 rfl) ?_
      refine lv_iload_n hx hb dX10_sum_18 rfl (lv_at hl 2 rfl) ?_
      obtain ⟨z_3, hz, h0⟩ := bd_ok h0
      refine ro_V (As := [.int p1, .int p2]) (rest := []) (wc := [(h, .inr (7, [.ref h_s, .ref h_aside, .ref h_past, .int h_pasts, .ref h_snapshot, .int h_isKept, .ref h_pad, .int h_length, .ref h_steps, .int h_many, .int h_value, .ref h_summed, .ref h_plus, .ref h_parts])), (h_s, .inl (cI, 65, .inl h_s_f)), (h_aside, .inl (cI, 65, .inl h_aside_f)), (h_past, .inl (cI, 260, .inl h_past_f)), (h_snapshot, .inl (cI, 65, .inl h_snapshot_f)), (h_pad, .inl (cI, 80, .inl h_pad_f)), (h_steps, .inl (cI, 320, .inl h_steps_f)), (h_summed, .inl (cI, 81, .inl h_summed_f)), (h_plus, .inl (cI, 81, .inl h_plus_f)), (h_parts, .inl (cI, 392, .inl h_parts_f))]) hcf (kX10_plain l D cI cC cT h h_s h_aside h_past h_snapshot h_pad h_steps h_summed h_plus h_parts h_s_f h_aside_f h_past_f h_pasts h_snapshot_f h_isKept h_pad_f h_length h_steps_f h_many h_value h_summed_f h_plus_f h_parts_f p1 p2 z_3 hz) (cwV 2 hts gX10_sum_X10_plain rfl rfl rfl (by decide +kernel) ⟨Nat.le_of_ble_eq_true rfl, Nat.le_of_ble_eq_true rfl⟩) hE (hP.sub [0, 1, 2, 3, 4, 5, 6, 7, 8, 9] rfl) (va_recv hK hP (ci := 7) (q0 := 0) rfl rfl) rfl hl.1 rfl (Nat.le_of_ble_eq_true rfl) dX10_sum_19 ⟨Nat.le_of_ble_eq_true rfl, Nat.le_of_ble_eq_true rfl⟩ ?_
      refine W.eq (g2 := F0 m 22 ls [.int z_3]) rfl ?_
      refine lv_goto (tgt := 26) hx hb dX10_sum_22 (by decide) ?_
      have e0 := Option.some.inj h0
      subst e0
      exact W.iret (v := z_3) hx hb hr (fun t ht hW => ⟨rfl, ht⟩) (fun q hq => absurd hq List.not_mem_nil) dX10_sum_26
