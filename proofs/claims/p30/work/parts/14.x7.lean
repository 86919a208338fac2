noncomputable def mX7_added (p1_cells_f : Nat → Int32) (p2 : Int32) (p3 : Int32) (p4 : Int32) : Option (Int32) :=
  if p4 = 0 then (bd (mX6_at p1_cells_f p2 p3) (fun z_1 => some (z_1))) else (bd (mX6_at p1_cells_f p3 p2) (fun z_2 => some (z_2)))
set_option maxHeartbeats 8000000 in
set_option maxRecDepth 100000 in
theorem kX7_added (l : Launch) (D : va_G) (cI cC cT : ClassId) (p1 p1_cells : Nat) (p1_cells_f : Nat → Int32) (p1_size : Int32) (p2 : Int32) (p3 : Int32) (p4 : Int32) (z : Int32) (h0 : mX7_added p1_cells_f p2 p3 p4 = some z) : Met l yX7_added wsX7_added ({ frames := 1, cells := 0, slots := 0, locals := 23 } : Room) (va_Pc [.ref p1, .int p2, .int p3, .int p4] (rP D cI cC cT [(p1, .inr (5, [.ref p1_cells, .int p1_size])), (p1_cells, .inl (cI, 64, .inl p1_cells_f))])) (rQ (some (.int z))) 0 0 (fun _ => False) := by
  refine Met.ofW (cc := cX7_added) (maxL := 4) (ret := (some .int)) (by decide) rfl ?_
  intro p e s m args below meth c s₁ B hml hv
  obtain ⟨rfl, hP, hE⟩ := hv
  have hx := B.exec
  have hb := B.bytes
  have hr := B.returns
  have hts := atoms_spec (ws := wsX7_added) B.pre
  have hown : s.vm.findClass RX7 = some m.cls := findClass_of_methodNamed B.named
  have hlocks := B.notSynchronized
  have hK := hE.1
  have hcf : CallFix p m c cX7_added 4 s ([.ref p1, .int p2, .int p3, .int p4] : List Value).toArray wsX7_added RX7 := ⟨hx, hb, hml, hown, hts⟩
  have hP : va_P D vwCl [(p1, .inr (5, [.ref p1_cells, .int p1_size])), (p1_cells, .inl (cI, 64, .inl p1_cells_f))] s.heap := hP
  have hl := lv_entry ([.ref p1, .int p2, .int p3, .int p4]) (n := 4) (Nat.le_of_ble_eq_true rfl)
  rw [lg_entry_eq]
  generalize (lg_sl ([.ref p1, .int p2, .int p3, .int p4]) ++ List.replicate (4 - (lg_sl ([.ref p1, .int p2, .int p3, .int p4])).length) Slot.unset).toArray = ls at hl ⊢
  have hl : lv_has ls 4 [(0, .ref p1), (1, .int p2), (2, .int p3), (3, .int p4)] := hl
  unfold mX7_added at h0
  refine lv_iload_n hx hb dX7_added_0 rfl (lv_at hl 3 rfl) ?_
  refine lv_if_eq (tgt := 13) hx hb dX7_added_1 (by decide) (fun c9 => ?_) (fun c9 => ?_)
  · have h0 := it_t c9 h0
    refine lv_aload_n hx hb dX7_added_13 rfl (lv_at hl 0 rfl) ?_
    refine lv_iload_n hx hb dX7_added_14 rfl (lv_at hl 1 rfl) ?_
    refine lv_iload_n hx hb dX7_added_15 rfl (lv_at hl 2 rfl) ?_
    obtain ⟨z_1, hz, h0⟩ := bd_ok h0
    refine ro_V (As := [.int p2, .int p3]) (rest := []) (wc := [(p1, .inr (5, [.ref p1_cells, .int p1_size])), (p1_cells, .inl (cI, 64, .inl p1_cells_f))]) hcf (kX6_at l D cI cC cT p1 p1_cells p1_cells_f p1_size p2 p3 z_1 hz) (cwV 2 hts gX7_added_X6_at rfl rfl rfl (by decide +kernel) ⟨Nat.le_of_ble_eq_true rfl, Nat.le_of_ble_eq_true rfl⟩) hE (hP.sub [0, 1] rfl) (va_recv hK hP (ci := 5) (q0 := 0) rfl rfl) rfl hl.1 rfl (Nat.le_of_ble_eq_true rfl) dX7_added_16 ⟨Nat.le_of_ble_eq_true rfl, Nat.le_of_ble_eq_true rfl⟩ ?_
    refine W.eq (g2 := F0 m 19 ls [.int z_1]) rfl ?_
    have e0 := Option.some.inj h0
    subst e0
    exact W.iret (v := z_1) hx hb hr (fun t ht hW => ⟨rfl, ht⟩) (fun q hq => absurd hq List.not_mem_nil) dX7_added_19
  · have h0 := it_f c9 h0
    refine lv_aload_n hx hb dX7_added_4 rfl (lv_at hl 0 rfl) ?_
    refine lv_iload_n hx hb dX7_added_5 rfl (lv_at hl 2 rfl) ?_
    refine lv_iload_n hx hb dX7_added_6 rfl (lv_at hl 1 rfl) ?_
    obtain ⟨z_2, hz, h0⟩ := bd_ok h0
    refine ro_V (As := [.int p3, .int p2]) (rest := []) (wc := [(p1, .inr (5, [.ref p1_cells, .int p1_size])), (p1_cells, .inl (cI, 64, .inl p1_cells_f))]) hcf (kX6_at l D cI cC cT p1 p1_cells p1_cells_f p1_size p3 p2 z_2 hz) (cwV 2 hts gX7_added_X6_at rfl rfl rfl (by decide +kernel) ⟨Nat.le_of_ble_eq_true rfl, Nat.le_of_ble_eq_true rfl⟩) hE (hP.sub [0, 1] rfl) (va_recv hK hP (ci := 5) (q0 := 0) rfl rfl) rfl hl.1 rfl (Nat.le_of_ble_eq_true rfl) dX7_added_7 ⟨Nat.le_of_ble_eq_true rfl, Nat.le_of_ble_eq_true rfl⟩ ?_
    refine W.eq (g2 := F0 m 10 ls [.int z_2]) rfl ?_
    refine lv_goto (tgt := 19) hx hb dX7_added_10 (by decide) ?_
    have e0 := Option.some.inj h0
    subst e0
    exact W.iret (v := z_2) hx hb hr (fun t ht hW => ⟨rfl, ht⟩) (fun q hq => absurd hq List.not_mem_nil) dX7_added_19
noncomputable def mX7_addedBetween_L3 (p1_cells_f : Nat → Int32) (p1_size : Int32) (p2 : Int32) (p3 : Int32) (p4 : Int32) (k3_33 : Int32 → Option (Int32)) : Nat → Int32 → Option (Int32)
  | 0, _ => none
  | F + 1, x4_3 => bd (mX6_size p1_size) (fun z_4 => if z_4 ≤ x4_3 then (k3_33 x4_3) else (bd (mX7_added p1_cells_f p2 x4_3 p4) (fun z_5 => if z_5 = p3 then (some (x4_3)) else (mX7_addedBetween_L3 p1_cells_f p1_size p2 p3 p4 k3_33 F (x4_3 + 1)))))
noncomputable def mX7_addedBetween (p1_cells_f : Nat → Int32) (p1_size : Int32) (p2 : Int32) (p3 : Int32) (p4 : Int32) : Option (Int32) :=
  mX7_addedBetween_L3 p1_cells_f p1_size p2 p3 p4 (fun (x4_1 : Int32) => some ((-4))) FU 0
set_option maxHeartbeats 8000000 in
set_option maxRecDepth 100000 in
theorem kX7_addedBetween (l : Launch) (D : va_G) (cI cC cT : ClassId) (p1 p1_cells : Nat) (p1_cells_f : Nat → Int32) (p1_size : Int32) (p2 : Int32) (p3 : Int32) (p4 : Int32) (z : Int32) (h0 : mX7_addedBetween p1_cells_f p1_size p2 p3 p4 = some z) : Met l yX7_addedBetween wsX7_addedBetween ({ frames := 2, cells := 0, slots := 0, locals := 46 } : Room) (va_Pc [.ref p1, .int p2, .int p3, .int p4] (rP D cI cC cT [(p1, .inr (5, [.ref p1_cells, .int p1_size])), (p1_cells, .inl (cI, 64, .inl p1_cells_f))])) (rQ (some (.int z))) 0 0 (fun _ => False) := by
  refine Met.ofW (cc := cX7_addedBetween) (maxL := 5) (ret := (some .int)) (by decide) rfl ?_
  intro p e s m args below meth c s₁ B hml hv
  obtain ⟨rfl, hP, hE⟩ := hv
  have hx := B.exec
  have hb := B.bytes
  have hr := B.returns
  have hts := atoms_spec (ws := wsX7_addedBetween) B.pre
  have hown : s.vm.findClass RX7 = some m.cls := findClass_of_methodNamed B.named
  have hlocks := B.notSynchronized
  have hK := hE.1
  have hcf : CallFix p m c cX7_addedBetween 5 s ([.ref p1, .int p2, .int p3, .int p4] : List Value).toArray wsX7_addedBetween RX7 := ⟨hx, hb, hml, hown, hts⟩
  have hP : va_P D vwCl [(p1, .inr (5, [.ref p1_cells, .int p1_size])), (p1_cells, .inl (cI, 64, .inl p1_cells_f))] s.heap := hP
  have hl := lv_entry ([.ref p1, .int p2, .int p3, .int p4]) (n := 5) (Nat.le_of_ble_eq_true rfl)
  rw [lg_entry_eq]
  generalize (lg_sl ([.ref p1, .int p2, .int p3, .int p4]) ++ List.replicate (5 - (lg_sl ([.ref p1, .int p2, .int p3, .int p4])).length) Slot.unset).toArray = ls at hl ⊢
  have hl : lv_has ls 5 [(0, .ref p1), (1, .int p2), (2, .int p3), (3, .int p4)] := hl
  unfold mX7_addedBetween at h0
  refine lv_iconst (v := 0) hx hb dX7_addedBetween_0 (by decide) ?_
  refine lv_istore (lv' := [(4, .int 0), (0, .ref p1), (1, .int p2), (2, .int p3), (3, .int p4)]) hx hb dX7_addedBetween_1 hl (by decide) rfl (fun ls hl => ?_)
  have E_3_33_1 : ∀ (x4_1 : Int32) (ls : Array Slot), (some ((-4))) = some z → lv_has ls 5 [(4, .int x4_1), (0, .ref p1), (1, .int p2), (2, .int p3), (3, .int p4)] → W p l e (headSpec wsX7_addedBetween ({ frames := 2, cells := 0, slots := 0, locals := 46 } : Room)).room s m (([.ref p1, .int p2, .int p3, .int p4] : List Value).toArray) below meth c s.heap [] 0 0 (MQ below (rQ (some (.int z))) (([.ref p1, .int p2, .int p3, .int p4] : List Value).toArray) s 0 0 (fun _ => False)) (F0 m 33 ls []) := by
    intro x4_1 ls h0 hl
    refine lv_bipush (v := (-4)) hx hb dX7_addedBetween_33 (by decide) ?_
    have e0 := Option.some.inj h0
    subst e0
    exact W.iret (v := (-4)) hx hb hr (fun t ht hW => ⟨rfl, ht⟩) (fun q hq => absurd hq List.not_mem_nil) dX7_addedBetween_35
  have L_3_5 : ∀ (F3 : Nat) (x4_3 : Int32) (ls : Array Slot), mX7_addedBetween_L3 p1_cells_f p1_size p2 p3 p4 (fun (x4_1 : Int32) => some ((-4))) F3 x4_3 = some z → lv_has ls 5 [(4, .int x4_3), (0, .ref p1), (1, .int p2), (2, .int p3), (3, .int p4)] → W p l e (headSpec wsX7_addedBetween ({ frames := 2, cells := 0, slots := 0, locals := 46 } : Room)).room s m (([.ref p1, .int p2, .int p3, .int p4] : List Value).toArray) below meth c s.heap [] 0 0 (MQ below (rQ (some (.int z))) (([.ref p1, .int p2, .int p3, .int p4] : List Value).toArray) s 0 0 (fun _ => False)) (F0 m 3 ls []) := by
    intro F3
    induction F3 with
    | zero => intro x4_3 ls h0 hl; cases h0
    | succ F3 ih3 =>
      intro x4_3 ls h0 hl
      rw [mX7_addedBetween_L3] at h0
      refine lv_iload hx hb dX7_addedBetween_3 (lv_at hl 0 rfl) ?_
      refine lv_aload_n hx hb dX7_addedBetween_5 rfl (lv_at hl 1 rfl) ?_
      obtain ⟨z_4, hz, h0⟩ := bd_ok h0
      refine ro_V (As := []) (rest := [.int x4_3]) (wc := [(p1, .inr (5, [.ref p1_cells, .int p1_size])), (p1_cells, .inl (cI, 64, .inl p1_cells_f))]) hcf (kX6_size l D cI cC cT p1 p1_cells p1_cells_f p1_size z_4 hz) (cwV 0 hts gX7_addedBetween_X6_size rfl rfl rfl (by decide +kernel) ⟨Nat.le_of_ble_eq_true rfl, Nat.le_of_ble_eq_true rfl⟩) hE (hP.sub [0, 1] rfl) (va_recv hK hP (ci := 5) (q0 := 0) rfl rfl) rfl hl.1 rfl (Nat.le_of_ble_eq_true rfl) dX7_addedBetween_6 ⟨Nat.le_of_ble_eq_true rfl, Nat.le_of_ble_eq_true rfl⟩ ?_
      refine W.eq (g2 := F0 m 9 ls [.int z_4, .int x4_3]) rfl ?_
      refine lv_icmp_ge (tgt := 33) hx hb dX7_addedBetween_9 (by decide) (fun c9 => ?_) (fun c9 => ?_)
      · have h0 := it_t c9 h0
        exact E_3_33_1 x4_3 ls h0 hl
      · have h0 := it_f c9 h0
        refine lv_aload_n hx hb dX7_addedBetween_12 rfl (lv_at hl 1 rfl) ?_
        refine lv_iload_n hx hb dX7_addedBetween_13 rfl (lv_at hl 2 rfl) ?_
        refine lv_iload hx hb dX7_addedBetween_14 (lv_at hl 0 rfl) ?_
        refine lv_iload_n hx hb dX7_addedBetween_16 rfl (lv_at hl 4 rfl) ?_
        obtain ⟨z_5, hz, h0⟩ := bd_ok h0
        refine ro_S (As := [.ref p1, .int p2, .int x4_3, .int p4]) (rest := []) (wc := [(p1, .inr (5, [.ref p1_cells, .int p1_size])), (p1_cells, .inl (cI, 64, .inl p1_cells_f))]) hcf (kX7_added l D cI cC cT p1 p1_cells p1_cells_f p1_size p2 x4_3 p4 z_5 hz) (va_cwS 4 hts gX7_addedBetween_X7_added rfl rfl rfl (by decide +kernel) ⟨Nat.le_of_ble_eq_true rfl, Nat.le_of_ble_eq_true rfl⟩) hE (hP.sub [0, 1] rfl) rfl hl.1 rfl (Nat.le_of_ble_eq_true rfl) dX7_addedBetween_17 ⟨Nat.le_of_ble_eq_true rfl, Nat.le_of_ble_eq_true rfl⟩ ?_
        refine W.eq (g2 := F0 m 20 ls [.int z_5]) rfl ?_
        refine lv_iload_n hx hb dX7_addedBetween_20 rfl (lv_at hl 3 rfl) ?_
        refine lv_icmp_ne (tgt := 27) hx hb dX7_addedBetween_21 (by decide) (fun c9 => ?_) (fun c9 => ?_)
        · have h0 := it_f c9 h0
          refine lv_iinc (v := (x4_3 + 1)) (lv' := [(4, .int (x4_3 + 1)), (0, .ref p1), (1, .int p2), (2, .int p3), (3, .int p4)]) hx hb dX7_addedBetween_27 hl (k := 0) rfl rfl (by decide) rfl (fun ls hl => ?_)
          refine lv_goto (tgt := 3) hx hb dX7_addedBetween_30 (by decide) ?_
          exact ih3 (x4_3 + 1) ls h0 hl
        · have h0 := it_t c9 h0
          refine lv_iload hx hb dX7_addedBetween_24 (lv_at hl 0 rfl) ?_
          have e0 := Option.some.inj h0
          subst e0
          exact W.iret (v := x4_3) hx hb hr (fun t ht hW => ⟨rfl, ht⟩) (fun q hq => absurd hq List.not_mem_nil) dX7_addedBetween_26
  exact L_3_5 FU 0 ls h0 hl
noncomputable def mX7_timesToReturn_L6 (p1_cells_f : Nat → Int32) (p2 : Int32) (p3 : Int32) (p4 : Int32) (k6_38 : Int32 → Int32 → Option (Int32)) : Nat → Int32 → Int32 → Option (Int32)
  | 0, _, _ => none
  | F + 1, x5_4, x4_5 => if (8 : Int32) < x5_4 then (k6_38 x5_4 x4_5) else (bd (mX7_added p1_cells_f x4_5 p3 p4) (fun z_6 => if z_6 = p2 then (some (x5_4)) else (mX7_timesToReturn_L6 p1_cells_f p2 p3 p4 k6_38 F (x5_4 + 1) z_6)))
noncomputable def mX7_timesToReturn (p1_cells_f : Nat → Int32) (p2 : Int32) (p3 : Int32) (p4 : Int32) : Option (Int32) :=
  mX7_timesToReturn_L6 p1_cells_f p2 p3 p4 (fun (x5_1 : Int32) (x4_2 : Int32) => some ((-4))) FU 1 p2
set_option maxHeartbeats 8000000 in
set_option maxRecDepth 100000 in
theorem kX7_timesToReturn (l : Launch) (D : va_G) (cI cC cT : ClassId) (p1 p1_cells : Nat) (p1_cells_f : Nat → Int32) (p1_size : Int32) (p2 : Int32) (p3 : Int32) (p4 : Int32) (z : Int32) (h0 : mX7_timesToReturn p1_cells_f p2 p3 p4 = some z) : Met l yX7_timesToReturn wsX7_timesToReturn ({ frames := 2, cells := 0, slots := 0, locals := 46 } : Room) (va_Pc [.ref p1, .int p2, .int p3, .int p4] (rP D cI cC cT [(p1, .inr (5, [.ref p1_cells, .int p1_size])), (p1_cells, .inl (cI, 64, .inl p1_cells_f))])) (rQ (some (.int z))) 0 0 (fun _ => False) := by
  refine Met.ofW (cc := cX7_timesToReturn) (maxL := 6) (ret := (some .int)) (by decide) rfl ?_
  intro p e s m args below meth c s₁ B hml hv
  obtain ⟨rfl, hP, hE⟩ := hv
  have hx := B.exec
  have hb := B.bytes
  have hr := B.returns
  have hts := atoms_spec (ws := wsX7_timesToReturn) B.pre
  have hown : s.vm.findClass RX7 = some m.cls := findClass_of_methodNamed B.named
  have hlocks := B.notSynchronized
  have hK := hE.1
  have hcf : CallFix p m c cX7_timesToReturn 6 s ([.ref p1, .int p2, .int p3, .int p4] : List Value).toArray wsX7_timesToReturn RX7 := ⟨hx, hb, hml, hown, hts⟩
  have hP : va_P D vwCl [(p1, .inr (5, [.ref p1_cells, .int p1_size])), (p1_cells, .inl (cI, 64, .inl p1_cells_f))] s.heap := hP
  have hl := lv_entry ([.ref p1, .int p2, .int p3, .int p4]) (n := 6) (Nat.le_of_ble_eq_true rfl)
  rw [lg_entry_eq]
  generalize (lg_sl ([.ref p1, .int p2, .int p3, .int p4]) ++ List.replicate (6 - (lg_sl ([.ref p1, .int p2, .int p3, .int p4])).length) Slot.unset).toArray = ls at hl ⊢
  have hl : lv_has ls 6 [(0, .ref p1), (1, .int p2), (2, .int p3), (3, .int p4)] := hl
  unfold mX7_timesToReturn at h0
  refine lv_iload_n hx hb dX7_timesToReturn_0 rfl (lv_at hl 1 rfl) ?_
  refine lv_istore (lv' := [(4, .int p2), (0, .ref p1), (1, .int p2), (2, .int p3), (3, .int p4)]) hx hb dX7_timesToReturn_1 hl (by decide) rfl (fun ls hl => ?_)
  refine lv_iconst (v := 1) hx hb dX7_timesToReturn_3 (by decide) ?_
  refine lv_istore (lv' := [(5, .int 1), (4, .int p2), (0, .ref p1), (1, .int p2), (2, .int p3), (3, .int p4)]) hx hb dX7_timesToReturn_4 hl (by decide) rfl (fun ls hl => ?_)
  have E_6_38_2 : ∀ (x5_1 : Int32) (x4_2 : Int32) (ls : Array Slot), (some ((-4))) = some z → lv_has ls 6 [(5, .int x5_1), (4, .int x4_2), (0, .ref p1), (1, .int p2), (2, .int p3), (3, .int p4)] → W p l e (headSpec wsX7_timesToReturn ({ frames := 2, cells := 0, slots := 0, locals := 46 } : Room)).room s m (([.ref p1, .int p2, .int p3, .int p4] : List Value).toArray) below meth c s.heap [] 0 0 (MQ below (rQ (some (.int z))) (([.ref p1, .int p2, .int p3, .int p4] : List Value).toArray) s 0 0 (fun _ => False)) (F0 m 38 ls []) := by
    intro x5_1 x4_2 ls h0 hl
    refine lv_bipush (v := (-4)) hx hb dX7_timesToReturn_38 (by decide) ?_
    have e0 := Option.some.inj h0
    subst e0
    exact W.iret (v := (-4)) hx hb hr (fun t ht hW => ⟨rfl, ht⟩) (fun q hq => absurd hq List.not_mem_nil) dX7_timesToReturn_40
  have L_6_6 : ∀ (F6 : Nat) (x5_4 : Int32) (x4_5 : Int32) (ls : Array Slot), mX7_timesToReturn_L6 p1_cells_f p2 p3 p4 (fun (x5_1 : Int32) (x4_2 : Int32) => some ((-4))) F6 x5_4 x4_5 = some z → lv_has ls 6 [(5, .int x5_4), (4, .int x4_5), (0, .ref p1), (1, .int p2), (2, .int p3), (3, .int p4)] → W p l e (headSpec wsX7_timesToReturn ({ frames := 2, cells := 0, slots := 0, locals := 46 } : Room)).room s m (([.ref p1, .int p2, .int p3, .int p4] : List Value).toArray) below meth c s.heap [] 0 0 (MQ below (rQ (some (.int z))) (([.ref p1, .int p2, .int p3, .int p4] : List Value).toArray) s 0 0 (fun _ => False)) (F0 m 6 ls []) := by
    intro F6
    induction F6 with
    | zero => intro x5_4 x4_5 ls h0 hl; cases h0
    | succ F6 ih6 =>
      intro x5_4 x4_5 ls h0 hl
      rw [mX7_timesToReturn_L6] at h0
      refine lv_iload hx hb dX7_timesToReturn_6 (lv_at hl 0 rfl) ?_
      refine lv_bipush (v := 8) hx hb dX7_timesToReturn_8 (by decide) ?_
      refine lv_icmp_gt (tgt := 38) hx hb dX7_timesToReturn_10 (by decide) (fun c9 => ?_) (fun c9 => ?_)
      · have h0 := it_t c9 h0
        exact E_6_38_2 x5_4 x4_5 ls h0 hl
      · have h0 := it_f c9 h0
        refine lv_aload_n hx hb dX7_timesToReturn_13 rfl (lv_at hl 2 rfl) ?_
        refine lv_iload hx hb dX7_timesToReturn_14 (lv_at hl 1 rfl) ?_
        refine lv_iload_n hx hb dX7_timesToReturn_16 rfl (lv_at hl 4 rfl) ?_
        refine lv_iload_n hx hb dX7_timesToReturn_17 rfl (lv_at hl 5 rfl) ?_
        obtain ⟨z_6, hz, h0⟩ := bd_ok h0
        refine ro_S (As := [.ref p1, .int x4_5, .int p3, .int p4]) (rest := []) (wc := [(p1, .inr (5, [.ref p1_cells, .int p1_size])), (p1_cells, .inl (cI, 64, .inl p1_cells_f))]) hcf (kX7_added l D cI cC cT p1 p1_cells p1_cells_f p1_size x4_5 p3 p4 z_6 hz) (va_cwS 4 hts gX7_timesToReturn_X7_added rfl rfl rfl (by decide +kernel) ⟨Nat.le_of_ble_eq_true rfl, Nat.le_of_ble_eq_true rfl⟩) hE (hP.sub [0, 1] rfl) rfl hl.1 rfl (Nat.le_of_ble_eq_true rfl) dX7_timesToReturn_18 ⟨Nat.le_of_ble_eq_true rfl, Nat.le_of_ble_eq_true rfl⟩ ?_
        refine W.eq (g2 := F0 m 21 ls [.int z_6]) rfl ?_
        refine lv_istore (lv' := [(4, .int z_6), (5, .int x5_4), (0, .ref p1), (1, .int p2), (2, .int p3), (3, .int p4)]) hx hb dX7_timesToReturn_21 hl (by decide) rfl (fun ls hl => ?_)
        refine lv_iload hx hb dX7_timesToReturn_23 (lv_at hl 0 rfl) ?_
        refine lv_iload_n hx hb dX7_timesToReturn_25 rfl (lv_at hl 3 rfl) ?_
        refine lv_icmp_ne (tgt := 32) hx hb dX7_timesToReturn_26 (by decide) (fun c9 => ?_) (fun c9 => ?_)
        · have h0 := it_f c9 h0
          refine lv_iinc (v := (x5_4 + 1)) (lv' := [(5, .int (x5_4 + 1)), (4, .int z_6), (0, .ref p1), (1, .int p2), (2, .int p3), (3, .int p4)]) hx hb dX7_timesToReturn_32 hl (k := 1) rfl rfl (by decide) rfl (fun ls hl => ?_)
          refine lv_goto (tgt := 6) hx hb dX7_timesToReturn_35 (by decide) ?_
          exact ih6 (x5_4 + 1) z_6 ls h0 hl
        · have h0 := it_t c9 h0
          refine lv_iload hx hb dX7_timesToReturn_29 (lv_at hl 1 rfl) ?_
          have e0 := Option.some.inj h0
          subst e0
          exact W.iret (v := x5_4) hx hb hr (fun t ht hW => ⟨rfl, ht⟩) (fun q hq => absurd hq List.not_mem_nil) dX7_timesToReturn_31
  exact L_6_6 FU 1 p2 ls h0 hl
noncomputable def mX7_allReturnBehind_L2 (p1_cells_f : Nat → Int32) (p1_size : Int32) (p2 : Int32) (p3 : Int32) (k2_39 : Int32 → Option (Int32)) : Nat → Int32 → Option (Int32)
  | 0, _ => none
  | F + 1, x3_3 => bd (mX6_size p1_size) (fun z_4 => if z_4 ≤ x3_3 then (k2_39 x3_3) else (bd (mX7_timesToReturn p1_cells_f x3_3 p2 1) (fun z_5 => if z_5 ≤ 0 then (some (0)) else (gd (nzb z_5) (if (p3 - p3 / z_5 * z_5) = 0 then (mX7_allReturnBehind_L2 p1_cells_f p1_size p2 p3 k2_39 F (x3_3 + 1)) else (some (0)))))))
noncomputable def mX7_allReturnBehind (p1_cells_f : Nat → Int32) (p1_size : Int32) (p2 : Int32) (p3 : Int32) : Option (Int32) :=
  mX7_allReturnBehind_L2 p1_cells_f p1_size p2 p3 (fun (x3_1 : Int32) => some (1)) FU 0
set_option maxHeartbeats 8000000 in
set_option maxRecDepth 100000 in
theorem kX7_allReturnBehind (l : Launch) (D : va_G) (cI cC cT : ClassId) (p1 p1_cells : Nat) (p1_cells_f : Nat → Int32) (p1_size : Int32) (p2 : Int32) (p3 : Int32) (z : Int32) (h0 : mX7_allReturnBehind p1_cells_f p1_size p2 p3 = some z) : Met l yX7_allReturnBehind wsX7_allReturnBehind ({ frames := 3, cells := 0, slots := 0, locals := 71 } : Room) (va_Pc [.ref p1, .int p2, .int p3] (rP D cI cC cT [(p1, .inr (5, [.ref p1_cells, .int p1_size])), (p1_cells, .inl (cI, 64, .inl p1_cells_f))])) (rQ (some (.int z))) 0 0 (fun _ => False) := by
  refine Met.ofW (cc := cX7_allReturnBehind) (maxL := 5) (ret := (some .boolean)) (by decide) rfl ?_
  intro p e s m args below meth c s₁ B hml hv
  obtain ⟨rfl, hP, hE⟩ := hv
  have hx := B.exec
  have hb := B.bytes
  have hr := B.returns
  have hts := atoms_spec (ws := wsX7_allReturnBehind) B.pre
  have hown : s.vm.findClass RX7 = some m.cls := findClass_of_methodNamed B.named
  have hlocks := B.notSynchronized
  have hK := hE.1
  have hcf : CallFix p m c cX7_allReturnBehind 5 s ([.ref p1, .int p2, .int p3] : List Value).toArray wsX7_allReturnBehind RX7 := ⟨hx, hb, hml, hown, hts⟩
  have hP : va_P D vwCl [(p1, .inr (5, [.ref p1_cells, .int p1_size])), (p1_cells, .inl (cI, 64, .inl p1_cells_f))] s.heap := hP
  have hl := lv_entry ([.ref p1, .int p2, .int p3]) (n := 5) (Nat.le_of_ble_eq_true rfl)
  rw [lg_entry_eq]
  generalize (lg_sl ([.ref p1, .int p2, .int p3]) ++ List.replicate (5 - (lg_sl ([.ref p1, .int p2, .int p3])).length) Slot.unset).toArray = ls at hl ⊢
  have hl : lv_has ls 5 [(0, .ref p1), (1, .int p2), (2, .int p3)] := hl
  unfold mX7_allReturnBehind at h0
  refine lv_iconst (v := 0) hx hb dX7_allReturnBehind_0 (by decide) ?_
  refine lv_istore_n (lv' := [(3, .int 0), (0, .ref p1), (1, .int p2), (2, .int p3)]) hx hb dX7_allReturnBehind_1 rfl hl (by decide) rfl (fun ls hl => ?_)
  have E_2_39_1 : ∀ (x3_1 : Int32) (ls : Array Slot), (some (1)) = some z → lv_has ls 5 [(3, .int x3_1), (0, .ref p1), (1, .int p2), (2, .int p3)] → W p l e (headSpec wsX7_allReturnBehind ({ frames := 3, cells := 0, slots := 0, locals := 71 } : Room)).room s m (([.ref p1, .int p2, .int p3] : List Value).toArray) below meth c s.heap [] 0 0 (MQ below (rQ (some (.int z))) (([.ref p1, .int p2, .int p3] : List Value).toArray) s 0 0 (fun _ => False)) (F0 m 39 ls []) := by
    intro x3_1 ls h0 hl
    refine lv_iconst (v := 1) hx hb dX7_allReturnBehind_39 (by decide) ?_
    have e0 := Option.some.inj h0
    subst e0
    exact W.zret (ty := .boolean) (v := 1) hx hb hr rfl (fun t ht hW => ⟨rfl, ht⟩) (fun q hq => absurd hq List.not_mem_nil) dX7_allReturnBehind_40
  have L_2_5 : ∀ (F2 : Nat) (x3_3 : Int32) (ls : Array Slot), mX7_allReturnBehind_L2 p1_cells_f p1_size p2 p3 (fun (x3_1 : Int32) => some (1)) F2 x3_3 = some z → lv_has ls 5 [(3, .int x3_3), (0, .ref p1), (1, .int p2), (2, .int p3)] → W p l e (headSpec wsX7_allReturnBehind ({ frames := 3, cells := 0, slots := 0, locals := 71 } : Room)).room s m (([.ref p1, .int p2, .int p3] : List Value).toArray) below meth c s.heap [] 0 0 (MQ below (rQ (some (.int z))) (([.ref p1, .int p2, .int p3] : List Value).toArray) s 0 0 (fun _ => False)) (F0 m 2 ls []) := by
    intro F2
    induction F2 with
    | zero => intro x3_3 ls h0 hl; cases h0
    | succ F2 ih2 =>
      intro x3_3 ls h0 hl
      rw [mX7_allReturnBehind_L2] at h0
      refine lv_iload_n hx hb dX7_allReturnBehind_2 rfl (lv_at hl 0 rfl) ?_
      refine lv_aload_n hx hb dX7_allReturnBehind_3 rfl (lv_at hl 1 rfl) ?_
      obtain ⟨z_4, hz, h0⟩ := bd_ok h0
      refine ro_V (As := []) (rest := [.int x3_3]) (wc := [(p1, .inr (5, [.ref p1_cells, .int p1_size])), (p1_cells, .inl (cI, 64, .inl p1_cells_f))]) hcf (kX6_size l D cI cC cT p1 p1_cells p1_cells_f p1_size z_4 hz) (cwV 0 hts gX7_allReturnBehind_X6_size rfl rfl rfl (by decide +kernel) ⟨Nat.le_of_ble_eq_true rfl, Nat.le_of_ble_eq_true rfl⟩) hE (hP.sub [0, 1] rfl) (va_recv hK hP (ci := 5) (q0 := 0) rfl rfl) rfl hl.1 rfl (Nat.le_of_ble_eq_true rfl) dX7_allReturnBehind_4 ⟨Nat.le_of_ble_eq_true rfl, Nat.le_of_ble_eq_true rfl⟩ ?_
      refine W.eq (g2 := F0 m 7 ls [.int z_4, .int x3_3]) rfl ?_
      refine lv_icmp_ge (tgt := 39) hx hb dX7_allReturnBehind_7 (by decide) (fun c9 => ?_) (fun c9 => ?_)
      · have h0 := it_t c9 h0
        exact E_2_39_1 x3_3 ls h0 hl
      · have h0 := it_f c9 h0
        refine lv_aload_n hx hb dX7_allReturnBehind_10 rfl (lv_at hl 1 rfl) ?_
        refine lv_iload_n hx hb dX7_allReturnBehind_11 rfl (lv_at hl 0 rfl) ?_
        refine lv_iload_n hx hb dX7_allReturnBehind_12 rfl (lv_at hl 2 rfl) ?_
        refine lv_iconst (v := 1) hx hb dX7_allReturnBehind_13 (by decide) ?_
        obtain ⟨z_5, hz, h0⟩ := bd_ok h0
        refine ro_S (As := [.ref p1, .int x3_3, .int p2, .int 1]) (rest := []) (wc := [(p1, .inr (5, [.ref p1_cells, .int p1_size])), (p1_cells, .inl (cI, 64, .inl p1_cells_f))]) hcf (kX7_timesToReturn l D cI cC cT p1 p1_cells p1_cells_f p1_size x3_3 p2 1 z_5 hz) (va_cwS 4 hts gX7_allReturnBehind_X7_timesToReturn rfl rfl rfl (by decide +kernel) ⟨Nat.le_of_ble_eq_true rfl, Nat.le_of_ble_eq_true rfl⟩) hE (hP.sub [0, 1] rfl) rfl hl.1 rfl (Nat.le_of_ble_eq_true rfl) dX7_allReturnBehind_14 ⟨Nat.le_of_ble_eq_true rfl, Nat.le_of_ble_eq_true rfl⟩ ?_
        refine W.eq (g2 := F0 m 17 ls [.int z_5]) rfl ?_
        refine lv_istore (lv' := [(4, .int z_5), (3, .int x3_3), (0, .ref p1), (1, .int p2), (2, .int p3)]) hx hb dX7_allReturnBehind_17 hl (by decide) rfl (fun ls hl => ?_)
        refine lv_iload hx hb dX7_allReturnBehind_19 (lv_at hl 0 rfl) ?_
        refine lv_if_le (tgt := 31) hx hb dX7_allReturnBehind_21 (by decide) (fun c9 => ?_) (fun c9 => ?_)
        · have h0 := it_t c9 h0
          refine lv_iconst (v := 0) hx hb dX7_allReturnBehind_31 (by decide) ?_
          have e0 := Option.some.inj h0
          subst e0
          exact W.zret (ty := .boolean) (v := 0) hx hb hr rfl (fun t ht hW => ⟨rfl, ht⟩) (fun q hq => absurd hq List.not_mem_nil) dX7_allReturnBehind_32
        · have h0 := it_f c9 h0
          refine lv_iload_n hx hb dX7_allReturnBehind_24 rfl (lv_at hl 4 rfl) ?_
          refine lv_iload hx hb dX7_allReturnBehind_25 (lv_at hl 0 rfl) ?_
          obtain ⟨g0, h0⟩ := gd_ok h0
          refine lv_irem hx hb dX7_allReturnBehind_27 (nzb_ok g0) ?_
          refine lv_if_eq (tgt := 33) hx hb dX7_allReturnBehind_28 (by decide) (fun c9 => ?_) (fun c9 => ?_)
          · have h0 := it_t c9 h0
            refine lv_iinc (v := (x3_3 + 1)) (lv' := [(3, .int (x3_3 + 1)), (4, .int z_5), (0, .ref p1), (1, .int p2), (2, .int p3)]) hx hb dX7_allReturnBehind_33 hl (k := 1) rfl rfl (by decide) rfl (fun ls hl => ?_)
            refine lv_goto (tgt := 2) hx hb dX7_allReturnBehind_36 (by decide) ?_
            exact ih2 (x3_3 + 1) ls h0 (lv_sub hl [0, 2, 3, 4] rfl)
          · have h0 := it_f c9 h0
            refine lv_iconst (v := 0) hx hb dX7_allReturnBehind_31 (by decide) ?_
            have e0 := Option.some.inj h0
            subst e0
            exact W.zret (ty := .boolean) (v := 0) hx hb hr rfl (fun t ht hW => ⟨rfl, ht⟩) (fun q hq => absurd hq List.not_mem_nil) dX7_allReturnBehind_32
  exact L_2_5 FU 0 ls h0 hl
noncomputable def mX7_isLeastOfRound_L5 (p1_cells_f : Nat → Int32) (p2 : Int32) (p3 : Int32) (k5_32 : Int32 → Int32 → Option (Int32)) : Nat → Int32 → Int32 → Option (Int32)
  | 0, _, _ => none
  | F + 1, x4_4, x3_5 => if (8 : Int32) ≤ x4_4 then (k5_32 x4_4 x3_5) else (bd (mX6_at p1_cells_f p3 x3_5) (fun z_6 => if p2 ≤ z_6 then (mX7_isLeastOfRound_L5 p1_cells_f p2 p3 k5_32 F (x4_4 + 1) z_6) else (some (0))))
noncomputable def mX7_isLeastOfRound (p1_cells_f : Nat → Int32) (p2 : Int32) (p3 : Int32) : Option (Int32) :=
  mX7_isLeastOfRound_L5 p1_cells_f p2 p3 (fun (x4_1 : Int32) (x3_2 : Int32) => some (1)) FU 0 p2
set_option maxHeartbeats 8000000 in
set_option maxRecDepth 100000 in
theorem kX7_isLeastOfRound (l : Launch) (D : va_G) (cI cC cT : ClassId) (p1 p1_cells : Nat) (p1_cells_f : Nat → Int32) (p1_size : Int32) (p2 : Int32) (p3 : Int32) (z : Int32) (h0 : mX7_isLeastOfRound p1_cells_f p2 p3 = some z) : Met l yX7_isLeastOfRound wsX7_isLeastOfRound ({ frames := 1, cells := 0, slots := 0, locals := 23 } : Room) (va_Pc [.ref p1, .int p2, .int p3] (rP D cI cC cT [(p1, .inr (5, [.ref p1_cells, .int p1_size])), (p1_cells, .inl (cI, 64, .inl p1_cells_f))])) (rQ (some (.int z))) 0 0 (fun _ => False) := by
  refine Met.ofW (cc := cX7_isLeastOfRound) (maxL := 5) (ret := (some .boolean)) (by decide) rfl ?_
  intro p e s m args below meth c s₁ B hml hv
  obtain ⟨rfl, hP, hE⟩ := hv
  have hx := B.exec
  have hb := B.bytes
  have hr := B.returns
  have hts := atoms_spec (ws := wsX7_isLeastOfRound) B.pre
  have hown : s.vm.findClass RX7 = some m.cls := findClass_of_methodNamed B.named
  have hlocks := B.notSynchronized
  have hK := hE.1
  have hcf : CallFix p m c cX7_isLeastOfRound 5 s ([.ref p1, .int p2, .int p3] : List Value).toArray wsX7_isLeastOfRound RX7 := ⟨hx, hb, hml, hown, hts⟩
  have hP : va_P D vwCl [(p1, .inr (5, [.ref p1_cells, .int p1_size])), (p1_cells, .inl (cI, 64, .inl p1_cells_f))] s.heap := hP
  have hl := lv_entry ([.ref p1, .int p2, .int p3]) (n := 5) (Nat.le_of_ble_eq_true rfl)
  rw [lg_entry_eq]
  generalize (lg_sl ([.ref p1, .int p2, .int p3]) ++ List.replicate (5 - (lg_sl ([.ref p1, .int p2, .int p3])).length) Slot.unset).toArray = ls at hl ⊢
  have hl : lv_has ls 5 [(0, .ref p1), (1, .int p2), (2, .int p3)] := hl
  unfold mX7_isLeastOfRound at h0
  refine lv_iload_n hx hb dX7_isLeastOfRound_0 rfl (lv_at hl 1 rfl) ?_
  refine lv_istore_n (lv' := [(3, .int p2), (0, .ref p1), (1, .int p2), (2, .int p3)]) hx hb dX7_isLeastOfRound_1 rfl hl (by decide) rfl (fun ls hl => ?_)
  refine lv_iconst (v := 0) hx hb dX7_isLeastOfRound_2 (by decide) ?_
  refine lv_istore (lv' := [(4, .int 0), (3, .int p2), (0, .ref p1), (1, .int p2), (2, .int p3)]) hx hb dX7_isLeastOfRound_3 hl (by decide) rfl (fun ls hl => ?_)
  have E_5_32_2 : ∀ (x4_1 : Int32) (x3_2 : Int32) (ls : Array Slot), (some (1)) = some z → lv_has ls 5 [(4, .int x4_1), (3, .int x3_2), (0, .ref p1), (1, .int p2), (2, .int p3)] → W p l e (headSpec wsX7_isLeastOfRound ({ frames := 1, cells := 0, slots := 0, locals := 23 } : Room)).room s m (([.ref p1, .int p2, .int p3] : List Value).toArray) below meth c s.heap [] 0 0 (MQ below (rQ (some (.int z))) (([.ref p1, .int p2, .int p3] : List Value).toArray) s 0 0 (fun _ => False)) (F0 m 32 ls []) := by
    intro x4_1 x3_2 ls h0 hl
    refine lv_iconst (v := 1) hx hb dX7_isLeastOfRound_32 (by decide) ?_
    have e0 := Option.some.inj h0
    subst e0
    exact W.zret (ty := .boolean) (v := 1) hx hb hr rfl (fun t ht hW => ⟨rfl, ht⟩) (fun q hq => absurd hq List.not_mem_nil) dX7_isLeastOfRound_33
  have L_5_6 : ∀ (F5 : Nat) (x4_4 : Int32) (x3_5 : Int32) (ls : Array Slot), mX7_isLeastOfRound_L5 p1_cells_f p2 p3 (fun (x4_1 : Int32) (x3_2 : Int32) => some (1)) F5 x4_4 x3_5 = some z → lv_has ls 5 [(4, .int x4_4), (3, .int x3_5), (0, .ref p1), (1, .int p2), (2, .int p3)] → W p l e (headSpec wsX7_isLeastOfRound ({ frames := 1, cells := 0, slots := 0, locals := 23 } : Room)).room s m (([.ref p1, .int p2, .int p3] : List Value).toArray) below meth c s.heap [] 0 0 (MQ below (rQ (some (.int z))) (([.ref p1, .int p2, .int p3] : List Value).toArray) s 0 0 (fun _ => False)) (F0 m 5 ls []) := by
    intro F5
    induction F5 with
    | zero => intro x4_4 x3_5 ls h0 hl; cases h0
    | succ F5 ih5 =>
      intro x4_4 x3_5 ls h0 hl
      rw [mX7_isLeastOfRound_L5] at h0
      refine lv_iload hx hb dX7_isLeastOfRound_5 (lv_at hl 0 rfl) ?_
      refine lv_bipush (v := 8) hx hb dX7_isLeastOfRound_7 (by decide) ?_
      refine lv_icmp_ge (tgt := 32) hx hb dX7_isLeastOfRound_9 (by decide) (fun c9 => ?_) (fun c9 => ?_)
      · have h0 := it_t c9 h0
        exact E_5_32_2 x4_4 x3_5 ls h0 hl
      · have h0 := it_f c9 h0
        refine lv_aload_n hx hb dX7_isLeastOfRound_12 rfl (lv_at hl 2 rfl) ?_
        refine lv_iload_n hx hb dX7_isLeastOfRound_13 rfl (lv_at hl 4 rfl) ?_
        refine lv_iload_n hx hb dX7_isLeastOfRound_14 rfl (lv_at hl 1 rfl) ?_
        obtain ⟨z_6, hz, h0⟩ := bd_ok h0
        refine ro_V (As := [.int p3, .int x3_5]) (rest := []) (wc := [(p1, .inr (5, [.ref p1_cells, .int p1_size])), (p1_cells, .inl (cI, 64, .inl p1_cells_f))]) hcf (kX6_at l D cI cC cT p1 p1_cells p1_cells_f p1_size p3 x3_5 z_6 hz) (cwV 2 hts gX7_isLeastOfRound_X6_at rfl rfl rfl (by decide +kernel) ⟨Nat.le_of_ble_eq_true rfl, Nat.le_of_ble_eq_true rfl⟩) hE (hP.sub [0, 1] rfl) (va_recv hK hP (ci := 5) (q0 := 0) rfl rfl) rfl hl.1 rfl (Nat.le_of_ble_eq_true rfl) dX7_isLeastOfRound_15 ⟨Nat.le_of_ble_eq_true rfl, Nat.le_of_ble_eq_true rfl⟩ ?_
        refine W.eq (g2 := F0 m 18 ls [.int z_6]) rfl ?_
        refine lv_istore_n (lv' := [(3, .int z_6), (4, .int x4_4), (0, .ref p1), (1, .int p2), (2, .int p3)]) hx hb dX7_isLeastOfRound_18 rfl hl (by decide) rfl (fun ls hl => ?_)
        refine lv_iload_n hx hb dX7_isLeastOfRound_19 rfl (lv_at hl 0 rfl) ?_
        refine lv_iload_n hx hb dX7_isLeastOfRound_20 rfl (lv_at hl 3 rfl) ?_
        refine lv_icmp_ge (tgt := 26) hx hb dX7_isLeastOfRound_21 (by decide) (fun c9 => ?_) (fun c9 => ?_)
        · have h0 := it_t c9 h0
          refine lv_iinc (v := (x4_4 + 1)) (lv' := [(4, .int (x4_4 + 1)), (3, .int z_6), (0, .ref p1), (1, .int p2), (2, .int p3)]) hx hb dX7_isLeastOfRound_26 hl (k := 1) rfl rfl (by decide) rfl (fun ls hl => ?_)
          refine lv_goto (tgt := 5) hx hb dX7_isLeastOfRound_29 (by decide) ?_
          exact ih5 (x4_4 + 1) z_6 ls h0 hl
        · have h0 := it_f c9 h0
          refine lv_iconst (v := 0) hx hb dX7_isLeastOfRound_24 (by decide) ?_
          have e0 := Option.some.inj h0
          subst e0
          exact W.zret (ty := .boolean) (v := 0) hx hb hr rfl (fun t ht hW => ⟨rfl, ht⟩) (fun q hq => absurd hq List.not_mem_nil) dX7_isLeastOfRound_25
  exact L_5_6 FU 0 p2 ls h0 hl
noncomputable def mX7_rounds_L4 (p1_cells_f : Nat → Int32) (p1_size : Int32) (p2 : Int32) (k4_30 : Int32 → Int32 → Option (Int32)) : Nat → Int32 → Int32 → Option (Int32)
  | 0, _, _ => none
  | F + 1, x3_4, x2_5 => bd (mX6_size p1_size) (fun z_6 => if z_6 ≤ x3_4 then (k4_30 x3_4 x2_5) else (bd (mX7_isLeastOfRound p1_cells_f x3_4 p2) (fun z_7 => if z_7 = 0 then (mX7_rounds_L4 p1_cells_f p1_size p2 k4_30 F (x3_4 + 1) x2_5) else (mX7_rounds_L4 p1_cells_f p1_size p2 k4_30 F (x3_4 + 1) (x2_5 + 1)))))
noncomputable def mX7_rounds (p1_cells_f : Nat → Int32) (p1_size : Int32) (p2 : Int32) : Option (Int32) :=
  mX7_rounds_L4 p1_cells_f p1_size p2 (fun (x3_1 : Int32) (x2_2 : Int32) => some (x2_2)) FU 0 0
set_option maxHeartbeats 8000000 in
set_option maxRecDepth 100000 in
theorem kX7_rounds (l : Launch) (D : va_G) (cI cC cT : ClassId) (p1 p1_cells : Nat) (p1_cells_f : Nat → Int32) (p1_size : Int32) (p2 : Int32) (z : Int32) (h0 : mX7_rounds p1_cells_f p1_size p2 = some z) : Met l yX7_rounds wsX7_rounds ({ frames := 2, cells := 0, slots := 0, locals := 47 } : Room) (va_Pc [.ref p1, .int p2] (rP D cI cC cT [(p1, .inr (5, [.ref p1_cells, .int p1_size])), (p1_cells, .inl (cI, 64, .inl p1_cells_f))])) (rQ (some (.int z))) 0 0 (fun _ => False) := by
  refine Met.ofW (cc := cX7_rounds) (maxL := 4) (ret := (some .int)) (by decide) rfl ?_
  intro p e s m args below meth c s₁ B hml hv
  obtain ⟨rfl, hP, hE⟩ := hv
  have hx := B.exec
  have hb := B.bytes
  have hr := B.returns
  have hts := atoms_spec (ws := wsX7_rounds) B.pre
  have hown : s.vm.findClass RX7 = some m.cls := findClass_of_methodNamed B.named
  have hlocks := B.notSynchronized
  have hK := hE.1
  have hcf : CallFix p m c cX7_rounds 4 s ([.ref p1, .int p2] : List Value).toArray wsX7_rounds RX7 := ⟨hx, hb, hml, hown, hts⟩
  have hP : va_P D vwCl [(p1, .inr (5, [.ref p1_cells, .int p1_size])), (p1_cells, .inl (cI, 64, .inl p1_cells_f))] s.heap := hP
  have hl := lv_entry ([.ref p1, .int p2]) (n := 4) (Nat.le_of_ble_eq_true rfl)
  rw [lg_entry_eq]
  generalize (lg_sl ([.ref p1, .int p2]) ++ List.replicate (4 - (lg_sl ([.ref p1, .int p2])).length) Slot.unset).toArray = ls at hl ⊢
  have hl : lv_has ls 4 [(0, .ref p1), (1, .int p2)] := hl
  unfold mX7_rounds at h0
  refine lv_iconst (v := 0) hx hb dX7_rounds_0 (by decide) ?_
  refine lv_istore_n (lv' := [(2, .int 0), (0, .ref p1), (1, .int p2)]) hx hb dX7_rounds_1 rfl hl (by decide) rfl (fun ls hl => ?_)
  refine lv_iconst (v := 0) hx hb dX7_rounds_2 (by decide) ?_
  refine lv_istore_n (lv' := [(3, .int 0), (2, .int 0), (0, .ref p1), (1, .int p2)]) hx hb dX7_rounds_3 rfl hl (by decide) rfl (fun ls hl => ?_)
  have E_4_30_2 : ∀ (x3_1 : Int32) (x2_2 : Int32) (ls : Array Slot), (some (x2_2)) = some z → lv_has ls 4 [(3, .int x3_1), (2, .int x2_2), (0, .ref p1), (1, .int p2)] → W p l e (headSpec wsX7_rounds ({ frames := 2, cells := 0, slots := 0, locals := 47 } : Room)).room s m (([.ref p1, .int p2] : List Value).toArray) below meth c s.heap [] 0 0 (MQ below (rQ (some (.int z))) (([.ref p1, .int p2] : List Value).toArray) s 0 0 (fun _ => False)) (F0 m 30 ls []) := by
    intro x3_1 x2_2 ls h0 hl
    refine lv_iload_n hx hb dX7_rounds_30 rfl (lv_at hl 1 rfl) ?_
    have e0 := Option.some.inj h0
    subst e0
    exact W.iret (v := x2_2) hx hb hr (fun t ht hW => ⟨rfl, ht⟩) (fun q hq => absurd hq List.not_mem_nil) dX7_rounds_31
  have L_4_7 : ∀ (F4 : Nat) (x3_4 : Int32) (x2_5 : Int32) (ls : Array Slot), mX7_rounds_L4 p1_cells_f p1_size p2 (fun (x3_1 : Int32) (x2_2 : Int32) => some (x2_2)) F4 x3_4 x2_5 = some z → lv_has ls 4 [(3, .int x3_4), (2, .int x2_5), (0, .ref p1), (1, .int p2)] → W p l e (headSpec wsX7_rounds ({ frames := 2, cells := 0, slots := 0, locals := 47 } : Room)).room s m (([.ref p1, .int p2] : List Value).toArray) below meth c s.heap [] 0 0 (MQ below (rQ (some (.int z))) (([.ref p1, .int p2] : List Value).toArray) s 0 0 (fun _ => False)) (F0 m 4 ls []) := by
    intro F4
    induction F4 with
    | zero => intro x3_4 x2_5 ls h0 hl; cases h0
    | succ F4 ih4 =>
      intro x3_4 x2_5 ls h0 hl
      rw [mX7_rounds_L4] at h0
      refine lv_iload_n hx hb dX7_rounds_4 rfl (lv_at hl 0 rfl) ?_
      refine lv_aload_n hx hb dX7_rounds_5 rfl (lv_at hl 2 rfl) ?_
      obtain ⟨z_6, hz, h0⟩ := bd_ok h0
      refine ro_V (As := []) (rest := [.int x3_4]) (wc := [(p1, .inr (5, [.ref p1_cells, .int p1_size])), (p1_cells, .inl (cI, 64, .inl p1_cells_f))]) hcf (kX6_size l D cI cC cT p1 p1_cells p1_cells_f p1_size z_6 hz) (cwV 0 hts gX7_rounds_X6_size rfl rfl rfl (by decide +kernel) ⟨Nat.le_of_ble_eq_true rfl, Nat.le_of_ble_eq_true rfl⟩) hE (hP.sub [0, 1] rfl) (va_recv hK hP (ci := 5) (q0 := 0) rfl rfl) rfl hl.1 rfl (Nat.le_of_ble_eq_true rfl) dX7_rounds_6 ⟨Nat.le_of_ble_eq_true rfl, Nat.le_of_ble_eq_true rfl⟩ ?_
      refine W.eq (g2 := F0 m 9 ls [.int z_6, .int x3_4]) rfl ?_
      refine lv_icmp_ge (tgt := 30) hx hb dX7_rounds_9 (by decide) (fun c9 => ?_) (fun c9 => ?_)
      · have h0 := it_t c9 h0
        exact E_4_30_2 x3_4 x2_5 ls h0 hl
      · have h0 := it_f c9 h0
        refine lv_aload_n hx hb dX7_rounds_12 rfl (lv_at hl 2 rfl) ?_
        refine lv_iload_n hx hb dX7_rounds_13 rfl (lv_at hl 0 rfl) ?_
        refine lv_iload_n hx hb dX7_rounds_14 rfl (lv_at hl 3 rfl) ?_
        obtain ⟨z_7, hz, h0⟩ := bd_ok h0
        refine ro_S (As := [.ref p1, .int x3_4, .int p2]) (rest := []) (wc := [(p1, .inr (5, [.ref p1_cells, .int p1_size])), (p1_cells, .inl (cI, 64, .inl p1_cells_f))]) hcf (kX7_isLeastOfRound l D cI cC cT p1 p1_cells p1_cells_f p1_size x3_4 p2 z_7 hz) (va_cwS 3 hts gX7_rounds_X7_isLeastOfRound rfl rfl rfl (by decide +kernel) ⟨Nat.le_of_ble_eq_true rfl, Nat.le_of_ble_eq_true rfl⟩) hE (hP.sub [0, 1] rfl) rfl hl.1 rfl (Nat.le_of_ble_eq_true rfl) dX7_rounds_15 ⟨Nat.le_of_ble_eq_true rfl, Nat.le_of_ble_eq_true rfl⟩ ?_
        refine W.eq (g2 := F0 m 18 ls [.int z_7]) rfl ?_
        refine lv_if_eq (tgt := 24) hx hb dX7_rounds_18 (by decide) (fun c9 => ?_) (fun c9 => ?_)
        · have h0 := it_t c9 h0
          refine lv_iinc (v := (x3_4 + 1)) (lv' := [(3, .int (x3_4 + 1)), (2, .int x2_5), (0, .ref p1), (1, .int p2)]) hx hb dX7_rounds_24 hl (k := 0) rfl rfl (by decide) rfl (fun ls hl => ?_)
          refine lv_goto (tgt := 4) hx hb dX7_rounds_27 (by decide) ?_
          exact ih4 (x3_4 + 1) x2_5 ls h0 hl
        · have h0 := it_f c9 h0
          refine lv_iinc (v := (x2_5 + 1)) (lv' := [(2, .int (x2_5 + 1)), (3, .int x3_4), (0, .ref p1), (1, .int p2)]) hx hb dX7_rounds_21 hl (k := 1) rfl rfl (by decide) rfl (fun ls hl => ?_)
          refine lv_iinc (v := (x3_4 + 1)) (lv' := [(3, .int (x3_4 + 1)), (2, .int (x2_5 + 1)), (0, .ref p1), (1, .int p2)]) hx hb dX7_rounds_24 hl (k := 1) rfl rfl (by decide) rfl (fun ls hl => ?_)
          refine lv_goto (tgt := 4) hx hb dX7_rounds_27 (by decide) ?_
          exact ih4 (x3_4 + 1) (x2_5 + 1) ls h0 hl
  exact L_4_7 FU 0 0 ls h0 hl
noncomputable def mX7_timesToReturnAll_L2 (p1_cells_f : Nat → Int32) (p1_size : Int32) (p2 : Int32) (k2_26 : Int32 → Option (Int32)) : Nat → Int32 → Option (Int32)
  | 0, _ => none
  | F + 1, x2_3 => if (840 : Int32) < x2_3 then (k2_26 x2_3) else (bd (mX7_allReturnBehind p1_cells_f p1_size p2 x2_3) (fun z_4 => if z_4 = 0 then (mX7_timesToReturnAll_L2 p1_cells_f p1_size p2 k2_26 F (x2_3 + 1)) else (some (x2_3))))
noncomputable def mX7_timesToReturnAll (p1_cells_f : Nat → Int32) (p1_size : Int32) (p2 : Int32) : Option (Int32) :=
  mX7_timesToReturnAll_L2 p1_cells_f p1_size p2 (fun (x2_1 : Int32) => some ((-4))) FU 1
set_option maxHeartbeats 8000000 in
set_option maxRecDepth 100000 in
theorem kX7_timesToReturnAll (l : Launch) (D : va_G) (cI cC cT : ClassId) (p1 p1_cells : Nat) (p1_cells_f : Nat → Int32) (p1_size : Int32) (p2 : Int32) (z : Int32) (h0 : mX7_timesToReturnAll p1_cells_f p1_size p2 = some z) : Met l yX7_timesToReturnAll wsX7_timesToReturnAll ({ frames := 4, cells := 0, slots := 0, locals := 95 } : Room) (va_Pc [.ref p1, .int p2] (rP D cI cC cT [(p1, .inr (5, [.ref p1_cells, .int p1_size])), (p1_cells, .inl (cI, 64, .inl p1_cells_f))])) (rQ (some (.int z))) 0 0 (fun _ => False) := by
  refine Met.ofW (cc := cX7_timesToReturnAll) (maxL := 3) (ret := (some .int)) (by decide) rfl ?_
  intro p e s m args below meth c s₁ B hml hv
  obtain ⟨rfl, hP, hE⟩ := hv
  have hx := B.exec
  have hb := B.bytes
  have hr := B.returns
  have hts := atoms_spec (ws := wsX7_timesToReturnAll) B.pre
  have hown : s.vm.findClass RX7 = some m.cls := findClass_of_methodNamed B.named
  have hlocks := B.notSynchronized
  have hK := hE.1
  have hcf : CallFix p m c cX7_timesToReturnAll 3 s ([.ref p1, .int p2] : List Value).toArray wsX7_timesToReturnAll RX7 := ⟨hx, hb, hml, hown, hts⟩
  have hP : va_P D vwCl [(p1, .inr (5, [.ref p1_cells, .int p1_size])), (p1_cells, .inl (cI, 64, .inl p1_cells_f))] s.heap := hP
  have hl := lv_entry ([.ref p1, .int p2]) (n := 3) (Nat.le_of_ble_eq_true rfl)
  rw [lg_entry_eq]
  generalize (lg_sl ([.ref p1, .int p2]) ++ List.replicate (3 - (lg_sl ([.ref p1, .int p2])).length) Slot.unset).toArray = ls at hl ⊢
  have hl : lv_has ls 3 [(0, .ref p1), (1, .int p2)] := hl
  unfold mX7_timesToReturnAll at h0
  refine lv_iconst (v := 1) hx hb dX7_timesToReturnAll_0 (by decide) ?_
  refine lv_istore_n (lv' := [(2, .int 1), (0, .ref p1), (1, .int p2)]) hx hb dX7_timesToReturnAll_1 rfl hl (by decide) rfl (fun ls hl => ?_)
  have E_2_26_1 : ∀ (x2_1 : Int32) (ls : Array Slot), (some ((-4))) = some z → lv_has ls 3 [(2, .int x2_1), (0, .ref p1), (1, .int p2)] → W p l e (headSpec wsX7_timesToReturnAll ({ frames := 4, cells := 0, slots := 0, locals := 95 } : Room)).room s m (([.ref p1, .int p2] : List Value).toArray) below meth c s.heap [] 0 0 (MQ below (rQ (some (.int z))) (([.ref p1, .int p2] : List Value).toArray) s 0 0 (fun _ => False)) (F0 m 26 ls []) := by
    intro x2_1 ls h0 hl
    refine lv_bipush (v := (-4)) hx hb dX7_timesToReturnAll_26 (by decide) ?_
    have e0 := Option.some.inj h0
    subst e0
    exact W.iret (v := (-4)) hx hb hr (fun t ht hW => ⟨rfl, ht⟩) (fun q hq => absurd hq List.not_mem_nil) dX7_timesToReturnAll_28
  have L_2_4 : ∀ (F2 : Nat) (x2_3 : Int32) (ls : Array Slot), mX7_timesToReturnAll_L2 p1_cells_f p1_size p2 (fun (x2_1 : Int32) => some ((-4))) F2 x2_3 = some z → lv_has ls 3 [(2, .int x2_3), (0, .ref p1), (1, .int p2)] → W p l e (headSpec wsX7_timesToReturnAll ({ frames := 4, cells := 0, slots := 0, locals := 95 } : Room)).room s m (([.ref p1, .int p2] : List Value).toArray) below meth c s.heap [] 0 0 (MQ below (rQ (some (.int z))) (([.ref p1, .int p2] : List Value).toArray) s 0 0 (fun _ => False)) (F0 m 2 ls []) := by
    intro F2
    induction F2 with
    | zero => intro x2_3 ls h0 hl; cases h0
    | succ F2 ih2 =>
      intro x2_3 ls h0 hl
      rw [mX7_timesToReturnAll_L2] at h0
      refine lv_iload_n hx hb dX7_timesToReturnAll_2 rfl (lv_at hl 0 rfl) ?_
      refine lv_sipush (v := 840) hx hb dX7_timesToReturnAll_3 (by decide) ?_
      refine lv_icmp_gt (tgt := 26) hx hb dX7_timesToReturnAll_6 (by decide) (fun c9 => ?_) (fun c9 => ?_)
      · have h0 := it_t c9 h0
        exact E_2_26_1 x2_3 ls h0 hl
      · have h0 := it_f c9 h0
        refine lv_aload_n hx hb dX7_timesToReturnAll_9 rfl (lv_at hl 1 rfl) ?_
        refine lv_iload_n hx hb dX7_timesToReturnAll_10 rfl (lv_at hl 2 rfl) ?_
        refine lv_iload_n hx hb dX7_timesToReturnAll_11 rfl (lv_at hl 0 rfl) ?_
        obtain ⟨z_4, hz, h0⟩ := bd_ok h0
        refine ro_S (As := [.ref p1, .int p2, .int x2_3]) (rest := []) (wc := [(p1, .inr (5, [.ref p1_cells, .int p1_size])), (p1_cells, .inl (cI, 64, .inl p1_cells_f))]) hcf (kX7_allReturnBehind l D cI cC cT p1 p1_cells p1_cells_f p1_size p2 x2_3 z_4 hz) (va_cwS 3 hts gX7_timesToReturnAll_X7_allReturnBehind rfl rfl rfl (by decide +kernel) ⟨Nat.le_of_ble_eq_true rfl, Nat.le_of_ble_eq_true rfl⟩) hE (hP.sub [0, 1] rfl) rfl hl.1 rfl (Nat.le_of_ble_eq_true rfl) dX7_timesToReturnAll_12 ⟨Nat.le_of_ble_eq_true rfl, Nat.le_of_ble_eq_true rfl⟩ ?_
        refine W.eq (g2 := F0 m 15 ls [.int z_4]) rfl ?_
        refine lv_if_eq (tgt := 20) hx hb dX7_timesToReturnAll_15 (by decide) (fun c9 => ?_) (fun c9 => ?_)
        · have h0 := it_t c9 h0
          refine lv_iinc (v := (x2_3 + 1)) (lv' := [(2, .int (x2_3 + 1)), (0, .ref p1), (1, .int p2)]) hx hb dX7_timesToReturnAll_20 hl (k := 0) rfl rfl (by decide) rfl (fun ls hl => ?_)
          refine lv_goto (tgt := 2) hx hb dX7_timesToReturnAll_23 (by decide) ?_
          exact ih2 (x2_3 + 1) ls h0 hl
        · have h0 := it_f c9 h0
          refine lv_iload_n hx hb dX7_timesToReturnAll_18 rfl (lv_at hl 0 rfl) ?_
          have e0 := Option.some.inj h0
          subst e0
          exact W.iret (v := x2_3) hx hb hr (fun t ht hW => ⟨rfl, ht⟩) (fun q hq => absurd hq List.not_mem_nil) dX7_timesToReturnAll_19
  exact L_2_4 FU 1 ls h0 hl
