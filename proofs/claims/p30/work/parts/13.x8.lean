noncomputable def mX8_pairsBehind_L28 (p1_cells_f : Nat → Int32) (p2 : Int32) (z_1 : Int32) (z_7 : Int32) (x4_5 : Int32) (k28_67 : Int32 → Int32 → Option (Int32)) : Nat → Int32 → Int32 → Option (Int32)
  | 0, _, _ => none
  | F + 1, x6_11, x3_12 => if z_1 ≤ x6_11 then (k28_67 x6_11 x3_12) else (bd (mX6_at p1_cells_f z_7 x6_11) (fun z_13 => bd (mX6_at p1_cells_f x4_5 x6_11) (fun z_14 => bd (mX6_at p1_cells_f p2 z_14) (fun z_15 => if z_13 = z_15 then (mX8_pairsBehind_L28 p1_cells_f p2 z_1 z_7 x4_5 k28_67 F (x6_11 + 1) (x3_12 + 1)) else (mX8_pairsBehind_L28 p1_cells_f p2 z_1 z_7 x4_5 k28_67 F (x6_11 + 1) x3_12)))))
noncomputable def mX8_pairsBehind_L10 (p1_cells_f : Nat → Int32) (p2 : Int32) (z_1 : Int32) (k10_73 : Int32 → Int32 → Option (Int32)) : Nat → Int32 → Int32 → Option (Int32)
  | 0, _, _ => none
  | F + 1, x4_5, x3_6 => if z_1 ≤ x4_5 then (k10_73 x4_5 x3_6) else (bd (mX6_at p1_cells_f p2 x4_5) (fun z_7 => mX8_pairsBehind_L28 p1_cells_f p2 z_1 z_7 x4_5 (fun (x6_8 : Int32) (x3_9 : Int32) => mX8_pairsBehind_L10 p1_cells_f p2 z_1 k10_73 F (x4_5 + 1) x3_9) FU 0 x3_6))
noncomputable def mX8_pairsBehind (p1_cells_f : Nat → Int32) (p1_size : Int32) (p2 : Int32) : Option (Int32) :=
  bd (mX6_size p1_size) (fun z_1 => mX8_pairsBehind_L10 p1_cells_f p2 z_1 (fun (x4_2 : Int32) (x3_3 : Int32) => some (x3_3)) FU 0 0)
set_option maxHeartbeats 8000000 in
set_option maxRecDepth 100000 in
theorem kX8_pairsBehind (l : Launch) (D : va_G) (cI cC cT : ClassId) (p1 p1_cells : Nat) (p1_cells_f : Nat → Int32) (p1_size : Int32) (p2 : Int32) (z : Int32) (h0 : mX8_pairsBehind p1_cells_f p1_size p2 = some z) : Met l yX8_pairsBehind wsX8_pairsBehind ({ frames := 1, cells := 0, slots := 0, locals := 23 } : Room) (va_Pc [.ref p1, .int p2] (rP D cI cC cT [(p1, .inr (5, [.ref p1_cells, .int p1_size])), (p1_cells, .inl (cI, 64, .inl p1_cells_f))])) (rQ (some (.int z))) 0 0 (fun _ => False) := by
  refine Met.ofW (cc := cX8_pairsBehind) (maxL := 7) (ret := (some .int)) (by decide) rfl ?_
  intro p e s m args below meth c s₁ B hml hv
  obtain ⟨rfl, hP, hE⟩ := hv
  have hx := B.exec
  have hb := B.bytes
  have hr := B.returns
  have hts := atoms_spec (ws := wsX8_pairsBehind) B.pre
  have hown : s.vm.findClass RX8 = some m.cls := findClass_of_methodNamed B.named
  have hlocks := B.notSynchronized
  have hK := hE.1
  have hcf : CallFix p m c cX8_pairsBehind 7 s ([.ref p1, .int p2] : List Value).toArray wsX8_pairsBehind RX8 := ⟨hx, hb, hml, hown, hts⟩
  have hP : va_P D vwCl [(p1, .inr (5, [.ref p1_cells, .int p1_size])), (p1_cells, .inl (cI, 64, .inl p1_cells_f))] s.heap := hP
  have hl := lv_entry ([.ref p1, .int p2]) (n := 7) (Nat.le_of_ble_eq_true rfl)
  rw [lg_entry_eq]
  generalize (lg_sl ([.ref p1, .int p2]) ++ List.replicate (7 - (lg_sl ([.ref p1, .int p2])).length) Slot.unset).toArray = ls at hl ⊢
  have hl : lv_has ls 7 [(0, .ref p1), (1, .int p2)] := hl
  unfold mX8_pairsBehind at h0
  refine lv_aload_n hx hb dX8_pairsBehind_0 rfl (lv_at hl 0 rfl) ?_
  obtain ⟨z_1, hz, h0⟩ := bd_ok h0
  refine ro_V (As := []) (rest := []) (wc := [(p1, .inr (5, [.ref p1_cells, .int p1_size])), (p1_cells, .inl (cI, 64, .inl p1_cells_f))]) hcf (kX6_size l D cI cC cT p1 p1_cells p1_cells_f p1_size z_1 hz) (cwV 0 hts gX8_pairsBehind_X6_size rfl rfl rfl (by decide +kernel) ⟨Nat.le_of_ble_eq_true rfl, Nat.le_of_ble_eq_true rfl⟩) hE (hP.sub [0, 1] rfl) (va_recv hK hP (ci := 5) (q0 := 0) rfl rfl) rfl hl.1 rfl (Nat.le_of_ble_eq_true rfl) dX8_pairsBehind_1 ⟨Nat.le_of_ble_eq_true rfl, Nat.le_of_ble_eq_true rfl⟩ ?_
  refine W.eq (g2 := F0 m 4 ls [.int z_1]) rfl ?_
  refine lv_istore_n (lv' := [(2, .int z_1), (0, .ref p1), (1, .int p2)]) hx hb dX8_pairsBehind_4 rfl hl (by decide) rfl (fun ls hl => ?_)
  refine lv_iconst (v := 0) hx hb dX8_pairsBehind_5 (by decide) ?_
  refine lv_istore_n (lv' := [(3, .int 0), (2, .int z_1), (0, .ref p1), (1, .int p2)]) hx hb dX8_pairsBehind_6 rfl hl (by decide) rfl (fun ls hl => ?_)
  refine lv_iconst (v := 0) hx hb dX8_pairsBehind_7 (by decide) ?_
  refine lv_istore (lv' := [(4, .int 0), (3, .int 0), (2, .int z_1), (0, .ref p1), (1, .int p2)]) hx hb dX8_pairsBehind_8 hl (by decide) rfl (fun ls hl => ?_)
  have E_10_73_3 : ∀ (x4_2 : Int32) (x3_3 : Int32) (ls : Array Slot), (some (x3_3)) = some z → lv_has ls 7 [(4, .int x4_2), (3, .int x3_3), (2, .int z_1), (0, .ref p1), (1, .int p2)] → W p l e (headSpec wsX8_pairsBehind ({ frames := 1, cells := 0, slots := 0, locals := 23 } : Room)).room s m (([.ref p1, .int p2] : List Value).toArray) below meth c s.heap [] 0 0 (MQ below (rQ (some (.int z))) (([.ref p1, .int p2] : List Value).toArray) s 0 0 (fun _ => False)) (F0 m 73 ls []) := by
    intro x4_2 x3_3 ls h0 hl
    refine lv_iload_n hx hb dX8_pairsBehind_73 rfl (lv_at hl 1 rfl) ?_
    have e0 := Option.some.inj h0
    subst e0
    exact W.iret (v := x3_3) hx hb hr (fun t ht hW => ⟨rfl, ht⟩) (fun q hq => absurd hq List.not_mem_nil) dX8_pairsBehind_74
  have L_10_16 : ∀ (F10 : Nat) (x4_5 : Int32) (x3_6 : Int32) (ls : Array Slot), mX8_pairsBehind_L10 p1_cells_f p2 z_1 (fun (x4_2 : Int32) (x3_3 : Int32) => some (x3_3)) F10 x4_5 x3_6 = some z → lv_has ls 7 [(4, .int x4_5), (3, .int x3_6), (2, .int z_1), (0, .ref p1), (1, .int p2)] → W p l e (headSpec wsX8_pairsBehind ({ frames := 1, cells := 0, slots := 0, locals := 23 } : Room)).room s m (([.ref p1, .int p2] : List Value).toArray) below meth c s.heap [] 0 0 (MQ below (rQ (some (.int z))) (([.ref p1, .int p2] : List Value).toArray) s 0 0 (fun _ => False)) (F0 m 10 ls []) := by
    intro F10
    induction F10 with
    | zero => intro x4_5 x3_6 ls h0 hl; cases h0
    | succ F10 ih10 =>
      intro x4_5 x3_6 ls h0 hl
      rw [mX8_pairsBehind_L10] at h0
      refine lv_iload hx hb dX8_pairsBehind_10 (lv_at hl 0 rfl) ?_
      refine lv_iload_n hx hb dX8_pairsBehind_12 rfl (lv_at hl 2 rfl) ?_
      refine lv_icmp_ge (tgt := 73) hx hb dX8_pairsBehind_13 (by decide) (fun c9 => ?_) (fun c9 => ?_)
      · have h0 := it_t c9 h0
        exact E_10_73_3 x4_5 x3_6 ls h0 hl
      · have h0 := it_f c9 h0
        refine lv_aload_n hx hb dX8_pairsBehind_16 rfl (lv_at hl 3 rfl) ?_
        refine lv_iload_n hx hb dX8_pairsBehind_17 rfl (lv_at hl 4 rfl) ?_
        refine lv_iload hx hb dX8_pairsBehind_18 (lv_at hl 0 rfl) ?_
        obtain ⟨z_7, hz, h0⟩ := bd_ok h0
        refine ro_V (As := [.int p2, .int x4_5]) (rest := []) (wc := [(p1, .inr (5, [.ref p1_cells, .int p1_size])), (p1_cells, .inl (cI, 64, .inl p1_cells_f))]) hcf (kX6_at l D cI cC cT p1 p1_cells p1_cells_f p1_size p2 x4_5 z_7 hz) (cwV 2 hts gX8_pairsBehind_X6_at rfl rfl rfl (by decide +kernel) ⟨Nat.le_of_ble_eq_true rfl, Nat.le_of_ble_eq_true rfl⟩) hE (hP.sub [0, 1] rfl) (va_recv hK hP (ci := 5) (q0 := 0) rfl rfl) rfl hl.1 rfl (Nat.le_of_ble_eq_true rfl) dX8_pairsBehind_20 ⟨Nat.le_of_ble_eq_true rfl, Nat.le_of_ble_eq_true rfl⟩ ?_
        refine W.eq (g2 := F0 m 23 ls [.int z_7]) rfl ?_
        refine lv_istore (lv' := [(5, .int z_7), (4, .int x4_5), (3, .int x3_6), (2, .int z_1), (0, .ref p1), (1, .int p2)]) hx hb dX8_pairsBehind_23 hl (by decide) rfl (fun ls hl => ?_)
        refine lv_iconst (v := 0) hx hb dX8_pairsBehind_25 (by decide) ?_
        refine lv_istore (lv' := [(6, .int 0), (5, .int z_7), (4, .int x4_5), (3, .int x3_6), (2, .int z_1), (0, .ref p1), (1, .int p2)]) hx hb dX8_pairsBehind_26 hl (by decide) rfl (fun ls hl => ?_)
        have E_28_67_9 : ∀ (x6_8 : Int32) (x3_9 : Int32) (ls : Array Slot), (mX8_pairsBehind_L10 p1_cells_f p2 z_1 (fun (x4_2 : Int32) (x3_3 : Int32) => some (x3_3)) F10 (x4_5 + 1) x3_9) = some z → lv_has ls 7 [(6, .int x6_8), (5, .int z_7), (4, .int x4_5), (3, .int x3_9), (2, .int z_1), (0, .ref p1), (1, .int p2)] → W p l e (headSpec wsX8_pairsBehind ({ frames := 1, cells := 0, slots := 0, locals := 23 } : Room)).room s m (([.ref p1, .int p2] : List Value).toArray) below meth c s.heap [] 0 0 (MQ below (rQ (some (.int z))) (([.ref p1, .int p2] : List Value).toArray) s 0 0 (fun _ => False)) (F0 m 67 ls []) := by
          intro x6_8 x3_9 ls h0 hl
          refine lv_iinc (v := (x4_5 + 1)) (lv' := [(4, .int (x4_5 + 1)), (6, .int x6_8), (5, .int z_7), (3, .int x3_9), (2, .int z_1), (0, .ref p1), (1, .int p2)]) hx hb dX8_pairsBehind_67 hl (k := 2) rfl rfl (by decide) rfl (fun ls hl => ?_)
          refine lv_goto (tgt := 10) hx hb dX8_pairsBehind_70 (by decide) ?_
          exact ih10 (x4_5 + 1) x3_9 ls h0 (lv_sub hl [0, 3, 4, 5, 6] rfl)
        have L_28_15 : ∀ (F28 : Nat) (x6_11 : Int32) (x3_12 : Int32) (ls : Array Slot), mX8_pairsBehind_L28 p1_cells_f p2 z_1 z_7 x4_5 (fun (x6_8 : Int32) (x3_9 : Int32) => mX8_pairsBehind_L10 p1_cells_f p2 z_1 (fun (x4_2 : Int32) (x3_3 : Int32) => some (x3_3)) F10 (x4_5 + 1) x3_9) F28 x6_11 x3_12 = some z → lv_has ls 7 [(6, .int x6_11), (5, .int z_7), (4, .int x4_5), (3, .int x3_12), (2, .int z_1), (0, .ref p1), (1, .int p2)] → W p l e (headSpec wsX8_pairsBehind ({ frames := 1, cells := 0, slots := 0, locals := 23 } : Room)).room s m (([.ref p1, .int p2] : List Value).toArray) below meth c s.heap [] 0 0 (MQ below (rQ (some (.int z))) (([.ref p1, .int p2] : List Value).toArray) s 0 0 (fun _ => False)) (F0 m 28 ls []) := by
          intro F28
          induction F28 with
          | zero => intro x6_11 x3_12 ls h0 hl; cases h0
          | succ F28 ih28 =>
            intro x6_11 x3_12 ls h0 hl
            rw [mX8_pairsBehind_L28] at h0
            refine lv_iload hx hb dX8_pairsBehind_28 (lv_at hl 0 rfl) ?_
            refine lv_iload_n hx hb dX8_pairsBehind_30 rfl (lv_at hl 4 rfl) ?_
            refine lv_icmp_ge (tgt := 67) hx hb dX8_pairsBehind_31 (by decide) (fun c9 => ?_) (fun c9 => ?_)
            · have h0 := it_t c9 h0
              exact E_28_67_9 x6_11 x3_12 ls h0 hl
            · have h0 := it_f c9 h0
              refine lv_aload_n hx hb dX8_pairsBehind_34 rfl (lv_at hl 5 rfl) ?_
              refine lv_iload hx hb dX8_pairsBehind_35 (lv_at hl 1 rfl) ?_
              refine lv_iload hx hb dX8_pairsBehind_37 (lv_at hl 0 rfl) ?_
              obtain ⟨z_13, hz, h0⟩ := bd_ok h0
              refine ro_V (As := [.int z_7, .int x6_11]) (rest := []) (wc := [(p1, .inr (5, [.ref p1_cells, .int p1_size])), (p1_cells, .inl (cI, 64, .inl p1_cells_f))]) hcf (kX6_at l D cI cC cT p1 p1_cells p1_cells_f p1_size z_7 x6_11 z_13 hz) (cwV 2 hts gX8_pairsBehind_X6_at rfl rfl rfl (by decide +kernel) ⟨Nat.le_of_ble_eq_true rfl, Nat.le_of_ble_eq_true rfl⟩) hE (hP.sub [0, 1] rfl) (va_recv hK hP (ci := 5) (q0 := 0) rfl rfl) rfl hl.1 rfl (Nat.le_of_ble_eq_true rfl) dX8_pairsBehind_39 ⟨Nat.le_of_ble_eq_true rfl, Nat.le_of_ble_eq_true rfl⟩ ?_
              refine W.eq (g2 := F0 m 42 ls [.int z_13]) rfl ?_
              refine lv_aload_n hx hb dX8_pairsBehind_42 rfl (lv_at hl 5 rfl) ?_
              refine lv_iload_n hx hb dX8_pairsBehind_43 rfl (lv_at hl 6 rfl) ?_
              refine lv_aload_n hx hb dX8_pairsBehind_44 rfl (lv_at hl 5 rfl) ?_
              refine lv_iload hx hb dX8_pairsBehind_45 (lv_at hl 2 rfl) ?_
              refine lv_iload hx hb dX8_pairsBehind_47 (lv_at hl 0 rfl) ?_
              obtain ⟨z_14, hz, h0⟩ := bd_ok h0
              refine ro_V (As := [.int x4_5, .int x6_11]) (rest := [.int p2, .ref p1, .int z_13]) (wc := [(p1, .inr (5, [.ref p1_cells, .int p1_size])), (p1_cells, .inl (cI, 64, .inl p1_cells_f))]) hcf (kX6_at l D cI cC cT p1 p1_cells p1_cells_f p1_size x4_5 x6_11 z_14 hz) (cwV 2 hts gX8_pairsBehind_X6_at rfl rfl rfl (by decide +kernel) ⟨Nat.le_of_ble_eq_true rfl, Nat.le_of_ble_eq_true rfl⟩) hE (hP.sub [0, 1] rfl) (va_recv hK hP (ci := 5) (q0 := 0) rfl rfl) rfl hl.1 rfl (Nat.le_of_ble_eq_true rfl) dX8_pairsBehind_49 ⟨Nat.le_of_ble_eq_true rfl, Nat.le_of_ble_eq_true rfl⟩ ?_
              refine W.eq (g2 := F0 m 52 ls [.int z_14, .int p2, .ref p1, .int z_13]) rfl ?_
              obtain ⟨z_15, hz, h0⟩ := bd_ok h0
              refine ro_V (As := [.int p2, .int z_14]) (rest := [.int z_13]) (wc := [(p1, .inr (5, [.ref p1_cells, .int p1_size])), (p1_cells, .inl (cI, 64, .inl p1_cells_f))]) hcf (kX6_at l D cI cC cT p1 p1_cells p1_cells_f p1_size p2 z_14 z_15 hz) (cwV 2 hts gX8_pairsBehind_X6_at rfl rfl rfl (by decide +kernel) ⟨Nat.le_of_ble_eq_true rfl, Nat.le_of_ble_eq_true rfl⟩) hE (hP.sub [0, 1] rfl) (va_recv hK hP (ci := 5) (q0 := 0) rfl rfl) rfl hl.1 rfl (Nat.le_of_ble_eq_true rfl) dX8_pairsBehind_52 ⟨Nat.le_of_ble_eq_true rfl, Nat.le_of_ble_eq_true rfl⟩ ?_
              refine W.eq (g2 := F0 m 55 ls [.int z_15, .int z_13]) rfl ?_
              refine lv_icmp_ne (tgt := 61) hx hb dX8_pairsBehind_55 (by decide) (fun c9 => ?_) (fun c9 => ?_)
              · have h0 := it_f c9 h0
                refine lv_iinc (v := (x6_11 + 1)) (lv' := [(6, .int (x6_11 + 1)), (5, .int z_7), (4, .int x4_5), (3, .int x3_12), (2, .int z_1), (0, .ref p1), (1, .int p2)]) hx hb dX8_pairsBehind_61 hl (k := 0) rfl rfl (by decide) rfl (fun ls hl => ?_)
                refine lv_goto (tgt := 28) hx hb dX8_pairsBehind_64 (by decide) ?_
                exact ih28 (x6_11 + 1) x3_12 ls h0 hl
              · have h0 := it_t c9 h0
                refine lv_iinc (v := (x3_12 + 1)) (lv' := [(3, .int (x3_12 + 1)), (6, .int x6_11), (5, .int z_7), (4, .int x4_5), (2, .int z_1), (0, .ref p1), (1, .int p2)]) hx hb dX8_pairsBehind_58 hl (k := 3) rfl rfl (by decide) rfl (fun ls hl => ?_)
                refine lv_iinc (v := (x6_11 + 1)) (lv' := [(6, .int (x6_11 + 1)), (3, .int (x3_12 + 1)), (5, .int z_7), (4, .int x4_5), (2, .int z_1), (0, .ref p1), (1, .int p2)]) hx hb dX8_pairsBehind_61 hl (k := 1) rfl rfl (by decide) rfl (fun ls hl => ?_)
                refine lv_goto (tgt := 28) hx hb dX8_pairsBehind_64 (by decide) ?_
                exact ih28 (x6_11 + 1) (x3_12 + 1) ls h0 (lv_sub hl [0, 2, 3, 1, 4, 5, 6] rfl)
        exact L_28_15 FU 0 x3_6 ls h0 hl
  exact L_10_16 FU 0 0 ls h0 hl
noncomputable def mX8_associatingTriples_L4 (p1_cells_f : Nat → Int32) (p1_size : Int32) (k4_26 : Int32 → Int32 → Option (Int32)) : Nat → Int32 → Int32 → Option (Int32)
  | 0, _, _ => none
  | F + 1, x2_4, x1_5 => bd (mX6_size p1_size) (fun z_6 => if z_6 ≤ x2_4 then (k4_26 x2_4 x1_5) else (bd (mX8_pairsBehind p1_cells_f p1_size x2_4) (fun z_7 => mX8_associatingTriples_L4 p1_cells_f p1_size k4_26 F (x2_4 + 1) (x1_5 + z_7))))
noncomputable def mX8_associatingTriples (p1_cells_f : Nat → Int32) (p1_size : Int32) : Option (Int32) :=
  mX8_associatingTriples_L4 p1_cells_f p1_size (fun (x2_1 : Int32) (x1_2 : Int32) => some (x1_2)) FU 0 0
set_option maxHeartbeats 8000000 in
set_option maxRecDepth 100000 in
theorem kX8_associatingTriples (l : Launch) (D : va_G) (cI cC cT : ClassId) (p1 p1_cells : Nat) (p1_cells_f : Nat → Int32) (p1_size : Int32) (z : Int32) (h0 : mX8_associatingTriples p1_cells_f p1_size = some z) : Met l yX8_associatingTriples wsX8_associatingTriples ({ frames := 2, cells := 0, slots := 0, locals := 49 } : Room) (va_Pc [.ref p1] (rP D cI cC cT [(p1, .inr (5, [.ref p1_cells, .int p1_size])), (p1_cells, .inl (cI, 64, .inl p1_cells_f))])) (rQ (some (.int z))) 0 0 (fun _ => False) := by
  refine Met.ofW (cc := cX8_associatingTriples) (maxL := 3) (ret := (some .int)) (by decide) rfl ?_
  intro p e s m args below meth c s₁ B hml hv
  obtain ⟨rfl, hP, hE⟩ := hv
  have hx := B.exec
  have hb := B.bytes
  have hr := B.returns
  have hts := atoms_spec (ws := wsX8_associatingTriples) B.pre
  have hown : s.vm.findClass RX8 = some m.cls := findClass_of_methodNamed B.named
  have hlocks := B.notSynchronized
  have hK := hE.1
  have hcf : CallFix p m c cX8_associatingTriples 3 s ([.ref p1] : List Value).toArray wsX8_associatingTriples RX8 := ⟨hx, hb, hml, hown, hts⟩
  have hP : va_P D vwCl [(p1, .inr (5, [.ref p1_cells, .int p1_size])), (p1_cells, .inl (cI, 64, .inl p1_cells_f))] s.heap := hP
  have hl := lv_entry ([.ref p1]) (n := 3) (Nat.le_of_ble_eq_true rfl)
  rw [lg_entry_eq]
  generalize (lg_sl ([.ref p1]) ++ List.replicate (3 - (lg_sl ([.ref p1])).length) Slot.unset).toArray = ls at hl ⊢
  have hl : lv_has ls 3 [(0, .ref p1)] := hl
  unfold mX8_associatingTriples at h0
  refine lv_iconst (v := 0) hx hb dX8_associatingTriples_0 (by decide) ?_
  refine lv_istore_n (lv' := [(1, .int 0), (0, .ref p1)]) hx hb dX8_associatingTriples_1 rfl hl (by decide) rfl (fun ls hl => ?_)
  refine lv_iconst (v := 0) hx hb dX8_associatingTriples_2 (by decide) ?_
  refine lv_istore_n (lv' := [(2, .int 0), (1, .int 0), (0, .ref p1)]) hx hb dX8_associatingTriples_3 rfl hl (by decide) rfl (fun ls hl => ?_)
  have E_4_26_2 : ∀ (x2_1 : Int32) (x1_2 : Int32) (ls : Array Slot), (some (x1_2)) = some z → lv_has ls 3 [(2, .int x2_1), (1, .int x1_2), (0, .ref p1)] → W p l e (headSpec wsX8_associatingTriples ({ frames := 2, cells := 0, slots := 0, locals := 49 } : Room)).room s m (([.ref p1] : List Value).toArray) below meth c s.heap [] 0 0 (MQ below (rQ (some (.int z))) (([.ref p1] : List Value).toArray) s 0 0 (fun _ => False)) (F0 m 26 ls []) := by
    intro x2_1 x1_2 ls h0 hl
    refine lv_iload_n hx hb dX8_associatingTriples_26 rfl (lv_at hl 1 rfl) ?_
    have e0 := Option.some.inj h0
    subst e0
    exact W.iret (v := x1_2) hx hb hr (fun t ht hW => ⟨rfl, ht⟩) (fun q hq => absurd hq List.not_mem_nil) dX8_associatingTriples_27
  have L_4_7 : ∀ (F4 : Nat) (x2_4 : Int32) (x1_5 : Int32) (ls : Array Slot), mX8_associatingTriples_L4 p1_cells_f p1_size (fun (x2_1 : Int32) (x1_2 : Int32) => some (x1_2)) F4 x2_4 x1_5 = some z → lv_has ls 3 [(2, .int x2_4), (1, .int x1_5), (0, .ref p1)] → W p l e (headSpec wsX8_associatingTriples ({ frames := 2, cells := 0, slots := 0, locals := 49 } : Room)).room s m (([.ref p1] : List Value).toArray) below meth c s.heap [] 0 0 (MQ below (rQ (some (.int z))) (([.ref p1] : List Value).toArray) s 0 0 (fun _ => False)) (F0 m 4 ls []) := by
    intro F4
    induction F4 with
    | zero => intro x2_4 x1_5 ls h0 hl; cases h0
    | succ F4 ih4 =>
      intro x2_4 x1_5 ls h0 hl
      rw [mX8_associatingTriples_L4] at h0
      refine lv_iload_n hx hb dX8_associatingTriples_4 rfl (lv_at hl 0 rfl) ?_
      refine lv_aload_n hx hb dX8_associatingTriples_5 rfl (lv_at hl 2 rfl) ?_
      obtain ⟨z_6, hz, h0⟩ := bd_ok h0
      refine ro_V (As := []) (rest := [.int x2_4]) (wc := [(p1, .inr (5, [.ref p1_cells, .int p1_size])), (p1_cells, .inl (cI, 64, .inl p1_cells_f))]) hcf (kX6_size l D cI cC cT p1 p1_cells p1_cells_f p1_size z_6 hz) (cwV 0 hts gX8_associatingTriples_X6_size rfl rfl rfl (by decide +kernel) ⟨Nat.le_of_ble_eq_true rfl, Nat.le_of_ble_eq_true rfl⟩) hE (hP.sub [0, 1] rfl) (va_recv hK hP (ci := 5) (q0 := 0) rfl rfl) rfl hl.1 rfl (Nat.le_of_ble_eq_true rfl) dX8_associatingTriples_6 ⟨Nat.le_of_ble_eq_true rfl, Nat.le_of_ble_eq_true rfl⟩ ?_
      refine W.eq (g2 := F0 m 9 ls [.int z_6, .int x2_4]) rfl ?_
      refine lv_icmp_ge (tgt := 26) hx hb dX8_associatingTriples_9 (by decide) (fun c9 => ?_) (fun c9 => ?_)
      · have h0 := it_t c9 h0
        exact E_4_26_2 x2_4 x1_5 ls h0 hl
      · have h0 := it_f c9 h0
        refine lv_iload_n hx hb dX8_associatingTriples_12 rfl (lv_at hl 1 rfl) ?_
        refine lv_aload_n hx hb dX8_associatingTriples_13 rfl (lv_at hl 2 rfl) ?_
        refine lv_iload_n hx hb dX8_associatingTriples_14 rfl (lv_at hl 0 rfl) ?_
        obtain ⟨z_7, hz, h0⟩ := bd_ok h0
        refine ro_S (As := [.ref p1, .int x2_4]) (rest := [.int x1_5]) (wc := [(p1, .inr (5, [.ref p1_cells, .int p1_size])), (p1_cells, .inl (cI, 64, .inl p1_cells_f))]) hcf (kX8_pairsBehind l D cI cC cT p1 p1_cells p1_cells_f p1_size x2_4 z_7 hz) (va_cwS 2 hts gX8_associatingTriples_X8_pairsBehind rfl rfl rfl (by decide +kernel) ⟨Nat.le_of_ble_eq_true rfl, Nat.le_of_ble_eq_true rfl⟩) hE (hP.sub [0, 1] rfl) rfl hl.1 rfl (Nat.le_of_ble_eq_true rfl) dX8_associatingTriples_15 ⟨Nat.le_of_ble_eq_true rfl, Nat.le_of_ble_eq_true rfl⟩ ?_
        refine W.eq (g2 := F0 m 18 ls [.int z_7, .int x1_5]) rfl ?_
        refine lv_iadd hx hb dX8_associatingTriples_18 ?_
        refine lv_istore_n (lv' := [(1, .int (x1_5 + z_7)), (2, .int x2_4), (0, .ref p1)]) hx hb dX8_associatingTriples_19 rfl hl (by decide) rfl (fun ls hl => ?_)
        refine lv_iinc (v := (x2_4 + 1)) (lv' := [(2, .int (x2_4 + 1)), (1, .int (x1_5 + z_7)), (0, .ref p1)]) hx hb dX8_associatingTriples_20 hl (k := 1) rfl rfl (by decide) rfl (fun ls hl => ?_)
        refine lv_goto (tgt := 4) hx hb dX8_associatingTriples_23 (by decide) ?_
        exact ih4 (x2_4 + 1) (x1_5 + z_7) ls h0 hl
  exact L_4_7 FU 0 0 ls h0 hl
noncomputable def mX8_commutingWith_L4 (p1_cells_f : Nat → Int32) (p1_size : Int32) (p2 : Int32) (k4_36 : Int32 → Int32 → Option (Int32)) : Nat → Int32 → Int32 → Option (Int32)
  | 0, _, _ => none
  | F + 1, x3_4, x2_5 => bd (mX6_size p1_size) (fun z_6 => if z_6 ≤ x3_4 then (k4_36 x3_4 x2_5) else (bd (mX6_at p1_cells_f p2 x3_4) (fun z_7 => bd (mX6_at p1_cells_f x3_4 p2) (fun z_8 => if z_7 = z_8 then (mX8_commutingWith_L4 p1_cells_f p1_size p2 k4_36 F (x3_4 + 1) (x2_5 + 1)) else (mX8_commutingWith_L4 p1_cells_f p1_size p2 k4_36 F (x3_4 + 1) x2_5)))))
noncomputable def mX8_commutingWith (p1_cells_f : Nat → Int32) (p1_size : Int32) (p2 : Int32) : Option (Int32) :=
  mX8_commutingWith_L4 p1_cells_f p1_size p2 (fun (x3_1 : Int32) (x2_2 : Int32) => some (x2_2)) FU 0 0
set_option maxHeartbeats 8000000 in
set_option maxRecDepth 100000 in
theorem kX8_commutingWith (l : Launch) (D : va_G) (cI cC cT : ClassId) (p1 p1_cells : Nat) (p1_cells_f : Nat → Int32) (p1_size : Int32) (p2 : Int32) (z : Int32) (h0 : mX8_commutingWith p1_cells_f p1_size p2 = some z) : Met l yX8_commutingWith wsX8_commutingWith ({ frames := 1, cells := 0, slots := 0, locals := 23 } : Room) (va_Pc [.ref p1, .int p2] (rP D cI cC cT [(p1, .inr (5, [.ref p1_cells, .int p1_size])), (p1_cells, .inl (cI, 64, .inl p1_cells_f))])) (rQ (some (.int z))) 0 0 (fun _ => False) := by
  refine Met.ofW (cc := cX8_commutingWith) (maxL := 4) (ret := (some .int)) (by decide) rfl ?_
  intro p e s m args below meth c s₁ B hml hv
  obtain ⟨rfl, hP, hE⟩ := hv
  have hx := B.exec
  have hb := B.bytes
  have hr := B.returns
  have hts := atoms_spec (ws := wsX8_commutingWith) B.pre
  have hown : s.vm.findClass RX8 = some m.cls := findClass_of_methodNamed B.named
  have hlocks := B.notSynchronized
  have hK := hE.1
  have hcf : CallFix p m c cX8_commutingWith 4 s ([.ref p1, .int p2] : List Value).toArray wsX8_commutingWith RX8 := ⟨hx, hb, hml, hown, hts⟩
  have hP : va_P D vwCl [(p1, .inr (5, [.ref p1_cells, .int p1_size])), (p1_cells, .inl (cI, 64, .inl p1_cells_f))] s.heap := hP
  have hl := lv_entry ([.ref p1, .int p2]) (n := 4) (Nat.le_of_ble_eq_true rfl)
  rw [lg_entry_eq]
  generalize (lg_sl ([.ref p1, .int p2]) ++ List.replicate (4 - (lg_sl ([.ref p1, .int p2])).length) Slot.unset).toArray = ls at hl ⊢
  have hl : lv_has ls 4 [(0, .ref p1), (1, .int p2)] := hl
  unfold mX8_commutingWith at h0
  refine lv_iconst (v := 0) hx hb dX8_commutingWith_0 (by decide) ?_
  refine lv_istore_n (lv' := [(2, .int 0), (0, .ref p1), (1, .int p2)]) hx hb dX8_commutingWith_1 rfl hl (by decide) rfl (fun ls hl => ?_)
  refine lv_iconst (v := 0) hx hb dX8_commutingWith_2 (by decide) ?_
  refine lv_istore_n (lv' := [(3, .int 0), (2, .int 0), (0, .ref p1), (1, .int p2)]) hx hb dX8_commutingWith_3 rfl hl (by decide) rfl (fun ls hl => ?_)
  have E_4_36_2 : ∀ (x3_1 : Int32) (x2_2 : Int32) (ls : Array Slot), (some (x2_2)) = some z → lv_has ls 4 [(3, .int x3_1), (2, .int x2_2), (0, .ref p1), (1, .int p2)] → W p l e (headSpec wsX8_commutingWith ({ frames := 1, cells := 0, slots := 0, locals := 23 } : Room)).room s m (([.ref p1, .int p2] : List Value).toArray) below meth c s.heap [] 0 0 (MQ below (rQ (some (.int z))) (([.ref p1, .int p2] : List Value).toArray) s 0 0 (fun _ => False)) (F0 m 36 ls []) := by
    intro x3_1 x2_2 ls h0 hl
    refine lv_iload_n hx hb dX8_commutingWith_36 rfl (lv_at hl 1 rfl) ?_
    have e0 := Option.some.inj h0
    subst e0
    exact W.iret (v := x2_2) hx hb hr (fun t ht hW => ⟨rfl, ht⟩) (fun q hq => absurd hq List.not_mem_nil) dX8_commutingWith_37
  have L_4_8 : ∀ (F4 : Nat) (x3_4 : Int32) (x2_5 : Int32) (ls : Array Slot), mX8_commutingWith_L4 p1_cells_f p1_size p2 (fun (x3_1 : Int32) (x2_2 : Int32) => some (x2_2)) F4 x3_4 x2_5 = some z → lv_has ls 4 [(3, .int x3_4), (2, .int x2_5), (0, .ref p1), (1, .int p2)] → W p l e (headSpec wsX8_commutingWith ({ frames := 1, cells := 0, slots := 0, locals := 23 } : Room)).room s m (([.ref p1, .int p2] : List Value).toArray) below meth c s.heap [] 0 0 (MQ below (rQ (some (.int z))) (([.ref p1, .int p2] : List Value).toArray) s 0 0 (fun _ => False)) (F0 m 4 ls []) := by
    intro F4
    induction F4 with
    | zero => intro x3_4 x2_5 ls h0 hl; cases h0
    | succ F4 ih4 =>
      intro x3_4 x2_5 ls h0 hl
      rw [mX8_commutingWith_L4] at h0
      refine lv_iload_n hx hb dX8_commutingWith_4 rfl (lv_at hl 0 rfl) ?_
      refine lv_aload_n hx hb dX8_commutingWith_5 rfl (lv_at hl 2 rfl) ?_
      obtain ⟨z_6, hz, h0⟩ := bd_ok h0
      refine ro_V (As := []) (rest := [.int x3_4]) (wc := [(p1, .inr (5, [.ref p1_cells, .int p1_size])), (p1_cells, .inl (cI, 64, .inl p1_cells_f))]) hcf (kX6_size l D cI cC cT p1 p1_cells p1_cells_f p1_size z_6 hz) (cwV 0 hts gX8_commutingWith_X6_size rfl rfl rfl (by decide +kernel) ⟨Nat.le_of_ble_eq_true rfl, Nat.le_of_ble_eq_true rfl⟩) hE (hP.sub [0, 1] rfl) (va_recv hK hP (ci := 5) (q0 := 0) rfl rfl) rfl hl.1 rfl (Nat.le_of_ble_eq_true rfl) dX8_commutingWith_6 ⟨Nat.le_of_ble_eq_true rfl, Nat.le_of_ble_eq_true rfl⟩ ?_
      refine W.eq (g2 := F0 m 9 ls [.int z_6, .int x3_4]) rfl ?_
      refine lv_icmp_ge (tgt := 36) hx hb dX8_commutingWith_9 (by decide) (fun c9 => ?_) (fun c9 => ?_)
      · have h0 := it_t c9 h0
        exact E_4_36_2 x3_4 x2_5 ls h0 hl
      · have h0 := it_f c9 h0
        refine lv_aload_n hx hb dX8_commutingWith_12 rfl (lv_at hl 2 rfl) ?_
        refine lv_iload_n hx hb dX8_commutingWith_13 rfl (lv_at hl 3 rfl) ?_
        refine lv_iload_n hx hb dX8_commutingWith_14 rfl (lv_at hl 0 rfl) ?_
        obtain ⟨z_7, hz, h0⟩ := bd_ok h0
        refine ro_V (As := [.int p2, .int x3_4]) (rest := []) (wc := [(p1, .inr (5, [.ref p1_cells, .int p1_size])), (p1_cells, .inl (cI, 64, .inl p1_cells_f))]) hcf (kX6_at l D cI cC cT p1 p1_cells p1_cells_f p1_size p2 x3_4 z_7 hz) (cwV 2 hts gX8_commutingWith_X6_at rfl rfl rfl (by decide +kernel) ⟨Nat.le_of_ble_eq_true rfl, Nat.le_of_ble_eq_true rfl⟩) hE (hP.sub [0, 1] rfl) (va_recv hK hP (ci := 5) (q0 := 0) rfl rfl) rfl hl.1 rfl (Nat.le_of_ble_eq_true rfl) dX8_commutingWith_15 ⟨Nat.le_of_ble_eq_true rfl, Nat.le_of_ble_eq_true rfl⟩ ?_
        refine W.eq (g2 := F0 m 18 ls [.int z_7]) rfl ?_
        refine lv_aload_n hx hb dX8_commutingWith_18 rfl (lv_at hl 2 rfl) ?_
        refine lv_iload_n hx hb dX8_commutingWith_19 rfl (lv_at hl 0 rfl) ?_
        refine lv_iload_n hx hb dX8_commutingWith_20 rfl (lv_at hl 3 rfl) ?_
        obtain ⟨z_8, hz, h0⟩ := bd_ok h0
        refine ro_V (As := [.int x3_4, .int p2]) (rest := [.int z_7]) (wc := [(p1, .inr (5, [.ref p1_cells, .int p1_size])), (p1_cells, .inl (cI, 64, .inl p1_cells_f))]) hcf (kX6_at l D cI cC cT p1 p1_cells p1_cells_f p1_size x3_4 p2 z_8 hz) (cwV 2 hts gX8_commutingWith_X6_at rfl rfl rfl (by decide +kernel) ⟨Nat.le_of_ble_eq_true rfl, Nat.le_of_ble_eq_true rfl⟩) hE (hP.sub [0, 1] rfl) (va_recv hK hP (ci := 5) (q0 := 0) rfl rfl) rfl hl.1 rfl (Nat.le_of_ble_eq_true rfl) dX8_commutingWith_21 ⟨Nat.le_of_ble_eq_true rfl, Nat.le_of_ble_eq_true rfl⟩ ?_
        refine W.eq (g2 := F0 m 24 ls [.int z_8, .int z_7]) rfl ?_
        refine lv_icmp_ne (tgt := 30) hx hb dX8_commutingWith_24 (by decide) (fun c9 => ?_) (fun c9 => ?_)
        · have h0 := it_f c9 h0
          refine lv_iinc (v := (x3_4 + 1)) (lv' := [(3, .int (x3_4 + 1)), (2, .int x2_5), (0, .ref p1), (1, .int p2)]) hx hb dX8_commutingWith_30 hl (k := 0) rfl rfl (by decide) rfl (fun ls hl => ?_)
          refine lv_goto (tgt := 4) hx hb dX8_commutingWith_33 (by decide) ?_
          exact ih4 (x3_4 + 1) x2_5 ls h0 hl
        · have h0 := it_t c9 h0
          refine lv_iinc (v := (x2_5 + 1)) (lv' := [(2, .int (x2_5 + 1)), (3, .int x3_4), (0, .ref p1), (1, .int p2)]) hx hb dX8_commutingWith_27 hl (k := 1) rfl rfl (by decide) rfl (fun ls hl => ?_)
          refine lv_iinc (v := (x3_4 + 1)) (lv' := [(3, .int (x3_4 + 1)), (2, .int (x2_5 + 1)), (0, .ref p1), (1, .int p2)]) hx hb dX8_commutingWith_30 hl (k := 1) rfl rfl (by decide) rfl (fun ls hl => ?_)
          refine lv_goto (tgt := 4) hx hb dX8_commutingWith_33 (by decide) ?_
          exact ih4 (x3_4 + 1) (x2_5 + 1) ls h0 hl
  exact L_4_8 FU 0 0 ls h0 hl
noncomputable def mX8_commutingPairs_L4 (p1_cells_f : Nat → Int32) (p1_size : Int32) (k4_26 : Int32 → Int32 → Option (Int32)) : Nat → Int32 → Int32 → Option (Int32)
  | 0, _, _ => none
  | F + 1, x2_4, x1_5 => bd (mX6_size p1_size) (fun z_6 => if z_6 ≤ x2_4 then (k4_26 x2_4 x1_5) else (bd (mX8_commutingWith p1_cells_f p1_size x2_4) (fun z_7 => mX8_commutingPairs_L4 p1_cells_f p1_size k4_26 F (x2_4 + 1) (x1_5 + z_7))))
noncomputable def mX8_commutingPairs (p1_cells_f : Nat → Int32) (p1_size : Int32) : Option (Int32) :=
  mX8_commutingPairs_L4 p1_cells_f p1_size (fun (x2_1 : Int32) (x1_2 : Int32) => some (x1_2)) FU 0 0
set_option maxHeartbeats 8000000 in
set_option maxRecDepth 100000 in
theorem kX8_commutingPairs (l : Launch) (D : va_G) (cI cC cT : ClassId) (p1 p1_cells : Nat) (p1_cells_f : Nat → Int32) (p1_size : Int32) (z : Int32) (h0 : mX8_commutingPairs p1_cells_f p1_size = some z) : Met l yX8_commutingPairs wsX8_commutingPairs ({ frames := 2, cells := 0, slots := 0, locals := 46 } : Room) (va_Pc [.ref p1] (rP D cI cC cT [(p1, .inr (5, [.ref p1_cells, .int p1_size])), (p1_cells, .inl (cI, 64, .inl p1_cells_f))])) (rQ (some (.int z))) 0 0 (fun _ => False) := by
  refine Met.ofW (cc := cX8_commutingPairs) (maxL := 3) (ret := (some .int)) (by decide) rfl ?_
  intro p e s m args below meth c s₁ B hml hv
  obtain ⟨rfl, hP, hE⟩ := hv
  have hx := B.exec
  have hb := B.bytes
  have hr := B.returns
  have hts := atoms_spec (ws := wsX8_commutingPairs) B.pre
  have hown : s.vm.findClass RX8 = some m.cls := findClass_of_methodNamed B.named
  have hlocks := B.notSynchronized
  have hK := hE.1
  have hcf : CallFix p m c cX8_commutingPairs 3 s ([.ref p1] : List Value).toArray wsX8_commutingPairs RX8 := ⟨hx, hb, hml, hown, hts⟩
  have hP : va_P D vwCl [(p1, .inr (5, [.ref p1_cells, .int p1_size])), (p1_cells, .inl (cI, 64, .inl p1_cells_f))] s.heap := hP
  have hl := lv_entry ([.ref p1]) (n := 3) (Nat.le_of_ble_eq_true rfl)
  rw [lg_entry_eq]
  generalize (lg_sl ([.ref p1]) ++ List.replicate (3 - (lg_sl ([.ref p1])).length) Slot.unset).toArray = ls at hl ⊢
  have hl : lv_has ls 3 [(0, .ref p1)] := hl
  unfold mX8_commutingPairs at h0
  refine lv_iconst (v := 0) hx hb dX8_commutingPairs_0 (by decide) ?_
  refine lv_istore_n (lv' := [(1, .int 0), (0, .ref p1)]) hx hb dX8_commutingPairs_1 rfl hl (by decide) rfl (fun ls hl => ?_)
  refine lv_iconst (v := 0) hx hb dX8_commutingPairs_2 (by decide) ?_
  refine lv_istore_n (lv' := [(2, .int 0), (1, .int 0), (0, .ref p1)]) hx hb dX8_commutingPairs_3 rfl hl (by decide) rfl (fun ls hl => ?_)
  have E_4_26_2 : ∀ (x2_1 : Int32) (x1_2 : Int32) (ls : Array Slot), (some (x1_2)) = some z → lv_has ls 3 [(2, .int x2_1), (1, .int x1_2), (0, .ref p1)] → W p l e (headSpec wsX8_commutingPairs ({ frames := 2, cells := 0, slots := 0, locals := 46 } : Room)).room s m (([.ref p1] : List Value).toArray) below meth c s.heap [] 0 0 (MQ below (rQ (some (.int z))) (([.ref p1] : List Value).toArray) s 0 0 (fun _ => False)) (F0 m 26 ls []) := by
    intro x2_1 x1_2 ls h0 hl
    refine lv_iload_n hx hb dX8_commutingPairs_26 rfl (lv_at hl 1 rfl) ?_
    have e0 := Option.some.inj h0
    subst e0
    exact W.iret (v := x1_2) hx hb hr (fun t ht hW => ⟨rfl, ht⟩) (fun q hq => absurd hq List.not_mem_nil) dX8_commutingPairs_27
  have L_4_7 : ∀ (F4 : Nat) (x2_4 : Int32) (x1_5 : Int32) (ls : Array Slot), mX8_commutingPairs_L4 p1_cells_f p1_size (fun (x2_1 : Int32) (x1_2 : Int32) => some (x1_2)) F4 x2_4 x1_5 = some z → lv_has ls 3 [(2, .int x2_4), (1, .int x1_5), (0, .ref p1)] → W p l e (headSpec wsX8_commutingPairs ({ frames := 2, cells := 0, slots := 0, locals := 46 } : Room)).room s m (([.ref p1] : List Value).toArray) below meth c s.heap [] 0 0 (MQ below (rQ (some (.int z))) (([.ref p1] : List Value).toArray) s 0 0 (fun _ => False)) (F0 m 4 ls []) := by
    intro F4
    induction F4 with
    | zero => intro x2_4 x1_5 ls h0 hl; cases h0
    | succ F4 ih4 =>
      intro x2_4 x1_5 ls h0 hl
      rw [mX8_commutingPairs_L4] at h0
      refine lv_iload_n hx hb dX8_commutingPairs_4 rfl (lv_at hl 0 rfl) ?_
      refine lv_aload_n hx hb dX8_commutingPairs_5 rfl (lv_at hl 2 rfl) ?_
      obtain ⟨z_6, hz, h0⟩ := bd_ok h0
      refine ro_V (As := []) (rest := [.int x2_4]) (wc := [(p1, .inr (5, [.ref p1_cells, .int p1_size])), (p1_cells, .inl (cI, 64, .inl p1_cells_f))]) hcf (kX6_size l D cI cC cT p1 p1_cells p1_cells_f p1_size z_6 hz) (cwV 0 hts gX8_commutingPairs_X6_size rfl rfl rfl (by decide +kernel) ⟨Nat.le_of_ble_eq_true rfl, Nat.le_of_ble_eq_true rfl⟩) hE (hP.sub [0, 1] rfl) (va_recv hK hP (ci := 5) (q0 := 0) rfl rfl) rfl hl.1 rfl (Nat.le_of_ble_eq_true rfl) dX8_commutingPairs_6 ⟨Nat.le_of_ble_eq_true rfl, Nat.le_of_ble_eq_true rfl⟩ ?_
      refine W.eq (g2 := F0 m 9 ls [.int z_6, .int x2_4]) rfl ?_
      refine lv_icmp_ge (tgt := 26) hx hb dX8_commutingPairs_9 (by decide) (fun c9 => ?_) (fun c9 => ?_)
      · have h0 := it_t c9 h0
        exact E_4_26_2 x2_4 x1_5 ls h0 hl
      · have h0 := it_f c9 h0
        refine lv_iload_n hx hb dX8_commutingPairs_12 rfl (lv_at hl 1 rfl) ?_
        refine lv_aload_n hx hb dX8_commutingPairs_13 rfl (lv_at hl 2 rfl) ?_
        refine lv_iload_n hx hb dX8_commutingPairs_14 rfl (lv_at hl 0 rfl) ?_
        obtain ⟨z_7, hz, h0⟩ := bd_ok h0
        refine ro_S (As := [.ref p1, .int x2_4]) (rest := [.int x1_5]) (wc := [(p1, .inr (5, [.ref p1_cells, .int p1_size])), (p1_cells, .inl (cI, 64, .inl p1_cells_f))]) hcf (kX8_commutingWith l D cI cC cT p1 p1_cells p1_cells_f p1_size x2_4 z_7 hz) (va_cwS 2 hts gX8_commutingPairs_X8_commutingWith rfl rfl rfl (by decide +kernel) ⟨Nat.le_of_ble_eq_true rfl, Nat.le_of_ble_eq_true rfl⟩) hE (hP.sub [0, 1] rfl) rfl hl.1 rfl (Nat.le_of_ble_eq_true rfl) dX8_commutingPairs_15 ⟨Nat.le_of_ble_eq_true rfl, Nat.le_of_ble_eq_true rfl⟩ ?_
        refine W.eq (g2 := F0 m 18 ls [.int z_7, .int x1_5]) rfl ?_
        refine lv_iadd hx hb dX8_commutingPairs_18 ?_
        refine lv_istore_n (lv' := [(1, .int (x1_5 + z_7)), (2, .int x2_4), (0, .ref p1)]) hx hb dX8_commutingPairs_19 rfl hl (by decide) rfl (fun ls hl => ?_)
        refine lv_iinc (v := (x2_4 + 1)) (lv' := [(2, .int (x2_4 + 1)), (1, .int (x1_5 + z_7)), (0, .ref p1)]) hx hb dX8_commutingPairs_20 hl (k := 1) rfl rfl (by decide) rfl (fun ls hl => ?_)
        refine lv_goto (tgt := 4) hx hb dX8_commutingPairs_23 (by decide) ?_
        exact ih4 (x2_4 + 1) (x1_5 + z_7) ls h0 hl
  exact L_4_7 FU 0 0 ls h0 hl
noncomputable def mX8_isNeutral_L2 (p1_cells_f : Nat → Int32) (p1_size : Int32) (p2 : Int32) (p3 : Int32) (k2_45 : Int32 → Option (Int32)) : Nat → Int32 → Option (Int32)
  | 0, _ => none
  | F + 1, x3_3 => bd (mX6_size p1_size) (fun z_4 => if z_4 ≤ x3_3 then (k2_45 x3_3) else (if p3 = 0 then (bd (mX6_at p1_cells_f x3_3 p2) (fun z_5 => if z_5 = x3_3 then (mX8_isNeutral_L2 p1_cells_f p1_size p2 p3 k2_45 F (x3_3 + 1)) else (some (0)))) else (bd (mX6_at p1_cells_f p2 x3_3) (fun z_6 => if z_6 = x3_3 then (mX8_isNeutral_L2 p1_cells_f p1_size p2 p3 k2_45 F (x3_3 + 1)) else (some (0))))))
noncomputable def mX8_isNeutral (p1_cells_f : Nat → Int32) (p1_size : Int32) (p2 : Int32) (p3 : Int32) : Option (Int32) :=
  mX8_isNeutral_L2 p1_cells_f p1_size p2 p3 (fun (x3_1 : Int32) => some (1)) FU 0
set_option maxHeartbeats 8000000 in
set_option maxRecDepth 100000 in
theorem kX8_isNeutral (l : Launch) (D : va_G) (cI cC cT : ClassId) (p1 p1_cells : Nat) (p1_cells_f : Nat → Int32) (p1_size : Int32) (p2 : Int32) (p3 : Int32) (z : Int32) (h0 : mX8_isNeutral p1_cells_f p1_size p2 p3 = some z) : Met l yX8_isNeutral wsX8_isNeutral ({ frames := 1, cells := 0, slots := 0, locals := 23 } : Room) (va_Pc [.ref p1, .int p2, .int p3] (rP D cI cC cT [(p1, .inr (5, [.ref p1_cells, .int p1_size])), (p1_cells, .inl (cI, 64, .inl p1_cells_f))])) (rQ (some (.int z))) 0 0 (fun _ => False) := by
  refine Met.ofW (cc := cX8_isNeutral) (maxL := 5) (ret := (some .boolean)) (by decide) rfl ?_
  intro p e s m args below meth c s₁ B hml hv
  obtain ⟨rfl, hP, hE⟩ := hv
  have hx := B.exec
  have hb := B.bytes
  have hr := B.returns
  have hts := atoms_spec (ws := wsX8_isNeutral) B.pre
  have hown : s.vm.findClass RX8 = some m.cls := findClass_of_methodNamed B.named
  have hlocks := B.notSynchronized
  have hK := hE.1
  have hcf : CallFix p m c cX8_isNeutral 5 s ([.ref p1, .int p2, .int p3] : List Value).toArray wsX8_isNeutral RX8 := ⟨hx, hb, hml, hown, hts⟩
  have hP : va_P D vwCl [(p1, .inr (5, [.ref p1_cells, .int p1_size])), (p1_cells, .inl (cI, 64, .inl p1_cells_f))] s.heap := hP
  have hl := lv_entry ([.ref p1, .int p2, .int p3]) (n := 5) (Nat.le_of_ble_eq_true rfl)
  rw [lg_entry_eq]
  generalize (lg_sl ([.ref p1, .int p2, .int p3]) ++ List.replicate (5 - (lg_sl ([.ref p1, .int p2, .int p3])).length) Slot.unset).toArray = ls at hl ⊢
  have hl : lv_has ls 5 [(0, .ref p1), (1, .int p2), (2, .int p3)] := hl
  unfold mX8_isNeutral at h0
  refine lv_iconst (v := 0) hx hb dX8_isNeutral_0 (by decide) ?_
  refine lv_istore_n (lv' := [(3, .int 0), (0, .ref p1), (1, .int p2), (2, .int p3)]) hx hb dX8_isNeutral_1 rfl hl (by decide) rfl (fun ls hl => ?_)
  have E_2_45_1 : ∀ (x3_1 : Int32) (ls : Array Slot), (some (1)) = some z → lv_has ls 5 [(3, .int x3_1), (0, .ref p1), (1, .int p2), (2, .int p3)] → W p l e (headSpec wsX8_isNeutral ({ frames := 1, cells := 0, slots := 0, locals := 23 } : Room)).room s m (([.ref p1, .int p2, .int p3] : List Value).toArray) below meth c s.heap [] 0 0 (MQ below (rQ (some (.int z))) (([.ref p1, .int p2, .int p3] : List Value).toArray) s 0 0 (fun _ => False)) (F0 m 45 ls []) := by
    intro x3_1 ls h0 hl
    refine lv_iconst (v := 1) hx hb dX8_isNeutral_45 (by decide) ?_
    have e0 := Option.some.inj h0
    subst e0
    exact W.zret (ty := .boolean) (v := 1) hx hb hr rfl (fun t ht hW => ⟨rfl, ht⟩) (fun q hq => absurd hq List.not_mem_nil) dX8_isNeutral_46
  have L_2_6 : ∀ (F2 : Nat) (x3_3 : Int32) (ls : Array Slot), mX8_isNeutral_L2 p1_cells_f p1_size p2 p3 (fun (x3_1 : Int32) => some (1)) F2 x3_3 = some z → lv_has ls 5 [(3, .int x3_3), (0, .ref p1), (1, .int p2), (2, .int p3)] → W p l e (headSpec wsX8_isNeutral ({ frames := 1, cells := 0, slots := 0, locals := 23 } : Room)).room s m (([.ref p1, .int p2, .int p3] : List Value).toArray) below meth c s.heap [] 0 0 (MQ below (rQ (some (.int z))) (([.ref p1, .int p2, .int p3] : List Value).toArray) s 0 0 (fun _ => False)) (F0 m 2 ls []) := by
    intro F2
    induction F2 with
    | zero => intro x3_3 ls h0 hl; cases h0
    | succ F2 ih2 =>
      intro x3_3 ls h0 hl
      rw [mX8_isNeutral_L2] at h0
      refine lv_iload_n hx hb dX8_isNeutral_2 rfl (lv_at hl 0 rfl) ?_
      refine lv_aload_n hx hb dX8_isNeutral_3 rfl (lv_at hl 1 rfl) ?_
      obtain ⟨z_4, hz, h0⟩ := bd_ok h0
      refine ro_V (As := []) (rest := [.int x3_3]) (wc := [(p1, .inr (5, [.ref p1_cells, .int p1_size])), (p1_cells, .inl (cI, 64, .inl p1_cells_f))]) hcf (kX6_size l D cI cC cT p1 p1_cells p1_cells_f p1_size z_4 hz) (cwV 0 hts gX8_isNeutral_X6_size rfl rfl rfl (by decide +kernel) ⟨Nat.le_of_ble_eq_true rfl, Nat.le_of_ble_eq_true rfl⟩) hE (hP.sub [0, 1] rfl) (va_recv hK hP (ci := 5) (q0 := 0) rfl rfl) rfl hl.1 rfl (Nat.le_of_ble_eq_true rfl) dX8_isNeutral_4 ⟨Nat.le_of_ble_eq_true rfl, Nat.le_of_ble_eq_true rfl⟩ ?_
      refine W.eq (g2 := F0 m 7 ls [.int z_4, .int x3_3]) rfl ?_
      refine lv_icmp_ge (tgt := 45) hx hb dX8_isNeutral_7 (by decide) (fun c9 => ?_) (fun c9 => ?_)
      · have h0 := it_t c9 h0
        exact E_2_45_1 x3_3 ls h0 hl
      · have h0 := it_f c9 h0
        refine lv_iload_n hx hb dX8_isNeutral_10 rfl (lv_at hl 3 rfl) ?_
        refine lv_if_eq (tgt := 23) hx hb dX8_isNeutral_11 (by decide) (fun c9 => ?_) (fun c9 => ?_)
        · have h0 := it_t c9 h0
          refine lv_aload_n hx hb dX8_isNeutral_23 rfl (lv_at hl 1 rfl) ?_
          refine lv_iload_n hx hb dX8_isNeutral_24 rfl (lv_at hl 0 rfl) ?_
          refine lv_iload_n hx hb dX8_isNeutral_25 rfl (lv_at hl 2 rfl) ?_
          obtain ⟨z_5, hz, h0⟩ := bd_ok h0
          refine ro_V (As := [.int x3_3, .int p2]) (rest := []) (wc := [(p1, .inr (5, [.ref p1_cells, .int p1_size])), (p1_cells, .inl (cI, 64, .inl p1_cells_f))]) hcf (kX6_at l D cI cC cT p1 p1_cells p1_cells_f p1_size x3_3 p2 z_5 hz) (cwV 2 hts gX8_isNeutral_X6_at rfl rfl rfl (by decide +kernel) ⟨Nat.le_of_ble_eq_true rfl, Nat.le_of_ble_eq_true rfl⟩) hE (hP.sub [0, 1] rfl) (va_recv hK hP (ci := 5) (q0 := 0) rfl rfl) rfl hl.1 rfl (Nat.le_of_ble_eq_true rfl) dX8_isNeutral_26 ⟨Nat.le_of_ble_eq_true rfl, Nat.le_of_ble_eq_true rfl⟩ ?_
          refine W.eq (g2 := F0 m 29 ls [.int z_5]) rfl ?_
          refine lv_istore (lv' := [(4, .int z_5), (3, .int x3_3), (0, .ref p1), (1, .int p2), (2, .int p3)]) hx hb dX8_isNeutral_29 hl (by decide) rfl (fun ls hl => ?_)
          refine lv_iload hx hb dX8_isNeutral_31 (lv_at hl 0 rfl) ?_
          refine lv_iload_n hx hb dX8_isNeutral_33 rfl (lv_at hl 1 rfl) ?_
          refine lv_icmp_eq (tgt := 39) hx hb dX8_isNeutral_34 (by decide) (fun c9 => ?_) (fun c9 => ?_)
          · have h0 := it_t c9 h0
            refine lv_iinc (v := (x3_3 + 1)) (lv' := [(3, .int (x3_3 + 1)), (4, .int z_5), (0, .ref p1), (1, .int p2), (2, .int p3)]) hx hb dX8_isNeutral_39 hl (k := 1) rfl rfl (by decide) rfl (fun ls hl => ?_)
            refine lv_goto (tgt := 2) hx hb dX8_isNeutral_42 (by decide) ?_
            exact ih2 (x3_3 + 1) ls h0 (lv_sub hl [0, 2, 3, 4] rfl)
          · have h0 := it_f c9 h0
            refine lv_iconst (v := 0) hx hb dX8_isNeutral_37 (by decide) ?_
            have e0 := Option.some.inj h0
            subst e0
            exact W.zret (ty := .boolean) (v := 0) hx hb hr rfl (fun t ht hW => ⟨rfl, ht⟩) (fun q hq => absurd hq List.not_mem_nil) dX8_isNeutral_38
        · have h0 := it_f c9 h0
          refine lv_aload_n hx hb dX8_isNeutral_14 rfl (lv_at hl 1 rfl) ?_
          refine lv_iload_n hx hb dX8_isNeutral_15 rfl (lv_at hl 2 rfl) ?_
          refine lv_iload_n hx hb dX8_isNeutral_16 rfl (lv_at hl 0 rfl) ?_
          obtain ⟨z_6, hz, h0⟩ := bd_ok h0
          refine ro_V (As := [.int p2, .int x3_3]) (rest := []) (wc := [(p1, .inr (5, [.ref p1_cells, .int p1_size])), (p1_cells, .inl (cI, 64, .inl p1_cells_f))]) hcf (kX6_at l D cI cC cT p1 p1_cells p1_cells_f p1_size p2 x3_3 z_6 hz) (cwV 2 hts gX8_isNeutral_X6_at rfl rfl rfl (by decide +kernel) ⟨Nat.le_of_ble_eq_true rfl, Nat.le_of_ble_eq_true rfl⟩) hE (hP.sub [0, 1] rfl) (va_recv hK hP (ci := 5) (q0 := 0) rfl rfl) rfl hl.1 rfl (Nat.le_of_ble_eq_true rfl) dX8_isNeutral_17 ⟨Nat.le_of_ble_eq_true rfl, Nat.le_of_ble_eq_true rfl⟩ ?_
          refine W.eq (g2 := F0 m 20 ls [.int z_6]) rfl ?_
          refine lv_goto (tgt := 29) hx hb dX8_isNeutral_20 (by decide) ?_
          refine lv_istore (lv' := [(4, .int z_6), (3, .int x3_3), (0, .ref p1), (1, .int p2), (2, .int p3)]) hx hb dX8_isNeutral_29 hl (by decide) rfl (fun ls hl => ?_)
          refine lv_iload hx hb dX8_isNeutral_31 (lv_at hl 0 rfl) ?_
          refine lv_iload_n hx hb dX8_isNeutral_33 rfl (lv_at hl 1 rfl) ?_
          refine lv_icmp_eq (tgt := 39) hx hb dX8_isNeutral_34 (by decide) (fun c9 => ?_) (fun c9 => ?_)
          · have h0 := it_t c9 h0
            refine lv_iinc (v := (x3_3 + 1)) (lv' := [(3, .int (x3_3 + 1)), (4, .int z_6), (0, .ref p1), (1, .int p2), (2, .int p3)]) hx hb dX8_isNeutral_39 hl (k := 1) rfl rfl (by decide) rfl (fun ls hl => ?_)
            refine lv_goto (tgt := 2) hx hb dX8_isNeutral_42 (by decide) ?_
            exact ih2 (x3_3 + 1) ls h0 (lv_sub hl [0, 2, 3, 4] rfl)
          · have h0 := it_f c9 h0
            refine lv_iconst (v := 0) hx hb dX8_isNeutral_37 (by decide) ?_
            have e0 := Option.some.inj h0
            subst e0
            exact W.zret (ty := .boolean) (v := 0) hx hb hr rfl (fun t ht hW => ⟨rfl, ht⟩) (fun q hq => absurd hq List.not_mem_nil) dX8_isNeutral_38
  exact L_2_6 FU 0 ls h0 hl
noncomputable def mX8_neutralToken_L2 (p1_cells_f : Nat → Int32) (p1_size : Int32) (p2 : Int32) (k2_27 : Int32 → Option (Int32)) : Nat → Int32 → Option (Int32)
  | 0, _ => none
  | F + 1, x2_3 => bd (mX6_size p1_size) (fun z_4 => if z_4 ≤ x2_3 then (k2_27 x2_3) else (bd (mX8_isNeutral p1_cells_f p1_size x2_3 p2) (fun z_5 => if z_5 = 0 then (mX8_neutralToken_L2 p1_cells_f p1_size p2 k2_27 F (x2_3 + 1)) else (some (x2_3)))))
noncomputable def mX8_neutralToken (p1_cells_f : Nat → Int32) (p1_size : Int32) (p2 : Int32) : Option (Int32) :=
  mX8_neutralToken_L2 p1_cells_f p1_size p2 (fun (x2_1 : Int32) => some ((-4))) FU 0
set_option maxHeartbeats 8000000 in
set_option maxRecDepth 100000 in
theorem kX8_neutralToken (l : Launch) (D : va_G) (cI cC cT : ClassId) (p1 p1_cells : Nat) (p1_cells_f : Nat → Int32) (p1_size : Int32) (p2 : Int32) (z : Int32) (h0 : mX8_neutralToken p1_cells_f p1_size p2 = some z) : Met l yX8_neutralToken wsX8_neutralToken ({ frames := 2, cells := 0, slots := 0, locals := 47 } : Room) (va_Pc [.ref p1, .int p2] (rP D cI cC cT [(p1, .inr (5, [.ref p1_cells, .int p1_size])), (p1_cells, .inl (cI, 64, .inl p1_cells_f))])) (rQ (some (.int z))) 0 0 (fun _ => False) := by
  refine Met.ofW (cc := cX8_neutralToken) (maxL := 3) (ret := (some .int)) (by decide) rfl ?_
  intro p e s m args below meth c s₁ B hml hv
  obtain ⟨rfl, hP, hE⟩ := hv
  have hx := B.exec
  have hb := B.bytes
  have hr := B.returns
  have hts := atoms_spec (ws := wsX8_neutralToken) B.pre
  have hown : s.vm.findClass RX8 = some m.cls := findClass_of_methodNamed B.named
  have hlocks := B.notSynchronized
  have hK := hE.1
  have hcf : CallFix p m c cX8_neutralToken 3 s ([.ref p1, .int p2] : List Value).toArray wsX8_neutralToken RX8 := ⟨hx, hb, hml, hown, hts⟩
  have hP : va_P D vwCl [(p1, .inr (5, [.ref p1_cells, .int p1_size])), (p1_cells, .inl (cI, 64, .inl p1_cells_f))] s.heap := hP
  have hl := lv_entry ([.ref p1, .int p2]) (n := 3) (Nat.le_of_ble_eq_true rfl)
  rw [lg_entry_eq]
  generalize (lg_sl ([.ref p1, .int p2]) ++ List.replicate (3 - (lg_sl ([.ref p1, .int p2])).length) Slot.unset).toArray = ls at hl ⊢
  have hl : lv_has ls 3 [(0, .ref p1), (1, .int p2)] := hl
  unfold mX8_neutralToken at h0
  refine lv_iconst (v := 0) hx hb dX8_neutralToken_0 (by decide) ?_
  refine lv_istore_n (lv' := [(2, .int 0), (0, .ref p1), (1, .int p2)]) hx hb dX8_neutralToken_1 rfl hl (by decide) rfl (fun ls hl => ?_)
  have E_2_27_1 : ∀ (x2_1 : Int32) (ls : Array Slot), (some ((-4))) = some z → lv_has ls 3 [(2, .int x2_1), (0, .ref p1), (1, .int p2)] → W p l e (headSpec wsX8_neutralToken ({ frames := 2, cells := 0, slots := 0, locals := 47 } : Room)).room s m (([.ref p1, .int p2] : List Value).toArray) below meth c s.heap [] 0 0 (MQ below (rQ (some (.int z))) (([.ref p1, .int p2] : List Value).toArray) s 0 0 (fun _ => False)) (F0 m 27 ls []) := by
    intro x2_1 ls h0 hl
    refine lv_bipush (v := (-4)) hx hb dX8_neutralToken_27 (by decide) ?_
    have e0 := Option.some.inj h0
    subst e0
    exact W.iret (v := (-4)) hx hb hr (fun t ht hW => ⟨rfl, ht⟩) (fun q hq => absurd hq List.not_mem_nil) dX8_neutralToken_29
  have L_2_5 : ∀ (F2 : Nat) (x2_3 : Int32) (ls : Array Slot), mX8_neutralToken_L2 p1_cells_f p1_size p2 (fun (x2_1 : Int32) => some ((-4))) F2 x2_3 = some z → lv_has ls 3 [(2, .int x2_3), (0, .ref p1), (1, .int p2)] → W p l e (headSpec wsX8_neutralToken ({ frames := 2, cells := 0, slots := 0, locals := 47 } : Room)).room s m (([.ref p1, .int p2] : List Value).toArray) below meth c s.heap [] 0 0 (MQ below (rQ (some (.int z))) (([.ref p1, .int p2] : List Value).toArray) s 0 0 (fun _ => False)) (F0 m 2 ls []) := by
    intro F2
    induction F2 with
    | zero => intro x2_3 ls h0 hl; cases h0
    | succ F2 ih2 =>
      intro x2_3 ls h0 hl
      rw [mX8_neutralToken_L2] at h0
      refine lv_iload_n hx hb dX8_neutralToken_2 rfl (lv_at hl 0 rfl) ?_
      refine lv_aload_n hx hb dX8_neutralToken_3 rfl (lv_at hl 1 rfl) ?_
      obtain ⟨z_4, hz, h0⟩ := bd_ok h0
      refine ro_V (As := []) (rest := [.int x2_3]) (wc := [(p1, .inr (5, [.ref p1_cells, .int p1_size])), (p1_cells, .inl (cI, 64, .inl p1_cells_f))]) hcf (kX6_size l D cI cC cT p1 p1_cells p1_cells_f p1_size z_4 hz) (cwV 0 hts gX8_neutralToken_X6_size rfl rfl rfl (by decide +kernel) ⟨Nat.le_of_ble_eq_true rfl, Nat.le_of_ble_eq_true rfl⟩) hE (hP.sub [0, 1] rfl) (va_recv hK hP (ci := 5) (q0 := 0) rfl rfl) rfl hl.1 rfl (Nat.le_of_ble_eq_true rfl) dX8_neutralToken_4 ⟨Nat.le_of_ble_eq_true rfl, Nat.le_of_ble_eq_true rfl⟩ ?_
      refine W.eq (g2 := F0 m 7 ls [.int z_4, .int x2_3]) rfl ?_
      refine lv_icmp_ge (tgt := 27) hx hb dX8_neutralToken_7 (by decide) (fun c9 => ?_) (fun c9 => ?_)
      · have h0 := it_t c9 h0
        exact E_2_27_1 x2_3 ls h0 hl
      · have h0 := it_f c9 h0
        refine lv_aload_n hx hb dX8_neutralToken_10 rfl (lv_at hl 1 rfl) ?_
        refine lv_iload_n hx hb dX8_neutralToken_11 rfl (lv_at hl 0 rfl) ?_
        refine lv_iload_n hx hb dX8_neutralToken_12 rfl (lv_at hl 2 rfl) ?_
        obtain ⟨z_5, hz, h0⟩ := bd_ok h0
        refine ro_S (As := [.ref p1, .int x2_3, .int p2]) (rest := []) (wc := [(p1, .inr (5, [.ref p1_cells, .int p1_size])), (p1_cells, .inl (cI, 64, .inl p1_cells_f))]) hcf (kX8_isNeutral l D cI cC cT p1 p1_cells p1_cells_f p1_size x2_3 p2 z_5 hz) (va_cwS 3 hts gX8_neutralToken_X8_isNeutral rfl rfl rfl (by decide +kernel) ⟨Nat.le_of_ble_eq_true rfl, Nat.le_of_ble_eq_true rfl⟩) hE (hP.sub [0, 1] rfl) rfl hl.1 rfl (Nat.le_of_ble_eq_true rfl) dX8_neutralToken_13 ⟨Nat.le_of_ble_eq_true rfl, Nat.le_of_ble_eq_true rfl⟩ ?_
        refine W.eq (g2 := F0 m 16 ls [.int z_5]) rfl ?_
        refine lv_if_eq (tgt := 21) hx hb dX8_neutralToken_16 (by decide) (fun c9 => ?_) (fun c9 => ?_)
        · have h0 := it_t c9 h0
          refine lv_iinc (v := (x2_3 + 1)) (lv' := [(2, .int (x2_3 + 1)), (0, .ref p1), (1, .int p2)]) hx hb dX8_neutralToken_21 hl (k := 0) rfl rfl (by decide) rfl (fun ls hl => ?_)
          refine lv_goto (tgt := 2) hx hb dX8_neutralToken_24 (by decide) ?_
          exact ih2 (x2_3 + 1) ls h0 hl
        · have h0 := it_f c9 h0
          refine lv_iload_n hx hb dX8_neutralToken_19 rfl (lv_at hl 0 rfl) ?_
          have e0 := Option.some.inj h0
          subst e0
          exact W.iret (v := x2_3) hx hb hr (fun t ht hW => ⟨rfl, ht⟩) (fun q hq => absurd hq List.not_mem_nil) dX8_neutralToken_20
  exact L_2_5 FU 0 ls h0 hl
noncomputable def mX8_selfSums_L4 (p1_cells_f : Nat → Int32) (p1_size : Int32) (k4_31 : Int32 → Int32 → Option (Int32)) : Nat → Int32 → Int32 → Option (Int32)
  | 0, _, _ => none
  | F + 1, x2_4, x1_5 => bd (mX6_size p1_size) (fun z_6 => if z_6 ≤ x2_4 then (k4_31 x2_4 x1_5) else (bd (mX6_at p1_cells_f x2_4 x2_4) (fun z_7 => if z_7 = x2_4 then (mX8_selfSums_L4 p1_cells_f p1_size k4_31 F (x2_4 + 1) (x1_5 + 1)) else (mX8_selfSums_L4 p1_cells_f p1_size k4_31 F (x2_4 + 1) x1_5))))
noncomputable def mX8_selfSums (p1_cells_f : Nat → Int32) (p1_size : Int32) : Option (Int32) :=
  mX8_selfSums_L4 p1_cells_f p1_size (fun (x2_1 : Int32) (x1_2 : Int32) => some (x1_2)) FU 0 0
set_option maxHeartbeats 8000000 in
set_option maxRecDepth 100000 in
theorem kX8_selfSums (l : Launch) (D : va_G) (cI cC cT : ClassId) (p1 p1_cells : Nat) (p1_cells_f : Nat → Int32) (p1_size : Int32) (z : Int32) (h0 : mX8_selfSums p1_cells_f p1_size = some z) : Met l yX8_selfSums wsX8_selfSums ({ frames := 1, cells := 0, slots := 0, locals := 23 } : Room) (va_Pc [.ref p1] (rP D cI cC cT [(p1, .inr (5, [.ref p1_cells, .int p1_size])), (p1_cells, .inl (cI, 64, .inl p1_cells_f))])) (rQ (some (.int z))) 0 0 (fun _ => False) := by
  refine Met.ofW (cc := cX8_selfSums) (maxL := 3) (ret := (some .int)) (by decide) rfl ?_
  intro p e s m args below meth c s₁ B hml hv
  obtain ⟨rfl, hP, hE⟩ := hv
  have hx := B.exec
  have hb := B.bytes
  have hr := B.returns
  have hts := atoms_spec (ws := wsX8_selfSums) B.pre
  have hown : s.vm.findClass RX8 = some m.cls := findClass_of_methodNamed B.named
  have hlocks := B.notSynchronized
  have hK := hE.1
  have hcf : CallFix p m c cX8_selfSums 3 s ([.ref p1] : List Value).toArray wsX8_selfSums RX8 := ⟨hx, hb, hml, hown, hts⟩
  have hP : va_P D vwCl [(p1, .inr (5, [.ref p1_cells, .int p1_size])), (p1_cells, .inl (cI, 64, .inl p1_cells_f))] s.heap := hP
  have hl := lv_entry ([.ref p1]) (n := 3) (Nat.le_of_ble_eq_true rfl)
  rw [lg_entry_eq]
  generalize (lg_sl ([.ref p1]) ++ List.replicate (3 - (lg_sl ([.ref p1])).length) Slot.unset).toArray = ls at hl ⊢
  have hl : lv_has ls 3 [(0, .ref p1)] := hl
  unfold mX8_selfSums at h0
  refine lv_iconst (v := 0) hx hb dX8_selfSums_0 (by decide) ?_
  refine lv_istore_n (lv' := [(1, .int 0), (0, .ref p1)]) hx hb dX8_selfSums_1 rfl hl (by decide) rfl (fun ls hl => ?_)
  refine lv_iconst (v := 0) hx hb dX8_selfSums_2 (by decide) ?_
  refine lv_istore_n (lv' := [(2, .int 0), (1, .int 0), (0, .ref p1)]) hx hb dX8_selfSums_3 rfl hl (by decide) rfl (fun ls hl => ?_)
  have E_4_31_2 : ∀ (x2_1 : Int32) (x1_2 : Int32) (ls : Array Slot), (some (x1_2)) = some z → lv_has ls 3 [(2, .int x2_1), (1, .int x1_2), (0, .ref p1)] → W p l e (headSpec wsX8_selfSums ({ frames := 1, cells := 0, slots := 0, locals := 23 } : Room)).room s m (([.ref p1] : List Value).toArray) below meth c s.heap [] 0 0 (MQ below (rQ (some (.int z))) (([.ref p1] : List Value).toArray) s 0 0 (fun _ => False)) (F0 m 31 ls []) := by
    intro x2_1 x1_2 ls h0 hl
    refine lv_iload_n hx hb dX8_selfSums_31 rfl (lv_at hl 1 rfl) ?_
    have e0 := Option.some.inj h0
    subst e0
    exact W.iret (v := x1_2) hx hb hr (fun t ht hW => ⟨rfl, ht⟩) (fun q hq => absurd hq List.not_mem_nil) dX8_selfSums_32
  have L_4_7 : ∀ (F4 : Nat) (x2_4 : Int32) (x1_5 : Int32) (ls : Array Slot), mX8_selfSums_L4 p1_cells_f p1_size (fun (x2_1 : Int32) (x1_2 : Int32) => some (x1_2)) F4 x2_4 x1_5 = some z → lv_has ls 3 [(2, .int x2_4), (1, .int x1_5), (0, .ref p1)] → W p l e (headSpec wsX8_selfSums ({ frames := 1, cells := 0, slots := 0, locals := 23 } : Room)).room s m (([.ref p1] : List Value).toArray) below meth c s.heap [] 0 0 (MQ below (rQ (some (.int z))) (([.ref p1] : List Value).toArray) s 0 0 (fun _ => False)) (F0 m 4 ls []) := by
    intro F4
    induction F4 with
    | zero => intro x2_4 x1_5 ls h0 hl; cases h0
    | succ F4 ih4 =>
      intro x2_4 x1_5 ls h0 hl
      rw [mX8_selfSums_L4] at h0
      refine lv_iload_n hx hb dX8_selfSums_4 rfl (lv_at hl 0 rfl) ?_
      refine lv_aload_n hx hb dX8_selfSums_5 rfl (lv_at hl 2 rfl) ?_
      obtain ⟨z_6, hz, h0⟩ := bd_ok h0
      refine ro_V (As := []) (rest := [.int x2_4]) (wc := [(p1, .inr (5, [.ref p1_cells, .int p1_size])), (p1_cells, .inl (cI, 64, .inl p1_cells_f))]) hcf (kX6_size l D cI cC cT p1 p1_cells p1_cells_f p1_size z_6 hz) (cwV 0 hts gX8_selfSums_X6_size rfl rfl rfl (by decide +kernel) ⟨Nat.le_of_ble_eq_true rfl, Nat.le_of_ble_eq_true rfl⟩) hE (hP.sub [0, 1] rfl) (va_recv hK hP (ci := 5) (q0 := 0) rfl rfl) rfl hl.1 rfl (Nat.le_of_ble_eq_true rfl) dX8_selfSums_6 ⟨Nat.le_of_ble_eq_true rfl, Nat.le_of_ble_eq_true rfl⟩ ?_
      refine W.eq (g2 := F0 m 9 ls [.int z_6, .int x2_4]) rfl ?_
      refine lv_icmp_ge (tgt := 31) hx hb dX8_selfSums_9 (by decide) (fun c9 => ?_) (fun c9 => ?_)
      · have h0 := it_t c9 h0
        exact E_4_31_2 x2_4 x1_5 ls h0 hl
      · have h0 := it_f c9 h0
        refine lv_aload_n hx hb dX8_selfSums_12 rfl (lv_at hl 2 rfl) ?_
        refine lv_iload_n hx hb dX8_selfSums_13 rfl (lv_at hl 0 rfl) ?_
        refine lv_iload_n hx hb dX8_selfSums_14 rfl (lv_at hl 0 rfl) ?_
        obtain ⟨z_7, hz, h0⟩ := bd_ok h0
        refine ro_V (As := [.int x2_4, .int x2_4]) (rest := []) (wc := [(p1, .inr (5, [.ref p1_cells, .int p1_size])), (p1_cells, .inl (cI, 64, .inl p1_cells_f))]) hcf (kX6_at l D cI cC cT p1 p1_cells p1_cells_f p1_size x2_4 x2_4 z_7 hz) (cwV 2 hts gX8_selfSums_X6_at rfl rfl rfl (by decide +kernel) ⟨Nat.le_of_ble_eq_true rfl, Nat.le_of_ble_eq_true rfl⟩) hE (hP.sub [0, 1] rfl) (va_recv hK hP (ci := 5) (q0 := 0) rfl rfl) rfl hl.1 rfl (Nat.le_of_ble_eq_true rfl) dX8_selfSums_15 ⟨Nat.le_of_ble_eq_true rfl, Nat.le_of_ble_eq_true rfl⟩ ?_
        refine W.eq (g2 := F0 m 18 ls [.int z_7]) rfl ?_
        refine lv_iload_n hx hb dX8_selfSums_18 rfl (lv_at hl 0 rfl) ?_
        refine lv_icmp_ne (tgt := 25) hx hb dX8_selfSums_19 (by decide) (fun c9 => ?_) (fun c9 => ?_)
        · have h0 := it_f c9 h0
          refine lv_iinc (v := (x2_4 + 1)) (lv' := [(2, .int (x2_4 + 1)), (1, .int x1_5), (0, .ref p1)]) hx hb dX8_selfSums_25 hl (k := 0) rfl rfl (by decide) rfl (fun ls hl => ?_)
          refine lv_goto (tgt := 4) hx hb dX8_selfSums_28 (by decide) ?_
          exact ih4 (x2_4 + 1) x1_5 ls h0 hl
        · have h0 := it_t c9 h0
          refine lv_iinc (v := (x1_5 + 1)) (lv' := [(1, .int (x1_5 + 1)), (2, .int x2_4), (0, .ref p1)]) hx hb dX8_selfSums_22 hl (k := 1) rfl rfl (by decide) rfl (fun ls hl => ?_)
          refine lv_iinc (v := (x2_4 + 1)) (lv' := [(2, .int (x2_4 + 1)), (1, .int (x1_5 + 1)), (0, .ref p1)]) hx hb dX8_selfSums_25 hl (k := 1) rfl rfl (by decide) rfl (fun ls hl => ?_)
          refine lv_goto (tgt := 4) hx hb dX8_selfSums_28 (by decide) ?_
          exact ih4 (x2_4 + 1) (x1_5 + 1) ls h0 hl
  exact L_4_7 FU 0 0 ls h0 hl
