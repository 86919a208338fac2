noncomputable def mX9_get_T (p2 : Int32) : Option (Int32) :=
  if p2 < 0 then (some (0)) else (if (8 : Int32) ≤ p2 then (some (0)) else (gd (inb p2 8) (some ((wA (p2 : Int32).toNatClampNeg)))))
set_option maxHeartbeats 8000000 in
set_option maxRecDepth 100000 in
theorem kX9_get_T (l : Launch) (D : va_G) (cI cC cT : ClassId) (wq : Nat) (p2 : Int32) (z : Int32) (h0 : mX9_get_T p2 = some z) : Met l yX9_get wsX9_get ({ frames := 0, cells := 0, slots := 0, locals := 0 } : Room) (va_Pc [.ref wq, .int p2] (rW D cI cC cT [] wq)) (rQ (some (.int z))) 0 0 (fun _ => False) := by
  refine Met.ofW (cc := cX9_get) (maxL := 2) (ret := (some .int)) (by decide) rfl ?_
  intro p e s m args below meth c s₁ B hml hv
  obtain ⟨rfl, ⟨hP, hE⟩, hWs⟩ := hv
  have hx := B.exec
  have hb := B.bytes
  have hr := B.returns
  have hts := atoms_spec (ws := wsX9_get) B.pre
  have hown : s.vm.findClass RX9 = some m.cls := findClass_of_methodNamed B.named
  have hlocks := B.notSynchronized
  have hK := hE.1
  have hcf : CallFix p m c cX9_get 2 s ([.ref wq, .int p2] : List Value).toArray wsX9_get RX9 := ⟨hx, hb, hml, hown, hts⟩
  have hP : va_P D vwCl [] s.heap := hP
  have hl := lv_entry ([.ref wq, .int p2]) (n := 2) (Nat.le_of_ble_eq_true rfl)
  rw [lg_entry_eq]
  generalize (lg_sl ([.ref wq, .int p2]) ++ List.replicate (2 - (lg_sl ([.ref wq, .int p2])).length) Slot.unset).toArray = ls at hl ⊢
  have hl : lv_has ls 2 [(0, .ref wq), (1, .int p2)] := hl
  unfold mX9_get_T at h0
  refine lv_iload_n hx hb dX9_get_0 rfl (lv_at hl 1 rfl) ?_
  refine lv_if_lt (tgt := 16) hx hb dX9_get_1 (by decide) (fun c9 => ?_) (fun c9 => ?_)
  · have h0 := it_t c9 h0
    refine lv_iconst (v := 0) hx hb dX9_get_16 (by decide) ?_
    have e0 := Option.some.inj h0
    subst e0
    exact W.iret (v := 0) hx hb hr (fun t ht hW => ⟨rfl, ht⟩) (fun q hq => absurd hq List.not_mem_nil) dX9_get_17
  · have h0 := it_f c9 h0
    refine lv_iload_n hx hb dX9_get_4 rfl (lv_at hl 1 rfl) ?_
    refine lv_aload_n hx hb dX9_get_5 rfl (lv_at hl 0 rfl) ?_
    refine va_tlen (v := 8) hx hb hWs.2 va_S.rf (show Int32.ofNat 8 = 8 from by decide) dX9_get_6 ?_
    refine lv_icmp_ge (tgt := 16) hx hb dX9_get_7 (by decide) (fun c9 => ?_) (fun c9 => ?_)
    · have h0 := it_t c9 h0
      refine lv_iconst (v := 0) hx hb dX9_get_16 (by decide) ?_
      have e0 := Option.some.inj h0
      subst e0
      exact W.iret (v := 0) hx hb hr (fun t ht hW => ⟨rfl, ht⟩) (fun q hq => absurd hq List.not_mem_nil) dX9_get_17
    · have h0 := it_f c9 h0
      refine lv_aload_n hx hb dX9_get_10 rfl (lv_at hl 0 rfl) ?_
      refine lv_iload_n hx hb dX9_get_11 rfl (lv_at hl 1 rfl) ?_
      obtain ⟨g0, h0⟩ := gd_ok h0
      refine va_ti (v := .int (wA (p2 : Int32).toNatClampNeg)) hx hb hWs.2 va_S.rf (inb_ok g0) rfl dX9_get_12 ?_
      refine lv_goto (tgt := 17) hx hb dX9_get_13 (by decide) ?_
      have e0 := Option.some.inj h0
      subst e0
      exact W.iret (v := (wA (p2 : Int32).toNatClampNeg)) hx hb hr (fun t ht hW => ⟨rfl, ht⟩) (fun q hq => absurd hq List.not_mem_nil) dX9_get_17
noncomputable def mX3_sumOfWay_L24 (rec : Int32 → Int32 → Int32 → Option (Int32)) (p2_cells_f : Nat → Int32) (p3 : Int32) (p4 : Int32) (k24_124 : Int32 → Int32 → Option (Int32)) : Nat → Int32 → Int32 → Option (Int32)
  | 0, _, _ => none
  | F + 1, x6_5, x5_6 => if p4 ≤ x6_5 then (k24_124 x6_5 x5_6) else (bd (mX9_get_T (p4 - x6_5)) (fun z_7 => bd (mX9_get_T x6_5) (fun z_8 => if z_7 ≤ 0 then (mX3_sumOfWay_L24 rec p2_cells_f p3 p4 k24_124 F (x6_5 + 1) (x5_6 - (z_8 * z_7))) else (if (z_8 * z_7) ≤ x5_6 then (mX3_sumOfWay_L24 rec p2_cells_f p3 p4 k24_124 F (x6_5 + 1) (x5_6 - (z_8 * z_7))) else (gd (nzb z_7) (bd (rec p3 x6_5 (x5_6 / z_7)) (fun z_9 => gd (nzb z_7) (bd (rec (p3 + x6_5) (p4 - x6_5) (x5_6 - x5_6 / z_7 * z_7)) (fun z_10 => bd (mX6_at p2_cells_f z_9 z_10) (fun z_11 => some (z_11)))))))))))
noncomputable def mX3_sumOfWay (p1_n : Nat) (p1_f : Nat → Int32) (p2_cells_f : Nat → Int32) : Nat → Int32 → Int32 → Int32 → Option (Int32)
  | 0, _, _, _ => none
  | d + 1, p3, p4, p5 => if p4 ≤ 1 then (bd (mX9_get p1_n p1_f p3) (fun z_1 => some (z_1))) else (if p4 ≤ 7 then (mX3_sumOfWay_L24 (mX3_sumOfWay p1_n p1_f p2_cells_f d) p2_cells_f p3 p4 (fun (x6_2 : Int32) (x5_3 : Int32) => some ((-4))) FU 1 p5) else (bd (mX9_get p1_n p1_f p3) (fun z_13 => some (z_13))))
set_option maxHeartbeats 8000000 in
set_option maxRecDepth 100000 in
theorem kX3_sumOfWay (l : Launch) (D : va_G) (cI cC cT : ClassId) (wq : Nat) (p1 p2 p2_cells : Nat) (p1_n : Nat) (p1_f : Nat → Int32) (p2_cells_f : Nat → Int32) (p2_size : Int32) : ∀ (d : Nat) (p3 p4 p5 : Int32) (z : Int32), mX3_sumOfWay p1_n p1_f p2_cells_f d p3 p4 p5 = some z → Met l yX3_sumOfWay wsX3_sumOfWay ({ frames := d, cells := 0, slots := 0, locals := 40 * d } : Room) (va_Pc [.ref p1, .ref p2, .int p3, .int p4, .int p5] (rW D cI cC cT [(p1, .inl (cI, p1_n, .inl p1_f)), (p2, .inr (5, [.ref p2_cells, .int p2_size])), (p2_cells, .inl (cI, 64, .inl p2_cells_f))] wq)) (rQ (some (.int z))) 0 0 (fun _ => False) := by
  intro d
  induction d with
  | zero => intro p3 p4 p5 z h0; cases h0
  | succ d ihd =>
    intro p3 p4 p5 z h0
    rw [mX3_sumOfWay] at h0
    refine Met.ofW (cc := cX3_sumOfWay) (maxL := 11) (ret := (some .int)) (by decide) rfl ?_
    intro p e s m args below meth c s₁ B hml hv
    obtain ⟨rfl, ⟨hP, hE⟩, hWs⟩ := hv
    have hx := B.exec
    have hb := B.bytes
    have hr := B.returns
    have hts := atoms_spec (ws := wsX3_sumOfWay) B.pre
    have hown : s.vm.findClass RX3 = some m.cls := findClass_of_methodNamed B.named
    have hlocks := B.notSynchronized
    have hK := hE.1
    have hcf : CallFix p m c cX3_sumOfWay 11 s ([.ref p1, .ref p2, .int p3, .int p4, .int p5] : List Value).toArray wsX3_sumOfWay RX3 := ⟨hx, hb, hml, hown, hts⟩
    have hP : va_P D vwCl [(p1, .inl (cI, p1_n, .inl p1_f)), (p2, .inr (5, [.ref p2_cells, .int p2_size])), (p2_cells, .inl (cI, 64, .inl p2_cells_f))] s.heap := hP
    have hini_X9 := hts (.initialized RX9) (by decide +kernel)
    have hst_X9_get := hts (.static yX9_get) (by decide +kernel)
    have hf_49 := hts (.fieldLink RX3 49 "CrookedSums$RowText" "WAYS" "[I") (by decide +kernel)
    have hl := lv_entry ([.ref p1, .ref p2, .int p3, .int p4, .int p5]) (n := 11) (Nat.le_of_ble_eq_true rfl)
    rw [lg_entry_eq]
    generalize (lg_sl ([.ref p1, .ref p2, .int p3, .int p4, .int p5]) ++ List.replicate (11 - (lg_sl ([.ref p1, .ref p2, .int p3, .int p4, .int p5])).length) Slot.unset).toArray = ls at hl ⊢
    have hl : lv_has ls 11 [(0, .ref p1), (1, .ref p2), (2, .int p3), (3, .int p4), (4, .int p5)] := hl
    refine lv_iload_n hx hb dX3_sumOfWay_0 rfl (lv_at hl 3 rfl) ?_
    refine lv_iconst (v := 1) hx hb dX3_sumOfWay_1 (by decide) ?_
    refine lv_icmp_le (tgt := 11) hx hb dX3_sumOfWay_2 (by decide) (fun c9 => ?_) (fun c9 => ?_)
    · have h0 := it_t c9 h0
      refine lv_aload_n hx hb dX3_sumOfWay_11 rfl (lv_at hl 0 rfl) ?_
      refine lv_iload_n hx hb dX3_sumOfWay_12 rfl (lv_at hl 2 rfl) ?_
      obtain ⟨z_1, hz, h0⟩ := bd_ok h0
      refine ro_SN (As := [.ref p1, .int p3]) (rest := []) (wc := [(p1, .inl (cI, p1_n, .inl p1_f))]) hcf (kX9_get l D cI cC cT p1 p1_n p1_f p3 z_1 hz) ⟨va_cnB (host := RX9) 2 hts gX3_sumOfWay_X9_get_n52 rfl rfl rfl hE.2.2.2.1 hini_X9 (by decide +kernel) (by show 0 + 1 ≤ d + 1 ∧ 8 + (2 + 11) + 0 ≤ 40 * (d + 1); omega), hst_X9_get, trivial⟩ hE (hP.sub [0] rfl) rfl hl.1 rfl (Nat.le_of_ble_eq_true rfl) dX3_sumOfWay_13 ⟨Nat.le_of_ble_eq_true rfl, Nat.le_of_ble_eq_true rfl⟩ ?_
      refine W.eq (g2 := F0 m 16 ls [.int z_1]) rfl ?_
      have e0 := Option.some.inj h0
      subst e0
      exact W.iret (v := z_1) hx hb hr (fun t ht hW => ⟨rfl, ht⟩) (fun q hq => absurd hq List.not_mem_nil) dX3_sumOfWay_16
    · have h0 := it_f c9 h0
      refine lv_iload_n hx hb dX3_sumOfWay_5 rfl (lv_at hl 3 rfl) ?_
      refine lv_bipush (v := 7) hx hb dX3_sumOfWay_6 (by decide) ?_
      refine lv_icmp_le (tgt := 17) hx hb dX3_sumOfWay_8 (by decide) (fun c9 => ?_) (fun c9 => ?_)
      · have h0 := it_t c9 h0
        refine lv_iload hx hb dX3_sumOfWay_17 (lv_at hl 4 rfl) ?_
        refine lv_istore (lv' := [(5, .int p5), (0, .ref p1), (1, .ref p2), (2, .int p3), (3, .int p4), (4, .int p5)]) hx hb dX3_sumOfWay_19 hl (by decide) rfl (fun ls hl => ?_)
        refine lv_iconst (v := 1) hx hb dX3_sumOfWay_21 (by decide) ?_
        refine lv_istore (lv' := [(6, .int 1), (5, .int p5), (0, .ref p1), (1, .ref p2), (2, .int p3), (3, .int p4), (4, .int p5)]) hx hb dX3_sumOfWay_22 hl (by decide) rfl (fun ls hl => ?_)
        have E_24_124_3 : ∀ (x6_2 : Int32) (x5_3 : Int32) (ls : Array Slot), (some ((-4))) = some z → lv_has ls 11 [(6, .int x6_2), (5, .int x5_3), (0, .ref p1), (1, .ref p2), (2, .int p3), (3, .int p4), (4, .int p5)] → W p l e (headSpec wsX3_sumOfWay ({ frames := d + 1, cells := 0, slots := 0, locals := 40 * (d + 1) } : Room)).room s m (([.ref p1, .ref p2, .int p3, .int p4, .int p5] : List Value).toArray) below meth c s.heap [] 0 0 (MQ below (rQ (some (.int z))) (([.ref p1, .ref p2, .int p3, .int p4, .int p5] : List Value).toArray) s 0 0 (fun _ => False)) (F0 m 124 ls []) := by
          intro x6_2 x5_3 ls h0 hl
          refine lv_bipush (v := (-4)) hx hb dX3_sumOfWay_124 (by decide) ?_
          have e0 := Option.some.inj h0
          subst e0
          exact W.iret (v := (-4)) hx hb hr (fun t ht hW => ⟨rfl, ht⟩) (fun q hq => absurd hq List.not_mem_nil) dX3_sumOfWay_126
        have L_24_11 : ∀ (F24 : Nat) (x6_5 : Int32) (x5_6 : Int32) (ls : Array Slot), mX3_sumOfWay_L24 (mX3_sumOfWay p1_n p1_f p2_cells_f d) p2_cells_f p3 p4 (fun (x6_2 : Int32) (x5_3 : Int32) => some ((-4))) F24 x6_5 x5_6 = some z → lv_has ls 11 [(6, .int x6_5), (5, .int x5_6), (0, .ref p1), (1, .ref p2), (2, .int p3), (3, .int p4), (4, .int p5)] → W p l e (headSpec wsX3_sumOfWay ({ frames := d + 1, cells := 0, slots := 0, locals := 40 * (d + 1) } : Room)).room s m (([.ref p1, .ref p2, .int p3, .int p4, .int p5] : List Value).toArray) below meth c s.heap [] 0 0 (MQ below (rQ (some (.int z))) (([.ref p1, .ref p2, .int p3, .int p4, .int p5] : List Value).toArray) s 0 0 (fun _ => False)) (F0 m 24 ls []) := by
          intro F24
          induction F24 with
          | zero => intro x6_5 x5_6 ls h0 hl; cases h0
          | succ F24 ih24 =>
            intro x6_5 x5_6 ls h0 hl
            rw [mX3_sumOfWay_L24] at h0
            refine lv_iload hx hb dX3_sumOfWay_24 (lv_at hl 0 rfl) ?_
            refine lv_iload_n hx hb dX3_sumOfWay_26 rfl (lv_at hl 5 rfl) ?_
            refine lv_icmp_ge (tgt := 124) hx hb dX3_sumOfWay_27 (by decide) (fun c9 => ?_) (fun c9 => ?_)
            · have h0 := it_t c9 h0
              exact E_24_124_3 x6_5 x5_6 ls h0 hl
            · have h0 := it_f c9 h0
              refine va_gets hx hb hWs.1 va_S.rf hown hf_49 (fun _ h9 => h9) dX3_sumOfWay_30 ?_
              refine lv_iload_n hx hb dX3_sumOfWay_33 rfl (lv_at hl 5 rfl) ?_
              refine lv_iload hx hb dX3_sumOfWay_34 (lv_at hl 0 rfl) ?_
              refine lv_isub hx hb dX3_sumOfWay_36 ?_
              obtain ⟨z_7, hz, h0⟩ := bd_ok h0
              refine ro_SNW (As := [.ref wq, .int (p4 - x6_5)]) (rest := []) (wc := []) hcf (kX9_get_T l D cI cC cT wq (p4 - x6_5) z_7 hz) ⟨va_cnB (host := RX9) 2 hts gX3_sumOfWay_X9_get_n52 rfl rfl rfl hE.2.2.2.1 hini_X9 (by decide +kernel) (by show 0 + 1 ≤ d + 1 ∧ 8 + (2 + 11) + 0 ≤ 40 * (d + 1); omega), hst_X9_get, trivial⟩ hE hWs (hP.sub [] rfl) rfl hl.1 rfl (Nat.le_of_ble_eq_true rfl) dX3_sumOfWay_37 ⟨Nat.le_of_ble_eq_true rfl, Nat.le_of_ble_eq_true rfl⟩ ?_
              refine W.eq (g2 := F0 m 40 ls [.int z_7]) rfl ?_
              refine lv_istore (lv' := [(7, .int z_7), (6, .int x6_5), (5, .int x5_6), (0, .ref p1), (1, .ref p2), (2, .int p3), (3, .int p4), (4, .int p5)]) hx hb dX3_sumOfWay_40 hl (by decide) rfl (fun ls hl => ?_)
              refine va_gets hx hb hWs.1 va_S.rf hown hf_49 (fun _ h9 => h9) dX3_sumOfWay_42 ?_
              refine lv_iload hx hb dX3_sumOfWay_45 (lv_at hl 1 rfl) ?_
              obtain ⟨z_8, hz, h0⟩ := bd_ok h0
              refine ro_SNW (As := [.ref wq, .int x6_5]) (rest := []) (wc := []) hcf (kX9_get_T l D cI cC cT wq x6_5 z_8 hz) ⟨va_cnB (host := RX9) 2 hts gX3_sumOfWay_X9_get_n52 rfl rfl rfl hE.2.2.2.1 hini_X9 (by decide +kernel) (by show 0 + 1 ≤ d + 1 ∧ 8 + (2 + 11) + 0 ≤ 40 * (d + 1); omega), hst_X9_get, trivial⟩ hE hWs (hP.sub [] rfl) rfl hl.1 rfl (Nat.le_of_ble_eq_true rfl) dX3_sumOfWay_47 ⟨Nat.le_of_ble_eq_true rfl, Nat.le_of_ble_eq_true rfl⟩ ?_
              refine W.eq (g2 := F0 m 50 ls [.int z_8]) rfl ?_
              refine lv_iload hx hb dX3_sumOfWay_50 (lv_at hl 0 rfl) ?_
              refine lv_imul hx hb dX3_sumOfWay_52 ?_
              refine lv_istore (lv' := [(8, .int (z_8 * z_7)), (7, .int z_7), (6, .int x6_5), (5, .int x5_6), (0, .ref p1), (1, .ref p2), (2, .int p3), (3, .int p4), (4, .int p5)]) hx hb dX3_sumOfWay_53 hl (by decide) rfl (fun ls hl => ?_)
              refine lv_iload hx hb dX3_sumOfWay_55 (lv_at hl 1 rfl) ?_
              refine lv_if_le (tgt := 111) hx hb dX3_sumOfWay_57 (by decide) (fun c9 => ?_) (fun c9 => ?_)
              · have h0 := it_t c9 h0
                refine lv_iload hx hb dX3_sumOfWay_111 (lv_at hl 3 rfl) ?_
                refine lv_iload hx hb dX3_sumOfWay_113 (lv_at hl 0 rfl) ?_
                refine lv_isub hx hb dX3_sumOfWay_115 ?_
                refine lv_istore (lv' := [(5, .int (x5_6 - (z_8 * z_7))), (8, .int (z_8 * z_7)), (7, .int z_7), (6, .int x6_5), (0, .ref p1), (1, .ref p2), (2, .int p3), (3, .int p4), (4, .int p5)]) hx hb dX3_sumOfWay_116 hl (by decide) rfl (fun ls hl => ?_)
                refine lv_iinc (v := (x6_5 + 1)) (lv' := [(6, .int (x6_5 + 1)), (5, .int (x5_6 - (z_8 * z_7))), (8, .int (z_8 * z_7)), (7, .int z_7), (0, .ref p1), (1, .ref p2), (2, .int p3), (3, .int p4), (4, .int p5)]) hx hb dX3_sumOfWay_118 hl (k := 3) rfl rfl (by decide) rfl (fun ls hl => ?_)
                refine lv_goto (tgt := 24) hx hb dX3_sumOfWay_121 (by decide) ?_
                exact ih24 (x6_5 + 1) (x5_6 - (z_8 * z_7)) ls h0 (lv_sub hl [0, 1, 4, 5, 6, 7, 8] rfl)
              · have h0 := it_f c9 h0
                refine lv_iload hx hb dX3_sumOfWay_60 (lv_at hl 3 rfl) ?_
                refine lv_iload hx hb dX3_sumOfWay_62 (lv_at hl 0 rfl) ?_
                refine lv_icmp_ge (tgt := 111) hx hb dX3_sumOfWay_64 (by decide) (fun c9 => ?_) (fun c9 => ?_)
                · have h0 := it_t c9 h0
                  refine lv_iload hx hb dX3_sumOfWay_111 (lv_at hl 3 rfl) ?_
                  refine lv_iload hx hb dX3_sumOfWay_113 (lv_at hl 0 rfl) ?_
                  refine lv_isub hx hb dX3_sumOfWay_115 ?_
                  refine lv_istore (lv' := [(5, .int (x5_6 - (z_8 * z_7))), (8, .int (z_8 * z_7)), (7, .int z_7), (6, .int x6_5), (0, .ref p1), (1, .ref p2), (2, .int p3), (3, .int p4), (4, .int p5)]) hx hb dX3_sumOfWay_116 hl (by decide) rfl (fun ls hl => ?_)
                  refine lv_iinc (v := (x6_5 + 1)) (lv' := [(6, .int (x6_5 + 1)), (5, .int (x5_6 - (z_8 * z_7))), (8, .int (z_8 * z_7)), (7, .int z_7), (0, .ref p1), (1, .ref p2), (2, .int p3), (3, .int p4), (4, .int p5)]) hx hb dX3_sumOfWay_118 hl (k := 3) rfl rfl (by decide) rfl (fun ls hl => ?_)
                  refine lv_goto (tgt := 24) hx hb dX3_sumOfWay_121 (by decide) ?_
                  exact ih24 (x6_5 + 1) (x5_6 - (z_8 * z_7)) ls h0 (lv_sub hl [0, 1, 4, 5, 6, 7, 8] rfl)
                · have h0 := it_f c9 h0
                  refine lv_aload_n hx hb dX3_sumOfWay_67 rfl (lv_at hl 4 rfl) ?_
                  refine lv_aload_n hx hb dX3_sumOfWay_68 rfl (lv_at hl 5 rfl) ?_
                  refine lv_iload_n hx hb dX3_sumOfWay_69 rfl (lv_at hl 6 rfl) ?_
                  refine lv_iload hx hb dX3_sumOfWay_70 (lv_at hl 2 rfl) ?_
                  refine lv_iload hx hb dX3_sumOfWay_72 (lv_at hl 3 rfl) ?_
                  refine lv_iload hx hb dX3_sumOfWay_74 (lv_at hl 1 rfl) ?_
                  obtain ⟨g0, h0⟩ := gd_ok h0
                  refine lv_idiv hx hb dX3_sumOfWay_76 (nzb_ok g0) ?_
                  obtain ⟨z_9, hz, h0⟩ := bd_ok h0
                  refine ro_SW (As := [.ref p1, .ref p2, .int p3, .int x6_5, .int (x5_6 / z_7)]) (rest := []) (wc := [(p1, .inl (cI, p1_n, .inl p1_f)), (p2, .inr (5, [.ref p2_cells, .int p2_size])), (p2_cells, .inl (cI, 64, .inl p2_cells_f))]) hcf (ihd p3 x6_5 (x5_6 / z_7) z_9 hz) (va_cwS 5 hts gX3_sumOfWay_X3_sumOfWay rfl rfl rfl (by decide +kernel) (by show d + 1 ≤ d + 1 ∧ 8 + (11 + 11) + 40 * d ≤ 40 * (d + 1); omega)) hE hWs (hP.sub [0, 1, 2] rfl) rfl hl.1 rfl (Nat.le_of_ble_eq_true rfl) dX3_sumOfWay_77 ⟨Nat.le_of_ble_eq_true rfl, Nat.le_of_ble_eq_true rfl⟩ ?_
                  refine W.eq (g2 := F0 m 80 ls [.int z_9]) rfl ?_
                  refine lv_istore (lv' := [(9, .int z_9), (8, .int (z_8 * z_7)), (7, .int z_7), (6, .int x6_5), (5, .int x5_6), (0, .ref p1), (1, .ref p2), (2, .int p3), (3, .int p4), (4, .int p5)]) hx hb dX3_sumOfWay_80 hl (by decide) rfl (fun ls hl => ?_)
                  refine lv_aload_n hx hb dX3_sumOfWay_82 rfl (lv_at hl 5 rfl) ?_
                  refine lv_aload_n hx hb dX3_sumOfWay_83 rfl (lv_at hl 6 rfl) ?_
                  refine lv_iload_n hx hb dX3_sumOfWay_84 rfl (lv_at hl 7 rfl) ?_
                  refine lv_iload hx hb dX3_sumOfWay_85 (lv_at hl 3 rfl) ?_
                  refine lv_iadd hx hb dX3_sumOfWay_87 ?_
                  refine lv_iload_n hx hb dX3_sumOfWay_88 rfl (lv_at hl 8 rfl) ?_
                  refine lv_iload hx hb dX3_sumOfWay_89 (lv_at hl 3 rfl) ?_
                  refine lv_isub hx hb dX3_sumOfWay_91 ?_
                  refine lv_iload hx hb dX3_sumOfWay_92 (lv_at hl 4 rfl) ?_
                  refine lv_iload hx hb dX3_sumOfWay_94 (lv_at hl 2 rfl) ?_
                  obtain ⟨g0, h0⟩ := gd_ok h0
                  refine lv_irem hx hb dX3_sumOfWay_96 (nzb_ok g0) ?_
                  obtain ⟨z_10, hz, h0⟩ := bd_ok h0
                  refine ro_SW (As := [.ref p1, .ref p2, .int (p3 + x6_5), .int (p4 - x6_5), .int (x5_6 - x5_6 / z_7 * z_7)]) (rest := []) (wc := [(p1, .inl (cI, p1_n, .inl p1_f)), (p2, .inr (5, [.ref p2_cells, .int p2_size])), (p2_cells, .inl (cI, 64, .inl p2_cells_f))]) hcf (ihd (p3 + x6_5) (p4 - x6_5) (x5_6 - x5_6 / z_7 * z_7) z_10 hz) (va_cwS 5 hts gX3_sumOfWay_X3_sumOfWay rfl rfl rfl (by decide +kernel) (by show d + 1 ≤ d + 1 ∧ 8 + (11 + 11) + 40 * d ≤ 40 * (d + 1); omega)) hE hWs (hP.sub [0, 1, 2] rfl) rfl hl.1 rfl (Nat.le_of_ble_eq_true rfl) dX3_sumOfWay_97 ⟨Nat.le_of_ble_eq_true rfl, Nat.le_of_ble_eq_true rfl⟩ ?_
                  refine W.eq (g2 := F0 m 100 ls [.int z_10]) rfl ?_
                  refine lv_istore (lv' := [(10, .int z_10), (9, .int z_9), (8, .int (z_8 * z_7)), (7, .int z_7), (6, .int x6_5), (5, .int x5_6), (0, .ref p1), (1, .ref p2), (2, .int p3), (3, .int p4), (4, .int p5)]) hx hb dX3_sumOfWay_100 hl (by decide) rfl (fun ls hl => ?_)
                  refine lv_aload_n hx hb dX3_sumOfWay_102 rfl (lv_at hl 7 rfl) ?_
                  refine lv_iload hx hb dX3_sumOfWay_103 (lv_at hl 1 rfl) ?_
                  refine lv_iload hx hb dX3_sumOfWay_105 (lv_at hl 0 rfl) ?_
                  obtain ⟨z_11, hz, h0⟩ := bd_ok h0
                  refine ro_V (As := [.int z_9, .int z_10]) (rest := []) (wc := [(p2, .inr (5, [.ref p2_cells, .int p2_size])), (p2_cells, .inl (cI, 64, .inl p2_cells_f))]) hcf (kX6_at l D cI cC cT p2 p2_cells p2_cells_f p2_size z_9 z_10 z_11 hz) (cwV 2 hts gX3_sumOfWay_X6_at rfl rfl rfl (by decide +kernel) (by show 0 + 1 ≤ d + 1 ∧ 8 + (4 + 11) + 0 ≤ 40 * (d + 1); omega)) hE (hP.sub [1, 2] rfl) (va_recv hK hP (ci := 5) (q0 := 1) rfl rfl) rfl hl.1 rfl (Nat.le_of_ble_eq_true rfl) dX3_sumOfWay_107 ⟨Nat.le_of_ble_eq_true rfl, Nat.le_of_ble_eq_true rfl⟩ ?_
                  refine W.eq (g2 := F0 m 110 ls [.int z_11]) rfl ?_
                  have e0 := Option.some.inj h0
                  subst e0
                  exact W.iret (v := z_11) hx hb hr (fun t ht hW => ⟨rfl, ht⟩) (fun q hq => absurd hq List.not_mem_nil) dX3_sumOfWay_110
        exact L_24_11 FU 1 p5 ls h0 hl
      · have h0 := it_f c9 h0
        refine lv_aload_n hx hb dX3_sumOfWay_11 rfl (lv_at hl 0 rfl) ?_
        refine lv_iload_n hx hb dX3_sumOfWay_12 rfl (lv_at hl 2 rfl) ?_
        obtain ⟨z_13, hz, h0⟩ := bd_ok h0
        refine ro_SN (As := [.ref p1, .int p3]) (rest := []) (wc := [(p1, .inl (cI, p1_n, .inl p1_f))]) hcf (kX9_get l D cI cC cT p1 p1_n p1_f p3 z_13 hz) ⟨va_cnB (host := RX9) 2 hts gX3_sumOfWay_X9_get_n52 rfl rfl rfl hE.2.2.2.1 hini_X9 (by decide +kernel) (by show 0 + 1 ≤ d + 1 ∧ 8 + (2 + 11) + 0 ≤ 40 * (d + 1); omega), hst_X9_get, trivial⟩ hE (hP.sub [0] rfl) rfl hl.1 rfl (Nat.le_of_ble_eq_true rfl) dX3_sumOfWay_13 ⟨Nat.le_of_ble_eq_true rfl, Nat.le_of_ble_eq_true rfl⟩ ?_
        refine W.eq (g2 := F0 m 16 ls [.int z_13]) rfl ?_
        have e0 := Option.some.inj h0
        subst e0
        exact W.iret (v := z_13) hx hb hr (fun t ht hW => ⟨rfl, ht⟩) (fun q hq => absurd hq List.not_mem_nil) dX3_sumOfWay_16
noncomputable def mX3_sumOfWay8 (p1_n : Nat) (p1_f : Nat → Int32) (p2_cells_f : Nat → Int32) (p3 : Int32) (p4 : Int32) (p5 : Int32) : Option (Int32) := mX3_sumOfWay p1_n p1_f p2_cells_f 8 p3 p4 p5
theorem kX3_sumOfWay8 (l : Launch) (D : va_G) (cI cC cT : ClassId) (wq : Nat) (p1 p2 p2_cells : Nat) (p1_n : Nat) (p1_f : Nat → Int32) (p2_cells_f : Nat → Int32) (p2_size : Int32) (p3 : Int32) (p4 : Int32) (p5 : Int32) (z : Int32) (h0 : mX3_sumOfWay8 p1_n p1_f p2_cells_f p3 p4 p5 = some z) : Met l yX3_sumOfWay wsX3_sumOfWay ({ frames := 8, cells := 0, slots := 0, locals := 320 } : Room) (va_Pc [.ref p1, .ref p2, .int p3, .int p4, .int p5] (rW D cI cC cT [(p1, .inl (cI, p1_n, .inl p1_f)), (p2, .inr (5, [.ref p2_cells, .int p2_size])), (p2_cells, .inl (cI, 64, .inl p2_cells_f))] wq)) (rQ (some (.int z))) 0 0 (fun _ => False) := kX3_sumOfWay l D cI cC cT wq p1 p2 p2_cells p1_n p1_f p2_cells_f p2_size 8 p3 p4 p5 z h0
noncomputable def mX3_waysOneByOne_L17 (h_row_f : Nat → Int32) (h_length : Int32) (p1_cells_f : Nat → Int32) (p2 : Int32) (z_1 : Int32) (k17_51 : Int32 → Int32 → Option (Int32)) : Nat → Int32 → Int32 → Option (Int32)
  | 0, _, _ => none
  | F + 1, x5_5, x4_6 => if z_1 ≤ x5_5 then (k17_51 x5_5 x4_6) else (bd (mX3_sumOfWay8 7 h_row_f p1_cells_f 0 h_length x5_5) (fun z_7 => if z_7 = p2 then (mX3_waysOneByOne_L17 h_row_f h_length p1_cells_f p2 z_1 k17_51 F (x5_5 + 1) (x4_6 + 1)) else (mX3_waysOneByOne_L17 h_row_f h_length p1_cells_f p2 z_1 k17_51 F (x5_5 + 1) x4_6)))
noncomputable def mX3_waysOneByOne (h_row_f : Nat → Int32) (h_length : Int32) (p1_cells_f : Nat → Int32) (p2 : Int32) : Option (Int32) :=
  bd (mX9_get_T h_length) (fun z_1 => mX3_waysOneByOne_L17 h_row_f h_length p1_cells_f p2 z_1 (fun (x5_2 : Int32) (x4_3 : Int32) => some (x4_3)) FU 0 0)
set_option maxHeartbeats 8000000 in
set_option maxRecDepth 100000 in
theorem kX3_waysOneByOne (l : Launch) (D : va_G) (cI cC cT : ClassId) (wq : Nat) (h h_row h_parts p1 p1_cells : Nat) (h_row_f : Nat → Int32) (h_parts_f : Nat → Int32) (h_length : Int32) (p1_cells_f : Nat → Int32) (p1_size : Int32) (p2 : Int32) (z : Int32) (h0 : mX3_waysOneByOne h_row_f h_length p1_cells_f p2 = some z) : Met l yX3_waysOneByOne wsX3_waysOneByOne ({ frames := 9, cells := 0, slots := 0, locals := 350 } : Room) (va_Pc [.ref h, .ref p1, .int p2] (rW D cI cC cT [(h, .inr (2, [.ref h_row, .ref h_parts, .int h_length])), (h_row, .inl (cI, 7, .inl h_row_f)), (h_parts, .inl (cI, 448, .inl h_parts_f)), (p1, .inr (5, [.ref p1_cells, .int p1_size])), (p1_cells, .inl (cI, 64, .inl p1_cells_f))] wq)) (rQ (some (.int z))) 0 0 (fun _ => False) := by
  refine Met.ofW (cc := cX3_waysOneByOne) (maxL := 6) (ret := (some .int)) (by decide) rfl ?_
  intro p e s m args below meth c s₁ B hml hv
  obtain ⟨rfl, ⟨hP, hE⟩, hWs⟩ := hv
  have hx := B.exec
  have hb := B.bytes
  have hr := B.returns
  have hts := atoms_spec (ws := wsX3_waysOneByOne) B.pre
  have hown : s.vm.findClass RX3 = some m.cls := findClass_of_methodNamed B.named
  have hlocks := B.notSynchronized
  have hK := hE.1
  have hcf : CallFix p m c cX3_waysOneByOne 6 s ([.ref h, .ref p1, .int p2] : List Value).toArray wsX3_waysOneByOne RX3 := ⟨hx, hb, hml, hown, hts⟩
  have hP : va_P D vwCl [(h, .inr (2, [.ref h_row, .ref h_parts, .int h_length])), (h_row, .inl (cI, 7, .inl h_row_f)), (h_parts, .inl (cI, 448, .inl h_parts_f)), (p1, .inr (5, [.ref p1_cells, .int p1_size])), (p1_cells, .inl (cI, 64, .inl p1_cells_f))] s.heap := hP
  have hf_49 := hts (.fieldLink RX3 49 "CrookedSums$RowText" "WAYS" "[I") (by decide +kernel)
  have hf_18 := hts (.fieldLink RX3 18 "CrookedSums$RowText" "length" "I") (by decide +kernel)
  have hi_X3 := (show ∀ w ∈ u_ws RX3 TX3 3, w ∈ wsX3_waysOneByOne from by decide +kernel)
  have hini_X9 := hts (.initialized RX9) (by decide +kernel)
  have hst_X9_get := hts (.static yX9_get) (by decide +kernel)
  have hf_11 := hts (.fieldLink RX3 11 "CrookedSums$RowText" "row" "[I") (by decide +kernel)
  have hl := lv_entry ([.ref h, .ref p1, .int p2]) (n := 6) (Nat.le_of_ble_eq_true rfl)
  rw [lg_entry_eq]
  generalize (lg_sl ([.ref h, .ref p1, .int p2]) ++ List.replicate (6 - (lg_sl ([.ref h, .ref p1, .int p2])).length) Slot.unset).toArray = ls at hl ⊢
  have hl : lv_has ls 6 [(0, .ref h), (1, .ref p1), (2, .int p2)] := hl
  unfold mX3_waysOneByOne at h0
  refine va_gets hx hb hWs.1 va_S.rf hown hf_49 (fun _ h9 => h9) dX3_waysOneByOne_0 ?_
  refine lv_aload_n hx hb dX3_waysOneByOne_3 rfl (lv_at hl 0 rfl) ?_
  refine va_get (D := D) (ci := 2) (v := .int h_length) (C := RX3) (T := TX3) (N := 3) hx hb hts hi_X3 hown hK hP 0 rfl rfl 2 (by decide) hf_18 (fun _ h9 => h9) rfl dX3_waysOneByOne_4 ?_
  obtain ⟨z_1, hz, h0⟩ := bd_ok h0
  refine ro_SNW (As := [.ref wq, .int h_length]) (rest := []) (wc := []) hcf (kX9_get_T l D cI cC cT wq h_length z_1 hz) ⟨va_cnB (host := RX9) 2 hts gX3_waysOneByOne_X9_get_n52 rfl rfl rfl hE.2.2.2.1 hini_X9 (by decide +kernel) ⟨Nat.le_of_ble_eq_true rfl, Nat.le_of_ble_eq_true rfl⟩, hst_X9_get, trivial⟩ hE hWs (hP.sub [] rfl) rfl hl.1 rfl (Nat.le_of_ble_eq_true rfl) dX3_waysOneByOne_7 ⟨Nat.le_of_ble_eq_true rfl, Nat.le_of_ble_eq_true rfl⟩ ?_
  refine W.eq (g2 := F0 m 10 ls [.int z_1]) rfl ?_
  refine lv_istore_n (lv' := [(3, .int z_1), (0, .ref h), (1, .ref p1), (2, .int p2)]) hx hb dX3_waysOneByOne_10 rfl hl (by decide) rfl (fun ls hl => ?_)
  refine lv_iconst (v := 0) hx hb dX3_waysOneByOne_11 (by decide) ?_
  refine lv_istore (lv' := [(4, .int 0), (3, .int z_1), (0, .ref h), (1, .ref p1), (2, .int p2)]) hx hb dX3_waysOneByOne_12 hl (by decide) rfl (fun ls hl => ?_)
  refine lv_iconst (v := 0) hx hb dX3_waysOneByOne_14 (by decide) ?_
  refine lv_istore (lv' := [(5, .int 0), (4, .int 0), (3, .int z_1), (0, .ref h), (1, .ref p1), (2, .int p2)]) hx hb dX3_waysOneByOne_15 hl (by decide) rfl (fun ls hl => ?_)
  have E_17_51_3 : ∀ (x5_2 : Int32) (x4_3 : Int32) (ls : Array Slot), (some (x4_3)) = some z → lv_has ls 6 [(5, .int x5_2), (4, .int x4_3), (3, .int z_1), (0, .ref h), (1, .ref p1), (2, .int p2)] → W p l e (headSpec wsX3_waysOneByOne ({ frames := 9, cells := 0, slots := 0, locals := 350 } : Room)).room s m (([.ref h, .ref p1, .int p2] : List Value).toArray) below meth c s.heap [] 0 0 (MQ below (rQ (some (.int z))) (([.ref h, .ref p1, .int p2] : List Value).toArray) s 0 0 (fun _ => False)) (F0 m 51 ls []) := by
    intro x5_2 x4_3 ls h0 hl
    refine lv_iload hx hb dX3_waysOneByOne_51 (lv_at hl 1 rfl) ?_
    have e0 := Option.some.inj h0
    subst e0
    exact W.iret (v := x4_3) hx hb hr (fun t ht hW => ⟨rfl, ht⟩) (fun q hq => absurd hq List.not_mem_nil) dX3_waysOneByOne_53
  have L_17_7 : ∀ (F17 : Nat) (x5_5 : Int32) (x4_6 : Int32) (ls : Array Slot), mX3_waysOneByOne_L17 h_row_f h_length p1_cells_f p2 z_1 (fun (x5_2 : Int32) (x4_3 : Int32) => some (x4_3)) F17 x5_5 x4_6 = some z → lv_has ls 6 [(5, .int x5_5), (4, .int x4_6), (3, .int z_1), (0, .ref h), (1, .ref p1), (2, .int p2)] → W p l e (headSpec wsX3_waysOneByOne ({ frames := 9, cells := 0, slots := 0, locals := 350 } : Room)).room s m (([.ref h, .ref p1, .int p2] : List Value).toArray) below meth c s.heap [] 0 0 (MQ below (rQ (some (.int z))) (([.ref h, .ref p1, .int p2] : List Value).toArray) s 0 0 (fun _ => False)) (F0 m 17 ls []) := by
    intro F17
    induction F17 with
    | zero => intro x5_5 x4_6 ls h0 hl; cases h0
    | succ F17 ih17 =>
      intro x5_5 x4_6 ls h0 hl
      rw [mX3_waysOneByOne_L17] at h0
      refine lv_iload hx hb dX3_waysOneByOne_17 (lv_at hl 0 rfl) ?_
      refine lv_iload_n hx hb dX3_waysOneByOne_19 rfl (lv_at hl 2 rfl) ?_
      refine lv_icmp_ge (tgt := 51) hx hb dX3_waysOneByOne_20 (by decide) (fun c9 => ?_) (fun c9 => ?_)
      · have h0 := it_t c9 h0
        exact E_17_51_3 x5_5 x4_6 ls h0 hl
      · have h0 := it_f c9 h0
        refine lv_aload_n hx hb dX3_waysOneByOne_23 rfl (lv_at hl 3 rfl) ?_
        refine va_get (D := D) (ci := 2) (v := .ref h_row) (C := RX3) (T := TX3) (N := 3) hx hb hts hi_X3 hown hK hP 0 rfl rfl 0 (by decide) hf_11 (fun _ h9 => h9) rfl dX3_waysOneByOne_24 ?_
        refine lv_aload_n hx hb dX3_waysOneByOne_27 rfl (lv_at hl 4 rfl) ?_
        refine lv_iconst (v := 0) hx hb dX3_waysOneByOne_28 (by decide) ?_
        refine lv_aload_n hx hb dX3_waysOneByOne_29 rfl (lv_at hl 3 rfl) ?_
        refine va_get (D := D) (ci := 2) (v := .int h_length) (C := RX3) (T := TX3) (N := 3) hx hb hts hi_X3 hown hK hP 0 rfl rfl 2 (by decide) hf_18 (fun _ h9 => h9) rfl dX3_waysOneByOne_30 ?_
        refine lv_iload hx hb dX3_waysOneByOne_33 (lv_at hl 0 rfl) ?_
        obtain ⟨z_7, hz, h0⟩ := bd_ok h0
        refine ro_SW (As := [.ref h_row, .ref p1, .int 0, .int h_length, .int x5_5]) (rest := []) (wc := [(h_row, .inl (cI, 7, .inl h_row_f)), (p1, .inr (5, [.ref p1_cells, .int p1_size])), (p1_cells, .inl (cI, 64, .inl p1_cells_f))]) hcf (kX3_sumOfWay8 l D cI cC cT wq h_row p1 p1_cells 7 h_row_f p1_cells_f p1_size 0 h_length x5_5 z_7 hz) (va_cwS 5 hts gX3_waysOneByOne_X3_sumOfWay rfl rfl rfl (by decide +kernel) ⟨Nat.le_of_ble_eq_true rfl, Nat.le_of_ble_eq_true rfl⟩) hE hWs (hP.sub [1, 3, 4] rfl) rfl hl.1 rfl (Nat.le_of_ble_eq_true rfl) dX3_waysOneByOne_35 ⟨Nat.le_of_ble_eq_true rfl, Nat.le_of_ble_eq_true rfl⟩ ?_
        refine W.eq (g2 := F0 m 38 ls [.int z_7]) rfl ?_
        refine lv_iload_n hx hb dX3_waysOneByOne_38 rfl (lv_at hl 5 rfl) ?_
        refine lv_icmp_ne (tgt := 45) hx hb dX3_waysOneByOne_39 (by decide) (fun c9 => ?_) (fun c9 => ?_)
        · have h0 := it_f c9 h0
          refine lv_iinc (v := (x5_5 + 1)) (lv' := [(5, .int (x5_5 + 1)), (4, .int x4_6), (3, .int z_1), (0, .ref h), (1, .ref p1), (2, .int p2)]) hx hb dX3_waysOneByOne_45 hl (k := 0) rfl rfl (by decide) rfl (fun ls hl => ?_)
          refine lv_goto (tgt := 17) hx hb dX3_waysOneByOne_48 (by decide) ?_
          exact ih17 (x5_5 + 1) x4_6 ls h0 hl
        · have h0 := it_t c9 h0
          refine lv_iinc (v := (x4_6 + 1)) (lv' := [(4, .int (x4_6 + 1)), (5, .int x5_5), (3, .int z_1), (0, .ref h), (1, .ref p1), (2, .int p2)]) hx hb dX3_waysOneByOne_42 hl (k := 1) rfl rfl (by decide) rfl (fun ls hl => ?_)
          refine lv_iinc (v := (x5_5 + 1)) (lv' := [(5, .int (x5_5 + 1)), (4, .int (x4_6 + 1)), (3, .int z_1), (0, .ref h), (1, .ref p1), (2, .int p2)]) hx hb dX3_waysOneByOne_45 hl (k := 1) rfl rfl (by decide) rfl (fun ls hl => ?_)
          refine lv_goto (tgt := 17) hx hb dX3_waysOneByOne_48 (by decide) ?_
          exact ih17 (x5_5 + 1) (x4_6 + 1) ls h0 hl
  exact L_17_7 FU 0 0 ls h0 hl
noncomputable def mX9_ways (h_table_cells_f : Nat → Int32) (h_table_size : Int32) (h_pad_signs_f : Nat → Int32) (h_pad_length : Int32) (h_rowText_row_f : Nat → Int32) (h_rowText_parts_f : Nat → Int32) (h_rowText_length : Int32) (p1 : Int32) (p2 : Int32) : Option (Int32 × (Nat → Int32) × (Nat → Int32) × Int32) :=
  bd (mX6_has h_table_size p1) (fun z_1 => if z_1 = 0 then (some ((-1), h_rowText_row_f, h_rowText_parts_f, h_rowText_length)) else (bd (mX9_isWithin p2 0 1) (fun z_2 => if z_2 = 0 then (some ((-1), h_rowText_row_f, h_rowText_parts_f, h_rowText_length)) else (bd (mX3_readFrom h_rowText_row_f h_pad_signs_f h_pad_length h_table_size) (fun z_3 => if z_3.1 = (-4) then (if p2 = 0 then (bd (mX3_waysByParts z_3.2.1 h_rowText_parts_f z_3.2.2 h_table_cells_f h_table_size p1) (fun z_5 => some (z_5.1, z_3.2.1, z_5.2, z_3.2.2))) else (bd (mX3_waysOneByOne z_3.2.1 z_3.2.2 h_table_cells_f p1) (fun z_4 => some (z_4, z_3.2.1, h_rowText_parts_f, z_3.2.2)))) else (some ((-2), z_3.2.1, h_rowText_parts_f, z_3.2.2)))))))
set_option maxHeartbeats 8000000 in
set_option maxRecDepth 100000 in
theorem kX9_ways (l : Launch) (D : va_G) (cI cC cT : ClassId) (wq : Nat) (h h_table h_table_cells h_saved h_saved_cells h_trial h_trial_cells h_history h_history_kept h_history_k0 h_history_k0_cells h_history_k1 h_history_k1_cells h_history_k2 h_history_k2_cells h_history_k3 h_history_k3_cells h_pad h_pad_signs h_sumText h_sumText_soFar h_sumText_waitingPlus h_sumText_lefts h_sumText_rights h_sumText_totals h_sumText_places h_rowText h_rowText_row h_rowText_parts h_squares h_squares_swapped h_squares_swapped_cells : Nat) (h_table_cells_f : Nat → Int32) (h_table_size : Int32) (h_saved_cells_f : Nat → Int32) (h_saved_size : Int32) (h_trial_cells_f : Nat → Int32) (h_trial_size : Int32) (h_history_k0_cells_f : Nat → Int32) (h_history_k0_size : Int32) (h_history_k1_cells_f : Nat → Int32) (h_history_k1_size : Int32) (h_history_k2_cells_f : Nat → Int32) (h_history_k2_size : Int32) (h_history_k3_cells_f : Nat → Int32) (h_history_k3_size : Int32) (h_history_states : Int32) (h_pad_signs_f : Nat → Int32) (h_pad_length : Int32) (h_sumText_soFar_f : Nat → Int32) (h_sumText_waitingPlus_f : Nat → Int32) (h_sumText_lefts_f : Nat → Int32) (h_sumText_rights_f : Nat → Int32) (h_sumText_totals_f : Nat → Int32) (h_sumText_places_f : Nat → Int32) (h_sumText_depth : Int32) (h_sumText_steps : Int32) (h_sumText_wantsThing : Int32) (h_rowText_row_f : Nat → Int32) (h_rowText_parts_f : Nat → Int32) (h_rowText_length : Int32) (h_squares_swapped_cells_f : Nat → Int32) (h_squares_swapped_size : Int32) (h_squares_lesserRow : Int32) (h_squares_greaterRow : Int32) (h_squares_lesserColumn : Int32) (h_squares_greaterColumn : Int32) (h_squares_mostTriples : Int32) (h_hasSaved : Int32) (p1 : Int32) (p2 : Int32) (sz : Nat) (z : Int32 × (Nat → Int32) × (Nat → Int32) × Int32) (h0 : mX9_ways h_table_cells_f h_table_size h_pad_signs_f h_pad_length h_rowText_row_f h_rowText_parts_f h_rowText_length p1 p2 = some z) : Met l yX9_ways wsX9_ways ({ frames := 10, cells := 0, slots := 0, locals := 375 } : Room) (va_Pc [.ref h, .int p1, .int p2] (wW D cI cC cT [(h, .inr (6, [.ref h_table, .ref h_saved, .ref h_trial, .ref h_history, .ref h_pad, .ref h_sumText, .ref h_rowText, .ref h_squares, .int h_hasSaved])), (h_table, .inr (5, [.ref h_table_cells, .int h_table_size])), (h_table_cells, .inl (cI, 64, .inl h_table_cells_f)), (h_saved, .inr (5, [.ref h_saved_cells, .int h_saved_size])), (h_saved_cells, .inl (cI, 64, .inl h_saved_cells_f)), (h_trial, .inr (5, [.ref h_trial_cells, .int h_trial_size])), (h_trial_cells, .inl (cI, 64, .inl h_trial_cells_f)), (h_history, .inr (0, [.ref h_history_kept, .int h_history_states])), (h_history_kept, .inl (cT, 4, .inr (.inr (.inr (.inr (kf [h_history_k0, h_history_k1, h_history_k2, h_history_k3])))))), (h_history_k0, .inr (5, [.ref h_history_k0_cells, .int h_history_k0_size])), (h_history_k0_cells, .inl (cI, 64, .inl h_history_k0_cells_f)), (h_history_k1, .inr (5, [.ref h_history_k1_cells, .int h_history_k1_size])), (h_history_k1_cells, .inl (cI, 64, .inl h_history_k1_cells_f)), (h_history_k2, .inr (5, [.ref h_history_k2_cells, .int h_history_k2_size])), (h_history_k2_cells, .inl (cI, 64, .inl h_history_k2_cells_f)), (h_history_k3, .inr (5, [.ref h_history_k3_cells, .int h_history_k3_size])), (h_history_k3_cells, .inl (cI, 64, .inl h_history_k3_cells_f)), (h_pad, .inr (1, [.ref h_pad_signs, .int h_pad_length])), (h_pad_signs, .inl (cC, 80, .inl h_pad_signs_f)), (h_sumText, .inr (4, [.ref h_sumText_soFar, .ref h_sumText_waitingPlus, .ref h_sumText_lefts, .ref h_sumText_rights, .ref h_sumText_totals, .ref h_sumText_places, .int h_sumText_depth, .int h_sumText_steps, .int h_sumText_wantsThing])), (h_sumText_soFar, .inl (cI, 81, .inl h_sumText_soFar_f)), (h_sumText_waitingPlus, .inl (cI, 81, .inl h_sumText_waitingPlus_f)), (h_sumText_lefts, .inl (cI, 80, .inl h_sumText_lefts_f)), (h_sumText_rights, .inl (cI, 80, .inl h_sumText_rights_f)), (h_sumText_totals, .inl (cI, 80, .inl h_sumText_totals_f)), (h_sumText_places, .inl (cI, 80, .inl h_sumText_places_f)), (h_rowText, .inr (2, [.ref h_rowText_row, .ref h_rowText_parts, .int h_rowText_length])), (h_rowText_row, .inl (cI, 7, .inl h_rowText_row_f)), (h_rowText_parts, .inl (cI, 448, .inl h_rowText_parts_f)), (h_squares, .inr (3, [.ref h_squares_swapped, .int h_squares_lesserRow, .int h_squares_greaterRow, .int h_squares_lesserColumn, .int h_squares_greaterColumn, .int h_squares_mostTriples])), (h_squares_swapped, .inr (5, [.ref h_squares_swapped_cells, .int h_squares_swapped_size])), (h_squares_swapped_cells, .inl (cI, 64, .inl h_squares_swapped_cells_f))] sz wq)) (wQ D (some (.int z.1)) (va_A [(h, .inr (6, [.ref h_table, .ref h_saved, .ref h_trial, .ref h_history, .ref h_pad, .ref h_sumText, .ref h_rowText, .ref h_squares, .int h_hasSaved])), (h_table, .inr (5, [.ref h_table_cells, .int h_table_size])), (h_table_cells, .inl (cI, 64, .inl h_table_cells_f)), (h_saved, .inr (5, [.ref h_saved_cells, .int h_saved_size])), (h_saved_cells, .inl (cI, 64, .inl h_saved_cells_f)), (h_trial, .inr (5, [.ref h_trial_cells, .int h_trial_size])), (h_trial_cells, .inl (cI, 64, .inl h_trial_cells_f)), (h_history, .inr (0, [.ref h_history_kept, .int h_history_states])), (h_history_kept, .inl (cT, 4, .inr (.inr (.inr (.inr (kf [h_history_k0, h_history_k1, h_history_k2, h_history_k3])))))), (h_history_k0, .inr (5, [.ref h_history_k0_cells, .int h_history_k0_size])), (h_history_k0_cells, .inl (cI, 64, .inl h_history_k0_cells_f)), (h_history_k1, .inr (5, [.ref h_history_k1_cells, .int h_history_k1_size])), (h_history_k1_cells, .inl (cI, 64, .inl h_history_k1_cells_f)), (h_history_k2, .inr (5, [.ref h_history_k2_cells, .int h_history_k2_size])), (h_history_k2_cells, .inl (cI, 64, .inl h_history_k2_cells_f)), (h_history_k3, .inr (5, [.ref h_history_k3_cells, .int h_history_k3_size])), (h_history_k3_cells, .inl (cI, 64, .inl h_history_k3_cells_f)), (h_pad, .inr (1, [.ref h_pad_signs, .int h_pad_length])), (h_pad_signs, .inl (cC, 80, .inl h_pad_signs_f)), (h_sumText, .inr (4, [.ref h_sumText_soFar, .ref h_sumText_waitingPlus, .ref h_sumText_lefts, .ref h_sumText_rights, .ref h_sumText_totals, .ref h_sumText_places, .int h_sumText_depth, .int h_sumText_steps, .int h_sumText_wantsThing])), (h_sumText_soFar, .inl (cI, 81, .inl h_sumText_soFar_f)), (h_sumText_waitingPlus, .inl (cI, 81, .inl h_sumText_waitingPlus_f)), (h_sumText_lefts, .inl (cI, 80, .inl h_sumText_lefts_f)), (h_sumText_rights, .inl (cI, 80, .inl h_sumText_rights_f)), (h_sumText_totals, .inl (cI, 80, .inl h_sumText_totals_f)), (h_sumText_places, .inl (cI, 80, .inl h_sumText_places_f)), (h_rowText, .inr (2, [.ref h_rowText_row, .ref h_rowText_parts, .int h_rowText_length])), (h_rowText_row, .inl (cI, 7, .inl h_rowText_row_f)), (h_rowText_parts, .inl (cI, 448, .inl h_rowText_parts_f)), (h_squares, .inr (3, [.ref h_squares_swapped, .int h_squares_lesserRow, .int h_squares_greaterRow, .int h_squares_lesserColumn, .int h_squares_greaterColumn, .int h_squares_mostTriples])), (h_squares_swapped, .inr (5, [.ref h_squares_swapped_cells, .int h_squares_swapped_size])), (h_squares_swapped_cells, .inl (cI, 64, .inl h_squares_swapped_cells_f))] sz) (fun (u : Unit) => [(h, .inr (6, [.ref h_table, .ref h_saved, .ref h_trial, .ref h_history, .ref h_pad, .ref h_sumText, .ref h_rowText, .ref h_squares, .int h_hasSaved])), (h_table, .inr (5, [.ref h_table_cells, .int h_table_size])), (h_table_cells, .inl (cI, 64, .inl h_table_cells_f)), (h_saved, .inr (5, [.ref h_saved_cells, .int h_saved_size])), (h_saved_cells, .inl (cI, 64, .inl h_saved_cells_f)), (h_trial, .inr (5, [.ref h_trial_cells, .int h_trial_size])), (h_trial_cells, .inl (cI, 64, .inl h_trial_cells_f)), (h_history, .inr (0, [.ref h_history_kept, .int h_history_states])), (h_history_kept, .inl (cT, 4, .inr (.inr (.inr (.inr (kf [h_history_k0, h_history_k1, h_history_k2, h_history_k3])))))), (h_history_k0, .inr (5, [.ref h_history_k0_cells, .int h_history_k0_size])), (h_history_k0_cells, .inl (cI, 64, .inl h_history_k0_cells_f)), (h_history_k1, .inr (5, [.ref h_history_k1_cells, .int h_history_k1_size])), (h_history_k1_cells, .inl (cI, 64, .inl h_history_k1_cells_f)), (h_history_k2, .inr (5, [.ref h_history_k2_cells, .int h_history_k2_size])), (h_history_k2_cells, .inl (cI, 64, .inl h_history_k2_cells_f)), (h_history_k3, .inr (5, [.ref h_history_k3_cells, .int h_history_k3_size])), (h_history_k3_cells, .inl (cI, 64, .inl h_history_k3_cells_f)), (h_pad, .inr (1, [.ref h_pad_signs, .int h_pad_length])), (h_pad_signs, .inl (cC, 80, .inl h_pad_signs_f)), (h_sumText, .inr (4, [.ref h_sumText_soFar, .ref h_sumText_waitingPlus, .ref h_sumText_lefts, .ref h_sumText_rights, .ref h_sumText_totals, .ref h_sumText_places, .int h_sumText_depth, .int h_sumText_steps, .int h_sumText_wantsThing])), (h_sumText_soFar, .inl (cI, 81, .inl h_sumText_soFar_f)), (h_sumText_waitingPlus, .inl (cI, 81, .inl h_sumText_waitingPlus_f)), (h_sumText_lefts, .inl (cI, 80, .inl h_sumText_lefts_f)), (h_sumText_rights, .inl (cI, 80, .inl h_sumText_rights_f)), (h_sumText_totals, .inl (cI, 80, .inl h_sumText_totals_f)), (h_sumText_places, .inl (cI, 80, .inl h_sumText_places_f)), (h_rowText, .inr (2, [.ref h_rowText_row, .ref h_rowText_parts, .int z.2.2.2])), (h_rowText_row, .inl (cI, 7, .inl z.2.1)), (h_rowText_parts, .inl (cI, 448, .inl z.2.2.1)), (h_squares, .inr (3, [.ref h_squares_swapped, .int h_squares_lesserRow, .int h_squares_greaterRow, .int h_squares_lesserColumn, .int h_squares_greaterColumn, .int h_squares_mostTriples])), (h_squares_swapped, .inr (5, [.ref h_squares_swapped_cells, .int h_squares_swapped_size])), (h_squares_swapped_cells, .inl (cI, 64, .inl h_squares_swapped_cells_f))])) 0 0 (va_A [(h, .inr (6, [.ref h_table, .ref h_saved, .ref h_trial, .ref h_history, .ref h_pad, .ref h_sumText, .ref h_rowText, .ref h_squares, .int h_hasSaved])), (h_table, .inr (5, [.ref h_table_cells, .int h_table_size])), (h_table_cells, .inl (cI, 64, .inl h_table_cells_f)), (h_saved, .inr (5, [.ref h_saved_cells, .int h_saved_size])), (h_saved_cells, .inl (cI, 64, .inl h_saved_cells_f)), (h_trial, .inr (5, [.ref h_trial_cells, .int h_trial_size])), (h_trial_cells, .inl (cI, 64, .inl h_trial_cells_f)), (h_history, .inr (0, [.ref h_history_kept, .int h_history_states])), (h_history_kept, .inl (cT, 4, .inr (.inr (.inr (.inr (kf [h_history_k0, h_history_k1, h_history_k2, h_history_k3])))))), (h_history_k0, .inr (5, [.ref h_history_k0_cells, .int h_history_k0_size])), (h_history_k0_cells, .inl (cI, 64, .inl h_history_k0_cells_f)), (h_history_k1, .inr (5, [.ref h_history_k1_cells, .int h_history_k1_size])), (h_history_k1_cells, .inl (cI, 64, .inl h_history_k1_cells_f)), (h_history_k2, .inr (5, [.ref h_history_k2_cells, .int h_history_k2_size])), (h_history_k2_cells, .inl (cI, 64, .inl h_history_k2_cells_f)), (h_history_k3, .inr (5, [.ref h_history_k3_cells, .int h_history_k3_size])), (h_history_k3_cells, .inl (cI, 64, .inl h_history_k3_cells_f)), (h_pad, .inr (1, [.ref h_pad_signs, .int h_pad_length])), (h_pad_signs, .inl (cC, 80, .inl h_pad_signs_f)), (h_sumText, .inr (4, [.ref h_sumText_soFar, .ref h_sumText_waitingPlus, .ref h_sumText_lefts, .ref h_sumText_rights, .ref h_sumText_totals, .ref h_sumText_places, .int h_sumText_depth, .int h_sumText_steps, .int h_sumText_wantsThing])), (h_sumText_soFar, .inl (cI, 81, .inl h_sumText_soFar_f)), (h_sumText_waitingPlus, .inl (cI, 81, .inl h_sumText_waitingPlus_f)), (h_sumText_lefts, .inl (cI, 80, .inl h_sumText_lefts_f)), (h_sumText_rights, .inl (cI, 80, .inl h_sumText_rights_f)), (h_sumText_totals, .inl (cI, 80, .inl h_sumText_totals_f)), (h_sumText_places, .inl (cI, 80, .inl h_sumText_places_f)), (h_rowText, .inr (2, [.ref h_rowText_row, .ref h_rowText_parts, .int h_rowText_length])), (h_rowText_row, .inl (cI, 7, .inl h_rowText_row_f)), (h_rowText_parts, .inl (cI, 448, .inl h_rowText_parts_f)), (h_squares, .inr (3, [.ref h_squares_swapped, .int h_squares_lesserRow, .int h_squares_greaterRow, .int h_squares_lesserColumn, .int h_squares_greaterColumn, .int h_squares_mostTriples])), (h_squares_swapped, .inr (5, [.ref h_squares_swapped_cells, .int h_squares_swapped_size])), (h_squares_swapped_cells, .inl (cI, 64, .inl h_squares_swapped_cells_f))] sz) := by
  refine Met.ofW (cc := cX9_ways) (maxL := 3) (ret := (some .int)) (by decide) rfl ?_
  intro p e s m args below meth c s₁ B hml hv
  obtain ⟨rfl, ⟨hsz, hP, hE, hD0⟩, hWs⟩ := hv
  have hx := B.exec
  have hb := B.bytes
  have hr := B.returns
  have hts := atoms_spec (ws := wsX9_ways) B.pre
  have hown : s.vm.findClass RX9 = some m.cls := findClass_of_methodNamed B.named
  have hlocks := B.notSynchronized
  have hK := hE.1
  have hcf : CallFix p m c cX9_ways 3 s ([.ref h, .int p1, .int p2] : List Value).toArray wsX9_ways RX9 := ⟨hx, hb, hml, hown, hts⟩
  subst hsz
  have hD := hD0.self (sz := s.heap.size)
  generalize hAe : va_A [(h, .inr (6, [.ref h_table, .ref h_saved, .ref h_trial, .ref h_history, .ref h_pad, .ref h_sumText, .ref h_rowText, .ref h_squares, .int h_hasSaved])), (h_table, .inr (5, [.ref h_table_cells, .int h_table_size])), (h_table_cells, .inl (cI, 64, .inl h_table_cells_f)), (h_saved, .inr (5, [.ref h_saved_cells, .int h_saved_size])), (h_saved_cells, .inl (cI, 64, .inl h_saved_cells_f)), (h_trial, .inr (5, [.ref h_trial_cells, .int h_trial_size])), (h_trial_cells, .inl (cI, 64, .inl h_trial_cells_f)), (h_history, .inr (0, [.ref h_history_kept, .int h_history_states])), (h_history_kept, .inl (cT, 4, .inr (.inr (.inr (.inr (kf [h_history_k0, h_history_k1, h_history_k2, h_history_k3])))))), (h_history_k0, .inr (5, [.ref h_history_k0_cells, .int h_history_k0_size])), (h_history_k0_cells, .inl (cI, 64, .inl h_history_k0_cells_f)), (h_history_k1, .inr (5, [.ref h_history_k1_cells, .int h_history_k1_size])), (h_history_k1_cells, .inl (cI, 64, .inl h_history_k1_cells_f)), (h_history_k2, .inr (5, [.ref h_history_k2_cells, .int h_history_k2_size])), (h_history_k2_cells, .inl (cI, 64, .inl h_history_k2_cells_f)), (h_history_k3, .inr (5, [.ref h_history_k3_cells, .int h_history_k3_size])), (h_history_k3_cells, .inl (cI, 64, .inl h_history_k3_cells_f)), (h_pad, .inr (1, [.ref h_pad_signs, .int h_pad_length])), (h_pad_signs, .inl (cC, 80, .inl h_pad_signs_f)), (h_sumText, .inr (4, [.ref h_sumText_soFar, .ref h_sumText_waitingPlus, .ref h_sumText_lefts, .ref h_sumText_rights, .ref h_sumText_totals, .ref h_sumText_places, .int h_sumText_depth, .int h_sumText_steps, .int h_sumText_wantsThing])), (h_sumText_soFar, .inl (cI, 81, .inl h_sumText_soFar_f)), (h_sumText_waitingPlus, .inl (cI, 81, .inl h_sumText_waitingPlus_f)), (h_sumText_lefts, .inl (cI, 80, .inl h_sumText_lefts_f)), (h_sumText_rights, .inl (cI, 80, .inl h_sumText_rights_f)), (h_sumText_totals, .inl (cI, 80, .inl h_sumText_totals_f)), (h_sumText_places, .inl (cI, 80, .inl h_sumText_places_f)), (h_rowText, .inr (2, [.ref h_rowText_row, .ref h_rowText_parts, .int h_rowText_length])), (h_rowText_row, .inl (cI, 7, .inl h_rowText_row_f)), (h_rowText_parts, .inl (cI, 448, .inl h_rowText_parts_f)), (h_squares, .inr (3, [.ref h_squares_swapped, .int h_squares_lesserRow, .int h_squares_greaterRow, .int h_squares_lesserColumn, .int h_squares_greaterColumn, .int h_squares_mostTriples])), (h_squares_swapped, .inr (5, [.ref h_squares_swapped_cells, .int h_squares_swapped_size])), (h_squares_swapped_cells, .inl (cI, 64, .inl h_squares_swapped_cells_f))] s.heap.size = A at hD hWs ⊢
  have hA : ∀ q : Nat, s.heap.size ≤ q → A q := fun q h => by rw [← hAe]; exact Or.inr h
  have hS : va_S A s.heap s.heap [] := va_S.rf
  have hP : va_P D vwCl [(h, .inr (6, [.ref h_table, .ref h_saved, .ref h_trial, .ref h_history, .ref h_pad, .ref h_sumText, .ref h_rowText, .ref h_squares, .int h_hasSaved])), (h_table, .inr (5, [.ref h_table_cells, .int h_table_size])), (h_table_cells, .inl (cI, 64, .inl h_table_cells_f)), (h_saved, .inr (5, [.ref h_saved_cells, .int h_saved_size])), (h_saved_cells, .inl (cI, 64, .inl h_saved_cells_f)), (h_trial, .inr (5, [.ref h_trial_cells, .int h_trial_size])), (h_trial_cells, .inl (cI, 64, .inl h_trial_cells_f)), (h_history, .inr (0, [.ref h_history_kept, .int h_history_states])), (h_history_kept, .inl (cT, 4, .inr (.inr (.inr (.inr (kf [h_history_k0, h_history_k1, h_history_k2, h_history_k3])))))), (h_history_k0, .inr (5, [.ref h_history_k0_cells, .int h_history_k0_size])), (h_history_k0_cells, .inl (cI, 64, .inl h_history_k0_cells_f)), (h_history_k1, .inr (5, [.ref h_history_k1_cells, .int h_history_k1_size])), (h_history_k1_cells, .inl (cI, 64, .inl h_history_k1_cells_f)), (h_history_k2, .inr (5, [.ref h_history_k2_cells, .int h_history_k2_size])), (h_history_k2_cells, .inl (cI, 64, .inl h_history_k2_cells_f)), (h_history_k3, .inr (5, [.ref h_history_k3_cells, .int h_history_k3_size])), (h_history_k3_cells, .inl (cI, 64, .inl h_history_k3_cells_f)), (h_pad, .inr (1, [.ref h_pad_signs, .int h_pad_length])), (h_pad_signs, .inl (cC, 80, .inl h_pad_signs_f)), (h_sumText, .inr (4, [.ref h_sumText_soFar, .ref h_sumText_waitingPlus, .ref h_sumText_lefts, .ref h_sumText_rights, .ref h_sumText_totals, .ref h_sumText_places, .int h_sumText_depth, .int h_sumText_steps, .int h_sumText_wantsThing])), (h_sumText_soFar, .inl (cI, 81, .inl h_sumText_soFar_f)), (h_sumText_waitingPlus, .inl (cI, 81, .inl h_sumText_waitingPlus_f)), (h_sumText_lefts, .inl (cI, 80, .inl h_sumText_lefts_f)), (h_sumText_rights, .inl (cI, 80, .inl h_sumText_rights_f)), (h_sumText_totals, .inl (cI, 80, .inl h_sumText_totals_f)), (h_sumText_places, .inl (cI, 80, .inl h_sumText_places_f)), (h_rowText, .inr (2, [.ref h_rowText_row, .ref h_rowText_parts, .int h_rowText_length])), (h_rowText_row, .inl (cI, 7, .inl h_rowText_row_f)), (h_rowText_parts, .inl (cI, 448, .inl h_rowText_parts_f)), (h_squares, .inr (3, [.ref h_squares_swapped, .int h_squares_lesserRow, .int h_squares_greaterRow, .int h_squares_lesserColumn, .int h_squares_greaterColumn, .int h_squares_mostTriples])), (h_squares_swapped, .inr (5, [.ref h_squares_swapped_cells, .int h_squares_swapped_size])), (h_squares_swapped_cells, .inl (cI, 64, .inl h_squares_swapped_cells_f))] s.heap := hP
  have hf_10 := hts (.fieldLink RX9 10 "CrookedSums" "table" "LCrookedSums$Table;") (by decide +kernel)
  have hi_X9 := (show ∀ w ∈ u_ws RX9 TX9 9, w ∈ wsX9_ways from by decide +kernel)
  have hf_46 := hts (.fieldLink RX9 46 "CrookedSums" "rowText" "LCrookedSums$RowText;") (by decide +kernel)
  have hf_32 := hts (.fieldLink RX9 32 "CrookedSums" "pad" "LCrookedSums$Pad;") (by decide +kernel)
  have hl := lv_entry ([.ref h, .int p1, .int p2]) (n := 3) (Nat.le_of_ble_eq_true rfl)
  rw [lg_entry_eq]
  generalize (lg_sl ([.ref h, .int p1, .int p2]) ++ List.replicate (3 - (lg_sl ([.ref h, .int p1, .int p2])).length) Slot.unset).toArray = ls at hl ⊢
  have hl : lv_has ls 3 [(0, .ref h), (1, .int p1), (2, .int p2)] := hl
  unfold mX9_ways at h0
  refine lv_aload_n hx hb dX9_ways_0 rfl (lv_at hl 0 rfl) ?_
  refine va_get (D := D) (ci := 6) (v := .ref h_table) (C := RX9) (T := TX9) (N := 9) hx hb hts hi_X9 hown hK hP 0 rfl rfl 0 (by decide) hf_10 (fun _ h9 => h9) rfl dX9_ways_1 ?_
  refine lv_iload_n hx hb dX9_ways_4 rfl (lv_at hl 1 rfl) ?_
  obtain ⟨z_1, hz, h0⟩ := bd_ok h0
  refine ro_V (As := [.int p1]) (rest := []) (wc := [(h_table, .inr (5, [.ref h_table_cells, .int h_table_size])), (h_table_cells, .inl (cI, 64, .inl h_table_cells_f))]) hcf (kX6_has l D cI cC cT h_table h_table_cells h_table_cells_f h_table_size p1 z_1 hz) (cwV 1 hts gX9_ways_X6_has rfl rfl rfl (by decide +kernel) ⟨Nat.le_of_ble_eq_true rfl, Nat.le_of_ble_eq_true rfl⟩) hE (hP.sub [1, 2] rfl) (va_recv hK hP (ci := 5) (q0 := 1) rfl rfl) rfl hl.1 rfl (Nat.le_of_ble_eq_true rfl) dX9_ways_5 ⟨Nat.le_of_ble_eq_true rfl, Nat.le_of_ble_eq_true rfl⟩ ?_
  refine W.eq (g2 := F0 m 8 ls [.int z_1]) rfl ?_
  refine lv_if_eq (tgt := 20) hx hb dX9_ways_8 (by decide) (fun c9 => ?_) (fun c9 => ?_)
  · have h0 := it_t c9 h0
    refine lv_iconst (v := (-1)) hx hb dX9_ways_20 (by decide) ?_
    have e0 := Option.some.inj h0
    subst e0
    exact W.iret (v := (-1)) hx hb hr (fun t ht hW => wr_end () ht hP hD hS) hS.2.2 dX9_ways_21
  · have h0 := it_f c9 h0
    refine lv_iload_n hx hb dX9_ways_11 rfl (lv_at hl 2 rfl) ?_
    refine lv_iconst (v := 0) hx hb dX9_ways_12 (by decide) ?_
    refine lv_iconst (v := 1) hx hb dX9_ways_13 (by decide) ?_
    obtain ⟨z_2, hz, h0⟩ := bd_ok h0
    refine ro_S (As := [.int p2, .int 0, .int 1]) (rest := []) (wc := []) hcf (kX9_isWithin l D cI cC cT p2 0 1 z_2 hz) (va_cwS 3 hts gX9_ways_X9_isWithin rfl rfl rfl (by decide +kernel) ⟨Nat.le_of_ble_eq_true rfl, Nat.le_of_ble_eq_true rfl⟩) hE (hP.sub [] rfl) rfl hl.1 rfl (Nat.le_of_ble_eq_true rfl) dX9_ways_14 ⟨Nat.le_of_ble_eq_true rfl, Nat.le_of_ble_eq_true rfl⟩ ?_
    refine W.eq (g2 := F0 m 17 ls [.int z_2]) rfl ?_
    refine lv_if_ne (tgt := 22) hx hb dX9_ways_17 (by decide) (fun c9 => ?_) (fun c9 => ?_)
    · have h0 := it_f c9 h0
      refine lv_aload_n hx hb dX9_ways_22 rfl (lv_at hl 0 rfl) ?_
      refine va_get (D := D) (ci := 6) (v := .ref h_rowText) (C := RX9) (T := TX9) (N := 9) hx hb hts hi_X9 hown hK hP 0 rfl rfl 6 (by decide) hf_46 (fun _ h9 => h9) rfl dX9_ways_23 ?_
      refine lv_aload_n hx hb dX9_ways_26 rfl (lv_at hl 0 rfl) ?_
      refine va_get (D := D) (ci := 6) (v := .ref h_pad) (C := RX9) (T := TX9) (N := 9) hx hb hts hi_X9 hown hK hP 0 rfl rfl 4 (by decide) hf_32 (fun _ h9 => h9) rfl dX9_ways_27 ?_
      refine lv_aload_n hx hb dX9_ways_30 rfl (lv_at hl 0 rfl) ?_
      refine va_get (D := D) (ci := 6) (v := .ref h_table) (C := RX9) (T := TX9) (N := 9) hx hb hts hi_X9 hown hK hP 0 rfl rfl 0 (by decide) hf_10 (fun _ h9 => h9) rfl dX9_ways_31 ?_
      obtain ⟨z_3, hz, h0⟩ := bd_ok h0
      refine wr_V (As := [.ref h_pad, .ref h_table]) (rest := []) (wc := [(h_rowText, .inr (2, [.ref h_rowText_row, .ref h_rowText_parts, .int h_rowText_length])), (h_rowText_row, .inl (cI, 7, .inl h_rowText_row_f)), (h_rowText_parts, .inl (cI, 448, .inl h_rowText_parts_f)), (h_pad, .inr (1, [.ref h_pad_signs, .int h_pad_length])), (h_pad_signs, .inl (cC, 80, .inl h_pad_signs_f)), (h_table, .inr (5, [.ref h_table_cells, .int h_table_size])), (h_table_cells, .inl (cI, 64, .inl h_table_cells_f))]) (wr := [(h, .inr (6, [.ref h_table, .ref h_saved, .ref h_trial, .ref h_history, .ref h_pad, .ref h_sumText, .ref h_rowText, .ref h_squares, .int h_hasSaved])), (h_saved, .inr (5, [.ref h_saved_cells, .int h_saved_size])), (h_saved_cells, .inl (cI, 64, .inl h_saved_cells_f)), (h_trial, .inr (5, [.ref h_trial_cells, .int h_trial_size])), (h_trial_cells, .inl (cI, 64, .inl h_trial_cells_f)), (h_history, .inr (0, [.ref h_history_kept, .int h_history_states])), (h_history_kept, .inl (cT, 4, .inr (.inr (.inr (.inr (kf [h_history_k0, h_history_k1, h_history_k2, h_history_k3])))))), (h_history_k0, .inr (5, [.ref h_history_k0_cells, .int h_history_k0_size])), (h_history_k0_cells, .inl (cI, 64, .inl h_history_k0_cells_f)), (h_history_k1, .inr (5, [.ref h_history_k1_cells, .int h_history_k1_size])), (h_history_k1_cells, .inl (cI, 64, .inl h_history_k1_cells_f)), (h_history_k2, .inr (5, [.ref h_history_k2_cells, .int h_history_k2_size])), (h_history_k2_cells, .inl (cI, 64, .inl h_history_k2_cells_f)), (h_history_k3, .inr (5, [.ref h_history_k3_cells, .int h_history_k3_size])), (h_history_k3_cells, .inl (cI, 64, .inl h_history_k3_cells_f)), (h_sumText, .inr (4, [.ref h_sumText_soFar, .ref h_sumText_waitingPlus, .ref h_sumText_lefts, .ref h_sumText_rights, .ref h_sumText_totals, .ref h_sumText_places, .int h_sumText_depth, .int h_sumText_steps, .int h_sumText_wantsThing])), (h_sumText_soFar, .inl (cI, 81, .inl h_sumText_soFar_f)), (h_sumText_waitingPlus, .inl (cI, 81, .inl h_sumText_waitingPlus_f)), (h_sumText_lefts, .inl (cI, 80, .inl h_sumText_lefts_f)), (h_sumText_rights, .inl (cI, 80, .inl h_sumText_rights_f)), (h_sumText_totals, .inl (cI, 80, .inl h_sumText_totals_f)), (h_sumText_places, .inl (cI, 80, .inl h_sumText_places_f)), (h_squares, .inr (3, [.ref h_squares_swapped, .int h_squares_lesserRow, .int h_squares_greaterRow, .int h_squares_lesserColumn, .int h_squares_greaterColumn, .int h_squares_mostTriples])), (h_squares_swapped, .inr (5, [.ref h_squares_swapped_cells, .int h_squares_swapped_size])), (h_squares_swapped_cells, .inl (cI, 64, .inl h_squares_swapped_cells_f))]) hcf (kX3_readFrom l D cI cC cT h_rowText h_rowText_row h_rowText_parts h_pad h_pad_signs h_table h_table_cells h_rowText_row_f h_rowText_parts_f h_rowText_length h_pad_signs_f h_pad_length h_table_cells_f h_table_size _ z_3 hz) (cwV 2 hts gX9_ways_X3_readFrom rfl rfl rfl (by decide +kernel) ⟨Nat.le_of_ble_eq_true rfl, Nat.le_of_ble_eq_true rfl⟩) hE hP hD hS hA [26, 27, 28, 17, 18, 1, 2] [0, 3, 4, 5, 6, 7, 8, 9, 10, 11, 12, 13, 14, 15, 16, 19, 20, 21, 22, 23, 24, 25, 29, 30, 31] (hP.sub [26, 27, 28, 17, 18, 1, 2] rfl) (hD.sub [26, 27, 28, 17, 18, 1, 2] (by decide) rfl) (va_recv hK hP (ci := 2) (q0 := 26) rfl rfl) rfl rfl (by decide) (by decide) rfl hl.1 rfl (Nat.le_of_ble_eq_true rfl) dX9_ways_34 ⟨Nat.le_of_ble_eq_true rfl, Nat.le_of_ble_eq_true rfl⟩ (fun u H locs hP hD hS => ?_)
      have hP : va_P D vwCl [(h, .inr (6, [.ref h_table, .ref h_saved, .ref h_trial, .ref h_history, .ref h_pad, .ref h_sumText, .ref h_rowText, .ref h_squares, .int h_hasSaved])), (h_saved, .inr (5, [.ref h_saved_cells, .int h_saved_size])), (h_saved_cells, .inl (cI, 64, .inl h_saved_cells_f)), (h_trial, .inr (5, [.ref h_trial_cells, .int h_trial_size])), (h_trial_cells, .inl (cI, 64, .inl h_trial_cells_f)), (h_history, .inr (0, [.ref h_history_kept, .int h_history_states])), (h_history_kept, .inl (cT, 4, .inr (.inr (.inr (.inr (kf [h_history_k0, h_history_k1, h_history_k2, h_history_k3])))))), (h_history_k0, .inr (5, [.ref h_history_k0_cells, .int h_history_k0_size])), (h_history_k0_cells, .inl (cI, 64, .inl h_history_k0_cells_f)), (h_history_k1, .inr (5, [.ref h_history_k1_cells, .int h_history_k1_size])), (h_history_k1_cells, .inl (cI, 64, .inl h_history_k1_cells_f)), (h_history_k2, .inr (5, [.ref h_history_k2_cells, .int h_history_k2_size])), (h_history_k2_cells, .inl (cI, 64, .inl h_history_k2_cells_f)), (h_history_k3, .inr (5, [.ref h_history_k3_cells, .int h_history_k3_size])), (h_history_k3_cells, .inl (cI, 64, .inl h_history_k3_cells_f)), (h_sumText, .inr (4, [.ref h_sumText_soFar, .ref h_sumText_waitingPlus, .ref h_sumText_lefts, .ref h_sumText_rights, .ref h_sumText_totals, .ref h_sumText_places, .int h_sumText_depth, .int h_sumText_steps, .int h_sumText_wantsThing])), (h_sumText_soFar, .inl (cI, 81, .inl h_sumText_soFar_f)), (h_sumText_waitingPlus, .inl (cI, 81, .inl h_sumText_waitingPlus_f)), (h_sumText_lefts, .inl (cI, 80, .inl h_sumText_lefts_f)), (h_sumText_rights, .inl (cI, 80, .inl h_sumText_rights_f)), (h_sumText_totals, .inl (cI, 80, .inl h_sumText_totals_f)), (h_sumText_places, .inl (cI, 80, .inl h_sumText_places_f)), (h_squares, .inr (3, [.ref h_squares_swapped, .int h_squares_lesserRow, .int h_squares_greaterRow, .int h_squares_lesserColumn, .int h_squares_greaterColumn, .int h_squares_mostTriples])), (h_squares_swapped, .inr (5, [.ref h_squares_swapped_cells, .int h_squares_swapped_size])), (h_squares_swapped_cells, .inl (cI, 64, .inl h_squares_swapped_cells_f)), (h_rowText, .inr (2, [.ref h_rowText_row, .ref h_rowText_parts, .int z_3.2.2])), (h_rowText_row, .inl (cI, 7, .inl z_3.2.1)), (h_rowText_parts, .inl (cI, 448, .inl h_rowText_parts_f)), (h_pad, .inr (1, [.ref h_pad_signs, .int h_pad_length])), (h_pad_signs, .inl (cC, 80, .inl h_pad_signs_f)), (h_table, .inr (5, [.ref h_table_cells, .int h_table_size])), (h_table_cells, .inl (cI, 64, .inl h_table_cells_f))] H := hP
      have hD : va_D A [(h, .inr (6, [.ref h_table, .ref h_saved, .ref h_trial, .ref h_history, .ref h_pad, .ref h_sumText, .ref h_rowText, .ref h_squares, .int h_hasSaved])), (h_saved, .inr (5, [.ref h_saved_cells, .int h_saved_size])), (h_saved_cells, .inl (cI, 64, .inl h_saved_cells_f)), (h_trial, .inr (5, [.ref h_trial_cells, .int h_trial_size])), (h_trial_cells, .inl (cI, 64, .inl h_trial_cells_f)), (h_history, .inr (0, [.ref h_history_kept, .int h_history_states])), (h_history_kept, .inl (cT, 4, .inr (.inr (.inr (.inr (kf [h_history_k0, h_history_k1, h_history_k2, h_history_k3])))))), (h_history_k0, .inr (5, [.ref h_history_k0_cells, .int h_history_k0_size])), (h_history_k0_cells, .inl (cI, 64, .inl h_history_k0_cells_f)), (h_history_k1, .inr (5, [.ref h_history_k1_cells, .int h_history_k1_size])), (h_history_k1_cells, .inl (cI, 64, .inl h_history_k1_cells_f)), (h_history_k2, .inr (5, [.ref h_history_k2_cells, .int h_history_k2_size])), (h_history_k2_cells, .inl (cI, 64, .inl h_history_k2_cells_f)), (h_history_k3, .inr (5, [.ref h_history_k3_cells, .int h_history_k3_size])), (h_history_k3_cells, .inl (cI, 64, .inl h_history_k3_cells_f)), (h_sumText, .inr (4, [.ref h_sumText_soFar, .ref h_sumText_waitingPlus, .ref h_sumText_lefts, .ref h_sumText_rights, .ref h_sumText_totals, .ref h_sumText_places, .int h_sumText_depth, .int h_sumText_steps, .int h_sumText_wantsThing])), (h_sumText_soFar, .inl (cI, 81, .inl h_sumText_soFar_f)), (h_sumText_waitingPlus, .inl (cI, 81, .inl h_sumText_waitingPlus_f)), (h_sumText_lefts, .inl (cI, 80, .inl h_sumText_lefts_f)), (h_sumText_rights, .inl (cI, 80, .inl h_sumText_rights_f)), (h_sumText_totals, .inl (cI, 80, .inl h_sumText_totals_f)), (h_sumText_places, .inl (cI, 80, .inl h_sumText_places_f)), (h_squares, .inr (3, [.ref h_squares_swapped, .int h_squares_lesserRow, .int h_squares_greaterRow, .int h_squares_lesserColumn, .int h_squares_greaterColumn, .int h_squares_mostTriples])), (h_squares_swapped, .inr (5, [.ref h_squares_swapped_cells, .int h_squares_swapped_size])), (h_squares_swapped_cells, .inl (cI, 64, .inl h_squares_swapped_cells_f)), (h_rowText, .inr (2, [.ref h_rowText_row, .ref h_rowText_parts, .int z_3.2.2])), (h_rowText_row, .inl (cI, 7, .inl z_3.2.1)), (h_rowText_parts, .inl (cI, 448, .inl h_rowText_parts_f)), (h_pad, .inr (1, [.ref h_pad_signs, .int h_pad_length])), (h_pad_signs, .inl (cC, 80, .inl h_pad_signs_f)), (h_table, .inr (5, [.ref h_table_cells, .int h_table_size])), (h_table_cells, .inl (cI, 64, .inl h_table_cells_f))] := hD
      refine W.eq (g2 := F0 m 37 ls [.int z_3.1]) rfl ?_
      refine lv_bipush (v := (-4)) hx hb dX9_ways_37 (by decide) ?_
      refine lv_icmp_eq (tgt := 45) hx hb dX9_ways_39 (by decide) (fun c9 => ?_) (fun c9 => ?_)
      · have h0 := it_t c9 h0
        refine lv_iload_n hx hb dX9_ways_45 rfl (lv_at hl 2 rfl) ?_
        refine lv_if_ne (tgt := 64) hx hb dX9_ways_46 (by decide) (fun c9 => ?_) (fun c9 => ?_)
        · have h0 := it_f c9 h0
          refine lv_aload_n hx hb dX9_ways_64 rfl (lv_at hl 0 rfl) ?_
          refine va_get (D := D) (ci := 6) (v := .ref h_rowText) (C := RX9) (T := TX9) (N := 9) hx hb hts hi_X9 hown hK hP 0 rfl rfl 6 (by decide) hf_46 (fun _ h9 => h9) rfl dX9_ways_65 ?_
          refine lv_aload_n hx hb dX9_ways_68 rfl (lv_at hl 0 rfl) ?_
          refine va_get (D := D) (ci := 6) (v := .ref h_table) (C := RX9) (T := TX9) (N := 9) hx hb hts hi_X9 hown hK hP 0 rfl rfl 0 (by decide) hf_10 (fun _ h9 => h9) rfl dX9_ways_69 ?_
          refine lv_iload_n hx hb dX9_ways_72 rfl (lv_at hl 1 rfl) ?_
          obtain ⟨z_4, hz, h0⟩ := bd_ok h0
          refine ro_VW (As := [.ref h_table, .int p1]) (rest := []) (wc := [(h_rowText, .inr (2, [.ref h_rowText_row, .ref h_rowText_parts, .int z_3.2.2])), (h_rowText_row, .inl (cI, 7, .inl z_3.2.1)), (h_rowText_parts, .inl (cI, 448, .inl h_rowText_parts_f)), (h_table, .inr (5, [.ref h_table_cells, .int h_table_size])), (h_table_cells, .inl (cI, 64, .inl h_table_cells_f))]) hcf (kX3_waysOneByOne l D cI cC cT wq h_rowText h_rowText_row h_rowText_parts h_table h_table_cells z_3.2.1 h_rowText_parts_f z_3.2.2 h_table_cells_f h_table_size p1 z_4 hz) (cwV 2 hts gX9_ways_X3_waysOneByOne rfl rfl rfl (by decide +kernel) ⟨Nat.le_of_ble_eq_true rfl, Nat.le_of_ble_eq_true rfl⟩) hE (hWs.at hS) (hP.sub [25, 26, 27, 30, 31] rfl) (va_recv hK hP (ci := 2) (q0 := 25) rfl rfl) rfl hl.1 rfl (Nat.le_of_ble_eq_true rfl) dX9_ways_73 ⟨Nat.le_of_ble_eq_true rfl, Nat.le_of_ble_eq_true rfl⟩ ?_
          refine W.eq (g2 := F0 m 76 ls [.int z_4]) rfl ?_
          have e0 := Option.some.inj h0
          subst e0
          exact W.iret (v := z_4) hx hb hr (fun t ht hW => wr_end () ht (hP.sub [0, 30, 31, 1, 2, 3, 4, 5, 6, 7, 8, 9, 10, 11, 12, 13, 14, 28, 29, 15, 16, 17, 18, 19, 20, 21, 25, 26, 27, 22, 23, 24] rfl) (hD.sub [0, 30, 31, 1, 2, 3, 4, 5, 6, 7, 8, 9, 10, 11, 12, 13, 14, 28, 29, 15, 16, 17, 18, 19, 20, 21, 25, 26, 27, 22, 23, 24] (by decide) rfl) hS) hS.2.2 dX9_ways_76
        · have h0 := it_t c9 h0
          refine lv_aload_n hx hb dX9_ways_49 rfl (lv_at hl 0 rfl) ?_
          refine va_get (D := D) (ci := 6) (v := .ref h_rowText) (C := RX9) (T := TX9) (N := 9) hx hb hts hi_X9 hown hK hP 0 rfl rfl 6 (by decide) hf_46 (fun _ h9 => h9) rfl dX9_ways_50 ?_
          refine lv_aload_n hx hb dX9_ways_53 rfl (lv_at hl 0 rfl) ?_
          refine va_get (D := D) (ci := 6) (v := .ref h_table) (C := RX9) (T := TX9) (N := 9) hx hb hts hi_X9 hown hK hP 0 rfl rfl 0 (by decide) hf_10 (fun _ h9 => h9) rfl dX9_ways_54 ?_
          refine lv_iload_n hx hb dX9_ways_57 rfl (lv_at hl 1 rfl) ?_
          obtain ⟨z_5, hz, h0⟩ := bd_ok h0
          refine wr_V (As := [.ref h_table, .int p1]) (rest := []) (wc := [(h_rowText, .inr (2, [.ref h_rowText_row, .ref h_rowText_parts, .int z_3.2.2])), (h_rowText_row, .inl (cI, 7, .inl z_3.2.1)), (h_rowText_parts, .inl (cI, 448, .inl h_rowText_parts_f)), (h_table, .inr (5, [.ref h_table_cells, .int h_table_size])), (h_table_cells, .inl (cI, 64, .inl h_table_cells_f))]) (wr := [(h, .inr (6, [.ref h_table, .ref h_saved, .ref h_trial, .ref h_history, .ref h_pad, .ref h_sumText, .ref h_rowText, .ref h_squares, .int h_hasSaved])), (h_saved, .inr (5, [.ref h_saved_cells, .int h_saved_size])), (h_saved_cells, .inl (cI, 64, .inl h_saved_cells_f)), (h_trial, .inr (5, [.ref h_trial_cells, .int h_trial_size])), (h_trial_cells, .inl (cI, 64, .inl h_trial_cells_f)), (h_history, .inr (0, [.ref h_history_kept, .int h_history_states])), (h_history_kept, .inl (cT, 4, .inr (.inr (.inr (.inr (kf [h_history_k0, h_history_k1, h_history_k2, h_history_k3])))))), (h_history_k0, .inr (5, [.ref h_history_k0_cells, .int h_history_k0_size])), (h_history_k0_cells, .inl (cI, 64, .inl h_history_k0_cells_f)), (h_history_k1, .inr (5, [.ref h_history_k1_cells, .int h_history_k1_size])), (h_history_k1_cells, .inl (cI, 64, .inl h_history_k1_cells_f)), (h_history_k2, .inr (5, [.ref h_history_k2_cells, .int h_history_k2_size])), (h_history_k2_cells, .inl (cI, 64, .inl h_history_k2_cells_f)), (h_history_k3, .inr (5, [.ref h_history_k3_cells, .int h_history_k3_size])), (h_history_k3_cells, .inl (cI, 64, .inl h_history_k3_cells_f)), (h_sumText, .inr (4, [.ref h_sumText_soFar, .ref h_sumText_waitingPlus, .ref h_sumText_lefts, .ref h_sumText_rights, .ref h_sumText_totals, .ref h_sumText_places, .int h_sumText_depth, .int h_sumText_steps, .int h_sumText_wantsThing])), (h_sumText_soFar, .inl (cI, 81, .inl h_sumText_soFar_f)), (h_sumText_waitingPlus, .inl (cI, 81, .inl h_sumText_waitingPlus_f)), (h_sumText_lefts, .inl (cI, 80, .inl h_sumText_lefts_f)), (h_sumText_rights, .inl (cI, 80, .inl h_sumText_rights_f)), (h_sumText_totals, .inl (cI, 80, .inl h_sumText_totals_f)), (h_sumText_places, .inl (cI, 80, .inl h_sumText_places_f)), (h_squares, .inr (3, [.ref h_squares_swapped, .int h_squares_lesserRow, .int h_squares_greaterRow, .int h_squares_lesserColumn, .int h_squares_greaterColumn, .int h_squares_mostTriples])), (h_squares_swapped, .inr (5, [.ref h_squares_swapped_cells, .int h_squares_swapped_size])), (h_squares_swapped_cells, .inl (cI, 64, .inl h_squares_swapped_cells_f)), (h_pad, .inr (1, [.ref h_pad_signs, .int h_pad_length])), (h_pad_signs, .inl (cC, 80, .inl h_pad_signs_f))]) hcf (kX3_waysByParts l D cI cC cT h_rowText h_rowText_row h_rowText_parts h_table h_table_cells z_3.2.1 h_rowText_parts_f z_3.2.2 h_table_cells_f h_table_size p1 _ z_5 hz) (cwV 2 hts gX9_ways_X3_waysByParts rfl rfl rfl (by decide +kernel) ⟨Nat.le_of_ble_eq_true rfl, Nat.le_of_ble_eq_true rfl⟩) hE hP hD hS hA [25, 26, 27, 30, 31] [0, 1, 2, 3, 4, 5, 6, 7, 8, 9, 10, 11, 12, 13, 14, 15, 16, 17, 18, 19, 20, 21, 22, 23, 24, 28, 29] (hP.sub [25, 26, 27, 30, 31] rfl) (hD.sub [25, 26, 27, 30, 31] (by decide) rfl) (va_recv hK hP (ci := 2) (q0 := 25) rfl rfl) rfl rfl (by decide) (by decide) rfl hl.1 rfl (Nat.le_of_ble_eq_true rfl) dX9_ways_58 ⟨Nat.le_of_ble_eq_true rfl, Nat.le_of_ble_eq_true rfl⟩ (fun u H locs hP hD hS => ?_)
          have hP : va_P D vwCl [(h, .inr (6, [.ref h_table, .ref h_saved, .ref h_trial, .ref h_history, .ref h_pad, .ref h_sumText, .ref h_rowText, .ref h_squares, .int h_hasSaved])), (h_saved, .inr (5, [.ref h_saved_cells, .int h_saved_size])), (h_saved_cells, .inl (cI, 64, .inl h_saved_cells_f)), (h_trial, .inr (5, [.ref h_trial_cells, .int h_trial_size])), (h_trial_cells, .inl (cI, 64, .inl h_trial_cells_f)), (h_history, .inr (0, [.ref h_history_kept, .int h_history_states])), (h_history_kept, .inl (cT, 4, .inr (.inr (.inr (.inr (kf [h_history_k0, h_history_k1, h_history_k2, h_history_k3])))))), (h_history_k0, .inr (5, [.ref h_history_k0_cells, .int h_history_k0_size])), (h_history_k0_cells, .inl (cI, 64, .inl h_history_k0_cells_f)), (h_history_k1, .inr (5, [.ref h_history_k1_cells, .int h_history_k1_size])), (h_history_k1_cells, .inl (cI, 64, .inl h_history_k1_cells_f)), (h_history_k2, .inr (5, [.ref h_history_k2_cells, .int h_history_k2_size])), (h_history_k2_cells, .inl (cI, 64, .inl h_history_k2_cells_f)), (h_history_k3, .inr (5, [.ref h_history_k3_cells, .int h_history_k3_size])), (h_history_k3_cells, .inl (cI, 64, .inl h_history_k3_cells_f)), (h_sumText, .inr (4, [.ref h_sumText_soFar, .ref h_sumText_waitingPlus, .ref h_sumText_lefts, .ref h_sumText_rights, .ref h_sumText_totals, .ref h_sumText_places, .int h_sumText_depth, .int h_sumText_steps, .int h_sumText_wantsThing])), (h_sumText_soFar, .inl (cI, 81, .inl h_sumText_soFar_f)), (h_sumText_waitingPlus, .inl (cI, 81, .inl h_sumText_waitingPlus_f)), (h_sumText_lefts, .inl (cI, 80, .inl h_sumText_lefts_f)), (h_sumText_rights, .inl (cI, 80, .inl h_sumText_rights_f)), (h_sumText_totals, .inl (cI, 80, .inl h_sumText_totals_f)), (h_sumText_places, .inl (cI, 80, .inl h_sumText_places_f)), (h_squares, .inr (3, [.ref h_squares_swapped, .int h_squares_lesserRow, .int h_squares_greaterRow, .int h_squares_lesserColumn, .int h_squares_greaterColumn, .int h_squares_mostTriples])), (h_squares_swapped, .inr (5, [.ref h_squares_swapped_cells, .int h_squares_swapped_size])), (h_squares_swapped_cells, .inl (cI, 64, .inl h_squares_swapped_cells_f)), (h_pad, .inr (1, [.ref h_pad_signs, .int h_pad_length])), (h_pad_signs, .inl (cC, 80, .inl h_pad_signs_f)), (h_rowText, .inr (2, [.ref h_rowText_row, .ref h_rowText_parts, .int z_3.2.2])), (h_rowText_row, .inl (cI, 7, .inl z_3.2.1)), (h_rowText_parts, .inl (cI, 448, .inl z_5.2)), (h_table, .inr (5, [.ref h_table_cells, .int h_table_size])), (h_table_cells, .inl (cI, 64, .inl h_table_cells_f))] H := hP
          have hD : va_D A [(h, .inr (6, [.ref h_table, .ref h_saved, .ref h_trial, .ref h_history, .ref h_pad, .ref h_sumText, .ref h_rowText, .ref h_squares, .int h_hasSaved])), (h_saved, .inr (5, [.ref h_saved_cells, .int h_saved_size])), (h_saved_cells, .inl (cI, 64, .inl h_saved_cells_f)), (h_trial, .inr (5, [.ref h_trial_cells, .int h_trial_size])), (h_trial_cells, .inl (cI, 64, .inl h_trial_cells_f)), (h_history, .inr (0, [.ref h_history_kept, .int h_history_states])), (h_history_kept, .inl (cT, 4, .inr (.inr (.inr (.inr (kf [h_history_k0, h_history_k1, h_history_k2, h_history_k3])))))), (h_history_k0, .inr (5, [.ref h_history_k0_cells, .int h_history_k0_size])), (h_history_k0_cells, .inl (cI, 64, .inl h_history_k0_cells_f)), (h_history_k1, .inr (5, [.ref h_history_k1_cells, .int h_history_k1_size])), (h_history_k1_cells, .inl (cI, 64, .inl h_history_k1_cells_f)), (h_history_k2, .inr (5, [.ref h_history_k2_cells, .int h_history_k2_size])), (h_history_k2_cells, .inl (cI, 64, .inl h_history_k2_cells_f)), (h_history_k3, .inr (5, [.ref h_history_k3_cells, .int h_history_k3_size])), (h_history_k3_cells, .inl (cI, 64, .inl h_history_k3_cells_f)), (h_sumText, .inr (4, [.ref h_sumText_soFar, .ref h_sumText_waitingPlus, .ref h_sumText_lefts, .ref h_sumText_rights, .ref h_sumText_totals, .ref h_sumText_places, .int h_sumText_depth, .int h_sumText_steps, .int h_sumText_wantsThing])), (h_sumText_soFar, .inl (cI, 81, .inl h_sumText_soFar_f)), (h_sumText_waitingPlus, .inl (cI, 81, .inl h_sumText_waitingPlus_f)), (h_sumText_lefts, .inl (cI, 80, .inl h_sumText_lefts_f)), (h_sumText_rights, .inl (cI, 80, .inl h_sumText_rights_f)), (h_sumText_totals, .inl (cI, 80, .inl h_sumText_totals_f)), (h_sumText_places, .inl (cI, 80, .inl h_sumText_places_f)), (h_squares, .inr (3, [.ref h_squares_swapped, .int h_squares_lesserRow, .int h_squares_greaterRow, .int h_squares_lesserColumn, .int h_squares_greaterColumn, .int h_squares_mostTriples])), (h_squares_swapped, .inr (5, [.ref h_squares_swapped_cells, .int h_squares_swapped_size])), (h_squares_swapped_cells, .inl (cI, 64, .inl h_squares_swapped_cells_f)), (h_pad, .inr (1, [.ref h_pad_signs, .int h_pad_length])), (h_pad_signs, .inl (cC, 80, .inl h_pad_signs_f)), (h_rowText, .inr (2, [.ref h_rowText_row, .ref h_rowText_parts, .int z_3.2.2])), (h_rowText_row, .inl (cI, 7, .inl z_3.2.1)), (h_rowText_parts, .inl (cI, 448, .inl z_5.2)), (h_table, .inr (5, [.ref h_table_cells, .int h_table_size])), (h_table_cells, .inl (cI, 64, .inl h_table_cells_f))] := hD
          refine W.eq (g2 := F0 m 61 ls [.int z_5.1]) rfl ?_
          refine lv_goto (tgt := 76) hx hb dX9_ways_61 (by decide) ?_
          have e0 := Option.some.inj h0
          subst e0
          exact W.iret (v := z_5.1) hx hb hr (fun t ht hW => wr_end () ht (hP.sub [0, 30, 31, 1, 2, 3, 4, 5, 6, 7, 8, 9, 10, 11, 12, 13, 14, 25, 26, 15, 16, 17, 18, 19, 20, 21, 27, 28, 29, 22, 23, 24] rfl) (hD.sub [0, 30, 31, 1, 2, 3, 4, 5, 6, 7, 8, 9, 10, 11, 12, 13, 14, 25, 26, 15, 16, 17, 18, 19, 20, 21, 27, 28, 29, 22, 23, 24] (by decide) rfl) hS) hS.2.2 dX9_ways_76
      · have h0 := it_f c9 h0
        refine lv_bipush (v := (-2)) hx hb dX9_ways_42 (by decide) ?_
        have e0 := Option.some.inj h0
        subst e0
        exact W.iret (v := (-2)) hx hb hr (fun t ht hW => wr_end () ht (hP.sub [0, 30, 31, 1, 2, 3, 4, 5, 6, 7, 8, 9, 10, 11, 12, 13, 14, 28, 29, 15, 16, 17, 18, 19, 20, 21, 25, 26, 27, 22, 23, 24] rfl) (hD.sub [0, 30, 31, 1, 2, 3, 4, 5, 6, 7, 8, 9, 10, 11, 12, 13, 14, 28, 29, 15, 16, 17, 18, 19, 20, 21, 25, 26, 27, 22, 23, 24] (by decide) rfl) hS) hS.2.2 dX9_ways_44
    · have h0 := it_t c9 h0
      refine lv_iconst (v := (-1)) hx hb dX9_ways_20 (by decide) ?_
      have e0 := Option.some.inj h0
      subst e0
      exact W.iret (v := (-1)) hx hb hr (fun t ht hW => wr_end () ht hP hD hS) hS.2.2 dX9_ways_21
