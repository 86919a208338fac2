noncomputable def mX10_isRing_L25 (h_s_f : Nat → Int32) (p1 : Int32) (x3_4 : Int32) (k25_93 : Int32 → Int32 → Option (Int32)) : Nat → Int32 → Int32 → Option (Int32)
  | 0, _, _ => none
  | F + 1, x4_9, x2_10 => if (h_s_f (0 : Int32).toNatClampNeg) ≤ x4_9 then (k25_93 x4_9 x2_10) else (if (((p1 >>> (x3_4 &&& 31)) &&& (p1 >>> (x4_9 &&& 31))) &&& 1) = 1 then (if x2_10 = 0 then (mX10_isRing_L25 h_s_f p1 x3_4 k25_93 F (x4_9 + 1) 0) else (bd (mX10_plain h_s_f x3_4 x4_9) (fun z_11 => if ((p1 >>> (z_11 &&& 31)) &&& 1) = 1 then (mX10_isRing_L25 h_s_f p1 x3_4 k25_93 F (x4_9 + 1) 1) else (mX10_isRing_L25 h_s_f p1 x3_4 k25_93 F (x4_9 + 1) 0)))) else (if x2_10 = 0 then (mX10_isRing_L25 h_s_f p1 x3_4 k25_93 F (x4_9 + 1) 0) else (mX10_isRing_L25 h_s_f p1 x3_4 k25_93 F (x4_9 + 1) 1)))
noncomputable def mX10_isRing_L12 (h_s_f : Nat → Int32) (p1 : Int32) (k12_99 : Int32 → Int32 → Option (Int32)) : Nat → Int32 → Int32 → Option (Int32)
  | 0, _, _ => none
  | F + 1, x3_4, x2_5 => if (h_s_f (0 : Int32).toNatClampNeg) ≤ x3_4 then (k12_99 x3_4 x2_5) else (mX10_isRing_L25 h_s_f p1 x3_4 (fun (x4_6 : Int32) (x2_7 : Int32) => mX10_isRing_L12 h_s_f p1 k12_99 F (x3_4 + 1) x2_7) FU 0 x2_5)
noncomputable def mX10_isRing (h_s_f : Nat → Int32) (p1 : Int32) : Option (Int32) :=
  if p1 ≤ 0 then (mX10_isRing_L12 h_s_f p1 (fun (x3_1 : Int32) (x2_2 : Int32) => gd (nbz x2_2) (some (x2_2))) FU 0 0) else (mX10_isRing_L12 h_s_f p1 (fun (x3_14 : Int32) (x2_15 : Int32) => gd (nbz x2_15) (some (x2_15))) FU 0 1)
set_option maxHeartbeats 8000000 in
set_option maxRecDepth 100000 in
theorem kX10_isRing (l : Launch) (D : va_G) (cI cC cT : ClassId) (h h_s h_aside h_past h_snapshot h_pad h_steps h_summed h_plus h_parts : Nat) (h_s_f : Nat → Int32) (h_aside_f : Nat → Int32) (h_past_f : Nat → Int32) (h_pasts : Int32) (h_snapshot_f : Nat → Int32) (h_isKept : Int32) (h_pad_f : Nat → Int32) (h_length : Int32) (h_steps_f : Nat → Int32) (h_many : Int32) (h_value : Int32) (h_summed_f : Nat → Int32) (h_plus_f : Nat → Int32) (h_parts_f : Nat → Int32) (p1 : Int32) (z : Int32) (h0 : mX10_isRing h_s_f p1 = some z) : Met l yX10_isRing wsX10_isRing ({ frames := 2, cells := 0, slots := 0, locals := 43 } : Room) (va_Pc [.ref h, .int p1] (rP D cI cC cT [(h, .inr (7, [.ref h_s, .ref h_aside, .ref h_past, .int h_pasts, .ref h_snapshot, .int h_isKept, .ref h_pad, .int h_length, .ref h_steps, .int h_many, .int h_value, .ref h_summed, .ref h_plus, .ref h_parts])), (h_s, .inl (cI, 65, .inl h_s_f)), (h_aside, .inl (cI, 65, .inl h_aside_f)), (h_past, .inl (cI, 260, .inl h_past_f)), (h_snapshot, .inl (cI, 65, .inl h_snapshot_f)), (h_pad, .inl (cI, 80, .inl h_pad_f)), (h_steps, .inl (cI, 320, .inl h_steps_f)), (h_summed, .inl (cI, 81, .inl h_summed_f)), (h_plus, .inl (cI, 81, .inl h_plus_f)), (h_parts, .inl (cI, 392, .inl h_parts_f))])) (rQ (some (.int z))) 0 0 (fun _ => False) := by
  refine Met.ofW (cc := cX10_isRing) (maxL := 6) (ret := (some .boolean)) (by decide) rfl ?_
  intro p e s m args below meth c s₁ B hml hv
  obtain ⟨rfl, hP, hE⟩ := hv
  have hx := B.exec
  have hb := B.bytes
  have hr := B.returns
  have hts := atoms_spec (ws := wsX10_isRing) B.pre
  have hown : s.vm.findClass RX10 = some m.cls := findClass_of_methodNamed B.named
  have hlocks := B.notSynchronized
  have hK := hE.1
  have hcf : CallFix p m c cX10_isRing 6 s ([.ref h, .int p1] : List Value).toArray wsX10_isRing RX10 := ⟨hx, hb, hml, hown, hts⟩
  have hP : va_P D vwCl [(h, .inr (7, [.ref h_s, .ref h_aside, .ref h_past, .int h_pasts, .ref h_snapshot, .int h_isKept, .ref h_pad, .int h_length, .ref h_steps, .int h_many, .int h_value, .ref h_summed, .ref h_plus, .ref h_parts])), (h_s, .inl (cI, 65, .inl h_s_f)), (h_aside, .inl (cI, 65, .inl h_aside_f)), (h_past, .inl (cI, 260, .inl h_past_f)), (h_snapshot, .inl (cI, 65, .inl h_snapshot_f)), (h_pad, .inl (cI, 80, .inl h_pad_f)), (h_steps, .inl (cI, 320, .inl h_steps_f)), (h_summed, .inl (cI, 81, .inl h_summed_f)), (h_plus, .inl (cI, 81, .inl h_plus_f)), (h_parts, .inl (cI, 392, .inl h_parts_f))] s.heap := hP
  have hf_7 := hts (.fieldLink RX10 7 "CrookedSumsModel" "s" "[I") (by decide +kernel)
  have hi_X10 := (show ∀ w ∈ u_ws RX10 TX10 14, w ∈ wsX10_isRing from by decide +kernel)
  have hl := lv_entry ([.ref h, .int p1]) (n := 6) (Nat.le_of_ble_eq_true rfl)
  rw [lg_entry_eq]
  generalize (lg_sl ([.ref h, .int p1]) ++ List.replicate (6 - (lg_sl ([.ref h, .int p1])).length) Slot.unset).toArray = ls at hl ⊢
  have hl : lv_has ls 6 [(0, .ref h), (1, .int p1)] := hl
  unfold mX10_isRing at h0
  refine lv_iload_n hx hb dX10_isRing_0 rfl (lv_at hl 1 rfl) ?_
  refine lv_if_le (tgt := 8) hx hb dX10_isRing_1 (by decide) (fun c9 => ?_) (fun c9 => ?_)
  · have h0 := it_t c9 h0
    refine lv_iconst (v := 0) hx hb dX10_isRing_8 (by decide) ?_
    refine lv_istore_n (lv' := [(2, .int 0), (0, .ref h), (1, .int p1)]) hx hb dX10_isRing_9 rfl hl (by decide) rfl (fun ls hl => ?_)
    refine lv_iconst (v := 0) hx hb dX10_isRing_10 (by decide) ?_
    refine lv_istore_n (lv' := [(3, .int 0), (2, .int 0), (0, .ref h), (1, .int p1)]) hx hb dX10_isRing_11 rfl hl (by decide) rfl (fun ls hl => ?_)
    have E_12_99_2 : ∀ (x3_1 : Int32) (x2_2 : Int32) (ls : Array Slot), (gd (nbz x2_2) (some (x2_2))) = some z → lv_has ls 6 [(3, .int x3_1), (2, .int x2_2), (0, .ref h), (1, .int p1)] → W p l e (headSpec wsX10_isRing ({ frames := 2, cells := 0, slots := 0, locals := 43 } : Room)).room s m (([.ref h, .int p1] : List Value).toArray) below meth c s.heap [] 0 0 (MQ below (rQ (some (.int z))) (([.ref h, .int p1] : List Value).toArray) s 0 0 (fun _ => False)) (F0 m 99 ls []) := by
      intro x3_1 x2_2 ls h0 hl
      refine lv_iload_n hx hb dX10_isRing_99 rfl (lv_at hl 1 rfl) ?_
      obtain ⟨g0, h0⟩ := gd_ok h0
      have e0 := Option.some.inj h0
      subst e0
      exact W.zret (ty := .boolean) (v := x2_2) hx hb hr (nbz_ok g0) (fun t ht hW => ⟨rfl, ht⟩) (fun q hq => absurd hq List.not_mem_nil) dX10_isRing_100
    have L_12_12 : ∀ (F12 : Nat) (x3_4 : Int32) (x2_5 : Int32) (ls : Array Slot), mX10_isRing_L12 h_s_f p1 (fun (x3_1 : Int32) (x2_2 : Int32) => gd (nbz x2_2) (some (x2_2))) F12 x3_4 x2_5 = some z → lv_has ls 6 [(3, .int x3_4), (2, .int x2_5), (0, .ref h), (1, .int p1)] → W p l e (headSpec wsX10_isRing ({ frames := 2, cells := 0, slots := 0, locals := 43 } : Room)).room s m (([.ref h, .int p1] : List Value).toArray) below meth c s.heap [] 0 0 (MQ below (rQ (some (.int z))) (([.ref h, .int p1] : List Value).toArray) s 0 0 (fun _ => False)) (F0 m 12 ls []) := by
      intro F12
      induction F12 with
      | zero => intro x3_4 x2_5 ls h0 hl; cases h0
      | succ F12 ih12 =>
        intro x3_4 x2_5 ls h0 hl
        rw [mX10_isRing_L12] at h0
        refine lv_iload_n hx hb dX10_isRing_12 rfl (lv_at hl 0 rfl) ?_
        refine lv_aload_n hx hb dX10_isRing_13 rfl (lv_at hl 2 rfl) ?_
        refine va_get (D := D) (ci := 7) (v := .ref h_s) (C := RX10) (T := TX10) (N := 14) hx hb hts hi_X10 hown hK hP 0 rfl rfl 0 (by decide) hf_7 (fun _ h9 => h9) rfl dX10_isRing_14 ?_
        refine lv_iconst (v := 0) hx hb dX10_isRing_17 (by decide) ?_
        refine va_iald hx hb hK hP 1 0 rfl rfl (by unfold vp_in; decide) dX10_isRing_18 ?_
        refine lv_icmp_ge (tgt := 99) hx hb dX10_isRing_19 (by decide) (fun c9 => ?_) (fun c9 => ?_)
        · have h0 := it_t c9 h0
          exact E_12_99_2 x3_4 x2_5 ls h0 hl
        · have h0 := it_f c9 h0
          refine lv_iconst (v := 0) hx hb dX10_isRing_22 (by decide) ?_
          refine lv_istore (lv' := [(4, .int 0), (3, .int x3_4), (2, .int x2_5), (0, .ref h), (1, .int p1)]) hx hb dX10_isRing_23 hl (by decide) rfl (fun ls hl => ?_)
          have E_25_93_7 : ∀ (x4_6 : Int32) (x2_7 : Int32) (ls : Array Slot), (mX10_isRing_L12 h_s_f p1 (fun (x3_1 : Int32) (x2_2 : Int32) => gd (nbz x2_2) (some (x2_2))) F12 (x3_4 + 1) x2_7) = some z → lv_has ls 6 [(4, .int x4_6), (3, .int x3_4), (2, .int x2_7), (0, .ref h), (1, .int p1)] → W p l e (headSpec wsX10_isRing ({ frames := 2, cells := 0, slots := 0, locals := 43 } : Room)).room s m (([.ref h, .int p1] : List Value).toArray) below meth c s.heap [] 0 0 (MQ below (rQ (some (.int z))) (([.ref h, .int p1] : List Value).toArray) s 0 0 (fun _ => False)) (F0 m 93 ls []) := by
            intro x4_6 x2_7 ls h0 hl
            refine lv_iinc (v := (x3_4 + 1)) (lv' := [(3, .int (x3_4 + 1)), (4, .int x4_6), (2, .int x2_7), (0, .ref h), (1, .int p1)]) hx hb dX10_isRing_93 hl (k := 1) rfl rfl (by decide) rfl (fun ls hl => ?_)
            refine lv_goto (tgt := 12) hx hb dX10_isRing_96 (by decide) ?_
            exact ih12 (x3_4 + 1) x2_7 ls h0 (lv_sub hl [0, 2, 3, 4] rfl)
          have L_25_11 : ∀ (F25 : Nat) (x4_9 : Int32) (x2_10 : Int32) (ls : Array Slot), mX10_isRing_L25 h_s_f p1 x3_4 (fun (x4_6 : Int32) (x2_7 : Int32) => mX10_isRing_L12 h_s_f p1 (fun (x3_1 : Int32) (x2_2 : Int32) => gd (nbz x2_2) (some (x2_2))) F12 (x3_4 + 1) x2_7) F25 x4_9 x2_10 = some z → lv_has ls 6 [(4, .int x4_9), (3, .int x3_4), (2, .int x2_10), (0, .ref h), (1, .int p1)] → W p l e (headSpec wsX10_isRing ({ frames := 2, cells := 0, slots := 0, locals := 43 } : Room)).room s m (([.ref h, .int p1] : List Value).toArray) below meth c s.heap [] 0 0 (MQ below (rQ (some (.int z))) (([.ref h, .int p1] : List Value).toArray) s 0 0 (fun _ => False)) (F0 m 25 ls []) := by
            intro F25
            induction F25 with
            | zero => intro x4_9 x2_10 ls h0 hl; cases h0
            | succ F25 ih25 =>
              intro x4_9 x2_10 ls h0 hl
              rw [mX10_isRing_L25] at h0
              refine lv_iload hx hb dX10_isRing_25 (lv_at hl 0 rfl) ?_
              refine lv_aload_n hx hb dX10_isRing_27 rfl (lv_at hl 3 rfl) ?_
              refine va_get (D := D) (ci := 7) (v := .ref h_s) (C := RX10) (T := TX10) (N := 14) hx hb hts hi_X10 hown hK hP 0 rfl rfl 0 (by decide) hf_7 (fun _ h9 => h9) rfl dX10_isRing_28 ?_
              refine lv_iconst (v := 0) hx hb dX10_isRing_31 (by decide) ?_
              refine va_iald hx hb hK hP 1 0 rfl rfl (by unfold vp_in; decide) dX10_isRing_32 ?_
              refine lv_icmp_ge (tgt := 93) hx hb dX10_isRing_33 (by decide) (fun c9 => ?_) (fun c9 => ?_)
              · have h0 := it_t c9 h0
                exact E_25_93_7 x4_9 x2_10 ls h0 hl
              · have h0 := it_f c9 h0
                refine lv_iload_n hx hb dX10_isRing_36 rfl (lv_at hl 4 rfl) ?_
                refine lv_iload_n hx hb dX10_isRing_37 rfl (lv_at hl 1 rfl) ?_
                refine lv_ishr hx hb dX10_isRing_38 ?_
                refine lv_iload_n hx hb dX10_isRing_39 rfl (lv_at hl 4 rfl) ?_
                refine lv_iload hx hb dX10_isRing_40 (lv_at hl 0 rfl) ?_
                refine lv_ishr hx hb dX10_isRing_42 ?_
                refine lv_iand hx hb dX10_isRing_43 ?_
                refine lv_iconst (v := 1) hx hb dX10_isRing_44 (by decide) ?_
                refine lv_iand hx hb dX10_isRing_45 ?_
                refine lv_iconst (v := 1) hx hb dX10_isRing_46 (by decide) ?_
                refine lv_icmp_ne (tgt := 54) hx hb dX10_isRing_47 (by decide) (fun c9 => ?_) (fun c9 => ?_)
                · have h0 := it_f c9 h0
                  refine lv_iconst (v := 0) hx hb dX10_isRing_54 (by decide) ?_
                  refine lv_istore (lv' := [(5, .int 0), (4, .int x4_9), (3, .int x3_4), (2, .int x2_10), (0, .ref h), (1, .int p1)]) hx hb dX10_isRing_55 hl (by decide) rfl (fun ls hl => ?_)
                  refine lv_iload_n hx hb dX10_isRing_57 rfl (lv_at hl 3 rfl) ?_
                  refine lv_if_eq (tgt := 85) hx hb dX10_isRing_58 (by decide) (fun c9 => ?_) (fun c9 => ?_)
                  · have h0 := it_t c9 h0
                    refine lv_iconst (v := 0) hx hb dX10_isRing_85 (by decide) ?_
                    refine lv_istore_n (lv' := [(2, .int 0), (5, .int 0), (4, .int x4_9), (3, .int x3_4), (0, .ref h), (1, .int p1)]) hx hb dX10_isRing_86 rfl hl (by decide) rfl (fun ls hl => ?_)
                    refine lv_iinc (v := (x4_9 + 1)) (lv' := [(4, .int (x4_9 + 1)), (2, .int 0), (5, .int 0), (3, .int x3_4), (0, .ref h), (1, .int p1)]) hx hb dX10_isRing_87 hl (k := 2) rfl rfl (by decide) rfl (fun ls hl => ?_)
                    refine lv_goto (tgt := 25) hx hb dX10_isRing_90 (by decide) ?_
                    exact ih25 (x4_9 + 1) 0 ls h0 (lv_sub hl [0, 3, 1, 4, 5] rfl)
                  · have h0 := it_f c9 h0
                    refine lv_iload hx hb dX10_isRing_61 (lv_at hl 0 rfl) ?_
                    refine lv_if_eq (tgt := 81) hx hb dX10_isRing_63 (by decide) (fun _ => ?_) (fun c9 => absurd (by decide) c9)
                    refine lv_iconst (v := 1) hx hb dX10_isRing_81 (by decide) ?_
                    refine lv_goto (tgt := 86) hx hb dX10_isRing_82 (by decide) ?_
                    refine lv_istore_n (lv' := [(2, .int 1), (5, .int 0), (4, .int x4_9), (3, .int x3_4), (0, .ref h), (1, .int p1)]) hx hb dX10_isRing_86 rfl hl (by decide) rfl (fun ls hl => ?_)
                    refine lv_iinc (v := (x4_9 + 1)) (lv' := [(4, .int (x4_9 + 1)), (2, .int 1), (5, .int 0), (3, .int x3_4), (0, .ref h), (1, .int p1)]) hx hb dX10_isRing_87 hl (k := 2) rfl rfl (by decide) rfl (fun ls hl => ?_)
                    refine lv_goto (tgt := 25) hx hb dX10_isRing_90 (by decide) ?_
                    exact ih25 (x4_9 + 1) 1 ls h0 (lv_sub hl [0, 3, 1, 4, 5] rfl)
                · have h0 := it_t c9 h0
                  refine lv_iconst (v := 1) hx hb dX10_isRing_50 (by decide) ?_
                  refine lv_goto (tgt := 55) hx hb dX10_isRing_51 (by decide) ?_
                  refine lv_istore (lv' := [(5, .int 1), (4, .int x4_9), (3, .int x3_4), (2, .int x2_10), (0, .ref h), (1, .int p1)]) hx hb dX10_isRing_55 hl (by decide) rfl (fun ls hl => ?_)
                  refine lv_iload_n hx hb dX10_isRing_57 rfl (lv_at hl 3 rfl) ?_
                  refine lv_if_eq (tgt := 85) hx hb dX10_isRing_58 (by decide) (fun c9 => ?_) (fun c9 => ?_)
                  · have h0 := it_t c9 h0
                    refine lv_iconst (v := 0) hx hb dX10_isRing_85 (by decide) ?_
                    refine lv_istore_n (lv' := [(2, .int 0), (5, .int 1), (4, .int x4_9), (3, .int x3_4), (0, .ref h), (1, .int p1)]) hx hb dX10_isRing_86 rfl hl (by decide) rfl (fun ls hl => ?_)
                    refine lv_iinc (v := (x4_9 + 1)) (lv' := [(4, .int (x4_9 + 1)), (2, .int 0), (5, .int 1), (3, .int x3_4), (0, .ref h), (1, .int p1)]) hx hb dX10_isRing_87 hl (k := 2) rfl rfl (by decide) rfl (fun ls hl => ?_)
                    refine lv_goto (tgt := 25) hx hb dX10_isRing_90 (by decide) ?_
                    exact ih25 (x4_9 + 1) 0 ls h0 (lv_sub hl [0, 3, 1, 4, 5] rfl)
                  · have h0 := it_f c9 h0
                    refine lv_iload hx hb dX10_isRing_61 (lv_at hl 0 rfl) ?_
                    refine lv_if_eq (tgt := 81) hx hb dX10_isRing_63 (by decide) (fun c9 => absurd c9 (by decide)) (fun _ => ?_)
                    refine lv_iload_n hx hb dX10_isRing_66 rfl (lv_at hl 5 rfl) ?_
                    refine lv_aload_n hx hb dX10_isRing_67 rfl (lv_at hl 4 rfl) ?_
                    refine lv_iload_n hx hb dX10_isRing_68 rfl (lv_at hl 2 rfl) ?_
                    refine lv_iload hx hb dX10_isRing_69 (lv_at hl 1 rfl) ?_
                    obtain ⟨z_11, hz, h0⟩ := bd_ok h0
                    refine ro_V (As := [.int x3_4, .int x4_9]) (rest := [.int p1]) (wc := [(h, .inr (7, [.ref h_s, .ref h_aside, .ref h_past, .int h_pasts, .ref h_snapshot, .int h_isKept, .ref h_pad, .int h_length, .ref h_steps, .int h_many, .int h_value, .ref h_summed, .ref h_plus, .ref h_parts])), (h_s, .inl (cI, 65, .inl h_s_f)), (h_aside, .inl (cI, 65, .inl h_aside_f)), (h_past, .inl (cI, 260, .inl h_past_f)), (h_snapshot, .inl (cI, 65, .inl h_snapshot_f)), (h_pad, .inl (cI, 80, .inl h_pad_f)), (h_steps, .inl (cI, 320, .inl h_steps_f)), (h_summed, .inl (cI, 81, .inl h_summed_f)), (h_plus, .inl (cI, 81, .inl h_plus_f)), (h_parts, .inl (cI, 392, .inl h_parts_f))]) hcf (kX10_plain l D cI cC cT h h_s h_aside h_past h_snapshot h_pad h_steps h_summed h_plus h_parts h_s_f h_aside_f h_past_f h_pasts h_snapshot_f h_isKept h_pad_f h_length h_steps_f h_many h_value h_summed_f h_plus_f h_parts_f x3_4 x4_9 z_11 hz) (cwV 2 hts gX10_isRing_X10_plain rfl rfl rfl (by decide +kernel) ⟨Nat.le_of_ble_eq_true rfl, Nat.le_of_ble_eq_true rfl⟩) hE (hP.sub [0, 1, 2, 3, 4, 5, 6, 7, 8, 9] rfl) (va_recv hK hP (ci := 7) (q0 := 0) rfl rfl) rfl hl.1 rfl (Nat.le_of_ble_eq_true rfl) dX10_isRing_71 ⟨Nat.le_of_ble_eq_true rfl, Nat.le_of_ble_eq_true rfl⟩ ?_
                    refine W.eq (g2 := F0 m 74 ls [.int z_11, .int p1]) rfl ?_
                    refine lv_ishr hx hb dX10_isRing_74 ?_
                    refine lv_iconst (v := 1) hx hb dX10_isRing_75 (by decide) ?_
                    refine lv_iand hx hb dX10_isRing_76 ?_
                    refine lv_iconst (v := 1) hx hb dX10_isRing_77 (by decide) ?_
                    refine lv_icmp_ne (tgt := 85) hx hb dX10_isRing_78 (by decide) (fun c9 => ?_) (fun c9 => ?_)
                    · have h0 := it_f c9 h0
                      refine lv_iconst (v := 0) hx hb dX10_isRing_85 (by decide) ?_
                      refine lv_istore_n (lv' := [(2, .int 0), (5, .int 1), (4, .int x4_9), (3, .int x3_4), (0, .ref h), (1, .int p1)]) hx hb dX10_isRing_86 rfl hl (by decide) rfl (fun ls hl => ?_)
                      refine lv_iinc (v := (x4_9 + 1)) (lv' := [(4, .int (x4_9 + 1)), (2, .int 0), (5, .int 1), (3, .int x3_4), (0, .ref h), (1, .int p1)]) hx hb dX10_isRing_87 hl (k := 2) rfl rfl (by decide) rfl (fun ls hl => ?_)
                      refine lv_goto (tgt := 25) hx hb dX10_isRing_90 (by decide) ?_
                      exact ih25 (x4_9 + 1) 0 ls h0 (lv_sub hl [0, 3, 1, 4, 5] rfl)
                    · have h0 := it_t c9 h0
                      refine lv_iconst (v := 1) hx hb dX10_isRing_81 (by decide) ?_
                      refine lv_goto (tgt := 86) hx hb dX10_isRing_82 (by decide) ?_
                      refine lv_istore_n (lv' := [(2, .int 1), (5, .int 1), (4, .int x4_9), (3, .int x3_4), (0, .ref h), (1, .int p1)]) hx hb dX10_isRing_86 rfl hl (by decide) rfl (fun ls hl => ?_)
                      refine lv_iinc (v := (x4_9 + 1)) (lv' := [(4, .int (x4_9 + 1)), (2, .int 1), (5, .int 1), (3, .int x3_4), (0, .ref h), (1, .int p1)]) hx hb dX10_isRing_87 hl (k := 2) rfl rfl (by decide) rfl (fun ls hl => ?_)
                      refine lv_goto (tgt := 25) hx hb dX10_isRing_90 (by decide) ?_
                      exact ih25 (x4_9 + 1) 1 ls h0 (lv_sub hl [0, 3, 1, 4, 5] rfl)
          exact L_25_11 FU 0 x2_5 ls h0 hl
    exact L_12_12 FU 0 0 ls h0 hl
  · have h0 := it_f c9 h0
    refine lv_iconst (v := 1) hx hb dX10_isRing_4 (by decide) ?_
    refine lv_goto (tgt := 9) hx hb dX10_isRing_5 (by decide) ?_
    refine lv_istore_n (lv' := [(2, .int 1), (0, .ref h), (1, .int p1)]) hx hb dX10_isRing_9 rfl hl (by decide) rfl (fun ls hl => ?_)
    refine lv_iconst (v := 0) hx hb dX10_isRing_10 (by decide) ?_
    refine lv_istore_n (lv' := [(3, .int 0), (2, .int 1), (0, .ref h), (1, .int p1)]) hx hb dX10_isRing_11 rfl hl (by decide) rfl (fun ls hl => ?_)
    have E_12_99_15 : ∀ (x3_14 : Int32) (x2_15 : Int32) (ls : Array Slot), (gd (nbz x2_15) (some (x2_15))) = some z → lv_has ls 6 [(3, .int x3_14), (2, .int x2_15), (0, .ref h), (1, .int p1)] → W p l e (headSpec wsX10_isRing ({ frames := 2, cells := 0, slots := 0, locals := 43 } : Room)).room s m (([.ref h, .int p1] : List Value).toArray) below meth c s.heap [] 0 0 (MQ below (rQ (some (.int z))) (([.ref h, .int p1] : List Value).toArray) s 0 0 (fun _ => False)) (F0 m 99 ls []) := by
      intro x3_14 x2_15 ls h0 hl
      refine lv_iload_n hx hb dX10_isRing_99 rfl (lv_at hl 1 rfl) ?_
      obtain ⟨g0, h0⟩ := gd_ok h0
      have e0 := Option.some.inj h0
      subst e0
      exact W.zret (ty := .boolean) (v := x2_15) hx hb hr (nbz_ok g0) (fun t ht hW => ⟨rfl, ht⟩) (fun q hq => absurd hq List.not_mem_nil) dX10_isRing_100
    have L_12_25 : ∀ (F12 : Nat) (x3_17 : Int32) (x2_18 : Int32) (ls : Array Slot), mX10_isRing_L12 h_s_f p1 (fun (x3_14 : Int32) (x2_15 : Int32) => gd (nbz x2_15) (some (x2_15))) F12 x3_17 x2_18 = some z → lv_has ls 6 [(3, .int x3_17), (2, .int x2_18), (0, .ref h), (1, .int p1)] → W p l e (headSpec wsX10_isRing ({ frames := 2, cells := 0, slots := 0, locals := 43 } : Room)).room s m (([.ref h, .int p1] : List Value).toArray) below meth c s.heap [] 0 0 (MQ below (rQ (some (.int z))) (([.ref h, .int p1] : List Value).toArray) s 0 0 (fun _ => False)) (F0 m 12 ls []) := by
      intro F12
      induction F12 with
      | zero => intro x3_17 x2_18 ls h0 hl; cases h0
      | succ F12 ih12 =>
        intro x3_17 x2_18 ls h0 hl
        rw [mX10_isRing_L12] at h0
        refine lv_iload_n hx hb dX10_isRing_12 rfl (lv_at hl 0 rfl) ?_
        refine lv_aload_n hx hb dX10_isRing_13 rfl (lv_at hl 2 rfl) ?_
        refine va_get (D := D) (ci := 7) (v := .ref h_s) (C := RX10) (T := TX10) (N := 14) hx hb hts hi_X10 hown hK hP 0 rfl rfl 0 (by decide) hf_7 (fun _ h9 => h9) rfl dX10_isRing_14 ?_
        refine lv_iconst (v := 0) hx hb dX10_isRing_17 (by decide) ?_
        refine va_iald hx hb hK hP 1 0 rfl rfl (by unfold vp_in; decide) dX10_isRing_18 ?_
        refine lv_icmp_ge (tgt := 99) hx hb dX10_isRing_19 (by decide) (fun c9 => ?_) (fun c9 => ?_)
        · have h0 := it_t c9 h0
          exact E_12_99_15 x3_17 x2_18 ls h0 hl
        · have h0 := it_f c9 h0
          refine lv_iconst (v := 0) hx hb dX10_isRing_22 (by decide) ?_
          refine lv_istore (lv' := [(4, .int 0), (3, .int x3_17), (2, .int x2_18), (0, .ref h), (1, .int p1)]) hx hb dX10_isRing_23 hl (by decide) rfl (fun ls hl => ?_)
          have E_25_93_20 : ∀ (x4_19 : Int32) (x2_20 : Int32) (ls : Array Slot), (mX10_isRing_L12 h_s_f p1 (fun (x3_14 : Int32) (x2_15 : Int32) => gd (nbz x2_15) (some (x2_15))) F12 (x3_17 + 1) x2_20) = some z → lv_has ls 6 [(4, .int x4_19), (3, .int x3_17), (2, .int x2_20), (0, .ref h), (1, .int p1)] → W p l e (headSpec wsX10_isRing ({ frames := 2, cells := 0, slots := 0, locals := 43 } : Room)).room s m (([.ref h, .int p1] : List Value).toArray) below meth c s.heap [] 0 0 (MQ below (rQ (some (.int z))) (([.ref h, .int p1] : List Value).toArray) s 0 0 (fun _ => False)) (F0 m 93 ls []) := by
            intro x4_19 x2_20 ls h0 hl
            refine lv_iinc (v := (x3_17 + 1)) (lv' := [(3, .int (x3_17 + 1)), (4, .int x4_19), (2, .int x2_20), (0, .ref h), (1, .int p1)]) hx hb dX10_isRing_93 hl (k := 1) rfl rfl (by decide) rfl (fun ls hl => ?_)
            refine lv_goto (tgt := 12) hx hb dX10_isRing_96 (by decide) ?_
            exact ih12 (x3_17 + 1) x2_20 ls h0 (lv_sub hl [0, 2, 3, 4] rfl)
          have L_25_24 : ∀ (F25 : Nat) (x4_22 : Int32) (x2_23 : Int32) (ls : Array Slot), mX10_isRing_L25 h_s_f p1 x3_17 (fun (x4_19 : Int32) (x2_20 : Int32) => mX10_isRing_L12 h_s_f p1 (fun (x3_14 : Int32) (x2_15 : Int32) => gd (nbz x2_15) (some (x2_15))) F12 (x3_17 + 1) x2_20) F25 x4_22 x2_23 = some z → lv_has ls 6 [(4, .int x4_22), (3, .int x3_17), (2, .int x2_23), (0, .ref h), (1, .int p1)] → W p l e (headSpec wsX10_isRing ({ frames := 2, cells := 0, slots := 0, locals := 43 } : Room)).room s m (([.ref h, .int p1] : List Value).toArray) below meth c s.heap [] 0 0 (MQ below (rQ (some (.int z))) (([.ref h, .int p1] : List Value).toArray) s 0 0 (fun _ => False)) (F0 m 25 ls []) := by
            intro F25
            induction F25 with
            | zero => intro x4_22 x2_23 ls h0 hl; cases h0
            | succ F25 ih25 =>
              intro x4_22 x2_23 ls h0 hl
              rw [mX10_isRing_L25] at h0
              refine lv_iload hx hb dX10_isRing_25 (lv_at hl 0 rfl) ?_
              refine lv_aload_n hx hb dX10_isRing_27 rfl (lv_at hl 3 rfl) ?_
              refine va_get (D := D) (ci := 7) (v := .ref h_s) (C := RX10) (T := TX10) (N := 14) hx hb hts hi_X10 hown hK hP 0 rfl rfl 0 (by decide) hf_7 (fun _ h9 => h9) rfl dX10_isRing_28 ?_
              refine lv_iconst (v := 0) hx hb dX10_isRing_31 (by decide) ?_
              refine va_iald hx hb hK hP 1 0 rfl rfl (by unfold vp_in; decide) dX10_isRing_32 ?_
              refine lv_icmp_ge (tgt := 93) hx hb dX10_isRing_33 (by decide) (fun c9 => ?_) (fun c9 => ?_)
              · have h0 := it_t c9 h0
                exact E_25_93_20 x4_22 x2_23 ls h0 hl
              · have h0 := it_f c9 h0
                refine lv_iload_n hx hb dX10_isRing_36 rfl (lv_at hl 4 rfl) ?_
                refine lv_iload_n hx hb dX10_isRing_37 rfl (lv_at hl 1 rfl) ?_
                refine lv_ishr hx hb dX10_isRing_38 ?_
                refine lv_iload_n hx hb dX10_isRing_39 rfl (lv_at hl 4 rfl) ?_
                refine lv_iload hx hb dX10_isRing_40 (lv_at hl 0 rfl) ?_
                refine lv_ishr hx hb dX10_isRing_42 ?_
                refine lv_iand hx hb dX10_isRing_43 ?_
                refine lv_iconst (v := 1) hx hb dX10_isRing_44 (by decide) ?_
                refine lv_iand hx hb dX10_isRing_45 ?_
                refine lv_iconst (v := 1) hx hb dX10_isRing_46 (by decide) ?_
                refine lv_icmp_ne (tgt := 54) hx hb dX10_isRing_47 (by decide) (fun c9 => ?_) (fun c9 => ?_)
                · have h0 := it_f c9 h0
                  refine lv_iconst (v := 0) hx hb dX10_isRing_54 (by decide) ?_
                  refine lv_istore (lv' := [(5, .int 0), (4, .int x4_22), (3, .int x3_17), (2, .int x2_23), (0, .ref h), (1, .int p1)]) hx hb dX10_isRing_55 hl (by decide) rfl (fun ls hl => ?_)
                  refine lv_iload_n hx hb dX10_isRing_57 rfl (lv_at hl 3 rfl) ?_
                  refine lv_if_eq (tgt := 85) hx hb dX10_isRing_58 (by decide) (fun c9 => ?_) (fun c9 => ?_)
                  · have h0 := it_t c9 h0
                    refine lv_iconst (v := 0) hx hb dX10_isRing_85 (by decide) ?_
                    refine lv_istore_n (lv' := [(2, .int 0), (5, .int 0), (4, .int x4_22), (3, .int x3_17), (0, .ref h), (1, .int p1)]) hx hb dX10_isRing_86 rfl hl (by decide) rfl (fun ls hl => ?_)
                    refine lv_iinc (v := (x4_22 + 1)) (lv' := [(4, .int (x4_22 + 1)), (2, .int 0), (5, .int 0), (3, .int x3_17), (0, .ref h), (1, .int p1)]) hx hb dX10_isRing_87 hl (k := 2) rfl rfl (by decide) rfl (fun ls hl => ?_)
                    refine lv_goto (tgt := 25) hx hb dX10_isRing_90 (by decide) ?_
                    exact ih25 (x4_22 + 1) 0 ls h0 (lv_sub hl [0, 3, 1, 4, 5] rfl)
                  · have h0 := it_f c9 h0
                    refine lv_iload hx hb dX10_isRing_61 (lv_at hl 0 rfl) ?_
                    refine lv_if_eq (tgt := 81) hx hb dX10_isRing_63 (by decide) (fun _ => ?_) (fun c9 => absurd (by decide) c9)
                    refine lv_iconst (v := 1) hx hb dX10_isRing_81 (by decide) ?_
                    refine lv_goto (tgt := 86) hx hb dX10_isRing_82 (by decide) ?_
                    refine lv_istore_n (lv' := [(2, .int 1), (5, .int 0), (4, .int x4_22), (3, .int x3_17), (0, .ref h), (1, .int p1)]) hx hb dX10_isRing_86 rfl hl (by decide) rfl (fun ls hl => ?_)
                    refine lv_iinc (v := (x4_22 + 1)) (lv' := [(4, .int (x4_22 + 1)), (2, .int 1), (5, .int 0), (3, .int x3_17), (0, .ref h), (1, .int p1)]) hx hb dX10_isRing_87 hl (k := 2) rfl rfl (by decide) rfl (fun ls hl => ?_)
                    refine lv_goto (tgt := 25) hx hb dX10_isRing_90 (by decide) ?_
                    exact ih25 (x4_22 + 1) 1 ls h0 (lv_sub hl [0, 3, 1, 4, 5] rfl)
                · have h0 := it_t c9 h0
                  refine lv_iconst (v := 1) hx hb dX10_isRing_50 (by decide) ?_
                  refine lv_goto (tgt := 55) hx hb dX10_isRing_51 (by decide) ?_
                  refine lv_istore (lv' := [(5, .int 1), (4, .int x4_22), (3, .int x3_17), (2, .int x2_23), (0, .ref h), (1, .int p1)]) hx hb dX10_isRing_55 hl (by decide) rfl (fun ls hl => ?_)
                  refine lv_iload_n hx hb dX10_isRing_57 rfl (lv_at hl 3 rfl) ?_
                  refine lv_if_eq (tgt := 85) hx hb dX10_isRing_58 (by decide) (fun c9 => ?_) (fun c9 => ?_)
                  · have h0 := it_t c9 h0
                    refine lv_iconst (v := 0) hx hb dX10_isRing_85 (by decide) ?_
                    refine lv_istore_n (lv' := [(2, .int 0), (5, .int 1), (4, .int x4_22), (3, .int x3_17), (0, .ref h), (1, .int p1)]) hx hb dX10_isRing_86 rfl hl (by decide) rfl (fun ls hl => ?_)
                    refine lv_iinc (v := (x4_22 + 1)) (lv' := [(4, .int (x4_22 + 1)), (2, .int 0), (5, .int 1), (3, .int x3_17), (0, .ref h), (1, .int p1)]) hx hb dX10_isRing_87 hl (k := 2) rfl rfl (by decide) rfl (fun ls hl => ?_)
                    refine lv_goto (tgt := 25) hx hb dX10_isRing_90 (by decide) ?_
                    exact ih25 (x4_22 + 1) 0 ls h0 (lv_sub hl [0, 3, 1, 4, 5] rfl)
                  · have h0 := it_f c9 h0
                    refine lv_iload hx hb dX10_isRing_61 (lv_at hl 0 rfl) ?_
                    refine lv_if_eq (tgt := 81) hx hb dX10_isRing_63 (by decide) (fun c9 => absurd c9 (by decide)) (fun _ => ?_)
                    refine lv_iload_n hx hb dX10_isRing_66 rfl (lv_at hl 5 rfl) ?_
                    refine lv_aload_n hx hb dX10_isRing_67 rfl (lv_at hl 4 rfl) ?_
                    refine lv_iload_n hx hb dX10_isRing_68 rfl (lv_at hl 2 rfl) ?_
                    refine lv_iload hx hb dX10_isRing_69 (lv_at hl 1 rfl) ?_
                    obtain ⟨z_24, hz, h0⟩ := bd_ok h0
                    refine ro_V (As := [.int x3_17, .int x4_22]) (rest := [.int p1]) (wc := [(h, .inr (7, [.ref h_s, .ref h_aside, .ref h_past, .int h_pasts, .ref h_snapshot, .int h_isKept, .ref h_pad, .int h_length, .ref h_steps, .int h_many, .int h_value, .ref h_summed, .ref h_plus, .ref h_parts])), (h_s, .inl (cI, 65, .inl h_s_f)), (h_aside, .inl (cI, 65, .inl h_aside_f)), (h_past, .inl (cI, 260, .inl h_past_f)), (h_snapshot, .inl (cI, 65, .inl h_snapshot_f)), (h_pad, .inl (cI, 80, .inl h_pad_f)), (h_steps, .inl (cI, 320, .inl h_steps_f)), (h_summed, .inl (cI, 81, .inl h_summed_f)), (h_plus, .inl (cI, 81, .inl h_plus_f)), (h_parts, .inl (cI, 392, .inl h_parts_f))]) hcf (kX10_plain l D cI cC cT h h_s h_aside h_past h_snapshot h_pad h_steps h_summed h_plus h_parts h_s_f h_aside_f h_past_f h_pasts h_snapshot_f h_isKept h_pad_f h_length h_steps_f h_many h_value h_summed_f h_plus_f h_parts_f x3_17 x4_22 z_24 hz) (cwV 2 hts gX10_isRing_X10_plain rfl rfl rfl (by decide +kernel) ⟨Nat.le_of_ble_eq_true rfl, Nat.le_of_ble_eq_true rfl⟩) hE (hP.sub [0, 1, 2, 3, 4, 5, 6, 7, 8, 9] rfl) (va_recv hK hP (ci := 7) (q0 := 0) rfl rfl) rfl hl.1 rfl (Nat.le_of_ble_eq_true rfl) dX10_isRing_71 ⟨Nat.le_of_ble_eq_true rfl, Nat.le_of_ble_eq_true rfl⟩ ?_
                    refine W.eq (g2 := F0 m 74 ls [.int z_24, .int p1]) rfl ?_
                    refine lv_ishr hx hb dX10_isRing_74 ?_
                    refine lv_iconst (v := 1) hx hb dX10_isRing_75 (by decide) ?_
                    refine lv_iand hx hb dX10_isRing_76 ?_
                    refine lv_iconst (v := 1) hx hb dX10_isRing_77 (by decide) ?_
                    refine lv_icmp_ne (tgt := 85) hx hb dX10_isRing_78 (by decide) (fun c9 => ?_) (fun c9 => ?_)
                    · have h0 := it_f c9 h0
                      refine lv_iconst (v := 0) hx hb dX10_isRing_85 (by decide) ?_
                      refine lv_istore_n (lv' := [(2, .int 0), (5, .int 1), (4, .int x4_22), (3, .int x3_17), (0, .ref h), (1, .int p1)]) hx hb dX10_isRing_86 rfl hl (by decide) rfl (fun ls hl => ?_)
                      refine lv_iinc (v := (x4_22 + 1)) (lv' := [(4, .int (x4_22 + 1)), (2, .int 0), (5, .int 1), (3, .int x3_17), (0, .ref h), (1, .int p1)]) hx hb dX10_isRing_87 hl (k := 2) rfl rfl (by decide) rfl (fun ls hl => ?_)
                      refine lv_goto (tgt := 25) hx hb dX10_isRing_90 (by decide) ?_
                      exact ih25 (x4_22 + 1) 0 ls h0 (lv_sub hl [0, 3, 1, 4, 5] rfl)
                    · have h0 := it_t c9 h0
                      refine lv_iconst (v := 1) hx hb dX10_isRing_81 (by decide) ?_
                      refine lv_goto (tgt := 86) hx hb dX10_isRing_82 (by decide) ?_
                      refine lv_istore_n (lv' := [(2, .int 1), (5, .int 1), (4, .int x4_22), (3, .int x3_17), (0, .ref h), (1, .int p1)]) hx hb dX10_isRing_86 rfl hl (by decide) rfl (fun ls hl => ?_)
                      refine lv_iinc (v := (x4_22 + 1)) (lv' := [(4, .int (x4_22 + 1)), (2, .int 1), (5, .int 1), (3, .int x3_17), (0, .ref h), (1, .int p1)]) hx hb dX10_isRing_87 hl (k := 2) rfl rfl (by decide) rfl (fun ls hl => ?_)
                      refine lv_goto (tgt := 25) hx hb dX10_isRing_90 (by decide) ?_
                      exact ih25 (x4_22 + 1) 1 ls h0 (lv_sub hl [0, 3, 1, 4, 5] rfl)
          exact L_25_24 FU 0 x2_18 ls h0 hl
    exact L_12_25 FU 0 1 ls h0 hl
noncomputable def mX10_rings_L4 (h_s_f : Nat → Int32) (k4_38 : Int32 → Int32 → Option (Int32)) : Nat → Int32 → Int32 → Option (Int32)
  | 0, _, _ => none
  | F + 1, x2_4, x1_5 => if ((1 : Int32) <<< ((h_s_f (0 : Int32).toNatClampNeg) &&& 31)) ≤ x2_4 then (k4_38 x2_4 x1_5) else (bd (mX10_isRing h_s_f x2_4) (fun z_6 => if z_6 = 0 then (mX10_rings_L4 h_s_f k4_38 F (x2_4 + 1) (x1_5 + 0)) else (mX10_rings_L4 h_s_f k4_38 F (x2_4 + 1) (x1_5 + 1))))
noncomputable def mX10_rings (h_s_f : Nat → Int32) : Option (Int32) :=
  mX10_rings_L4 h_s_f (fun (x2_1 : Int32) (x1_2 : Int32) => some (x1_2)) FU 1 0
set_option maxHeartbeats 8000000 in
set_option maxRecDepth 100000 in
theorem kX10_rings (l : Launch) (D : va_G) (cI cC cT : ClassId) (h h_s h_aside h_past h_snapshot h_pad h_steps h_summed h_plus h_parts : Nat) (h_s_f : Nat → Int32) (h_aside_f : Nat → Int32) (h_past_f : Nat → Int32) (h_pasts : Int32) (h_snapshot_f : Nat → Int32) (h_isKept : Int32) (h_pad_f : Nat → Int32) (h_length : Int32) (h_steps_f : Nat → Int32) (h_many : Int32) (h_value : Int32) (h_summed_f : Nat → Int32) (h_plus_f : Nat → Int32) (h_parts_f : Nat → Int32) (z : Int32) (h0 : mX10_rings h_s_f = some z) : Met l yX10_rings wsX10_rings ({ frames := 3, cells := 0, slots := 0, locals := 68 } : Room) (va_Pc [.ref h] (rP D cI cC cT [(h, .inr (7, [.ref h_s, .ref h_aside, .ref h_past, .int h_pasts, .ref h_snapshot, .int h_isKept, .ref h_pad, .int h_length, .ref h_steps, .int h_many, .int h_value, .ref h_summed, .ref h_plus, .ref h_parts])), (h_s, .inl (cI, 65, .inl h_s_f)), (h_aside, .inl (cI, 65, .inl h_aside_f)), (h_past, .inl (cI, 260, .inl h_past_f)), (h_snapshot, .inl (cI, 65, .inl h_snapshot_f)), (h_pad, .inl (cI, 80, .inl h_pad_f)), (h_steps, .inl (cI, 320, .inl h_steps_f)), (h_summed, .inl (cI, 81, .inl h_summed_f)), (h_plus, .inl (cI, 81, .inl h_plus_f)), (h_parts, .inl (cI, 392, .inl h_parts_f))])) (rQ (some (.int z))) 0 0 (fun _ => False) := by
  refine Met.ofW (cc := cX10_rings) (maxL := 3) (ret := (some .int)) (by decide) rfl ?_
  intro p e s m args below meth c s₁ B hml hv
  obtain ⟨rfl, hP, hE⟩ := hv
  have hx := B.exec
  have hb := B.bytes
  have hr := B.returns
  have hts := atoms_spec (ws := wsX10_rings) B.pre
  have hown : s.vm.findClass RX10 = some m.cls := findClass_of_methodNamed B.named
  have hlocks := B.notSynchronized
  have hK := hE.1
  have hcf : CallFix p m c cX10_rings 3 s ([.ref h] : List Value).toArray wsX10_rings RX10 := ⟨hx, hb, hml, hown, hts⟩
  have hP : va_P D vwCl [(h, .inr (7, [.ref h_s, .ref h_aside, .ref h_past, .int h_pasts, .ref h_snapshot, .int h_isKept, .ref h_pad, .int h_length, .ref h_steps, .int h_many, .int h_value, .ref h_summed, .ref h_plus, .ref h_parts])), (h_s, .inl (cI, 65, .inl h_s_f)), (h_aside, .inl (cI, 65, .inl h_aside_f)), (h_past, .inl (cI, 260, .inl h_past_f)), (h_snapshot, .inl (cI, 65, .inl h_snapshot_f)), (h_pad, .inl (cI, 80, .inl h_pad_f)), (h_steps, .inl (cI, 320, .inl h_steps_f)), (h_summed, .inl (cI, 81, .inl h_summed_f)), (h_plus, .inl (cI, 81, .inl h_plus_f)), (h_parts, .inl (cI, 392, .inl h_parts_f))] s.heap := hP
  have hf_7 := hts (.fieldLink RX10 7 "CrookedSumsModel" "s" "[I") (by decide +kernel)
  have hi_X10 := (show ∀ w ∈ u_ws RX10 TX10 14, w ∈ wsX10_rings from by decide +kernel)
  have hl := lv_entry ([.ref h]) (n := 3) (Nat.le_of_ble_eq_true rfl)
  rw [lg_entry_eq]
  generalize (lg_sl ([.ref h]) ++ List.replicate (3 - (lg_sl ([.ref h])).length) Slot.unset).toArray = ls at hl ⊢
  have hl : lv_has ls 3 [(0, .ref h)] := hl
  unfold mX10_rings at h0
  refine lv_iconst (v := 0) hx hb dX10_rings_0 (by decide) ?_
  refine lv_istore_n (lv' := [(1, .int 0), (0, .ref h)]) hx hb dX10_rings_1 rfl hl (by decide) rfl (fun ls hl => ?_)
  refine lv_iconst (v := 1) hx hb dX10_rings_2 (by decide) ?_
  refine lv_istore_n (lv' := [(2, .int 1), (1, .int 0), (0, .ref h)]) hx hb dX10_rings_3 rfl hl (by decide) rfl (fun ls hl => ?_)
  have E_4_38_2 : ∀ (x2_1 : Int32) (x1_2 : Int32) (ls : Array Slot), (some (x1_2)) = some z → lv_has ls 3 [(2, .int x2_1), (1, .int x1_2), (0, .ref h)] → W p l e (headSpec wsX10_rings ({ frames := 3, cells := 0, slots := 0, locals := 68 } : Room)).room s m (([.ref h] : List Value).toArray) below meth c s.heap [] 0 0 (MQ below (rQ (some (.int z))) (([.ref h] : List Value).toArray) s 0 0 (fun _ => False)) (F0 m 38 ls []) := by
    intro x2_1 x1_2 ls h0 hl
    refine lv_iload_n hx hb dX10_rings_38 rfl (lv_at hl 1 rfl) ?_
    have e0 := Option.some.inj h0
    subst e0
    exact W.iret (v := x1_2) hx hb hr (fun t ht hW => ⟨rfl, ht⟩) (fun q hq => absurd hq List.not_mem_nil) dX10_rings_39
  have L_4_6 : ∀ (F4 : Nat) (x2_4 : Int32) (x1_5 : Int32) (ls : Array Slot), mX10_rings_L4 h_s_f (fun (x2_1 : Int32) (x1_2 : Int32) => some (x1_2)) F4 x2_4 x1_5 = some z → lv_has ls 3 [(2, .int x2_4), (1, .int x1_5), (0, .ref h)] → W p l e (headSpec wsX10_rings ({ frames := 3, cells := 0, slots := 0, locals := 68 } : Room)).room s m (([.ref h] : List Value).toArray) below meth c s.heap [] 0 0 (MQ below (rQ (some (.int z))) (([.ref h] : List Value).toArray) s 0 0 (fun _ => False)) (F0 m 4 ls []) := by
    intro F4
    induction F4 with
    | zero => intro x2_4 x1_5 ls h0 hl; cases h0
    | succ F4 ih4 =>
      intro x2_4 x1_5 ls h0 hl
      rw [mX10_rings_L4] at h0
      refine lv_iload_n hx hb dX10_rings_4 rfl (lv_at hl 0 rfl) ?_
      refine lv_iconst (v := 1) hx hb dX10_rings_5 (by decide) ?_
      refine lv_aload_n hx hb dX10_rings_6 rfl (lv_at hl 2 rfl) ?_
      refine va_get (D := D) (ci := 7) (v := .ref h_s) (C := RX10) (T := TX10) (N := 14) hx hb hts hi_X10 hown hK hP 0 rfl rfl 0 (by decide) hf_7 (fun _ h9 => h9) rfl dX10_rings_7 ?_
      refine lv_iconst (v := 0) hx hb dX10_rings_10 (by decide) ?_
      refine va_iald hx hb hK hP 1 0 rfl rfl (by unfold vp_in; decide) dX10_rings_11 ?_
      refine lv_ishl hx hb dX10_rings_12 ?_
      refine lv_icmp_ge (tgt := 38) hx hb dX10_rings_13 (by decide) (fun c9 => ?_) (fun c9 => ?_)
      · have h0 := it_t c9 h0
        exact E_4_38_2 x2_4 x1_5 ls h0 hl
      · have h0 := it_f c9 h0
        refine lv_iload_n hx hb dX10_rings_16 rfl (lv_at hl 1 rfl) ?_
        refine lv_aload_n hx hb dX10_rings_17 rfl (lv_at hl 2 rfl) ?_
        refine lv_iload_n hx hb dX10_rings_18 rfl (lv_at hl 0 rfl) ?_
        obtain ⟨z_6, hz, h0⟩ := bd_ok h0
        refine ro_V (As := [.int x2_4]) (rest := [.int x1_5]) (wc := [(h, .inr (7, [.ref h_s, .ref h_aside, .ref h_past, .int h_pasts, .ref h_snapshot, .int h_isKept, .ref h_pad, .int h_length, .ref h_steps, .int h_many, .int h_value, .ref h_summed, .ref h_plus, .ref h_parts])), (h_s, .inl (cI, 65, .inl h_s_f)), (h_aside, .inl (cI, 65, .inl h_aside_f)), (h_past, .inl (cI, 260, .inl h_past_f)), (h_snapshot, .inl (cI, 65, .inl h_snapshot_f)), (h_pad, .inl (cI, 80, .inl h_pad_f)), (h_steps, .inl (cI, 320, .inl h_steps_f)), (h_summed, .inl (cI, 81, .inl h_summed_f)), (h_plus, .inl (cI, 81, .inl h_plus_f)), (h_parts, .inl (cI, 392, .inl h_parts_f))]) hcf (kX10_isRing l D cI cC cT h h_s h_aside h_past h_snapshot h_pad h_steps h_summed h_plus h_parts h_s_f h_aside_f h_past_f h_pasts h_snapshot_f h_isKept h_pad_f h_length h_steps_f h_many h_value h_summed_f h_plus_f h_parts_f x2_4 z_6 hz) (cwV 1 hts gX10_rings_X10_isRing rfl rfl rfl (by decide +kernel) ⟨Nat.le_of_ble_eq_true rfl, Nat.le_of_ble_eq_true rfl⟩) hE (hP.sub [0, 1, 2, 3, 4, 5, 6, 7, 8, 9] rfl) (va_recv hK hP (ci := 7) (q0 := 0) rfl rfl) rfl hl.1 rfl (Nat.le_of_ble_eq_true rfl) dX10_rings_19 ⟨Nat.le_of_ble_eq_true rfl, Nat.le_of_ble_eq_true rfl⟩ ?_
        refine W.eq (g2 := F0 m 22 ls [.int z_6, .int x1_5]) rfl ?_
        refine lv_if_eq (tgt := 29) hx hb dX10_rings_22 (by decide) (fun c9 => ?_) (fun c9 => ?_)
        · have h0 := it_t c9 h0
          refine lv_iconst (v := 0) hx hb dX10_rings_29 (by decide) ?_
          refine lv_iadd hx hb dX10_rings_30 ?_
          refine lv_istore_n (lv' := [(1, .int (x1_5 + 0)), (2, .int x2_4), (0, .ref h)]) hx hb dX10_rings_31 rfl hl (by decide) rfl (fun ls hl => ?_)
          refine lv_iinc (v := (x2_4 + 1)) (lv' := [(2, .int (x2_4 + 1)), (1, .int (x1_5 + 0)), (0, .ref h)]) hx hb dX10_rings_32 hl (k := 1) rfl rfl (by decide) rfl (fun ls hl => ?_)
          refine lv_goto (tgt := 4) hx hb dX10_rings_35 (by decide) ?_
          exact ih4 (x2_4 + 1) (x1_5 + 0) ls h0 hl
        · have h0 := it_f c9 h0
          refine lv_iconst (v := 1) hx hb dX10_rings_25 (by decide) ?_
          refine lv_goto (tgt := 30) hx hb dX10_rings_26 (by decide) ?_
          refine lv_iadd hx hb dX10_rings_30 ?_
          refine lv_istore_n (lv' := [(1, .int (x1_5 + 1)), (2, .int x2_4), (0, .ref h)]) hx hb dX10_rings_31 rfl hl (by decide) rfl (fun ls hl => ?_)
          refine lv_iinc (v := (x2_4 + 1)) (lv' := [(2, .int (x2_4 + 1)), (1, .int (x1_5 + 1)), (0, .ref h)]) hx hb dX10_rings_32 hl (k := 1) rfl rfl (by decide) rfl (fun ls hl => ?_)
          refine lv_goto (tgt := 4) hx hb dX10_rings_35 (by decide) ?_
          exact ih4 (x2_4 + 1) (x1_5 + 1) ls h0 hl
  exact L_4_6 FU 1 0 ls h0 hl
noncomputable def mX10_ringOf_L13 (h_s_f : Nat → Int32) (p1 : Int32) (k13_76 : Int32 → Int32 → Option (Int32)) : Nat → Int32 → Int32 → Option (Int32)
  | 0, _, _ => none
  | F + 1, x3_4, x2_5 => if ((1 : Int32) <<< ((h_s_f (0 : Int32).toNatClampNeg) &&& 31)) ≤ x3_4 then (k13_76 x3_4 x2_5) else (if (p1 &&& (x3_4 ^^^ (-1))) = 0 then (bd (mX10_bits x3_4) (fun z_6 => bd (mX10_bits x2_5) (fun z_7 => if z_7 ≤ z_6 then (mX10_ringOf_L13 h_s_f p1 k13_76 F (x3_4 + 1) x2_5) else (bd (mX10_isRing h_s_f x3_4) (fun z_8 => if z_8 = 0 then (mX10_ringOf_L13 h_s_f p1 k13_76 F (x3_4 + 1) x2_5) else (mX10_ringOf_L13 h_s_f p1 k13_76 F (x3_4 + 1) x3_4)))))) else (mX10_ringOf_L13 h_s_f p1 k13_76 F (x3_4 + 1) x2_5))
noncomputable def mX10_ringOf (h_s_f : Nat → Int32) (p1 : Int32) : Option (Int32) :=
  mX10_ringOf_L13 h_s_f p1 (fun (x3_1 : Int32) (x2_2 : Int32) => some (x2_2)) FU 1 (((1 : Int32) <<< ((h_s_f (0 : Int32).toNatClampNeg) &&& 31)) - 1)
set_option maxHeartbeats 8000000 in
set_option maxRecDepth 100000 in
theorem kX10_ringOf (l : Launch) (D : va_G) (cI cC cT : ClassId) (h h_s h_aside h_past h_snapshot h_pad h_steps h_summed h_plus h_parts : Nat) (h_s_f : Nat → Int32) (h_aside_f : Nat → Int32) (h_past_f : Nat → Int32) (h_pasts : Int32) (h_snapshot_f : Nat → Int32) (h_isKept : Int32) (h_pad_f : Nat → Int32) (h_length : Int32) (h_steps_f : Nat → Int32) (h_many : Int32) (h_value : Int32) (h_summed_f : Nat → Int32) (h_plus_f : Nat → Int32) (h_parts_f : Nat → Int32) (p1 : Int32) (z : Int32) (h0 : mX10_ringOf h_s_f p1 = some z) : Met l yX10_ringOf wsX10_ringOf ({ frames := 3, cells := 0, slots := 0, locals := 68 } : Room) (va_Pc [.ref h, .int p1] (rP D cI cC cT [(h, .inr (7, [.ref h_s, .ref h_aside, .ref h_past, .int h_pasts, .ref h_snapshot, .int h_isKept, .ref h_pad, .int h_length, .ref h_steps, .int h_many, .int h_value, .ref h_summed, .ref h_plus, .ref h_parts])), (h_s, .inl (cI, 65, .inl h_s_f)), (h_aside, .inl (cI, 65, .inl h_aside_f)), (h_past, .inl (cI, 260, .inl h_past_f)), (h_snapshot, .inl (cI, 65, .inl h_snapshot_f)), (h_pad, .inl (cI, 80, .inl h_pad_f)), (h_steps, .inl (cI, 320, .inl h_steps_f)), (h_summed, .inl (cI, 81, .inl h_summed_f)), (h_plus, .inl (cI, 81, .inl h_plus_f)), (h_parts, .inl (cI, 392, .inl h_parts_f))])) (rQ (some (.int z))) 0 0 (fun _ => False) := by
  refine Met.ofW (cc := cX10_ringOf) (maxL := 5) (ret := (some .int)) (by decide) rfl ?_
  intro p e s m args below meth c s₁ B hml hv
  obtain ⟨rfl, hP, hE⟩ := hv
  have hx := B.exec
  have hb := B.bytes
  have hr := B.returns
  have hts := atoms_spec (ws := wsX10_ringOf) B.pre
  have hown : s.vm.findClass RX10 = some m.cls := findClass_of_methodNamed B.named
  have hlocks := B.notSynchronized
  have hK := hE.1
  have hcf : CallFix p m c cX10_ringOf 5 s ([.ref h, .int p1] : List Value).toArray wsX10_ringOf RX10 := ⟨hx, hb, hml, hown, hts⟩
  have hP : va_P D vwCl [(h, .inr (7, [.ref h_s, .ref h_aside, .ref h_past, .int h_pasts, .ref h_snapshot, .int h_isKept, .ref h_pad, .int h_length, .ref h_steps, .int h_many, .int h_value, .ref h_summed, .ref h_plus, .ref h_parts])), (h_s, .inl (cI, 65, .inl h_s_f)), (h_aside, .inl (cI, 65, .inl h_aside_f)), (h_past, .inl (cI, 260, .inl h_past_f)), (h_snapshot, .inl (cI, 65, .inl h_snapshot_f)), (h_pad, .inl (cI, 80, .inl h_pad_f)), (h_steps, .inl (cI, 320, .inl h_steps_f)), (h_summed, .inl (cI, 81, .inl h_summed_f)), (h_plus, .inl (cI, 81, .inl h_plus_f)), (h_parts, .inl (cI, 392, .inl h_parts_f))] s.heap := hP
  have hf_7 := hts (.fieldLink RX10 7 "CrookedSumsModel" "s" "[I") (by decide +kernel)
  have hi_X10 := (show ∀ w ∈ u_ws RX10 TX10 14, w ∈ wsX10_ringOf from by decide +kernel)
  have hl := lv_entry ([.ref h, .int p1]) (n := 5) (Nat.le_of_ble_eq_true rfl)
  rw [lg_entry_eq]
  generalize (lg_sl ([.ref h, .int p1]) ++ List.replicate (5 - (lg_sl ([.ref h, .int p1])).length) Slot.unset).toArray = ls at hl ⊢
  have hl : lv_has ls 5 [(0, .ref h), (1, .int p1)] := hl
  unfold mX10_ringOf at h0
  refine lv_iconst (v := 1) hx hb dX10_ringOf_0 (by decide) ?_
  refine lv_aload_n hx hb dX10_ringOf_1 rfl (lv_at hl 0 rfl) ?_
  refine va_get (D := D) (ci := 7) (v := .ref h_s) (C := RX10) (T := TX10) (N := 14) hx hb hts hi_X10 hown hK hP 0 rfl rfl 0 (by decide) hf_7 (fun _ h9 => h9) rfl dX10_ringOf_2 ?_
  refine lv_iconst (v := 0) hx hb dX10_ringOf_5 (by decide) ?_
  refine va_iald hx hb hK hP 1 0 rfl rfl (by unfold vp_in; decide) dX10_ringOf_6 ?_
  refine lv_ishl hx hb dX10_ringOf_7 ?_
  refine lv_iconst (v := 1) hx hb dX10_ringOf_8 (by decide) ?_
  refine lv_isub hx hb dX10_ringOf_9 ?_
  refine lv_istore_n (lv' := [(2, .int (((1 : Int32) <<< ((h_s_f (0 : Int32).toNatClampNeg) &&& 31)) - 1)), (0, .ref h), (1, .int p1)]) hx hb dX10_ringOf_10 rfl hl (by decide) rfl (fun ls hl => ?_)
  refine lv_iconst (v := 1) hx hb dX10_ringOf_11 (by decide) ?_
  refine lv_istore_n (lv' := [(3, .int 1), (2, .int (((1 : Int32) <<< ((h_s_f (0 : Int32).toNatClampNeg) &&& 31)) - 1)), (0, .ref h), (1, .int p1)]) hx hb dX10_ringOf_12 rfl hl (by decide) rfl (fun ls hl => ?_)
  have E_13_76_2 : ∀ (x3_1 : Int32) (x2_2 : Int32) (ls : Array Slot), (some (x2_2)) = some z → lv_has ls 5 [(3, .int x3_1), (2, .int x2_2), (0, .ref h), (1, .int p1)] → W p l e (headSpec wsX10_ringOf ({ frames := 3, cells := 0, slots := 0, locals := 68 } : Room)).room s m (([.ref h, .int p1] : List Value).toArray) below meth c s.heap [] 0 0 (MQ below (rQ (some (.int z))) (([.ref h, .int p1] : List Value).toArray) s 0 0 (fun _ => False)) (F0 m 76 ls []) := by
    intro x3_1 x2_2 ls h0 hl
    refine lv_iload_n hx hb dX10_ringOf_76 rfl (lv_at hl 1 rfl) ?_
    have e0 := Option.some.inj h0
    subst e0
    exact W.iret (v := x2_2) hx hb hr (fun t ht hW => ⟨rfl, ht⟩) (fun q hq => absurd hq List.not_mem_nil) dX10_ringOf_77
  have L_13_8 : ∀ (F13 : Nat) (x3_4 : Int32) (x2_5 : Int32) (ls : Array Slot), mX10_ringOf_L13 h_s_f p1 (fun (x3_1 : Int32) (x2_2 : Int32) => some (x2_2)) F13 x3_4 x2_5 = some z → lv_has ls 5 [(3, .int x3_4), (2, .int x2_5), (0, .ref h), (1, .int p1)] → W p l e (headSpec wsX10_ringOf ({ frames := 3, cells := 0, slots := 0, locals := 68 } : Room)).room s m (([.ref h, .int p1] : List Value).toArray) below meth c s.heap [] 0 0 (MQ below (rQ (some (.int z))) (([.ref h, .int p1] : List Value).toArray) s 0 0 (fun _ => False)) (F0 m 13 ls []) := by
    intro F13
    induction F13 with
    | zero => intro x3_4 x2_5 ls h0 hl; cases h0
    | succ F13 ih13 =>
      intro x3_4 x2_5 ls h0 hl
      rw [mX10_ringOf_L13] at h0
      refine lv_iload_n hx hb dX10_ringOf_13 rfl (lv_at hl 0 rfl) ?_
      refine lv_iconst (v := 1) hx hb dX10_ringOf_14 (by decide) ?_
      refine lv_aload_n hx hb dX10_ringOf_15 rfl (lv_at hl 2 rfl) ?_
      refine va_get (D := D) (ci := 7) (v := .ref h_s) (C := RX10) (T := TX10) (N := 14) hx hb hts hi_X10 hown hK hP 0 rfl rfl 0 (by decide) hf_7 (fun _ h9 => h9) rfl dX10_ringOf_16 ?_
      refine lv_iconst (v := 0) hx hb dX10_ringOf_19 (by decide) ?_
      refine va_iald hx hb hK hP 1 0 rfl rfl (by unfold vp_in; decide) dX10_ringOf_20 ?_
      refine lv_ishl hx hb dX10_ringOf_21 ?_
      refine lv_icmp_ge (tgt := 76) hx hb dX10_ringOf_22 (by decide) (fun c9 => ?_) (fun c9 => ?_)
      · have h0 := it_t c9 h0
        exact E_13_76_2 x3_4 x2_5 ls h0 hl
      · have h0 := it_f c9 h0
        refine lv_iload_n hx hb dX10_ringOf_25 rfl (lv_at hl 3 rfl) ?_
        refine lv_iload_n hx hb dX10_ringOf_26 rfl (lv_at hl 0 rfl) ?_
        refine lv_iconst (v := (-1)) hx hb dX10_ringOf_27 (by decide) ?_
        refine lv_ixor hx hb dX10_ringOf_28 ?_
        refine lv_iand hx hb dX10_ringOf_29 ?_
        refine lv_if_ne (tgt := 56) hx hb dX10_ringOf_30 (by decide) (fun c9 => ?_) (fun c9 => ?_)
        · have h0 := it_f c9 h0
          refine lv_iconst (v := 0) hx hb dX10_ringOf_56 (by decide) ?_
          refine lv_istore (lv' := [(4, .int 0), (3, .int x3_4), (2, .int x2_5), (0, .ref h), (1, .int p1)]) hx hb dX10_ringOf_57 hl (by decide) rfl (fun ls hl => ?_)
          refine lv_iload hx hb dX10_ringOf_59 (lv_at hl 0 rfl) ?_
          refine lv_if_eq (tgt := 68) hx hb dX10_ringOf_61 (by decide) (fun _ => ?_) (fun c9 => absurd (by decide) c9)
          refine lv_iload_n hx hb dX10_ringOf_68 rfl (lv_at hl 2 rfl) ?_
          refine lv_istore_n (lv' := [(2, .int x2_5), (4, .int 0), (3, .int x3_4), (0, .ref h), (1, .int p1)]) hx hb dX10_ringOf_69 rfl hl (by decide) rfl (fun ls hl => ?_)
          refine lv_iinc (v := (x3_4 + 1)) (lv' := [(3, .int (x3_4 + 1)), (2, .int x2_5), (4, .int 0), (0, .ref h), (1, .int p1)]) hx hb dX10_ringOf_70 hl (k := 2) rfl rfl (by decide) rfl (fun ls hl => ?_)
          refine lv_goto (tgt := 13) hx hb dX10_ringOf_73 (by decide) ?_
          exact ih13 (x3_4 + 1) x2_5 ls h0 (lv_sub hl [0, 1, 3, 4] rfl)
        · have h0 := it_t c9 h0
          refine lv_iload_n hx hb dX10_ringOf_33 rfl (lv_at hl 0 rfl) ?_
          obtain ⟨z_6, hz, h0⟩ := bd_ok h0
          refine ro_S (As := [.int x3_4]) (rest := []) (wc := []) hcf (kX10_bits l D cI cC cT x3_4 z_6 hz) (va_cwS 1 hts gX10_ringOf_X10_bits rfl rfl rfl (by decide +kernel) ⟨Nat.le_of_ble_eq_true rfl, Nat.le_of_ble_eq_true rfl⟩) hE (hP.sub [] rfl) rfl hl.1 rfl (Nat.le_of_ble_eq_true rfl) dX10_ringOf_34 ⟨Nat.le_of_ble_eq_true rfl, Nat.le_of_ble_eq_true rfl⟩ ?_
          refine W.eq (g2 := F0 m 37 ls [.int z_6]) rfl ?_
          refine lv_iload_n hx hb dX10_ringOf_37 rfl (lv_at hl 1 rfl) ?_
          obtain ⟨z_7, hz, h0⟩ := bd_ok h0
          refine ro_S (As := [.int x2_5]) (rest := [.int z_6]) (wc := []) hcf (kX10_bits l D cI cC cT x2_5 z_7 hz) (va_cwS 1 hts gX10_ringOf_X10_bits rfl rfl rfl (by decide +kernel) ⟨Nat.le_of_ble_eq_true rfl, Nat.le_of_ble_eq_true rfl⟩) hE (hP.sub [] rfl) rfl hl.1 rfl (Nat.le_of_ble_eq_true rfl) dX10_ringOf_38 ⟨Nat.le_of_ble_eq_true rfl, Nat.le_of_ble_eq_true rfl⟩ ?_
          refine W.eq (g2 := F0 m 41 ls [.int z_7, .int z_6]) rfl ?_
          refine lv_icmp_ge (tgt := 56) hx hb dX10_ringOf_41 (by decide) (fun c9 => ?_) (fun c9 => ?_)
          · have h0 := it_t c9 h0
            refine lv_iconst (v := 0) hx hb dX10_ringOf_56 (by decide) ?_
            refine lv_istore (lv' := [(4, .int 0), (3, .int x3_4), (2, .int x2_5), (0, .ref h), (1, .int p1)]) hx hb dX10_ringOf_57 hl (by decide) rfl (fun ls hl => ?_)
            refine lv_iload hx hb dX10_ringOf_59 (lv_at hl 0 rfl) ?_
            refine lv_if_eq (tgt := 68) hx hb dX10_ringOf_61 (by decide) (fun _ => ?_) (fun c9 => absurd (by decide) c9)
            refine lv_iload_n hx hb dX10_ringOf_68 rfl (lv_at hl 2 rfl) ?_
            refine lv_istore_n (lv' := [(2, .int x2_5), (4, .int 0), (3, .int x3_4), (0, .ref h), (1, .int p1)]) hx hb dX10_ringOf_69 rfl hl (by decide) rfl (fun ls hl => ?_)
            refine lv_iinc (v := (x3_4 + 1)) (lv' := [(3, .int (x3_4 + 1)), (2, .int x2_5), (4, .int 0), (0, .ref h), (1, .int p1)]) hx hb dX10_ringOf_70 hl (k := 2) rfl rfl (by decide) rfl (fun ls hl => ?_)
            refine lv_goto (tgt := 13) hx hb dX10_ringOf_73 (by decide) ?_
            exact ih13 (x3_4 + 1) x2_5 ls h0 (lv_sub hl [0, 1, 3, 4] rfl)
          · have h0 := it_f c9 h0
            refine lv_aload_n hx hb dX10_ringOf_44 rfl (lv_at hl 2 rfl) ?_
            refine lv_iload_n hx hb dX10_ringOf_45 rfl (lv_at hl 0 rfl) ?_
            obtain ⟨z_8, hz, h0⟩ := bd_ok h0
            refine ro_V (As := [.int x3_4]) (rest := []) (wc := [(h, .inr (7, [.ref h_s, .ref h_aside, .ref h_past, .int h_pasts, .ref h_snapshot, .int h_isKept, .ref h_pad, .int h_length, .ref h_steps, .int h_many, .int h_value, .ref h_summed, .ref h_plus, .ref h_parts])), (h_s, .inl (cI, 65, .inl h_s_f)), (h_aside, .inl (cI, 65, .inl h_aside_f)), (h_past, .inl (cI, 260, .inl h_past_f)), (h_snapshot, .inl (cI, 65, .inl h_snapshot_f)), (h_pad, .inl (cI, 80, .inl h_pad_f)), (h_steps, .inl (cI, 320, .inl h_steps_f)), (h_summed, .inl (cI, 81, .inl h_summed_f)), (h_plus, .inl (cI, 81, .inl h_plus_f)), (h_parts, .inl (cI, 392, .inl h_parts_f))]) hcf (kX10_isRing l D cI cC cT h h_s h_aside h_past h_snapshot h_pad h_steps h_summed h_plus h_parts h_s_f h_aside_f h_past_f h_pasts h_snapshot_f h_isKept h_pad_f h_length h_steps_f h_many h_value h_summed_f h_plus_f h_parts_f x3_4 z_8 hz) (cwV 1 hts gX10_ringOf_X10_isRing rfl rfl rfl (by decide +kernel) ⟨Nat.le_of_ble_eq_true rfl, Nat.le_of_ble_eq_true rfl⟩) hE (hP.sub [0, 1, 2, 3, 4, 5, 6, 7, 8, 9] rfl) (va_recv hK hP (ci := 7) (q0 := 0) rfl rfl) rfl hl.1 rfl (Nat.le_of_ble_eq_true rfl) dX10_ringOf_46 ⟨Nat.le_of_ble_eq_true rfl, Nat.le_of_ble_eq_true rfl⟩ ?_
            refine W.eq (g2 := F0 m 49 ls [.int z_8]) rfl ?_
            refine lv_if_eq (tgt := 56) hx hb dX10_ringOf_49 (by decide) (fun c9 => ?_) (fun c9 => ?_)
            · have h0 := it_t c9 h0
              refine lv_iconst (v := 0) hx hb dX10_ringOf_56 (by decide) ?_
              refine lv_istore (lv' := [(4, .int 0), (3, .int x3_4), (2, .int x2_5), (0, .ref h), (1, .int p1)]) hx hb dX10_ringOf_57 hl (by decide) rfl (fun ls hl => ?_)
              refine lv_iload hx hb dX10_ringOf_59 (lv_at hl 0 rfl) ?_
              refine lv_if_eq (tgt := 68) hx hb dX10_ringOf_61 (by decide) (fun _ => ?_) (fun c9 => absurd (by decide) c9)
              refine lv_iload_n hx hb dX10_ringOf_68 rfl (lv_at hl 2 rfl) ?_
              refine lv_istore_n (lv' := [(2, .int x2_5), (4, .int 0), (3, .int x3_4), (0, .ref h), (1, .int p1)]) hx hb dX10_ringOf_69 rfl hl (by decide) rfl (fun ls hl => ?_)
              refine lv_iinc (v := (x3_4 + 1)) (lv' := [(3, .int (x3_4 + 1)), (2, .int x2_5), (4, .int 0), (0, .ref h), (1, .int p1)]) hx hb dX10_ringOf_70 hl (k := 2) rfl rfl (by decide) rfl (fun ls hl => ?_)
              refine lv_goto (tgt := 13) hx hb dX10_ringOf_73 (by decide) ?_
              exact ih13 (x3_4 + 1) x2_5 ls h0 (lv_sub hl [0, 1, 3, 4] rfl)
            · have h0 := it_f c9 h0
              refine lv_iconst (v := 1) hx hb dX10_ringOf_52 (by decide) ?_
              refine lv_goto (tgt := 57) hx hb dX10_ringOf_53 (by decide) ?_
              refine lv_istore (lv' := [(4, .int 1), (3, .int x3_4), (2, .int x2_5), (0, .ref h), (1, .int p1)]) hx hb dX10_ringOf_57 hl (by decide) rfl (fun ls hl => ?_)
              refine lv_iload hx hb dX10_ringOf_59 (lv_at hl 0 rfl) ?_
              refine lv_if_eq (tgt := 68) hx hb dX10_ringOf_61 (by decide) (fun c9 => absurd c9 (by decide)) (fun _ => ?_)
              refine lv_iload_n hx hb dX10_ringOf_64 rfl (lv_at hl 1 rfl) ?_
              refine lv_goto (tgt := 69) hx hb dX10_ringOf_65 (by decide) ?_
              refine lv_istore_n (lv' := [(2, .int x3_4), (4, .int 1), (3, .int x3_4), (0, .ref h), (1, .int p1)]) hx hb dX10_ringOf_69 rfl hl (by decide) rfl (fun ls hl => ?_)
              refine lv_iinc (v := (x3_4 + 1)) (lv' := [(3, .int (x3_4 + 1)), (2, .int x3_4), (4, .int 1), (0, .ref h), (1, .int p1)]) hx hb dX10_ringOf_70 hl (k := 2) rfl rfl (by decide) rfl (fun ls hl => ?_)
              refine lv_goto (tgt := 13) hx hb dX10_ringOf_73 (by decide) ?_
              exact ih13 (x3_4 + 1) x3_4 ls h0 (lv_sub hl [0, 1, 3, 4] rfl)
  exact L_13_8 FU 1 (((1 : Int32) <<< ((h_s_f (0 : Int32).toNatClampNeg) &&& 31)) - 1) ls h0 hl
noncomputable def mX10_fewest_L13 (h_s_f : Nat → Int32) (k13_68 : Int32 → Int32 → Option (Int32)) : Nat → Int32 → Int32 → Option (Int32)
  | 0, _, _ => none
  | F + 1, x2_4, x1_5 => if x2_4 ≤ 0 then (k13_68 x2_4 x1_5) else (bd (mX10_bits x2_4) (fun z_6 => bd (mX10_bits x1_5) (fun z_7 => if z_7 < z_6 then (mX10_fewest_L13 h_s_f k13_68 F (x2_4 + (-1)) x1_5) else (bd (mX10_ringOf h_s_f x2_4) (fun z_8 => if z_8 = (((1 : Int32) <<< ((h_s_f (0 : Int32).toNatClampNeg) &&& 31)) - 1) then (mX10_fewest_L13 h_s_f k13_68 F (x2_4 + (-1)) x2_4) else (mX10_fewest_L13 h_s_f k13_68 F (x2_4 + (-1)) x1_5))))))
noncomputable def mX10_fewest (h_s_f : Nat → Int32) : Option (Int32) :=
  mX10_fewest_L13 h_s_f (fun (x2_1 : Int32) (x1_2 : Int32) => some (x1_2)) FU (((1 : Int32) <<< ((h_s_f (0 : Int32).toNatClampNeg) &&& 31)) - 1) (((1 : Int32) <<< ((h_s_f (0 : Int32).toNatClampNeg) &&& 31)) - 1)
set_option maxHeartbeats 8000000 in
set_option maxRecDepth 100000 in
theorem kX10_fewest (l : Launch) (D : va_G) (cI cC cT : ClassId) (h h_s h_aside h_past h_snapshot h_pad h_steps h_summed h_plus h_parts : Nat) (h_s_f : Nat → Int32) (h_aside_f : Nat → Int32) (h_past_f : Nat → Int32) (h_pasts : Int32) (h_snapshot_f : Nat → Int32) (h_isKept : Int32) (h_pad_f : Nat → Int32) (h_length : Int32) (h_steps_f : Nat → Int32) (h_many : Int32) (h_value : Int32) (h_summed_f : Nat → Int32) (h_plus_f : Nat → Int32) (h_parts_f : Nat → Int32) (z : Int32) (h0 : mX10_fewest h_s_f = some z) : Met l yX10_fewest wsX10_fewest ({ frames := 4, cells := 0, slots := 0, locals := 92 } : Room) (va_Pc [.ref h] (rP D cI cC cT [(h, .inr (7, [.ref h_s, .ref h_aside, .ref h_past, .int h_pasts, .ref h_snapshot, .int h_isKept, .ref h_pad, .int h_length, .ref h_steps, .int h_many, .int h_value, .ref h_summed, .ref h_plus, .ref h_parts])), (h_s, .inl (cI, 65, .inl h_s_f)), (h_aside, .inl (cI, 65, .inl h_aside_f)), (h_past, .inl (cI, 260, .inl h_past_f)), (h_snapshot, .inl (cI, 65, .inl h_snapshot_f)), (h_pad, .inl (cI, 80, .inl h_pad_f)), (h_steps, .inl (cI, 320, .inl h_steps_f)), (h_summed, .inl (cI, 81, .inl h_summed_f)), (h_plus, .inl (cI, 81, .inl h_plus_f)), (h_parts, .inl (cI, 392, .inl h_parts_f))])) (rQ (some (.int z))) 0 0 (fun _ => False) := by
  refine Met.ofW (cc := cX10_fewest) (maxL := 4) (ret := (some .int)) (by decide) rfl ?_
  intro p e s m args below meth c s₁ B hml hv
  obtain ⟨rfl, hP, hE⟩ := hv
  have hx := B.exec
  have hb := B.bytes
  have hr := B.returns
  have hts := atoms_spec (ws := wsX10_fewest) B.pre
  have hown : s.vm.findClass RX10 = some m.cls := findClass_of_methodNamed B.named
  have hlocks := B.notSynchronized
  have hK := hE.1
  have hcf : CallFix p m c cX10_fewest 4 s ([.ref h] : List Value).toArray wsX10_fewest RX10 := ⟨hx, hb, hml, hown, hts⟩
  have hP : va_P D vwCl [(h, .inr (7, [.ref h_s, .ref h_aside, .ref h_past, .int h_pasts, .ref h_snapshot, .int h_isKept, .ref h_pad, .int h_length, .ref h_steps, .int h_many, .int h_value, .ref h_summed, .ref h_plus, .ref h_parts])), (h_s, .inl (cI, 65, .inl h_s_f)), (h_aside, .inl (cI, 65, .inl h_aside_f)), (h_past, .inl (cI, 260, .inl h_past_f)), (h_snapshot, .inl (cI, 65, .inl h_snapshot_f)), (h_pad, .inl (cI, 80, .inl h_pad_f)), (h_steps, .inl (cI, 320, .inl h_steps_f)), (h_summed, .inl (cI, 81, .inl h_summed_f)), (h_plus, .inl (cI, 81, .inl h_plus_f)), (h_parts, .inl (cI, 392, .inl h_parts_f))] s.heap := hP
  have hf_7 := hts (.fieldLink RX10 7 "CrookedSumsModel" "s" "[I") (by decide +kernel)
  have hi_X10 := (show ∀ w ∈ u_ws RX10 TX10 14, w ∈ wsX10_fewest from by decide +kernel)
  have hl := lv_entry ([.ref h]) (n := 4) (Nat.le_of_ble_eq_true rfl)
  rw [lg_entry_eq]
  generalize (lg_sl ([.ref h]) ++ List.replicate (4 - (lg_sl ([.ref h])).length) Slot.unset).toArray = ls at hl ⊢
  have hl : lv_has ls 4 [(0, .ref h)] := hl
  unfold mX10_fewest at h0
  refine lv_iconst (v := 1) hx hb dX10_fewest_0 (by decide) ?_
  refine lv_aload_n hx hb dX10_fewest_1 rfl (lv_at hl 0 rfl) ?_
  refine va_get (D := D) (ci := 7) (v := .ref h_s) (C := RX10) (T := TX10) (N := 14) hx hb hts hi_X10 hown hK hP 0 rfl rfl 0 (by decide) hf_7 (fun _ h9 => h9) rfl dX10_fewest_2 ?_
  refine lv_iconst (v := 0) hx hb dX10_fewest_5 (by decide) ?_
  refine va_iald hx hb hK hP 1 0 rfl rfl (by unfold vp_in; decide) dX10_fewest_6 ?_
  refine lv_ishl hx hb dX10_fewest_7 ?_
  refine lv_iconst (v := 1) hx hb dX10_fewest_8 (by decide) ?_
  refine lv_isub hx hb dX10_fewest_9 ?_
  refine lv_istore_n (lv' := [(1, .int (((1 : Int32) <<< ((h_s_f (0 : Int32).toNatClampNeg) &&& 31)) - 1)), (0, .ref h)]) hx hb dX10_fewest_10 rfl hl (by decide) rfl (fun ls hl => ?_)
  refine lv_iload_n hx hb dX10_fewest_11 rfl (lv_at hl 0 rfl) ?_
  refine lv_istore_n (lv' := [(2, .int (((1 : Int32) <<< ((h_s_f (0 : Int32).toNatClampNeg) &&& 31)) - 1)), (1, .int (((1 : Int32) <<< ((h_s_f (0 : Int32).toNatClampNeg) &&& 31)) - 1)), (0, .ref h)]) hx hb dX10_fewest_12 rfl hl (by decide) rfl (fun ls hl => ?_)
  have E_13_68_2 : ∀ (x2_1 : Int32) (x1_2 : Int32) (ls : Array Slot), (some (x1_2)) = some z → lv_has ls 4 [(2, .int x2_1), (1, .int x1_2), (0, .ref h)] → W p l e (headSpec wsX10_fewest ({ frames := 4, cells := 0, slots := 0, locals := 92 } : Room)).room s m (([.ref h] : List Value).toArray) below meth c s.heap [] 0 0 (MQ below (rQ (some (.int z))) (([.ref h] : List Value).toArray) s 0 0 (fun _ => False)) (F0 m 68 ls []) := by
    intro x2_1 x1_2 ls h0 hl
    refine lv_iload_n hx hb dX10_fewest_68 rfl (lv_at hl 1 rfl) ?_
    have e0 := Option.some.inj h0
    subst e0
    exact W.iret (v := x1_2) hx hb hr (fun t ht hW => ⟨rfl, ht⟩) (fun q hq => absurd hq List.not_mem_nil) dX10_fewest_69
  have L_13_8 : ∀ (F13 : Nat) (x2_4 : Int32) (x1_5 : Int32) (ls : Array Slot), mX10_fewest_L13 h_s_f (fun (x2_1 : Int32) (x1_2 : Int32) => some (x1_2)) F13 x2_4 x1_5 = some z → lv_has ls 4 [(2, .int x2_4), (1, .int x1_5), (0, .ref h)] → W p l e (headSpec wsX10_fewest ({ frames := 4, cells := 0, slots := 0, locals := 92 } : Room)).room s m (([.ref h] : List Value).toArray) below meth c s.heap [] 0 0 (MQ below (rQ (some (.int z))) (([.ref h] : List Value).toArray) s 0 0 (fun _ => False)) (F0 m 13 ls []) := by
    intro F13
    induction F13 with
    | zero => intro x2_4 x1_5 ls h0 hl; cases h0
    | succ F13 ih13 =>
      intro x2_4 x1_5 ls h0 hl
      rw [mX10_fewest_L13] at h0
      refine lv_iload_n hx hb dX10_fewest_13 rfl (lv_at hl 0 rfl) ?_
      refine lv_if_le (tgt := 68) hx hb dX10_fewest_14 (by decide) (fun c9 => ?_) (fun c9 => ?_)
      · have h0 := it_t c9 h0
        exact E_13_68_2 x2_4 x1_5 ls h0 hl
      · have h0 := it_f c9 h0
        refine lv_iload_n hx hb dX10_fewest_17 rfl (lv_at hl 0 rfl) ?_
        obtain ⟨z_6, hz, h0⟩ := bd_ok h0
        refine ro_S (As := [.int x2_4]) (rest := []) (wc := []) hcf (kX10_bits l D cI cC cT x2_4 z_6 hz) (va_cwS 1 hts gX10_fewest_X10_bits rfl rfl rfl (by decide +kernel) ⟨Nat.le_of_ble_eq_true rfl, Nat.le_of_ble_eq_true rfl⟩) hE (hP.sub [] rfl) rfl hl.1 rfl (Nat.le_of_ble_eq_true rfl) dX10_fewest_18 ⟨Nat.le_of_ble_eq_true rfl, Nat.le_of_ble_eq_true rfl⟩ ?_
        refine W.eq (g2 := F0 m 21 ls [.int z_6]) rfl ?_
        refine lv_iload_n hx hb dX10_fewest_21 rfl (lv_at hl 1 rfl) ?_
        obtain ⟨z_7, hz, h0⟩ := bd_ok h0
        refine ro_S (As := [.int x1_5]) (rest := [.int z_6]) (wc := []) hcf (kX10_bits l D cI cC cT x1_5 z_7 hz) (va_cwS 1 hts gX10_fewest_X10_bits rfl rfl rfl (by decide +kernel) ⟨Nat.le_of_ble_eq_true rfl, Nat.le_of_ble_eq_true rfl⟩) hE (hP.sub [] rfl) rfl hl.1 rfl (Nat.le_of_ble_eq_true rfl) dX10_fewest_22 ⟨Nat.le_of_ble_eq_true rfl, Nat.le_of_ble_eq_true rfl⟩ ?_
        refine W.eq (g2 := F0 m 25 ls [.int z_7, .int z_6]) rfl ?_
        refine lv_icmp_gt (tgt := 50) hx hb dX10_fewest_25 (by decide) (fun c9 => ?_) (fun c9 => ?_)
        · have h0 := it_t c9 h0
          refine lv_iconst (v := 0) hx hb dX10_fewest_50 (by decide) ?_
          refine lv_istore_n (lv' := [(3, .int 0), (2, .int x2_4), (1, .int x1_5), (0, .ref h)]) hx hb dX10_fewest_51 rfl hl (by decide) rfl (fun ls hl => ?_)
          refine lv_iload_n hx hb dX10_fewest_52 rfl (lv_at hl 0 rfl) ?_
          refine lv_if_eq (tgt := 60) hx hb dX10_fewest_53 (by decide) (fun _ => ?_) (fun c9 => absurd (by decide) c9)
          refine lv_iload_n hx hb dX10_fewest_60 rfl (lv_at hl 2 rfl) ?_
          refine lv_istore_n (lv' := [(1, .int x1_5), (3, .int 0), (2, .int x2_4), (0, .ref h)]) hx hb dX10_fewest_61 rfl hl (by decide) rfl (fun ls hl => ?_)
          refine lv_iinc (v := (x2_4 + (-1))) (lv' := [(2, .int (x2_4 + (-1))), (1, .int x1_5), (3, .int 0), (0, .ref h)]) hx hb dX10_fewest_62 hl (k := 2) rfl rfl (by decide) rfl (fun ls hl => ?_)
          refine lv_goto (tgt := 13) hx hb dX10_fewest_65 (by decide) ?_
          exact ih13 (x2_4 + (-1)) x1_5 ls h0 (lv_sub hl [0, 1, 3] rfl)
        · have h0 := it_f c9 h0
          refine lv_aload_n hx hb dX10_fewest_28 rfl (lv_at hl 2 rfl) ?_
          refine lv_iload_n hx hb dX10_fewest_29 rfl (lv_at hl 0 rfl) ?_
          obtain ⟨z_8, hz, h0⟩ := bd_ok h0
          refine ro_V (As := [.int x2_4]) (rest := []) (wc := [(h, .inr (7, [.ref h_s, .ref h_aside, .ref h_past, .int h_pasts, .ref h_snapshot, .int h_isKept, .ref h_pad, .int h_length, .ref h_steps, .int h_many, .int h_value, .ref h_summed, .ref h_plus, .ref h_parts])), (h_s, .inl (cI, 65, .inl h_s_f)), (h_aside, .inl (cI, 65, .inl h_aside_f)), (h_past, .inl (cI, 260, .inl h_past_f)), (h_snapshot, .inl (cI, 65, .inl h_snapshot_f)), (h_pad, .inl (cI, 80, .inl h_pad_f)), (h_steps, .inl (cI, 320, .inl h_steps_f)), (h_summed, .inl (cI, 81, .inl h_summed_f)), (h_plus, .inl (cI, 81, .inl h_plus_f)), (h_parts, .inl (cI, 392, .inl h_parts_f))]) hcf (kX10_ringOf l D cI cC cT h h_s h_aside h_past h_snapshot h_pad h_steps h_summed h_plus h_parts h_s_f h_aside_f h_past_f h_pasts h_snapshot_f h_isKept h_pad_f h_length h_steps_f h_many h_value h_summed_f h_plus_f h_parts_f x2_4 z_8 hz) (cwV 1 hts gX10_fewest_X10_ringOf rfl rfl rfl (by decide +kernel) ⟨Nat.le_of_ble_eq_true rfl, Nat.le_of_ble_eq_true rfl⟩) hE (hP.sub [0, 1, 2, 3, 4, 5, 6, 7, 8, 9] rfl) (va_recv hK hP (ci := 7) (q0 := 0) rfl rfl) rfl hl.1 rfl (Nat.le_of_ble_eq_true rfl) dX10_fewest_30 ⟨Nat.le_of_ble_eq_true rfl, Nat.le_of_ble_eq_true rfl⟩ ?_
          refine W.eq (g2 := F0 m 33 ls [.int z_8]) rfl ?_
          refine lv_iconst (v := 1) hx hb dX10_fewest_33 (by decide) ?_
          refine lv_aload_n hx hb dX10_fewest_34 rfl (lv_at hl 2 rfl) ?_
          refine va_get (D := D) (ci := 7) (v := .ref h_s) (C := RX10) (T := TX10) (N := 14) hx hb hts hi_X10 hown hK hP 0 rfl rfl 0 (by decide) hf_7 (fun _ h9 => h9) rfl dX10_fewest_35 ?_
          refine lv_iconst (v := 0) hx hb dX10_fewest_38 (by decide) ?_
          refine va_iald hx hb hK hP 1 0 rfl rfl (by unfold vp_in; decide) dX10_fewest_39 ?_
          refine lv_ishl hx hb dX10_fewest_40 ?_
          refine lv_iconst (v := 1) hx hb dX10_fewest_41 (by decide) ?_
          refine lv_isub hx hb dX10_fewest_42 ?_
          refine lv_icmp_ne (tgt := 50) hx hb dX10_fewest_43 (by decide) (fun c9 => ?_) (fun c9 => ?_)
          · have h0 := it_f c9 h0
            refine lv_iconst (v := 0) hx hb dX10_fewest_50 (by decide) ?_
            refine lv_istore_n (lv' := [(3, .int 0), (2, .int x2_4), (1, .int x1_5), (0, .ref h)]) hx hb dX10_fewest_51 rfl hl (by decide) rfl (fun ls hl => ?_)
            refine lv_iload_n hx hb dX10_fewest_52 rfl (lv_at hl 0 rfl) ?_
            refine lv_if_eq (tgt := 60) hx hb dX10_fewest_53 (by decide) (fun _ => ?_) (fun c9 => absurd (by decide) c9)
            refine lv_iload_n hx hb dX10_fewest_60 rfl (lv_at hl 2 rfl) ?_
            refine lv_istore_n (lv' := [(1, .int x1_5), (3, .int 0), (2, .int x2_4), (0, .ref h)]) hx hb dX10_fewest_61 rfl hl (by decide) rfl (fun ls hl => ?_)
            refine lv_iinc (v := (x2_4 + (-1))) (lv' := [(2, .int (x2_4 + (-1))), (1, .int x1_5), (3, .int 0), (0, .ref h)]) hx hb dX10_fewest_62 hl (k := 2) rfl rfl (by decide) rfl (fun ls hl => ?_)
            refine lv_goto (tgt := 13) hx hb dX10_fewest_65 (by decide) ?_
            exact ih13 (x2_4 + (-1)) x1_5 ls h0 (lv_sub hl [0, 1, 3] rfl)
          · have h0 := it_t c9 h0
            refine lv_iconst (v := 1) hx hb dX10_fewest_46 (by decide) ?_
            refine lv_goto (tgt := 51) hx hb dX10_fewest_47 (by decide) ?_
            refine lv_istore_n (lv' := [(3, .int 1), (2, .int x2_4), (1, .int x1_5), (0, .ref h)]) hx hb dX10_fewest_51 rfl hl (by decide) rfl (fun ls hl => ?_)
            refine lv_iload_n hx hb dX10_fewest_52 rfl (lv_at hl 0 rfl) ?_
            refine lv_if_eq (tgt := 60) hx hb dX10_fewest_53 (by decide) (fun c9 => absurd c9 (by decide)) (fun _ => ?_)
            refine lv_iload_n hx hb dX10_fewest_56 rfl (lv_at hl 1 rfl) ?_
            refine lv_goto (tgt := 61) hx hb dX10_fewest_57 (by decide) ?_
            refine lv_istore_n (lv' := [(1, .int x2_4), (3, .int 1), (2, .int x2_4), (0, .ref h)]) hx hb dX10_fewest_61 rfl hl (by decide) rfl (fun ls hl => ?_)
            refine lv_iinc (v := (x2_4 + (-1))) (lv' := [(2, .int (x2_4 + (-1))), (1, .int x2_4), (3, .int 1), (0, .ref h)]) hx hb dX10_fewest_62 hl (k := 2) rfl rfl (by decide) rfl (fun ls hl => ?_)
            refine lv_goto (tgt := 13) hx hb dX10_fewest_65 (by decide) ?_
            exact ih13 (x2_4 + (-1)) x2_4 ls h0 (lv_sub hl [0, 1, 3] rfl)
  exact L_13_8 FU (((1 : Int32) <<< ((h_s_f (0 : Int32).toNatClampNeg) &&& 31)) - 1) (((1 : Int32) <<< ((h_s_f (0 : Int32).toNatClampNeg) &&& 31)) - 1) ls h0 hl
noncomputable def mX10_squares_L31 (h_s_f : Nat → Int32) (x2_4 : Int32) (x3_9 : Int32) (k31_98 : Int32 → Int32 → Option (Int32)) : Nat → Int32 → Int32 → Option (Int32)
  | 0, _, _ => none
  | F + 1, x4_14, x1_15 => if (64 : Int32) ≤ x4_14 then (k31_98 x4_14 x1_15) else (if (x4_14 - x4_14 / 8 * 8) ≤ (x4_14 / 8) then (mX10_squares_L31 h_s_f x2_4 x3_9 k31_98 F (x4_14 + 1) (x1_15 + 0)) else (if (h_s_f (0 : Int32).toNatClampNeg) ≤ (x4_14 - x4_14 / 8 * 8) then (mX10_squares_L31 h_s_f x2_4 x3_9 k31_98 F (x4_14 + 1) (x1_15 + 0)) else (bd (mX10_isSquare h_s_f x2_4 x3_9 (x4_14 / 8) (x4_14 - x4_14 / 8 * 8)) (fun z_16 => if z_16 = 0 then (mX10_squares_L31 h_s_f x2_4 x3_9 k31_98 F (x4_14 + 1) (x1_15 + 0)) else (mX10_squares_L31 h_s_f x2_4 x3_9 k31_98 F (x4_14 + 1) (x1_15 + 1))))))
noncomputable def mX10_squares_L18 (h_s_f : Nat → Int32) (x2_4 : Int32) (k18_104 : Int32 → Int32 → Option (Int32)) : Nat → Int32 → Int32 → Option (Int32)
  | 0, _, _ => none
  | F + 1, x3_9, x1_10 => if (h_s_f (0 : Int32).toNatClampNeg) ≤ x3_9 then (k18_104 x3_9 x1_10) else (mX10_squares_L31 h_s_f x2_4 x3_9 (fun (x4_11 : Int32) (x1_12 : Int32) => mX10_squares_L18 h_s_f x2_4 k18_104 F (x3_9 + 1) x1_12) FU 0 x1_10)
noncomputable def mX10_squares_L4 (h_s_f : Nat → Int32) (k4_110 : Int32 → Int32 → Option (Int32)) : Nat → Int32 → Int32 → Option (Int32)
  | 0, _, _ => none
  | F + 1, x2_4, x1_5 => if (h_s_f (0 : Int32).toNatClampNeg) ≤ x2_4 then (k4_110 x2_4 x1_5) else (mX10_squares_L18 h_s_f x2_4 (fun (x3_6 : Int32) (x1_7 : Int32) => mX10_squares_L4 h_s_f k4_110 F (x2_4 + 1) x1_7) FU (x2_4 + 1) x1_5)
noncomputable def mX10_squares (h_s_f : Nat → Int32) : Option (Int32) :=
  mX10_squares_L4 h_s_f (fun (x2_1 : Int32) (x1_2 : Int32) => some (x1_2)) FU 0 0
set_option maxHeartbeats 8000000 in
set_option maxRecDepth 100000 in
theorem kX10_squares (l : Launch) (D : va_G) (cI cC cT : ClassId) (h h_s h_aside h_past h_snapshot h_pad h_steps h_summed h_plus h_parts : Nat) (h_s_f : Nat → Int32) (h_aside_f : Nat → Int32) (h_past_f : Nat → Int32) (h_pasts : Int32) (h_snapshot_f : Nat → Int32) (h_isKept : Int32) (h_pad_f : Nat → Int32) (h_length : Int32) (h_steps_f : Nat → Int32) (h_many : Int32) (h_value : Int32) (h_summed_f : Nat → Int32) (h_plus_f : Nat → Int32) (h_parts_f : Nat → Int32) (z : Int32) (h0 : mX10_squares h_s_f = some z) : Met l yX10_squares wsX10_squares ({ frames := 3, cells := 0, slots := 0, locals := 67 } : Room) (va_Pc [.ref h] (rP D cI cC cT [(h, .inr (7, [.ref h_s, .ref h_aside, .ref h_past, .int h_pasts, .ref h_snapshot, .int h_isKept, .ref h_pad, .int h_length, .ref h_steps, .int h_many, .int h_value, .ref h_summed, .ref h_plus, .ref h_parts])), (h_s, .inl (cI, 65, .inl h_s_f)), (h_aside, .inl (cI, 65, .inl h_aside_f)), (h_past, .inl (cI, 260, .inl h_past_f)), (h_snapshot, .inl (cI, 65, .inl h_snapshot_f)), (h_pad, .inl (cI, 80, .inl h_pad_f)), (h_steps, .inl (cI, 320, .inl h_steps_f)), (h_summed, .inl (cI, 81, .inl h_summed_f)), (h_plus, .inl (cI, 81, .inl h_plus_f)), (h_parts, .inl (cI, 392, .inl h_parts_f))])) (rQ (some (.int z))) 0 0 (fun _ => False) := by
  refine Met.ofW (cc := cX10_squares) (maxL := 5) (ret := (some .int)) (by decide) rfl ?_
  intro p e s m args below meth c s₁ B hml hv
  obtain ⟨rfl, hP, hE⟩ := hv
  have hx := B.exec
  have hb := B.bytes
  have hr := B.returns
  have hts := atoms_spec (ws := wsX10_squares) B.pre
  have hown : s.vm.findClass RX10 = some m.cls := findClass_of_methodNamed B.named
  have hlocks := B.notSynchronized
  have hK := hE.1
  have hcf : CallFix p m c cX10_squares 5 s ([.ref h] : List Value).toArray wsX10_squares RX10 := ⟨hx, hb, hml, hown, hts⟩
  have hP : va_P D vwCl [(h, .inr (7, [.ref h_s, .ref h_aside, .ref h_past, .int h_pasts, .ref h_snapshot, .int h_isKept, .ref h_pad, .int h_length, .ref h_steps, .int h_many, .int h_value, .ref h_summed, .ref h_plus, .ref h_parts])), (h_s, .inl (cI, 65, .inl h_s_f)), (h_aside, .inl (cI, 65, .inl h_aside_f)), (h_past, .inl (cI, 260, .inl h_past_f)), (h_snapshot, .inl (cI, 65, .inl h_snapshot_f)), (h_pad, .inl (cI, 80, .inl h_pad_f)), (h_steps, .inl (cI, 320, .inl h_steps_f)), (h_summed, .inl (cI, 81, .inl h_summed_f)), (h_plus, .inl (cI, 81, .inl h_plus_f)), (h_parts, .inl (cI, 392, .inl h_parts_f))] s.heap := hP
  have hf_7 := hts (.fieldLink RX10 7 "CrookedSumsModel" "s" "[I") (by decide +kernel)
  have hi_X10 := (show ∀ w ∈ u_ws RX10 TX10 14, w ∈ wsX10_squares from by decide +kernel)
  have hl := lv_entry ([.ref h]) (n := 5) (Nat.le_of_ble_eq_true rfl)
  rw [lg_entry_eq]
  generalize (lg_sl ([.ref h]) ++ List.replicate (5 - (lg_sl ([.ref h])).length) Slot.unset).toArray = ls at hl ⊢
  have hl : lv_has ls 5 [(0, .ref h)] := hl
  unfold mX10_squares at h0
  refine lv_iconst (v := 0) hx hb dX10_squares_0 (by decide) ?_
  refine lv_istore_n (lv' := [(1, .int 0), (0, .ref h)]) hx hb dX10_squares_1 rfl hl (by decide) rfl (fun ls hl => ?_)
  refine lv_iconst (v := 0) hx hb dX10_squares_2 (by decide) ?_
  refine lv_istore_n (lv' := [(2, .int 0), (1, .int 0), (0, .ref h)]) hx hb dX10_squares_3 rfl hl (by decide) rfl (fun ls hl => ?_)
  have E_4_110_2 : ∀ (x2_1 : Int32) (x1_2 : Int32) (ls : Array Slot), (some (x1_2)) = some z → lv_has ls 5 [(2, .int x2_1), (1, .int x1_2), (0, .ref h)] → W p l e (headSpec wsX10_squares ({ frames := 3, cells := 0, slots := 0, locals := 67 } : Room)).room s m (([.ref h] : List Value).toArray) below meth c s.heap [] 0 0 (MQ below (rQ (some (.int z))) (([.ref h] : List Value).toArray) s 0 0 (fun _ => False)) (F0 m 110 ls []) := by
    intro x2_1 x1_2 ls h0 hl
    refine lv_iload_n hx hb dX10_squares_110 rfl (lv_at hl 1 rfl) ?_
    have e0 := Option.some.inj h0
    subst e0
    exact W.iret (v := x1_2) hx hb hr (fun t ht hW => ⟨rfl, ht⟩) (fun q hq => absurd hq List.not_mem_nil) dX10_squares_111
  have L_4_18 : ∀ (F4 : Nat) (x2_4 : Int32) (x1_5 : Int32) (ls : Array Slot), mX10_squares_L4 h_s_f (fun (x2_1 : Int32) (x1_2 : Int32) => some (x1_2)) F4 x2_4 x1_5 = some z → lv_has ls 5 [(2, .int x2_4), (1, .int x1_5), (0, .ref h)] → W p l e (headSpec wsX10_squares ({ frames := 3, cells := 0, slots := 0, locals := 67 } : Room)).room s m (([.ref h] : List Value).toArray) below meth c s.heap [] 0 0 (MQ below (rQ (some (.int z))) (([.ref h] : List Value).toArray) s 0 0 (fun _ => False)) (F0 m 4 ls []) := by
    intro F4
    induction F4 with
    | zero => intro x2_4 x1_5 ls h0 hl; cases h0
    | succ F4 ih4 =>
      intro x2_4 x1_5 ls h0 hl
      rw [mX10_squares_L4] at h0
      refine lv_iload_n hx hb dX10_squares_4 rfl (lv_at hl 0 rfl) ?_
      refine lv_aload_n hx hb dX10_squares_5 rfl (lv_at hl 2 rfl) ?_
      refine va_get (D := D) (ci := 7) (v := .ref h_s) (C := RX10) (T := TX10) (N := 14) hx hb hts hi_X10 hown hK hP 0 rfl rfl 0 (by decide) hf_7 (fun _ h9 => h9) rfl dX10_squares_6 ?_
      refine lv_iconst (v := 0) hx hb dX10_squares_9 (by decide) ?_
      refine va_iald hx hb hK hP 1 0 rfl rfl (by unfold vp_in; decide) dX10_squares_10 ?_
      refine lv_icmp_ge (tgt := 110) hx hb dX10_squares_11 (by decide) (fun c9 => ?_) (fun c9 => ?_)
      · have h0 := it_t c9 h0
        exact E_4_110_2 x2_4 x1_5 ls h0 hl
      · have h0 := it_f c9 h0
        refine lv_iload_n hx hb dX10_squares_14 rfl (lv_at hl 0 rfl) ?_
        refine lv_iconst (v := 1) hx hb dX10_squares_15 (by decide) ?_
        refine lv_iadd hx hb dX10_squares_16 ?_
        refine lv_istore_n (lv' := [(3, .int (x2_4 + 1)), (2, .int x2_4), (1, .int x1_5), (0, .ref h)]) hx hb dX10_squares_17 rfl hl (by decide) rfl (fun ls hl => ?_)
        have E_18_104_7 : ∀ (x3_6 : Int32) (x1_7 : Int32) (ls : Array Slot), (mX10_squares_L4 h_s_f (fun (x2_1 : Int32) (x1_2 : Int32) => some (x1_2)) F4 (x2_4 + 1) x1_7) = some z → lv_has ls 5 [(3, .int x3_6), (2, .int x2_4), (1, .int x1_7), (0, .ref h)] → W p l e (headSpec wsX10_squares ({ frames := 3, cells := 0, slots := 0, locals := 67 } : Room)).room s m (([.ref h] : List Value).toArray) below meth c s.heap [] 0 0 (MQ below (rQ (some (.int z))) (([.ref h] : List Value).toArray) s 0 0 (fun _ => False)) (F0 m 104 ls []) := by
          intro x3_6 x1_7 ls h0 hl
          refine lv_iinc (v := (x2_4 + 1)) (lv' := [(2, .int (x2_4 + 1)), (3, .int x3_6), (1, .int x1_7), (0, .ref h)]) hx hb dX10_squares_104 hl (k := 1) rfl rfl (by decide) rfl (fun ls hl => ?_)
          refine lv_goto (tgt := 4) hx hb dX10_squares_107 (by decide) ?_
          exact ih4 (x2_4 + 1) x1_7 ls h0 (lv_sub hl [0, 2, 3] rfl)
        have L_18_17 : ∀ (F18 : Nat) (x3_9 : Int32) (x1_10 : Int32) (ls : Array Slot), mX10_squares_L18 h_s_f x2_4 (fun (x3_6 : Int32) (x1_7 : Int32) => mX10_squares_L4 h_s_f (fun (x2_1 : Int32) (x1_2 : Int32) => some (x1_2)) F4 (x2_4 + 1) x1_7) F18 x3_9 x1_10 = some z → lv_has ls 5 [(3, .int x3_9), (2, .int x2_4), (1, .int x1_10), (0, .ref h)] → W p l e (headSpec wsX10_squares ({ frames := 3, cells := 0, slots := 0, locals := 67 } : Room)).room s m (([.ref h] : List Value).toArray) below meth c s.heap [] 0 0 (MQ below (rQ (some (.int z))) (([.ref h] : List Value).toArray) s 0 0 (fun _ => False)) (F0 m 18 ls []) := by
          intro F18
          induction F18 with
          | zero => intro x3_9 x1_10 ls h0 hl; cases h0
          | succ F18 ih18 =>
            intro x3_9 x1_10 ls h0 hl
            rw [mX10_squares_L18] at h0
            refine lv_iload_n hx hb dX10_squares_18 rfl (lv_at hl 0 rfl) ?_
            refine lv_aload_n hx hb dX10_squares_19 rfl (lv_at hl 3 rfl) ?_
            refine va_get (D := D) (ci := 7) (v := .ref h_s) (C := RX10) (T := TX10) (N := 14) hx hb hts hi_X10 hown hK hP 0 rfl rfl 0 (by decide) hf_7 (fun _ h9 => h9) rfl dX10_squares_20 ?_
            refine lv_iconst (v := 0) hx hb dX10_squares_23 (by decide) ?_
            refine va_iald hx hb hK hP 1 0 rfl rfl (by unfold vp_in; decide) dX10_squares_24 ?_
            refine lv_icmp_ge (tgt := 104) hx hb dX10_squares_25 (by decide) (fun c9 => ?_) (fun c9 => ?_)
            · have h0 := it_t c9 h0
              exact E_18_104_7 x3_9 x1_10 ls h0 hl
            · have h0 := it_f c9 h0
              refine lv_iconst (v := 0) hx hb dX10_squares_28 (by decide) ?_
              refine lv_istore (lv' := [(4, .int 0), (3, .int x3_9), (2, .int x2_4), (1, .int x1_10), (0, .ref h)]) hx hb dX10_squares_29 hl (by decide) rfl (fun ls hl => ?_)
              have E_31_98_12 : ∀ (x4_11 : Int32) (x1_12 : Int32) (ls : Array Slot), (mX10_squares_L18 h_s_f x2_4 (fun (x3_6 : Int32) (x1_7 : Int32) => mX10_squares_L4 h_s_f (fun (x2_1 : Int32) (x1_2 : Int32) => some (x1_2)) F4 (x2_4 + 1) x1_7) F18 (x3_9 + 1) x1_12) = some z → lv_has ls 5 [(4, .int x4_11), (3, .int x3_9), (2, .int x2_4), (1, .int x1_12), (0, .ref h)] → W p l e (headSpec wsX10_squares ({ frames := 3, cells := 0, slots := 0, locals := 67 } : Room)).room s m (([.ref h] : List Value).toArray) below meth c s.heap [] 0 0 (MQ below (rQ (some (.int z))) (([.ref h] : List Value).toArray) s 0 0 (fun _ => False)) (F0 m 98 ls []) := by
                intro x4_11 x1_12 ls h0 hl
                refine lv_iinc (v := (x3_9 + 1)) (lv' := [(3, .int (x3_9 + 1)), (4, .int x4_11), (2, .int x2_4), (1, .int x1_12), (0, .ref h)]) hx hb dX10_squares_98 hl (k := 1) rfl rfl (by decide) rfl (fun ls hl => ?_)
                refine lv_goto (tgt := 18) hx hb dX10_squares_101 (by decide) ?_
                exact ih18 (x3_9 + 1) x1_12 ls h0 (lv_sub hl [0, 2, 3, 4] rfl)
              have L_31_16 : ∀ (F31 : Nat) (x4_14 : Int32) (x1_15 : Int32) (ls : Array Slot), mX10_squares_L31 h_s_f x2_4 x3_9 (fun (x4_11 : Int32) (x1_12 : Int32) => mX10_squares_L18 h_s_f x2_4 (fun (x3_6 : Int32) (x1_7 : Int32) => mX10_squares_L4 h_s_f (fun (x2_1 : Int32) (x1_2 : Int32) => some (x1_2)) F4 (x2_4 + 1) x1_7) F18 (x3_9 + 1) x1_12) F31 x4_14 x1_15 = some z → lv_has ls 5 [(4, .int x4_14), (3, .int x3_9), (2, .int x2_4), (1, .int x1_15), (0, .ref h)] → W p l e (headSpec wsX10_squares ({ frames := 3, cells := 0, slots := 0, locals := 67 } : Room)).room s m (([.ref h] : List Value).toArray) below meth c s.heap [] 0 0 (MQ below (rQ (some (.int z))) (([.ref h] : List Value).toArray) s 0 0 (fun _ => False)) (F0 m 31 ls []) := by
                intro F31
                induction F31 with
                | zero => intro x4_14 x1_15 ls h0 hl; cases h0
                | succ F31 ih31 =>
                  intro x4_14 x1_15 ls h0 hl
                  rw [mX10_squares_L31] at h0
                  refine lv_iload hx hb dX10_squares_31 (lv_at hl 0 rfl) ?_
                  refine lv_bipush (v := 64) hx hb dX10_squares_33 (by decide) ?_
                  refine lv_icmp_ge (tgt := 98) hx hb dX10_squares_35 (by decide) (fun c9 => ?_) (fun c9 => ?_)
                  · have h0 := it_t c9 h0
                    exact E_31_98_12 x4_14 x1_15 ls h0 hl
                  · have h0 := it_f c9 h0
                    refine lv_iload_n hx hb dX10_squares_38 rfl (lv_at hl 3 rfl) ?_
                    refine lv_iload hx hb dX10_squares_39 (lv_at hl 0 rfl) ?_
                    refine lv_bipush (v := 8) hx hb dX10_squares_41 (by decide) ?_
                    refine lv_idiv hx hb dX10_squares_43 (by decide) ?_
                    refine lv_iload hx hb dX10_squares_44 (lv_at hl 0 rfl) ?_
                    refine lv_bipush (v := 8) hx hb dX10_squares_46 (by decide) ?_
                    refine lv_irem hx hb dX10_squares_48 (by decide) ?_
                    refine lv_icmp_ge (tgt := 89) hx hb dX10_squares_49 (by decide) (fun c9 => ?_) (fun c9 => ?_)
                    · have h0 := it_t c9 h0
                      refine lv_iconst (v := 0) hx hb dX10_squares_89 (by decide) ?_
                      refine lv_iadd hx hb dX10_squares_90 ?_
                      refine lv_istore_n (lv' := [(1, .int (x1_15 + 0)), (4, .int x4_14), (3, .int x3_9), (2, .int x2_4), (0, .ref h)]) hx hb dX10_squares_91 rfl hl (by decide) rfl (fun ls hl => ?_)
                      refine lv_iinc (v := (x4_14 + 1)) (lv' := [(4, .int (x4_14 + 1)), (1, .int (x1_15 + 0)), (3, .int x3_9), (2, .int x2_4), (0, .ref h)]) hx hb dX10_squares_92 hl (k := 1) rfl rfl (by decide) rfl (fun ls hl => ?_)
                      refine lv_goto (tgt := 31) hx hb dX10_squares_95 (by decide) ?_
                      exact ih31 (x4_14 + 1) (x1_15 + 0) ls h0 (lv_sub hl [0, 2, 3, 1, 4] rfl)
                    · have h0 := it_f c9 h0
                      refine lv_iload hx hb dX10_squares_52 (lv_at hl 0 rfl) ?_
                      refine lv_bipush (v := 8) hx hb dX10_squares_54 (by decide) ?_
                      refine lv_irem hx hb dX10_squares_56 (by decide) ?_
                      refine lv_aload_n hx hb dX10_squares_57 rfl (lv_at hl 4 rfl) ?_
                      refine va_get (D := D) (ci := 7) (v := .ref h_s) (C := RX10) (T := TX10) (N := 14) hx hb hts hi_X10 hown hK hP 0 rfl rfl 0 (by decide) hf_7 (fun _ h9 => h9) rfl dX10_squares_58 ?_
                      refine lv_iconst (v := 0) hx hb dX10_squares_61 (by decide) ?_
                      refine va_iald hx hb hK hP 1 0 rfl rfl (by unfold vp_in; decide) dX10_squares_62 ?_
                      refine lv_icmp_ge (tgt := 89) hx hb dX10_squares_63 (by decide) (fun c9 => ?_) (fun c9 => ?_)
                      · have h0 := it_t c9 h0
                        refine lv_iconst (v := 0) hx hb dX10_squares_89 (by decide) ?_
                        refine lv_iadd hx hb dX10_squares_90 ?_
                        refine lv_istore_n (lv' := [(1, .int (x1_15 + 0)), (4, .int x4_14), (3, .int x3_9), (2, .int x2_4), (0, .ref h)]) hx hb dX10_squares_91 rfl hl (by decide) rfl (fun ls hl => ?_)
                        refine lv_iinc (v := (x4_14 + 1)) (lv' := [(4, .int (x4_14 + 1)), (1, .int (x1_15 + 0)), (3, .int x3_9), (2, .int x2_4), (0, .ref h)]) hx hb dX10_squares_92 hl (k := 1) rfl rfl (by decide) rfl (fun ls hl => ?_)
                        refine lv_goto (tgt := 31) hx hb dX10_squares_95 (by decide) ?_
                        exact ih31 (x4_14 + 1) (x1_15 + 0) ls h0 (lv_sub hl [0, 2, 3, 1, 4] rfl)
                      · have h0 := it_f c9 h0
                        refine lv_aload_n hx hb dX10_squares_66 rfl (lv_at hl 4 rfl) ?_
                        refine lv_iload_n hx hb dX10_squares_67 rfl (lv_at hl 2 rfl) ?_
                        refine lv_iload_n hx hb dX10_squares_68 rfl (lv_at hl 1 rfl) ?_
                        refine lv_iload hx hb dX10_squares_69 (lv_at hl 0 rfl) ?_
                        refine lv_bipush (v := 8) hx hb dX10_squares_71 (by decide) ?_
                        refine lv_idiv hx hb dX10_squares_73 (by decide) ?_
                        refine lv_iload hx hb dX10_squares_74 (lv_at hl 0 rfl) ?_
                        refine lv_bipush (v := 8) hx hb dX10_squares_76 (by decide) ?_
                        refine lv_irem hx hb dX10_squares_78 (by decide) ?_
                        obtain ⟨z_16, hz, h0⟩ := bd_ok h0
                        refine ro_V (As := [.int x2_4, .int x3_9, .int (x4_14 / 8), .int (x4_14 - x4_14 / 8 * 8)]) (rest := [.int x1_15]) (wc := [(h, .inr (7, [.ref h_s, .ref h_aside, .ref h_past, .int h_pasts, .ref h_snapshot, .int h_isKept, .ref h_pad, .int h_length, .ref h_steps, .int h_many, .int h_value, .ref h_summed, .ref h_plus, .ref h_parts])), (h_s, .inl (cI, 65, .inl h_s_f)), (h_aside, .inl (cI, 65, .inl h_aside_f)), (h_past, .inl (cI, 260, .inl h_past_f)), (h_snapshot, .inl (cI, 65, .inl h_snapshot_f)), (h_pad, .inl (cI, 80, .inl h_pad_f)), (h_steps, .inl (cI, 320, .inl h_steps_f)), (h_summed, .inl (cI, 81, .inl h_summed_f)), (h_plus, .inl (cI, 81, .inl h_plus_f)), (h_parts, .inl (cI, 392, .inl h_parts_f))]) hcf (kX10_isSquare l D cI cC cT h h_s h_aside h_past h_snapshot h_pad h_steps h_summed h_plus h_parts h_s_f h_aside_f h_past_f h_pasts h_snapshot_f h_isKept h_pad_f h_length h_steps_f h_many h_value h_summed_f h_plus_f h_parts_f x2_4 x3_9 (x4_14 / 8) (x4_14 - x4_14 / 8 * 8) z_16 hz) (cwV 4 hts gX10_squares_X10_isSquare rfl rfl rfl (by decide +kernel) ⟨Nat.le_of_ble_eq_true rfl, Nat.le_of_ble_eq_true rfl⟩) hE (hP.sub [0, 1, 2, 3, 4, 5, 6, 7, 8, 9] rfl) (va_recv hK hP (ci := 7) (q0 := 0) rfl rfl) rfl hl.1 rfl (Nat.le_of_ble_eq_true rfl) dX10_squares_79 ⟨Nat.le_of_ble_eq_true rfl, Nat.le_of_ble_eq_true rfl⟩ ?_
                        refine W.eq (g2 := F0 m 82 ls [.int z_16, .int x1_15]) rfl ?_
                        refine lv_if_eq (tgt := 89) hx hb dX10_squares_82 (by decide) (fun c9 => ?_) (fun c9 => ?_)
                        · have h0 := it_t c9 h0
                          refine lv_iconst (v := 0) hx hb dX10_squares_89 (by decide) ?_
                          refine lv_iadd hx hb dX10_squares_90 ?_
                          refine lv_istore_n (lv' := [(1, .int (x1_15 + 0)), (4, .int x4_14), (3, .int x3_9), (2, .int x2_4), (0, .ref h)]) hx hb dX10_squares_91 rfl hl (by decide) rfl (fun ls hl => ?_)
                          refine lv_iinc (v := (x4_14 + 1)) (lv' := [(4, .int (x4_14 + 1)), (1, .int (x1_15 + 0)), (3, .int x3_9), (2, .int x2_4), (0, .ref h)]) hx hb dX10_squares_92 hl (k := 1) rfl rfl (by decide) rfl (fun ls hl => ?_)
                          refine lv_goto (tgt := 31) hx hb dX10_squares_95 (by decide) ?_
                          exact ih31 (x4_14 + 1) (x1_15 + 0) ls h0 (lv_sub hl [0, 2, 3, 1, 4] rfl)
                        · have h0 := it_f c9 h0
                          refine lv_iconst (v := 1) hx hb dX10_squares_85 (by decide) ?_
                          refine lv_goto (tgt := 90) hx hb dX10_squares_86 (by decide) ?_
                          refine lv_iadd hx hb dX10_squares_90 ?_
                          refine lv_istore_n (lv' := [(1, .int (x1_15 + 1)), (4, .int x4_14), (3, .int x3_9), (2, .int x2_4), (0, .ref h)]) hx hb dX10_squares_91 rfl hl (by decide) rfl (fun ls hl => ?_)
                          refine lv_iinc (v := (x4_14 + 1)) (lv' := [(4, .int (x4_14 + 1)), (1, .int (x1_15 + 1)), (3, .int x3_9), (2, .int x2_4), (0, .ref h)]) hx hb dX10_squares_92 hl (k := 1) rfl rfl (by decide) rfl (fun ls hl => ?_)
                          refine lv_goto (tgt := 31) hx hb dX10_squares_95 (by decide) ?_
                          exact ih31 (x4_14 + 1) (x1_15 + 1) ls h0 (lv_sub hl [0, 2, 3, 1, 4] rfl)
              exact L_31_16 FU 0 x1_10 ls h0 hl
        exact L_18_17 FU (x2_4 + 1) x1_5 ls h0 hl
  exact L_4_18 FU 0 0 ls h0 hl
noncomputable def mX10_count (h_s_f : Nat → Int32) (h_pasts : Int32) (h_length : Int32) (p1 : Int32) : Option (Int32) :=
  if p1 = 0 then (some ((h_s_f (0 : Int32).toNatClampNeg))) else (if p1 = 1 then (bd (mX10_commute h_s_f) (fun z_3 => some (z_3))) else (if p1 = 2 then (bd (mX10_triples h_s_f) (fun z_5 => some (z_5))) else (if p1 = 3 then (bd (mX10_idle h_s_f 1) (fun z_7 => some (z_7))) else (if p1 = 4 then (bd (mX10_idle h_s_f 0) (fun z_9 => some (z_9))) else (if p1 = 5 then (bd (mX10_alone h_s_f) (fun z_11 => some (z_11))) else (if p1 = 6 then (bd (mX10_rings h_s_f) (fun z_13 => some (z_13))) else (if p1 = 7 then (bd (mX10_fewest h_s_f) (fun z_15 => bd (mX10_bits z_15) (fun z_16 => some (z_16)))) else (if p1 = 8 then (bd (mX10_fewest h_s_f) (fun z_18 => some (z_18))) else (if p1 = 9 then (bd (mX10_squares h_s_f) (fun z_20 => some (z_20))) else (if p1 = 10 then (some (h_length)) else (if p1 = 11 then (some (h_pasts)) else (some ((-1))))))))))))))
set_option maxHeartbeats 8000000 in
set_option maxRecDepth 100000 in
theorem kX10_count (l : Launch) (D : va_G) (cI cC cT : ClassId) (h h_s h_aside h_past h_snapshot h_pad h_steps h_summed h_plus h_parts : Nat) (h_s_f : Nat → Int32) (h_aside_f : Nat → Int32) (h_past_f : Nat → Int32) (h_pasts : Int32) (h_snapshot_f : Nat → Int32) (h_isKept : Int32) (h_pad_f : Nat → Int32) (h_length : Int32) (h_steps_f : Nat → Int32) (h_many : Int32) (h_value : Int32) (h_summed_f : Nat → Int32) (h_plus_f : Nat → Int32) (h_parts_f : Nat → Int32) (p1 : Int32) (z : Int32) (h0 : mX10_count h_s_f h_pasts h_length p1 = some z) : Met l yX10_count wsX10_count ({ frames := 5, cells := 0, slots := 0, locals := 115 } : Room) (va_Pc [.ref h, .int p1] (rP D cI cC cT [(h, .inr (7, [.ref h_s, .ref h_aside, .ref h_past, .int h_pasts, .ref h_snapshot, .int h_isKept, .ref h_pad, .int h_length, .ref h_steps, .int h_many, .int h_value, .ref h_summed, .ref h_plus, .ref h_parts])), (h_s, .inl (cI, 65, .inl h_s_f)), (h_aside, .inl (cI, 65, .inl h_aside_f)), (h_past, .inl (cI, 260, .inl h_past_f)), (h_snapshot, .inl (cI, 65, .inl h_snapshot_f)), (h_pad, .inl (cI, 80, .inl h_pad_f)), (h_steps, .inl (cI, 320, .inl h_steps_f)), (h_summed, .inl (cI, 81, .inl h_summed_f)), (h_plus, .inl (cI, 81, .inl h_plus_f)), (h_parts, .inl (cI, 392, .inl h_parts_f))])) (rQ (some (.int z))) 0 0 (fun _ => False) := by
  refine Met.ofW (cc := cX10_count) (maxL := 2) (ret := (some .int)) (by decide) rfl ?_
  intro p e s m args below meth c s₁ B hml hv
  obtain ⟨rfl, hP, hE⟩ := hv
  have hx := B.exec
  have hb := B.bytes
  have hr := B.returns
  have hts := atoms_spec (ws := wsX10_count) B.pre
  have hown : s.vm.findClass RX10 = some m.cls := findClass_of_methodNamed B.named
  have hlocks := B.notSynchronized
  have hK := hE.1
  have hcf : CallFix p m c cX10_count 2 s ([.ref h, .int p1] : List Value).toArray wsX10_count RX10 := ⟨hx, hb, hml, hown, hts⟩
  have hP : va_P D vwCl [(h, .inr (7, [.ref h_s, .ref h_aside, .ref h_past, .int h_pasts, .ref h_snapshot, .int h_isKept, .ref h_pad, .int h_length, .ref h_steps, .int h_many, .int h_value, .ref h_summed, .ref h_plus, .ref h_parts])), (h_s, .inl (cI, 65, .inl h_s_f)), (h_aside, .inl (cI, 65, .inl h_aside_f)), (h_past, .inl (cI, 260, .inl h_past_f)), (h_snapshot, .inl (cI, 65, .inl h_snapshot_f)), (h_pad, .inl (cI, 80, .inl h_pad_f)), (h_steps, .inl (cI, 320, .inl h_steps_f)), (h_summed, .inl (cI, 81, .inl h_summed_f)), (h_plus, .inl (cI, 81, .inl h_plus_f)), (h_parts, .inl (cI, 392, .inl h_parts_f))] s.heap := hP
  have hf_7 := hts (.fieldLink RX10 7 "CrookedSumsModel" "s" "[I") (by decide +kernel)
  have hi_X10 := (show ∀ w ∈ u_ws RX10 TX10 14, w ∈ wsX10_count from by decide +kernel)
  have hf_111 := hts (.fieldLink RX10 111 "CrookedSumsModel" "length" "I") (by decide +kernel)
  have hf_49 := hts (.fieldLink RX10 49 "CrookedSumsModel" "pasts" "I") (by decide +kernel)
  have hl := lv_entry ([.ref h, .int p1]) (n := 2) (Nat.le_of_ble_eq_true rfl)
  rw [lg_entry_eq]
  generalize (lg_sl ([.ref h, .int p1]) ++ List.replicate (2 - (lg_sl ([.ref h, .int p1])).length) Slot.unset).toArray = ls at hl ⊢
  have hl : lv_has ls 2 [(0, .ref h), (1, .int p1)] := hl
  unfold mX10_count at h0
  refine lv_iload_n hx hb dX10_count_0 rfl (lv_at hl 1 rfl) ?_
  by_cases c_1 : p1 = 0
  · have h0 := it_t c_1 h0
    refine lv_tableIn (tgt := 64) hx hb dX10_count_1 (by rw [c_1]; decide) (by rw [c_1]; decide) (by rw [c_1]; rfl) (by decide) ?_
    refine lv_aload_n hx hb dX10_count_64 rfl (lv_at hl 0 rfl) ?_
    refine va_get (D := D) (ci := 7) (v := .ref h_s) (C := RX10) (T := TX10) (N := 14) hx hb hts hi_X10 hown hK hP 0 rfl rfl 0 (by decide) hf_7 (fun _ h9 => h9) rfl dX10_count_65 ?_
    refine lv_iconst (v := 0) hx hb dX10_count_68 (by decide) ?_
    refine va_iald hx hb hK hP 1 0 rfl rfl (by unfold vp_in; decide) dX10_count_69 ?_
    have e0 := Option.some.inj h0
    subst e0
    exact W.iret (v := (h_s_f (0 : Int32).toNatClampNeg)) hx hb hr (fun t ht hW => ⟨rfl, ht⟩) (fun q hq => absurd hq List.not_mem_nil) dX10_count_70
  · have h0 := it_f c_1 h0
    by_cases c_2 : p1 = 1
    · have h0 := it_t c_2 h0
      refine lv_tableIn (tgt := 71) hx hb dX10_count_1 (by rw [c_2]; decide) (by rw [c_2]; decide) (by rw [c_2]; rfl) (by decide) ?_
      refine lv_aload_n hx hb dX10_count_71 rfl (lv_at hl 0 rfl) ?_
      obtain ⟨z_3, hz, h0⟩ := bd_ok h0
      refine ro_V (As := []) (rest := []) (wc := [(h, .inr (7, [.ref h_s, .ref h_aside, .ref h_past, .int h_pasts, .ref h_snapshot, .int h_isKept, .ref h_pad, .int h_length, .ref h_steps, .int h_many, .int h_value, .ref h_summed, .ref h_plus, .ref h_parts])), (h_s, .inl (cI, 65, .inl h_s_f)), (h_aside, .inl (cI, 65, .inl h_aside_f)), (h_past, .inl (cI, 260, .inl h_past_f)), (h_snapshot, .inl (cI, 65, .inl h_snapshot_f)), (h_pad, .inl (cI, 80, .inl h_pad_f)), (h_steps, .inl (cI, 320, .inl h_steps_f)), (h_summed, .inl (cI, 81, .inl h_summed_f)), (h_plus, .inl (cI, 81, .inl h_plus_f)), (h_parts, .inl (cI, 392, .inl h_parts_f))]) hcf (kX10_commute l D cI cC cT h h_s h_aside h_past h_snapshot h_pad h_steps h_summed h_plus h_parts h_s_f h_aside_f h_past_f h_pasts h_snapshot_f h_isKept h_pad_f h_length h_steps_f h_many h_value h_summed_f h_plus_f h_parts_f z_3 hz) (cwV 0 hts gX10_count_X10_commute rfl rfl rfl (by decide +kernel) ⟨Nat.le_of_ble_eq_true rfl, Nat.le_of_ble_eq_true rfl⟩) hE (hP.sub [0, 1, 2, 3, 4, 5, 6, 7, 8, 9] rfl) (va_recv hK hP (ci := 7) (q0 := 0) rfl rfl) rfl hl.1 rfl (Nat.le_of_ble_eq_true rfl) dX10_count_72 ⟨Nat.le_of_ble_eq_true rfl, Nat.le_of_ble_eq_true rfl⟩ ?_
      refine W.eq (g2 := F0 m 75 ls [.int z_3]) rfl ?_
      have e0 := Option.some.inj h0
      subst e0
      exact W.iret (v := z_3) hx hb hr (fun t ht hW => ⟨rfl, ht⟩) (fun q hq => absurd hq List.not_mem_nil) dX10_count_75
    · have h0 := it_f c_2 h0
      by_cases c_4 : p1 = 2
      · have h0 := it_t c_4 h0
        refine lv_tableIn (tgt := 76) hx hb dX10_count_1 (by rw [c_4]; decide) (by rw [c_4]; decide) (by rw [c_4]; rfl) (by decide) ?_
        refine lv_aload_n hx hb dX10_count_76 rfl (lv_at hl 0 rfl) ?_
        obtain ⟨z_5, hz, h0⟩ := bd_ok h0
        refine ro_V (As := []) (rest := []) (wc := [(h, .inr (7, [.ref h_s, .ref h_aside, .ref h_past, .int h_pasts, .ref h_snapshot, .int h_isKept, .ref h_pad, .int h_length, .ref h_steps, .int h_many, .int h_value, .ref h_summed, .ref h_plus, .ref h_parts])), (h_s, .inl (cI, 65, .inl h_s_f)), (h_aside, .inl (cI, 65, .inl h_aside_f)), (h_past, .inl (cI, 260, .inl h_past_f)), (h_snapshot, .inl (cI, 65, .inl h_snapshot_f)), (h_pad, .inl (cI, 80, .inl h_pad_f)), (h_steps, .inl (cI, 320, .inl h_steps_f)), (h_summed, .inl (cI, 81, .inl h_summed_f)), (h_plus, .inl (cI, 81, .inl h_plus_f)), (h_parts, .inl (cI, 392, .inl h_parts_f))]) hcf (kX10_triples l D cI cC cT h h_s h_aside h_past h_snapshot h_pad h_steps h_summed h_plus h_parts h_s_f h_aside_f h_past_f h_pasts h_snapshot_f h_isKept h_pad_f h_length h_steps_f h_many h_value h_summed_f h_plus_f h_parts_f z_5 hz) (cwV 0 hts gX10_count_X10_triples rfl rfl rfl (by decide +kernel) ⟨Nat.le_of_ble_eq_true rfl, Nat.le_of_ble_eq_true rfl⟩) hE (hP.sub [0, 1, 2, 3, 4, 5, 6, 7, 8, 9] rfl) (va_recv hK hP (ci := 7) (q0 := 0) rfl rfl) rfl hl.1 rfl (Nat.le_of_ble_eq_true rfl) dX10_count_77 ⟨Nat.le_of_ble_eq_true rfl, Nat.le_of_ble_eq_true rfl⟩ ?_
        refine W.eq (g2 := F0 m 80 ls [.int z_5]) rfl ?_
        have e0 := Option.some.inj h0
        subst e0
        exact W.iret (v := z_5) hx hb hr (fun t ht hW => ⟨rfl, ht⟩) (fun q hq => absurd hq List.not_mem_nil) dX10_count_80
      · have h0 := it_f c_4 h0
        by_cases c_6 : p1 = 3
        · have h0 := it_t c_6 h0
          refine lv_tableIn (tgt := 81) hx hb dX10_count_1 (by rw [c_6]; decide) (by rw [c_6]; decide) (by rw [c_6]; rfl) (by decide) ?_
          refine lv_aload_n hx hb dX10_count_81 rfl (lv_at hl 0 rfl) ?_
          refine lv_iconst (v := 1) hx hb dX10_count_82 (by decide) ?_
          obtain ⟨z_7, hz, h0⟩ := bd_ok h0
          refine ro_V (As := [.int 1]) (rest := []) (wc := [(h, .inr (7, [.ref h_s, .ref h_aside, .ref h_past, .int h_pasts, .ref h_snapshot, .int h_isKept, .ref h_pad, .int h_length, .ref h_steps, .int h_many, .int h_value, .ref h_summed, .ref h_plus, .ref h_parts])), (h_s, .inl (cI, 65, .inl h_s_f)), (h_aside, .inl (cI, 65, .inl h_aside_f)), (h_past, .inl (cI, 260, .inl h_past_f)), (h_snapshot, .inl (cI, 65, .inl h_snapshot_f)), (h_pad, .inl (cI, 80, .inl h_pad_f)), (h_steps, .inl (cI, 320, .inl h_steps_f)), (h_summed, .inl (cI, 81, .inl h_summed_f)), (h_plus, .inl (cI, 81, .inl h_plus_f)), (h_parts, .inl (cI, 392, .inl h_parts_f))]) hcf (kX10_idle l D cI cC cT h h_s h_aside h_past h_snapshot h_pad h_steps h_summed h_plus h_parts h_s_f h_aside_f h_past_f h_pasts h_snapshot_f h_isKept h_pad_f h_length h_steps_f h_many h_value h_summed_f h_plus_f h_parts_f 1 z_7 hz) (cwV 1 hts gX10_count_X10_idle rfl rfl rfl (by decide +kernel) ⟨Nat.le_of_ble_eq_true rfl, Nat.le_of_ble_eq_true rfl⟩) hE (hP.sub [0, 1, 2, 3, 4, 5, 6, 7, 8, 9] rfl) (va_recv hK hP (ci := 7) (q0 := 0) rfl rfl) rfl hl.1 rfl (Nat.le_of_ble_eq_true rfl) dX10_count_83 ⟨Nat.le_of_ble_eq_true rfl, Nat.le_of_ble_eq_true rfl⟩ ?_
          refine W.eq (g2 := F0 m 86 ls [.int z_7]) rfl ?_
          have e0 := Option.some.inj h0
          subst e0
          exact W.iret (v := z_7) hx hb hr (fun t ht hW => ⟨rfl, ht⟩) (fun q hq => absurd hq List.not_mem_nil) dX10_count_86
        · have h0 := it_f c_6 h0
          by_cases c_8 : p1 = 4
          · have h0 := it_t c_8 h0
            refine lv_tableIn (tgt := 87) hx hb dX10_count_1 (by rw [c_8]; decide) (by rw [c_8]; decide) (by rw [c_8]; rfl) (by decide) ?_
            refine lv_aload_n hx hb dX10_count_87 rfl (lv_at hl 0 rfl) ?_
            refine lv_iconst (v := 0) hx hb dX10_count_88 (by decide) ?_
            obtain ⟨z_9, hz, h0⟩ := bd_ok h0
            refine ro_V (As := [.int 0]) (rest := []) (wc := [(h, .inr (7, [.ref h_s, .ref h_aside, .ref h_past, .int h_pasts, .ref h_snapshot, .int h_isKept, .ref h_pad, .int h_length, .ref h_steps, .int h_many, .int h_value, .ref h_summed, .ref h_plus, .ref h_parts])), (h_s, .inl (cI, 65, .inl h_s_f)), (h_aside, .inl (cI, 65, .inl h_aside_f)), (h_past, .inl (cI, 260, .inl h_past_f)), (h_snapshot, .inl (cI, 65, .inl h_snapshot_f)), (h_pad, .inl (cI, 80, .inl h_pad_f)), (h_steps, .inl (cI, 320, .inl h_steps_f)), (h_summed, .inl (cI, 81, .inl h_summed_f)), (h_plus, .inl (cI, 81, .inl h_plus_f)), (h_parts, .inl (cI, 392, .inl h_parts_f))]) hcf (kX10_idle l D cI cC cT h h_s h_aside h_past h_snapshot h_pad h_steps h_summed h_plus h_parts h_s_f h_aside_f h_past_f h_pasts h_snapshot_f h_isKept h_pad_f h_length h_steps_f h_many h_value h_summed_f h_plus_f h_parts_f 0 z_9 hz) (cwV 1 hts gX10_count_X10_idle rfl rfl rfl (by decide +kernel) ⟨Nat.le_of_ble_eq_true rfl, Nat.le_of_ble_eq_true rfl⟩) hE (hP.sub [0, 1, 2, 3, 4, 5, 6, 7, 8, 9] rfl) (va_recv hK hP (ci := 7) (q0 := 0) rfl rfl) rfl hl.1 rfl (Nat.le_of_ble_eq_true rfl) dX10_count_89 ⟨Nat.le_of_ble_eq_true rfl, Nat.le_of_ble_eq_true rfl⟩ ?_
            refine W.eq (g2 := F0 m 92 ls [.int z_9]) rfl ?_
            have e0 := Option.some.inj h0
            subst e0
            exact W.iret (v := z_9) hx hb hr (fun t ht hW => ⟨rfl, ht⟩) (fun q hq => absurd hq List.not_mem_nil) dX10_count_92
          · have h0 := it_f c_8 h0
            by_cases c_10 : p1 = 5
            · have h0 := it_t c_10 h0
              refine lv_tableIn (tgt := 93) hx hb dX10_count_1 (by rw [c_10]; decide) (by rw [c_10]; decide) (by rw [c_10]; rfl) (by decide) ?_
              refine lv_aload_n hx hb dX10_count_93 rfl (lv_at hl 0 rfl) ?_
              obtain ⟨z_11, hz, h0⟩ := bd_ok h0
              refine ro_V (As := []) (rest := []) (wc := [(h, .inr (7, [.ref h_s, .ref h_aside, .ref h_past, .int h_pasts, .ref h_snapshot, .int h_isKept, .ref h_pad, .int h_length, .ref h_steps, .int h_many, .int h_value, .ref h_summed, .ref h_plus, .ref h_parts])), (h_s, .inl (cI, 65, .inl h_s_f)), (h_aside, .inl (cI, 65, .inl h_aside_f)), (h_past, .inl (cI, 260, .inl h_past_f)), (h_snapshot, .inl (cI, 65, .inl h_snapshot_f)), (h_pad, .inl (cI, 80, .inl h_pad_f)), (h_steps, .inl (cI, 320, .inl h_steps_f)), (h_summed, .inl (cI, 81, .inl h_summed_f)), (h_plus, .inl (cI, 81, .inl h_plus_f)), (h_parts, .inl (cI, 392, .inl h_parts_f))]) hcf (kX10_alone l D cI cC cT h h_s h_aside h_past h_snapshot h_pad h_steps h_summed h_plus h_parts h_s_f h_aside_f h_past_f h_pasts h_snapshot_f h_isKept h_pad_f h_length h_steps_f h_many h_value h_summed_f h_plus_f h_parts_f z_11 hz) (cwV 0 hts gX10_count_X10_alone rfl rfl rfl (by decide +kernel) ⟨Nat.le_of_ble_eq_true rfl, Nat.le_of_ble_eq_true rfl⟩) hE (hP.sub [0, 1, 2, 3, 4, 5, 6, 7, 8, 9] rfl) (va_recv hK hP (ci := 7) (q0 := 0) rfl rfl) rfl hl.1 rfl (Nat.le_of_ble_eq_true rfl) dX10_count_94 ⟨Nat.le_of_ble_eq_true rfl, Nat.le_of_ble_eq_true rfl⟩ ?_
              refine W.eq (g2 := F0 m 97 ls [.int z_11]) rfl ?_
              have e0 := Option.some.inj h0
              subst e0
              exact W.iret (v := z_11) hx hb hr (fun t ht hW => ⟨rfl, ht⟩) (fun q hq => absurd hq List.not_mem_nil) dX10_count_97
            · have h0 := it_f c_10 h0
              by_cases c_12 : p1 = 6
              · have h0 := it_t c_12 h0
                refine lv_tableIn (tgt := 98) hx hb dX10_count_1 (by rw [c_12]; decide) (by rw [c_12]; decide) (by rw [c_12]; rfl) (by decide) ?_
                refine lv_aload_n hx hb dX10_count_98 rfl (lv_at hl 0 rfl) ?_
                obtain ⟨z_13, hz, h0⟩ := bd_ok h0
                refine ro_V (As := []) (rest := []) (wc := [(h, .inr (7, [.ref h_s, .ref h_aside, .ref h_past, .int h_pasts, .ref h_snapshot, .int h_isKept, .ref h_pad, .int h_length, .ref h_steps, .int h_many, .int h_value, .ref h_summed, .ref h_plus, .ref h_parts])), (h_s, .inl (cI, 65, .inl h_s_f)), (h_aside, .inl (cI, 65, .inl h_aside_f)), (h_past, .inl (cI, 260, .inl h_past_f)), (h_snapshot, .inl (cI, 65, .inl h_snapshot_f)), (h_pad, .inl (cI, 80, .inl h_pad_f)), (h_steps, .inl (cI, 320, .inl h_steps_f)), (h_summed, .inl (cI, 81, .inl h_summed_f)), (h_plus, .inl (cI, 81, .inl h_plus_f)), (h_parts, .inl (cI, 392, .inl h_parts_f))]) hcf (kX10_rings l D cI cC cT h h_s h_aside h_past h_snapshot h_pad h_steps h_summed h_plus h_parts h_s_f h_aside_f h_past_f h_pasts h_snapshot_f h_isKept h_pad_f h_length h_steps_f h_many h_value h_summed_f h_plus_f h_parts_f z_13 hz) (cwV 0 hts gX10_count_X10_rings rfl rfl rfl (by decide +kernel) ⟨Nat.le_of_ble_eq_true rfl, Nat.le_of_ble_eq_true rfl⟩) hE (hP.sub [0, 1, 2, 3, 4, 5, 6, 7, 8, 9] rfl) (va_recv hK hP (ci := 7) (q0 := 0) rfl rfl) rfl hl.1 rfl (Nat.le_of_ble_eq_true rfl) dX10_count_99 ⟨Nat.le_of_ble_eq_true rfl, Nat.le_of_ble_eq_true rfl⟩ ?_
                refine W.eq (g2 := F0 m 102 ls [.int z_13]) rfl ?_
                have e0 := Option.some.inj h0
                subst e0
                exact W.iret (v := z_13) hx hb hr (fun t ht hW => ⟨rfl, ht⟩) (fun q hq => absurd hq List.not_mem_nil) dX10_count_102
              · have h0 := it_f c_12 h0
                by_cases c_14 : p1 = 7
                · have h0 := it_t c_14 h0
                  refine lv_tableIn (tgt := 103) hx hb dX10_count_1 (by rw [c_14]; decide) (by rw [c_14]; decide) (by rw [c_14]; rfl) (by decide) ?_
                  refine lv_aload_n hx hb dX10_count_103 rfl (lv_at hl 0 rfl) ?_
                  obtain ⟨z_15, hz, h0⟩ := bd_ok h0
                  refine ro_V (As := []) (rest := []) (wc := [(h, .inr (7, [.ref h_s, .ref h_aside, .ref h_past, .int h_pasts, .ref h_snapshot, .int h_isKept, .ref h_pad, .int h_length, .ref h_steps, .int h_many, .int h_value, .ref h_summed, .ref h_plus, .ref h_parts])), (h_s, .inl (cI, 65, .inl h_s_f)), (h_aside, .inl (cI, 65, .inl h_aside_f)), (h_past, .inl (cI, 260, .inl h_past_f)), (h_snapshot, .inl (cI, 65, .inl h_snapshot_f)), (h_pad, .inl (cI, 80, .inl h_pad_f)), (h_steps, .inl (cI, 320, .inl h_steps_f)), (h_summed, .inl (cI, 81, .inl h_summed_f)), (h_plus, .inl (cI, 81, .inl h_plus_f)), (h_parts, .inl (cI, 392, .inl h_parts_f))]) hcf (kX10_fewest l D cI cC cT h h_s h_aside h_past h_snapshot h_pad h_steps h_summed h_plus h_parts h_s_f h_aside_f h_past_f h_pasts h_snapshot_f h_isKept h_pad_f h_length h_steps_f h_many h_value h_summed_f h_plus_f h_parts_f z_15 hz) (cwV 0 hts gX10_count_X10_fewest rfl rfl rfl (by decide +kernel) ⟨Nat.le_of_ble_eq_true rfl, Nat.le_of_ble_eq_true rfl⟩) hE (hP.sub [0, 1, 2, 3, 4, 5, 6, 7, 8, 9] rfl) (va_recv hK hP (ci := 7) (q0 := 0) rfl rfl) rfl hl.1 rfl (Nat.le_of_ble_eq_true rfl) dX10_count_104 ⟨Nat.le_of_ble_eq_true rfl, Nat.le_of_ble_eq_true rfl⟩ ?_
                  refine W.eq (g2 := F0 m 107 ls [.int z_15]) rfl ?_
                  obtain ⟨z_16, hz, h0⟩ := bd_ok h0
                  refine ro_S (As := [.int z_15]) (rest := []) (wc := []) hcf (kX10_bits l D cI cC cT z_15 z_16 hz) (va_cwS 1 hts gX10_count_X10_bits rfl rfl rfl (by decide +kernel) ⟨Nat.le_of_ble_eq_true rfl, Nat.le_of_ble_eq_true rfl⟩) hE (hP.sub [] rfl) rfl hl.1 rfl (Nat.le_of_ble_eq_true rfl) dX10_count_107 ⟨Nat.le_of_ble_eq_true rfl, Nat.le_of_ble_eq_true rfl⟩ ?_
                  refine W.eq (g2 := F0 m 110 ls [.int z_16]) rfl ?_
                  have e0 := Option.some.inj h0
                  subst e0
                  exact W.iret (v := z_16) hx hb hr (fun t ht hW => ⟨rfl, ht⟩) (fun q hq => absurd hq List.not_mem_nil) dX10_count_110
                · have h0 := it_f c_14 h0
                  by_cases c_17 : p1 = 8
                  · have h0 := it_t c_17 h0
                    refine lv_tableIn (tgt := 111) hx hb dX10_count_1 (by rw [c_17]; decide) (by rw [c_17]; decide) (by rw [c_17]; rfl) (by decide) ?_
                    refine lv_aload_n hx hb dX10_count_111 rfl (lv_at hl 0 rfl) ?_
                    obtain ⟨z_18, hz, h0⟩ := bd_ok h0
                    refine ro_V (As := []) (rest := []) (wc := [(h, .inr (7, [.ref h_s, .ref h_aside, .ref h_past, .int h_pasts, .ref h_snapshot, .int h_isKept, .ref h_pad, .int h_length, .ref h_steps, .int h_many, .int h_value, .ref h_summed, .ref h_plus, .ref h_parts])), (h_s, .inl (cI, 65, .inl h_s_f)), (h_aside, .inl (cI, 65, .inl h_aside_f)), (h_past, .inl (cI, 260, .inl h_past_f)), (h_snapshot, .inl (cI, 65, .inl h_snapshot_f)), (h_pad, .inl (cI, 80, .inl h_pad_f)), (h_steps, .inl (cI, 320, .inl h_steps_f)), (h_summed, .inl (cI, 81, .inl h_summed_f)), (h_plus, .inl (cI, 81, .inl h_plus_f)), (h_parts, .inl (cI, 392, .inl h_parts_f))]) hcf (kX10_fewest l D cI cC cT h h_s h_aside h_past h_snapshot h_pad h_steps h_summed h_plus h_parts h_s_f h_aside_f h_past_f h_pasts h_snapshot_f h_isKept h_pad_f h_length h_steps_f h_many h_value h_summed_f h_plus_f h_parts_f z_18 hz) (cwV 0 hts gX10_count_X10_fewest rfl rfl rfl (by decide +kernel) ⟨Nat.le_of_ble_eq_true rfl, Nat.le_of_ble_eq_true rfl⟩) hE (hP.sub [0, 1, 2, 3, 4, 5, 6, 7, 8, 9] rfl) (va_recv hK hP (ci := 7) (q0 := 0) rfl rfl) rfl hl.1 rfl (Nat.le_of_ble_eq_true rfl) dX10_count_112 ⟨Nat.le_of_ble_eq_true rfl, Nat.le_of_ble_eq_true rfl⟩ ?_
                    refine W.eq (g2 := F0 m 115 ls [.int z_18]) rfl ?_
                    have e0 := Option.some.inj h0
                    subst e0
                    exact W.iret (v := z_18) hx hb hr (fun t ht hW => ⟨rfl, ht⟩) (fun q hq => absurd hq List.not_mem_nil) dX10_count_115
                  · have h0 := it_f c_17 h0
                    by_cases c_19 : p1 = 9
                    · have h0 := it_t c_19 h0
                      refine lv_tableIn (tgt := 116) hx hb dX10_count_1 (by rw [c_19]; decide) (by rw [c_19]; decide) (by rw [c_19]; rfl) (by decide) ?_
                      refine lv_aload_n hx hb dX10_count_116 rfl (lv_at hl 0 rfl) ?_
                      obtain ⟨z_20, hz, h0⟩ := bd_ok h0
                      refine ro_V (As := []) (rest := []) (wc := [(h, .inr (7, [.ref h_s, .ref h_aside, .ref h_past, .int h_pasts, .ref h_snapshot, .int h_isKept, .ref h_pad, .int h_length, .ref h_steps, .int h_many, .int h_value, .ref h_summed, .ref h_plus, .ref h_parts])), (h_s, .inl (cI, 65, .inl h_s_f)), (h_aside, .inl (cI, 65, .inl h_aside_f)), (h_past, .inl (cI, 260, .inl h_past_f)), (h_snapshot, .inl (cI, 65, .inl h_snapshot_f)), (h_pad, .inl (cI, 80, .inl h_pad_f)), (h_steps, .inl (cI, 320, .inl h_steps_f)), (h_summed, .inl (cI, 81, .inl h_summed_f)), (h_plus, .inl (cI, 81, .inl h_plus_f)), (h_parts, .inl (cI, 392, .inl h_parts_f))]) hcf (kX10_squares l D cI cC cT h h_s h_aside h_past h_snapshot h_pad h_steps h_summed h_plus h_parts h_s_f h_aside_f h_past_f h_pasts h_snapshot_f h_isKept h_pad_f h_length h_steps_f h_many h_value h_summed_f h_plus_f h_parts_f z_20 hz) (cwV 0 hts gX10_count_X10_squares rfl rfl rfl (by decide +kernel) ⟨Nat.le_of_ble_eq_true rfl, Nat.le_of_ble_eq_true rfl⟩) hE (hP.sub [0, 1, 2, 3, 4, 5, 6, 7, 8, 9] rfl) (va_recv hK hP (ci := 7) (q0 := 0) rfl rfl) rfl hl.1 rfl (Nat.le_of_ble_eq_true rfl) dX10_count_117 ⟨Nat.le_of_ble_eq_true rfl, Nat.le_of_ble_eq_true rfl⟩ ?_
                      refine W.eq (g2 := F0 m 120 ls [.int z_20]) rfl ?_
                      have e0 := Option.some.inj h0
                      subst e0
                      exact W.iret (v := z_20) hx hb hr (fun t ht hW => ⟨rfl, ht⟩) (fun q hq => absurd hq List.not_mem_nil) dX10_count_120
                    · have h0 := it_f c_19 h0
                      by_cases c_21 : p1 = 10
                      · have h0 := it_t c_21 h0
                        refine lv_tableIn (tgt := 121) hx hb dX10_count_1 (by rw [c_21]; decide) (by rw [c_21]; decide) (by rw [c_21]; rfl) (by decide) ?_
                        refine lv_aload_n hx hb dX10_count_121 rfl (lv_at hl 0 rfl) ?_
                        refine va_get (D := D) (ci := 7) (v := .int h_length) (C := RX10) (T := TX10) (N := 14) hx hb hts hi_X10 hown hK hP 0 rfl rfl 7 (by decide) hf_111 (fun _ h9 => h9) rfl dX10_count_122 ?_
                        have e0 := Option.some.inj h0
                        subst e0
                        exact W.iret (v := h_length) hx hb hr (fun t ht hW => ⟨rfl, ht⟩) (fun q hq => absurd hq List.not_mem_nil) dX10_count_125
                      · have h0 := it_f c_21 h0
                        by_cases c_22 : p1 = 11
                        · have h0 := it_t c_22 h0
                          refine lv_tableIn (tgt := 126) hx hb dX10_count_1 (by rw [c_22]; decide) (by rw [c_22]; decide) (by rw [c_22]; rfl) (by decide) ?_
                          refine lv_aload_n hx hb dX10_count_126 rfl (lv_at hl 0 rfl) ?_
                          refine va_get (D := D) (ci := 7) (v := .int h_pasts) (C := RX10) (T := TX10) (N := 14) hx hb hts hi_X10 hown hK hP 0 rfl rfl 3 (by decide) hf_49 (fun _ h9 => h9) rfl dX10_count_127 ?_
                          have e0 := Option.some.inj h0
                          subst e0
                          exact W.iret (v := h_pasts) hx hb hr (fun t ht hW => ⟨rfl, ht⟩) (fun q hq => absurd hq List.not_mem_nil) dX10_count_130
                        · have h0 := it_f c_22 h0
                          refine lv_tableOut (tgt := 131) hx hb dX10_count_1 (by have a0 := sw_ne 0 0 (by decide) c_1; have a1 := sw_ne 1 1 (by decide) c_2; have a2 := sw_ne 2 2 (by decide) c_4; have a3 := sw_ne 3 3 (by decide) c_6; have a4 := sw_ne 4 4 (by decide) c_8; have a5 := sw_ne 5 5 (by decide) c_10; have a6 := sw_ne 6 6 (by decide) c_12; have a7 := sw_ne 7 7 (by decide) c_14; have a8 := sw_ne 8 8 (by decide) c_17; have a9 := sw_ne 9 9 (by decide) c_19; have a10 := sw_ne 10 10 (by decide) c_21; have a11 := sw_ne 11 11 (by decide) c_22; omega) (by decide) ?_
                          refine lv_iconst (v := (-1)) hx hb dX10_count_131 (by decide) ?_
                          have e0 := Option.some.inj h0
                          subst e0
                          exact W.iret (v := (-1)) hx hb hr (fun t ht hW => ⟨rfl, ht⟩) (fun q hq => absurd hq List.not_mem_nil) dX10_count_132
noncomputable def mX10_crooked (h_s_f : Nat → Int32) : Option (UInt64) :=
  bd (mX10_triples h_s_f) (fun z_1 => gd (nnan (FP.ddiv (FP.i2d ((((h_s_f (0 : Int32).toNatClampNeg) * (h_s_f (0 : Int32).toNatClampNeg)) * (h_s_f (0 : Int32).toNatClampNeg)) - z_1)) (FP.i2d (((h_s_f (0 : Int32).toNatClampNeg) * (h_s_f (0 : Int32).toNatClampNeg)) * (h_s_f (0 : Int32).toNatClampNeg))))) (some ((FP.ddiv (FP.i2d ((((h_s_f (0 : Int32).toNatClampNeg) * (h_s_f (0 : Int32).toNatClampNeg)) * (h_s_f (0 : Int32).toNatClampNeg)) - z_1)) (FP.i2d (((h_s_f (0 : Int32).toNatClampNeg) * (h_s_f (0 : Int32).toNatClampNeg)) * (h_s_f (0 : Int32).toNatClampNeg)))))))
set_option maxHeartbeats 8000000 in
set_option maxRecDepth 100000 in
theorem kX10_crooked (l : Launch) (D : va_G) (cI cC cT : ClassId) (h h_s h_aside h_past h_snapshot h_pad h_steps h_summed h_plus h_parts : Nat) (h_s_f : Nat → Int32) (h_aside_f : Nat → Int32) (h_past_f : Nat → Int32) (h_pasts : Int32) (h_snapshot_f : Nat → Int32) (h_isKept : Int32) (h_pad_f : Nat → Int32) (h_length : Int32) (h_steps_f : Nat → Int32) (h_many : Int32) (h_value : Int32) (h_summed_f : Nat → Int32) (h_plus_f : Nat → Int32) (h_parts_f : Nat → Int32) (z : UInt64) (h0 : mX10_crooked h_s_f = some z) : Met l yX10_crooked wsX10_crooked ({ frames := 5, cells := 0, slots := 0, locals := 112 } : Room) (va_Pc [.ref h] (rP D cI cC cT [(h, .inr (7, [.ref h_s, .ref h_aside, .ref h_past, .int h_pasts, .ref h_snapshot, .int h_isKept, .ref h_pad, .int h_length, .ref h_steps, .int h_many, .int h_value, .ref h_summed, .ref h_plus, .ref h_parts])), (h_s, .inl (cI, 65, .inl h_s_f)), (h_aside, .inl (cI, 65, .inl h_aside_f)), (h_past, .inl (cI, 260, .inl h_past_f)), (h_snapshot, .inl (cI, 65, .inl h_snapshot_f)), (h_pad, .inl (cI, 80, .inl h_pad_f)), (h_steps, .inl (cI, 320, .inl h_steps_f)), (h_summed, .inl (cI, 81, .inl h_summed_f)), (h_plus, .inl (cI, 81, .inl h_plus_f)), (h_parts, .inl (cI, 392, .inl h_parts_f))])) (rQ (some (.double z))) 0 0 (fun _ => False) := by
  refine Met.ofW (cc := cX10_crooked) (maxL := 2) (ret := (some .double)) (by decide) rfl ?_
  intro p e s m args below meth c s₁ B hml hv
  obtain ⟨rfl, hP, hE⟩ := hv
  have hx := B.exec
  have hb := B.bytes
  have hr := B.returns
  have hts := atoms_spec (ws := wsX10_crooked) B.pre
  have hown : s.vm.findClass RX10 = some m.cls := findClass_of_methodNamed B.named
  have hlocks := B.notSynchronized
  have hK := hE.1
  have hcf : CallFix p m c cX10_crooked 2 s ([.ref h] : List Value).toArray wsX10_crooked RX10 := ⟨hx, hb, hml, hown, hts⟩
  have hP : va_P D vwCl [(h, .inr (7, [.ref h_s, .ref h_aside, .ref h_past, .int h_pasts, .ref h_snapshot, .int h_isKept, .ref h_pad, .int h_length, .ref h_steps, .int h_many, .int h_value, .ref h_summed, .ref h_plus, .ref h_parts])), (h_s, .inl (cI, 65, .inl h_s_f)), (h_aside, .inl (cI, 65, .inl h_aside_f)), (h_past, .inl (cI, 260, .inl h_past_f)), (h_snapshot, .inl (cI, 65, .inl h_snapshot_f)), (h_pad, .inl (cI, 80, .inl h_pad_f)), (h_steps, .inl (cI, 320, .inl h_steps_f)), (h_summed, .inl (cI, 81, .inl h_summed_f)), (h_plus, .inl (cI, 81, .inl h_plus_f)), (h_parts, .inl (cI, 392, .inl h_parts_f))] s.heap := hP
  have hf_7 := hts (.fieldLink RX10 7 "CrookedSumsModel" "s" "[I") (by decide +kernel)
  have hi_X10 := (show ∀ w ∈ u_ws RX10 TX10 14, w ∈ wsX10_crooked from by decide +kernel)
  have hl := lv_entry ([.ref h]) (n := 2) (Nat.le_of_ble_eq_true rfl)
  rw [lg_entry_eq]
  generalize (lg_sl ([.ref h]) ++ List.replicate (2 - (lg_sl ([.ref h])).length) Slot.unset).toArray = ls at hl ⊢
  have hl : lv_has ls 2 [(0, .ref h)] := hl
  unfold mX10_crooked at h0
  refine lv_aload_n hx hb dX10_crooked_0 rfl (lv_at hl 0 rfl) ?_
  refine va_get (D := D) (ci := 7) (v := .ref h_s) (C := RX10) (T := TX10) (N := 14) hx hb hts hi_X10 hown hK hP 0 rfl rfl 0 (by decide) hf_7 (fun _ h9 => h9) rfl dX10_crooked_1 ?_
  refine lv_iconst (v := 0) hx hb dX10_crooked_4 (by decide) ?_
  refine va_iald hx hb hK hP 1 0 rfl rfl (by unfold vp_in; decide) dX10_crooked_5 ?_
  refine lv_aload_n hx hb dX10_crooked_6 rfl (lv_at hl 0 rfl) ?_
  refine va_get (D := D) (ci := 7) (v := .ref h_s) (C := RX10) (T := TX10) (N := 14) hx hb hts hi_X10 hown hK hP 0 rfl rfl 0 (by decide) hf_7 (fun _ h9 => h9) rfl dX10_crooked_7 ?_
  refine lv_iconst (v := 0) hx hb dX10_crooked_10 (by decide) ?_
  refine va_iald hx hb hK hP 1 0 rfl rfl (by unfold vp_in; decide) dX10_crooked_11 ?_
  refine lv_imul hx hb dX10_crooked_12 ?_
  refine lv_aload_n hx hb dX10_crooked_13 rfl (lv_at hl 0 rfl) ?_
  refine va_get (D := D) (ci := 7) (v := .ref h_s) (C := RX10) (T := TX10) (N := 14) hx hb hts hi_X10 hown hK hP 0 rfl rfl 0 (by decide) hf_7 (fun _ h9 => h9) rfl dX10_crooked_14 ?_
  refine lv_iconst (v := 0) hx hb dX10_crooked_17 (by decide) ?_
  refine va_iald hx hb hK hP 1 0 rfl rfl (by unfold vp_in; decide) dX10_crooked_18 ?_
  refine lv_imul hx hb dX10_crooked_19 ?_
  refine lv_istore_n (lv' := [(1, .int (((h_s_f (0 : Int32).toNatClampNeg) * (h_s_f (0 : Int32).toNatClampNeg)) * (h_s_f (0 : Int32).toNatClampNeg))), (0, .ref h)]) hx hb dX10_crooked_20 rfl hl (by decide) rfl (fun ls hl => ?_)
  refine lv_iload_n hx hb dX10_crooked_21 rfl (lv_at hl 0 rfl) ?_
  refine lv_aload_n hx hb dX10_crooked_22 rfl (lv_at hl 1 rfl) ?_
  obtain ⟨z_1, hz, h0⟩ := bd_ok h0
  refine ro_V (As := []) (rest := [.int (((h_s_f (0 : Int32).toNatClampNeg) * (h_s_f (0 : Int32).toNatClampNeg)) * (h_s_f (0 : Int32).toNatClampNeg))]) (wc := [(h, .inr (7, [.ref h_s, .ref h_aside, .ref h_past, .int h_pasts, .ref h_snapshot, .int h_isKept, .ref h_pad, .int h_length, .ref h_steps, .int h_many, .int h_value, .ref h_summed, .ref h_plus, .ref h_parts])), (h_s, .inl (cI, 65, .inl h_s_f)), (h_aside, .inl (cI, 65, .inl h_aside_f)), (h_past, .inl (cI, 260, .inl h_past_f)), (h_snapshot, .inl (cI, 65, .inl h_snapshot_f)), (h_pad, .inl (cI, 80, .inl h_pad_f)), (h_steps, .inl (cI, 320, .inl h_steps_f)), (h_summed, .inl (cI, 81, .inl h_summed_f)), (h_plus, .inl (cI, 81, .inl h_plus_f)), (h_parts, .inl (cI, 392, .inl h_parts_f))]) hcf (kX10_triples l D cI cC cT h h_s h_aside h_past h_snapshot h_pad h_steps h_summed h_plus h_parts h_s_f h_aside_f h_past_f h_pasts h_snapshot_f h_isKept h_pad_f h_length h_steps_f h_many h_value h_summed_f h_plus_f h_parts_f z_1 hz) (cwV 0 hts gX10_crooked_X10_triples rfl rfl rfl (by decide +kernel) ⟨Nat.le_of_ble_eq_true rfl, Nat.le_of_ble_eq_true rfl⟩) hE (hP.sub [0, 1, 2, 3, 4, 5, 6, 7, 8, 9] rfl) (va_recv hK hP (ci := 7) (q0 := 0) rfl rfl) rfl hl.1 rfl (Nat.le_of_ble_eq_true rfl) dX10_crooked_23 ⟨Nat.le_of_ble_eq_true rfl, Nat.le_of_ble_eq_true rfl⟩ ?_
  refine W.eq (g2 := F0 m 26 ls [.int z_1, .int (((h_s_f (0 : Int32).toNatClampNeg) * (h_s_f (0 : Int32).toNatClampNeg)) * (h_s_f (0 : Int32).toNatClampNeg))]) rfl ?_
  refine lv_isub hx hb dX10_crooked_26 ?_
  refine lv_i2d hx hb dX10_crooked_27 ?_
  refine lv_iload_n hx hb dX10_crooked_28 rfl (lv_at hl 0 rfl) ?_
  refine lv_i2d hx hb dX10_crooked_29 ?_
  obtain ⟨g0, h0⟩ := gd_ok h0
  refine lv_ddiv hx hb dX10_crooked_30 (nnan_ok g0) ?_
  have e0 := Option.some.inj h0
  subst e0
  exact W.dret hx hb hr (fun t ht hW => ⟨rfl, ht⟩) (fun q hq => absurd hq List.not_mem_nil) dX10_crooked_31
noncomputable def mX10_ring (h_s_f : Nat → Int32) (p1 : Int32) : Option (Int32) :=
  bd (mX10_in p1 1 (((1 : Int32) <<< ((h_s_f (0 : Int32).toNatClampNeg) &&& 31)) - 1)) (fun z_1 => if z_1 = 0 then (some ((-1))) else (bd (mX10_ringOf h_s_f p1) (fun z_2 => some (z_2))))
set_option maxHeartbeats 8000000 in
set_option maxRecDepth 100000 in
theorem kX10_ring (l : Launch) (D : va_G) (cI cC cT : ClassId) (h h_s h_aside h_past h_snapshot h_pad h_steps h_summed h_plus h_parts : Nat) (h_s_f : Nat → Int32) (h_aside_f : Nat → Int32) (h_past_f : Nat → Int32) (h_pasts : Int32) (h_snapshot_f : Nat → Int32) (h_isKept : Int32) (h_pad_f : Nat → Int32) (h_length : Int32) (h_steps_f : Nat → Int32) (h_many : Int32) (h_value : Int32) (h_summed_f : Nat → Int32) (h_plus_f : Nat → Int32) (h_parts_f : Nat → Int32) (p1 : Int32) (z : Int32) (h0 : mX10_ring h_s_f p1 = some z) : Met l yX10_ring wsX10_ring ({ frames := 4, cells := 0, slots := 0, locals := 92 } : Room) (va_Pc [.ref h, .int p1] (rP D cI cC cT [(h, .inr (7, [.ref h_s, .ref h_aside, .ref h_past, .int h_pasts, .ref h_snapshot, .int h_isKept, .ref h_pad, .int h_length, .ref h_steps, .int h_many, .int h_value, .ref h_summed, .ref h_plus, .ref h_parts])), (h_s, .inl (cI, 65, .inl h_s_f)), (h_aside, .inl (cI, 65, .inl h_aside_f)), (h_past, .inl (cI, 260, .inl h_past_f)), (h_snapshot, .inl (cI, 65, .inl h_snapshot_f)), (h_pad, .inl (cI, 80, .inl h_pad_f)), (h_steps, .inl (cI, 320, .inl h_steps_f)), (h_summed, .inl (cI, 81, .inl h_summed_f)), (h_plus, .inl (cI, 81, .inl h_plus_f)), (h_parts, .inl (cI, 392, .inl h_parts_f))])) (rQ (some (.int z))) 0 0 (fun _ => False) := by
  refine Met.ofW (cc := cX10_ring) (maxL := 2) (ret := (some .int)) (by decide) rfl ?_
  intro p e s m args below meth c s₁ B hml hv
  obtain ⟨rfl, hP, hE⟩ := hv
  have hx := B.exec
  have hb := B.bytes
  have hr := B.returns
  have hts := atoms_spec (ws := wsX10_ring) B.pre
  have hown : s.vm.findClass RX10 = some m.cls := findClass_of_methodNamed B.named
  have hlocks := B.notSynchronized
  have hK := hE.1
  have hcf : CallFix p m c cX10_ring 2 s ([.ref h, .int p1] : List Value).toArray wsX10_ring RX10 := ⟨hx, hb, hml, hown, hts⟩
  have hP : va_P D vwCl [(h, .inr (7, [.ref h_s, .ref h_aside, .ref h_past, .int h_pasts, .ref h_snapshot, .int h_isKept, .ref h_pad, .int h_length, .ref h_steps, .int h_many, .int h_value, .ref h_summed, .ref h_plus, .ref h_parts])), (h_s, .inl (cI, 65, .inl h_s_f)), (h_aside, .inl (cI, 65, .inl h_aside_f)), (h_past, .inl (cI, 260, .inl h_past_f)), (h_snapshot, .inl (cI, 65, .inl h_snapshot_f)), (h_pad, .inl (cI, 80, .inl h_pad_f)), (h_steps, .inl (cI, 320, .inl h_steps_f)), (h_summed, .inl (cI, 81, .inl h_summed_f)), (h_plus, .inl (cI, 81, .inl h_plus_f)), (h_parts, .inl (cI, 392, .inl h_parts_f))] s.heap := hP
  have hf_7 := hts (.fieldLink RX10 7 "CrookedSumsModel" "s" "[I") (by decide +kernel)
  have hi_X10 := (show ∀ w ∈ u_ws RX10 TX10 14, w ∈ wsX10_ring from by decide +kernel)
  have hl := lv_entry ([.ref h, .int p1]) (n := 2) (Nat.le_of_ble_eq_true rfl)
  rw [lg_entry_eq]
  generalize (lg_sl ([.ref h, .int p1]) ++ List.replicate (2 - (lg_sl ([.ref h, .int p1])).length) Slot.unset).toArray = ls at hl ⊢
  have hl : lv_has ls 2 [(0, .ref h), (1, .int p1)] := hl
  unfold mX10_ring at h0
  refine lv_iload_n hx hb dX10_ring_0 rfl (lv_at hl 1 rfl) ?_
  refine lv_iconst (v := 1) hx hb dX10_ring_1 (by decide) ?_
  refine lv_iconst (v := 1) hx hb dX10_ring_2 (by decide) ?_
  refine lv_aload_n hx hb dX10_ring_3 rfl (lv_at hl 0 rfl) ?_
  refine va_get (D := D) (ci := 7) (v := .ref h_s) (C := RX10) (T := TX10) (N := 14) hx hb hts hi_X10 hown hK hP 0 rfl rfl 0 (by decide) hf_7 (fun _ h9 => h9) rfl dX10_ring_4 ?_
  refine lv_iconst (v := 0) hx hb dX10_ring_7 (by decide) ?_
  refine va_iald hx hb hK hP 1 0 rfl rfl (by unfold vp_in; decide) dX10_ring_8 ?_
  refine lv_ishl hx hb dX10_ring_9 ?_
  refine lv_iconst (v := 1) hx hb dX10_ring_10 (by decide) ?_
  refine lv_isub hx hb dX10_ring_11 ?_
  obtain ⟨z_1, hz, h0⟩ := bd_ok h0
  refine ro_S (As := [.int p1, .int 1, .int (((1 : Int32) <<< ((h_s_f (0 : Int32).toNatClampNeg) &&& 31)) - 1)]) (rest := []) (wc := []) hcf (kX10_in l D cI cC cT p1 1 (((1 : Int32) <<< ((h_s_f (0 : Int32).toNatClampNeg) &&& 31)) - 1) z_1 hz) (va_cwS 3 hts gX10_ring_X10_in rfl rfl rfl (by decide +kernel) ⟨Nat.le_of_ble_eq_true rfl, Nat.le_of_ble_eq_true rfl⟩) hE (hP.sub [] rfl) rfl hl.1 rfl (Nat.le_of_ble_eq_true rfl) dX10_ring_12 ⟨Nat.le_of_ble_eq_true rfl, Nat.le_of_ble_eq_true rfl⟩ ?_
  refine W.eq (g2 := F0 m 15 ls [.int z_1]) rfl ?_
  refine lv_if_eq (tgt := 26) hx hb dX10_ring_15 (by decide) (fun c9 => ?_) (fun c9 => ?_)
  · have h0 := it_t c9 h0
    refine lv_iconst (v := (-1)) hx hb dX10_ring_26 (by decide) ?_
    have e0 := Option.some.inj h0
    subst e0
    exact W.iret (v := (-1)) hx hb hr (fun t ht hW => ⟨rfl, ht⟩) (fun q hq => absurd hq List.not_mem_nil) dX10_ring_27
  · have h0 := it_f c9 h0
    refine lv_aload_n hx hb dX10_ring_18 rfl (lv_at hl 0 rfl) ?_
    refine lv_iload_n hx hb dX10_ring_19 rfl (lv_at hl 1 rfl) ?_
    obtain ⟨z_2, hz, h0⟩ := bd_ok h0
    refine ro_V (As := [.int p1]) (rest := []) (wc := [(h, .inr (7, [.ref h_s, .ref h_aside, .ref h_past, .int h_pasts, .ref h_snapshot, .int h_isKept, .ref h_pad, .int h_length, .ref h_steps, .int h_many, .int h_value, .ref h_summed, .ref h_plus, .ref h_parts])), (h_s, .inl (cI, 65, .inl h_s_f)), (h_aside, .inl (cI, 65, .inl h_aside_f)), (h_past, .inl (cI, 260, .inl h_past_f)), (h_snapshot, .inl (cI, 65, .inl h_snapshot_f)), (h_pad, .inl (cI, 80, .inl h_pad_f)), (h_steps, .inl (cI, 320, .inl h_steps_f)), (h_summed, .inl (cI, 81, .inl h_summed_f)), (h_plus, .inl (cI, 81, .inl h_plus_f)), (h_parts, .inl (cI, 392, .inl h_parts_f))]) hcf (kX10_ringOf l D cI cC cT h h_s h_aside h_past h_snapshot h_pad h_steps h_summed h_plus h_parts h_s_f h_aside_f h_past_f h_pasts h_snapshot_f h_isKept h_pad_f h_length h_steps_f h_many h_value h_summed_f h_plus_f h_parts_f p1 z_2 hz) (cwV 1 hts gX10_ring_X10_ringOf rfl rfl rfl (by decide +kernel) ⟨Nat.le_of_ble_eq_true rfl, Nat.le_of_ble_eq_true rfl⟩) hE (hP.sub [0, 1, 2, 3, 4, 5, 6, 7, 8, 9] rfl) (va_recv hK hP (ci := 7) (q0 := 0) rfl rfl) rfl hl.1 rfl (Nat.le_of_ble_eq_true rfl) dX10_ring_20 ⟨Nat.le_of_ble_eq_true rfl, Nat.le_of_ble_eq_true rfl⟩ ?_
    refine W.eq (g2 := F0 m 23 ls [.int z_2]) rfl ?_
    refine lv_goto (tgt := 27) hx hb dX10_ring_23 (by decide) ?_
    have e0 := Option.some.inj h0
    subst e0
    exact W.iret (v := z_2) hx hb hr (fun t ht hW => ⟨rfl, ht⟩) (fun q hq => absurd hq List.not_mem_nil) dX10_ring_27
noncomputable def mX10_ringAt_L10 (h_s_f : Nat → Int32) (k10_45 : Int32 → Int32 → Option (Int32)) : Nat → Int32 → Int32 → Option (Int32)
  | 0, _, _ => none
  | F + 1, x3_4, x2_5 => if ((1 : Int32) <<< ((h_s_f (0 : Int32).toNatClampNeg) &&& 31)) ≤ x3_4 then (k10_45 x3_4 x2_5) else (bd (mX10_isRing h_s_f x3_4) (fun z_6 => if z_6 = 0 then (mX10_ringAt_L10 h_s_f k10_45 F (x3_4 + 1) x2_5) else (if x2_5 = 0 then (some (x3_4)) else (mX10_ringAt_L10 h_s_f k10_45 F (x3_4 + 1) (x2_5 + (-1))))))
noncomputable def mX10_ringAt (h_s_f : Nat → Int32) (p1 : Int32) : Option (Int32) :=
  if (0 : Int32) ≤ p1 then (mX10_ringAt_L10 h_s_f (fun (x3_1 : Int32) (x2_2 : Int32) => some ((-4))) FU 1 p1) else (some ((-1)))
set_option maxHeartbeats 8000000 in
set_option maxRecDepth 100000 in
theorem kX10_ringAt (l : Launch) (D : va_G) (cI cC cT : ClassId) (h h_s h_aside h_past h_snapshot h_pad h_steps h_summed h_plus h_parts : Nat) (h_s_f : Nat → Int32) (h_aside_f : Nat → Int32) (h_past_f : Nat → Int32) (h_pasts : Int32) (h_snapshot_f : Nat → Int32) (h_isKept : Int32) (h_pad_f : Nat → Int32) (h_length : Int32) (h_steps_f : Nat → Int32) (h_many : Int32) (h_value : Int32) (h_summed_f : Nat → Int32) (h_plus_f : Nat → Int32) (h_parts_f : Nat → Int32) (p1 : Int32) (z : Int32) (h0 : mX10_ringAt h_s_f p1 = some z) : Met l yX10_ringAt wsX10_ringAt ({ frames := 3, cells := 0, slots := 0, locals := 68 } : Room) (va_Pc [.ref h, .int p1] (rP D cI cC cT [(h, .inr (7, [.ref h_s, .ref h_aside, .ref h_past, .int h_pasts, .ref h_snapshot, .int h_isKept, .ref h_pad, .int h_length, .ref h_steps, .int h_many, .int h_value, .ref h_summed, .ref h_plus, .ref h_parts])), (h_s, .inl (cI, 65, .inl h_s_f)), (h_aside, .inl (cI, 65, .inl h_aside_f)), (h_past, .inl (cI, 260, .inl h_past_f)), (h_snapshot, .inl (cI, 65, .inl h_snapshot_f)), (h_pad, .inl (cI, 80, .inl h_pad_f)), (h_steps, .inl (cI, 320, .inl h_steps_f)), (h_summed, .inl (cI, 81, .inl h_summed_f)), (h_plus, .inl (cI, 81, .inl h_plus_f)), (h_parts, .inl (cI, 392, .inl h_parts_f))])) (rQ (some (.int z))) 0 0 (fun _ => False) := by
  refine Met.ofW (cc := cX10_ringAt) (maxL := 4) (ret := (some .int)) (by decide) rfl ?_
  intro p e s m args below meth c s₁ B hml hv
  obtain ⟨rfl, hP, hE⟩ := hv
  have hx := B.exec
  have hb := B.bytes
  have hr := B.returns
  have hts := atoms_spec (ws := wsX10_ringAt) B.pre
  have hown : s.vm.findClass RX10 = some m.cls := findClass_of_methodNamed B.named
  have hlocks := B.notSynchronized
  have hK := hE.1
  have hcf : CallFix p m c cX10_ringAt 4 s ([.ref h, .int p1] : List Value).toArray wsX10_ringAt RX10 := ⟨hx, hb, hml, hown, hts⟩
  have hP : va_P D vwCl [(h, .inr (7, [.ref h_s, .ref h_aside, .ref h_past, .int h_pasts, .ref h_snapshot, .int h_isKept, .ref h_pad, .int h_length, .ref h_steps, .int h_many, .int h_value, .ref h_summed, .ref h_plus, .ref h_parts])), (h_s, .inl (cI, 65, .inl h_s_f)), (h_aside, .inl (cI, 65, .inl h_aside_f)), (h_past, .inl (cI, 260, .inl h_past_f)), (h_snapshot, .inl (cI, 65, .inl h_snapshot_f)), (h_pad, .inl (cI, 80, .inl h_pad_f)), (h_steps, .inl (cI, 320, .inl h_steps_f)), (h_summed, .inl (cI, 81, .inl h_summed_f)), (h_plus, .inl (cI, 81, .inl h_plus_f)), (h_parts, .inl (cI, 392, .inl h_parts_f))] s.heap := hP
  have hf_7 := hts (.fieldLink RX10 7 "CrookedSumsModel" "s" "[I") (by decide +kernel)
  have hi_X10 := (show ∀ w ∈ u_ws RX10 TX10 14, w ∈ wsX10_ringAt from by decide +kernel)
  have hl := lv_entry ([.ref h, .int p1]) (n := 4) (Nat.le_of_ble_eq_true rfl)
  rw [lg_entry_eq]
  generalize (lg_sl ([.ref h, .int p1]) ++ List.replicate (4 - (lg_sl ([.ref h, .int p1])).length) Slot.unset).toArray = ls at hl ⊢
  have hl : lv_has ls 4 [(0, .ref h), (1, .int p1)] := hl
  unfold mX10_ringAt at h0
  refine lv_iload_n hx hb dX10_ringAt_0 rfl (lv_at hl 1 rfl) ?_
  refine lv_if_ge (tgt := 6) hx hb dX10_ringAt_1 (by decide) (fun c9 => ?_) (fun c9 => ?_)
  · have h0 := it_t c9 h0
    refine lv_iload_n hx hb dX10_ringAt_6 rfl (lv_at hl 1 rfl) ?_
    refine lv_istore_n (lv' := [(2, .int p1), (0, .ref h), (1, .int p1)]) hx hb dX10_ringAt_7 rfl hl (by decide) rfl (fun ls hl => ?_)
    refine lv_iconst (v := 1) hx hb dX10_ringAt_8 (by decide) ?_
    refine lv_istore_n (lv' := [(3, .int 1), (2, .int p1), (0, .ref h), (1, .int p1)]) hx hb dX10_ringAt_9 rfl hl (by decide) rfl (fun ls hl => ?_)
    have E_10_45_2 : ∀ (x3_1 : Int32) (x2_2 : Int32) (ls : Array Slot), (some ((-4))) = some z → lv_has ls 4 [(3, .int x3_1), (2, .int x2_2), (0, .ref h), (1, .int p1)] → W p l e (headSpec wsX10_ringAt ({ frames := 3, cells := 0, slots := 0, locals := 68 } : Room)).room s m (([.ref h, .int p1] : List Value).toArray) below meth c s.heap [] 0 0 (MQ below (rQ (some (.int z))) (([.ref h, .int p1] : List Value).toArray) s 0 0 (fun _ => False)) (F0 m 45 ls []) := by
      intro x3_1 x2_2 ls h0 hl
      refine lv_bipush (v := (-4)) hx hb dX10_ringAt_45 (by decide) ?_
      have e0 := Option.some.inj h0
      subst e0
      exact W.iret (v := (-4)) hx hb hr (fun t ht hW => ⟨rfl, ht⟩) (fun q hq => absurd hq List.not_mem_nil) dX10_ringAt_47
    have L_10_6 : ∀ (F10 : Nat) (x3_4 : Int32) (x2_5 : Int32) (ls : Array Slot), mX10_ringAt_L10 h_s_f (fun (x3_1 : Int32) (x2_2 : Int32) => some ((-4))) F10 x3_4 x2_5 = some z → lv_has ls 4 [(3, .int x3_4), (2, .int x2_5), (0, .ref h), (1, .int p1)] → W p l e (headSpec wsX10_ringAt ({ frames := 3, cells := 0, slots := 0, locals := 68 } : Room)).room s m (([.ref h, .int p1] : List Value).toArray) below meth c s.heap [] 0 0 (MQ below (rQ (some (.int z))) (([.ref h, .int p1] : List Value).toArray) s 0 0 (fun _ => False)) (F0 m 10 ls []) := by
      intro F10
      induction F10 with
      | zero => intro x3_4 x2_5 ls h0 hl; cases h0
      | succ F10 ih10 =>
        intro x3_4 x2_5 ls h0 hl
        rw [mX10_ringAt_L10] at h0
        refine lv_iload_n hx hb dX10_ringAt_10 rfl (lv_at hl 0 rfl) ?_
        refine lv_iconst (v := 1) hx hb dX10_ringAt_11 (by decide) ?_
        refine lv_aload_n hx hb dX10_ringAt_12 rfl (lv_at hl 2 rfl) ?_
        refine va_get (D := D) (ci := 7) (v := .ref h_s) (C := RX10) (T := TX10) (N := 14) hx hb hts hi_X10 hown hK hP 0 rfl rfl 0 (by decide) hf_7 (fun _ h9 => h9) rfl dX10_ringAt_13 ?_
        refine lv_iconst (v := 0) hx hb dX10_ringAt_16 (by decide) ?_
        refine va_iald hx hb hK hP 1 0 rfl rfl (by unfold vp_in; decide) dX10_ringAt_17 ?_
        refine lv_ishl hx hb dX10_ringAt_18 ?_
        refine lv_icmp_ge (tgt := 45) hx hb dX10_ringAt_19 (by decide) (fun c9 => ?_) (fun c9 => ?_)
        · have h0 := it_t c9 h0
          exact E_10_45_2 x3_4 x2_5 ls h0 hl
        · have h0 := it_f c9 h0
          refine lv_aload_n hx hb dX10_ringAt_22 rfl (lv_at hl 2 rfl) ?_
          refine lv_iload_n hx hb dX10_ringAt_23 rfl (lv_at hl 0 rfl) ?_
          obtain ⟨z_6, hz, h0⟩ := bd_ok h0
          refine ro_V (As := [.int x3_4]) (rest := []) (wc := [(h, .inr (7, [.ref h_s, .ref h_aside, .ref h_past, .int h_pasts, .ref h_snapshot, .int h_isKept, .ref h_pad, .int h_length, .ref h_steps, .int h_many, .int h_value, .ref h_summed, .ref h_plus, .ref h_parts])), (h_s, .inl (cI, 65, .inl h_s_f)), (h_aside, .inl (cI, 65, .inl h_aside_f)), (h_past, .inl (cI, 260, .inl h_past_f)), (h_snapshot, .inl (cI, 65, .inl h_snapshot_f)), (h_pad, .inl (cI, 80, .inl h_pad_f)), (h_steps, .inl (cI, 320, .inl h_steps_f)), (h_summed, .inl (cI, 81, .inl h_summed_f)), (h_plus, .inl (cI, 81, .inl h_plus_f)), (h_parts, .inl (cI, 392, .inl h_parts_f))]) hcf (kX10_isRing l D cI cC cT h h_s h_aside h_past h_snapshot h_pad h_steps h_summed h_plus h_parts h_s_f h_aside_f h_past_f h_pasts h_snapshot_f h_isKept h_pad_f h_length h_steps_f h_many h_value h_summed_f h_plus_f h_parts_f x3_4 z_6 hz) (cwV 1 hts gX10_ringAt_X10_isRing rfl rfl rfl (by decide +kernel) ⟨Nat.le_of_ble_eq_true rfl, Nat.le_of_ble_eq_true rfl⟩) hE (hP.sub [0, 1, 2, 3, 4, 5, 6, 7, 8, 9] rfl) (va_recv hK hP (ci := 7) (q0 := 0) rfl rfl) rfl hl.1 rfl (Nat.le_of_ble_eq_true rfl) dX10_ringAt_24 ⟨Nat.le_of_ble_eq_true rfl, Nat.le_of_ble_eq_true rfl⟩ ?_
          refine W.eq (g2 := F0 m 27 ls [.int z_6]) rfl ?_
          refine lv_if_eq (tgt := 39) hx hb dX10_ringAt_27 (by decide) (fun c9 => ?_) (fun c9 => ?_)
          · have h0 := it_t c9 h0
            refine lv_iinc (v := (x3_4 + 1)) (lv' := [(3, .int (x3_4 + 1)), (2, .int x2_5), (0, .ref h), (1, .int p1)]) hx hb dX10_ringAt_39 hl (k := 0) rfl rfl (by decide) rfl (fun ls hl => ?_)
            refine lv_goto (tgt := 10) hx hb dX10_ringAt_42 (by decide) ?_
            exact ih10 (x3_4 + 1) x2_5 ls h0 hl
          · have h0 := it_f c9 h0
            refine lv_iload_n hx hb dX10_ringAt_30 rfl (lv_at hl 1 rfl) ?_
            refine lv_if_ne (tgt := 36) hx hb dX10_ringAt_31 (by decide) (fun c9 => ?_) (fun c9 => ?_)
            · have h0 := it_f c9 h0
              refine lv_iinc (v := (x2_5 + (-1))) (lv' := [(2, .int (x2_5 + (-1))), (3, .int x3_4), (0, .ref h), (1, .int p1)]) hx hb dX10_ringAt_36 hl (k := 1) rfl rfl (by decide) rfl (fun ls hl => ?_)
              refine lv_iinc (v := (x3_4 + 1)) (lv' := [(3, .int (x3_4 + 1)), (2, .int (x2_5 + (-1))), (0, .ref h), (1, .int p1)]) hx hb dX10_ringAt_39 hl (k := 1) rfl rfl (by decide) rfl (fun ls hl => ?_)
              refine lv_goto (tgt := 10) hx hb dX10_ringAt_42 (by decide) ?_
              exact ih10 (x3_4 + 1) (x2_5 + (-1)) ls h0 hl
            · have h0 := it_t c9 h0
              refine lv_iload_n hx hb dX10_ringAt_34 rfl (lv_at hl 0 rfl) ?_
              have e0 := Option.some.inj h0
              subst e0
              exact W.iret (v := x3_4) hx hb hr (fun t ht hW => ⟨rfl, ht⟩) (fun q hq => absurd hq List.not_mem_nil) dX10_ringAt_35
    exact L_10_6 FU 1 p1 ls h0 hl
  · have h0 := it_f c9 h0
    refine lv_iconst (v := (-1)) hx hb dX10_ringAt_4 (by decide) ?_
    have e0 := Option.some.inj h0
    subst e0
    exact W.iret (v := (-1)) hx hb hr (fun t ht hW => ⟨rfl, ht⟩) (fun q hq => absurd hq List.not_mem_nil) dX10_ringAt_5
noncomputable def mX10_rounds_L23 (h_s_f : Nat → Int32) (p1 : Int32) (k23_65 : Int32 → Int32 → Int32 → Option (Int32)) : Nat → Int32 → Int32 → Int32 → Option (Int32)
  | 0, _, _, _ => none
  | F + 1, x6_10, x5_11, x4_12 => if (h_s_f (0 : Int32).toNatClampNeg) ≤ x6_10 then (k23_65 x6_10 x5_11 x4_12) else (bd (mX10_plain h_s_f p1 x5_11) (fun z_13 => if x4_12 ≤ z_13 then (mX10_rounds_L23 h_s_f p1 k23_65 F (x6_10 + 1) z_13 x4_12) else (mX10_rounds_L23 h_s_f p1 k23_65 F (x6_10 + 1) z_13 z_13)))
noncomputable def mX10_rounds_L4 (h_s_f : Nat → Int32) (p1 : Int32) (k4_85 : Int32 → Int32 → Option (Int32)) : Nat → Int32 → Int32 → Option (Int32)
  | 0, _, _ => none
  | F + 1, x3_4, x2_5 => if (h_s_f (0 : Int32).toNatClampNeg) ≤ x3_4 then (k4_85 x3_4 x2_5) else (mX10_rounds_L23 h_s_f p1 (fun (x6_6 : Int32) (x5_7 : Int32) (x4_8 : Int32) => if x4_8 = x3_4 then (mX10_rounds_L4 h_s_f p1 k4_85 F (x3_4 + 1) (x2_5 + 1)) else (mX10_rounds_L4 h_s_f p1 k4_85 F (x3_4 + 1) (x2_5 + 0))) FU 0 x3_4 x3_4)
noncomputable def mX10_rounds (h_s_f : Nat → Int32) (p1 : Int32) : Option (Int32) :=
  mX10_rounds_L4 h_s_f p1 (fun (x3_1 : Int32) (x2_2 : Int32) => some (x2_2)) FU 0 0
set_option maxHeartbeats 8000000 in
set_option maxRecDepth 100000 in
theorem kX10_rounds (l : Launch) (D : va_G) (cI cC cT : ClassId) (h h_s h_aside h_past h_snapshot h_pad h_steps h_summed h_plus h_parts : Nat) (h_s_f : Nat → Int32) (h_aside_f : Nat → Int32) (h_past_f : Nat → Int32) (h_pasts : Int32) (h_snapshot_f : Nat → Int32) (h_isKept : Int32) (h_pad_f : Nat → Int32) (h_length : Int32) (h_steps_f : Nat → Int32) (h_many : Int32) (h_value : Int32) (h_summed_f : Nat → Int32) (h_plus_f : Nat → Int32) (h_parts_f : Nat → Int32) (p1 : Int32) (z : Int32) (h0 : mX10_rounds h_s_f p1 = some z) : Met l yX10_rounds wsX10_rounds ({ frames := 2, cells := 0, slots := 0, locals := 43 } : Room) (va_Pc [.ref h, .int p1] (rP D cI cC cT [(h, .inr (7, [.ref h_s, .ref h_aside, .ref h_past, .int h_pasts, .ref h_snapshot, .int h_isKept, .ref h_pad, .int h_length, .ref h_steps, .int h_many, .int h_value, .ref h_summed, .ref h_plus, .ref h_parts])), (h_s, .inl (cI, 65, .inl h_s_f)), (h_aside, .inl (cI, 65, .inl h_aside_f)), (h_past, .inl (cI, 260, .inl h_past_f)), (h_snapshot, .inl (cI, 65, .inl h_snapshot_f)), (h_pad, .inl (cI, 80, .inl h_pad_f)), (h_steps, .inl (cI, 320, .inl h_steps_f)), (h_summed, .inl (cI, 81, .inl h_summed_f)), (h_plus, .inl (cI, 81, .inl h_plus_f)), (h_parts, .inl (cI, 392, .inl h_parts_f))])) (rQ (some (.int z))) 0 0 (fun _ => False) := by
  refine Met.ofW (cc := cX10_rounds) (maxL := 7) (ret := (some .int)) (by decide) rfl ?_
  intro p e s m args below meth c s₁ B hml hv
  obtain ⟨rfl, hP, hE⟩ := hv
  have hx := B.exec
  have hb := B.bytes
  have hr := B.returns
  have hts := atoms_spec (ws := wsX10_rounds) B.pre
  have hown : s.vm.findClass RX10 = some m.cls := findClass_of_methodNamed B.named
  have hlocks := B.notSynchronized
  have hK := hE.1
  have hcf : CallFix p m c cX10_rounds 7 s ([.ref h, .int p1] : List Value).toArray wsX10_rounds RX10 := ⟨hx, hb, hml, hown, hts⟩
  have hP : va_P D vwCl [(h, .inr (7, [.ref h_s, .ref h_aside, .ref h_past, .int h_pasts, .ref h_snapshot, .int h_isKept, .ref h_pad, .int h_length, .ref h_steps, .int h_many, .int h_value, .ref h_summed, .ref h_plus, .ref h_parts])), (h_s, .inl (cI, 65, .inl h_s_f)), (h_aside, .inl (cI, 65, .inl h_aside_f)), (h_past, .inl (cI, 260, .inl h_past_f)), (h_snapshot, .inl (cI, 65, .inl h_snapshot_f)), (h_pad, .inl (cI, 80, .inl h_pad_f)), (h_steps, .inl (cI, 320, .inl h_steps_f)), (h_summed, .inl (cI, 81, .inl h_summed_f)), (h_plus, .inl (cI, 81, .inl h_plus_f)), (h_parts, .inl (cI, 392, .inl h_parts_f))] s.heap := hP
  have hf_7 := hts (.fieldLink RX10 7 "CrookedSumsModel" "s" "[I") (by decide +kernel)
  have hi_X10 := (show ∀ w ∈ u_ws RX10 TX10 14, w ∈ wsX10_rounds from by decide +kernel)
  have hl := lv_entry ([.ref h, .int p1]) (n := 7) (Nat.le_of_ble_eq_true rfl)
  rw [lg_entry_eq]
  generalize (lg_sl ([.ref h, .int p1]) ++ List.replicate (7 - (lg_sl ([.ref h, .int p1])).length) Slot.unset).toArray = ls at hl ⊢
  have hl : lv_has ls 7 [(0, .ref h), (1, .int p1)] := hl
  unfold mX10_rounds at h0
  refine lv_iconst (v := 0) hx hb dX10_rounds_0 (by decide) ?_
  refine lv_istore_n (lv' := [(2, .int 0), (0, .ref h), (1, .int p1)]) hx hb dX10_rounds_1 rfl hl (by decide) rfl (fun ls hl => ?_)
  refine lv_iconst (v := 0) hx hb dX10_rounds_2 (by decide) ?_
  refine lv_istore_n (lv' := [(3, .int 0), (2, .int 0), (0, .ref h), (1, .int p1)]) hx hb dX10_rounds_3 rfl hl (by decide) rfl (fun ls hl => ?_)
  have E_4_85_2 : ∀ (x3_1 : Int32) (x2_2 : Int32) (ls : Array Slot), (some (x2_2)) = some z → lv_has ls 7 [(3, .int x3_1), (2, .int x2_2), (0, .ref h), (1, .int p1)] → W p l e (headSpec wsX10_rounds ({ frames := 2, cells := 0, slots := 0, locals := 43 } : Room)).room s m (([.ref h, .int p1] : List Value).toArray) below meth c s.heap [] 0 0 (MQ below (rQ (some (.int z))) (([.ref h, .int p1] : List Value).toArray) s 0 0 (fun _ => False)) (F0 m 85 ls []) := by
    intro x3_1 x2_2 ls h0 hl
    refine lv_iload_n hx hb dX10_rounds_85 rfl (lv_at hl 1 rfl) ?_
    have e0 := Option.some.inj h0
    subst e0
    exact W.iret (v := x2_2) hx hb hr (fun t ht hW => ⟨rfl, ht⟩) (fun q hq => absurd hq List.not_mem_nil) dX10_rounds_86
  have L_4_14 : ∀ (F4 : Nat) (x3_4 : Int32) (x2_5 : Int32) (ls : Array Slot), mX10_rounds_L4 h_s_f p1 (fun (x3_1 : Int32) (x2_2 : Int32) => some (x2_2)) F4 x3_4 x2_5 = some z → lv_has ls 7 [(3, .int x3_4), (2, .int x2_5), (0, .ref h), (1, .int p1)] → W p l e (headSpec wsX10_rounds ({ frames := 2, cells := 0, slots := 0, locals := 43 } : Room)).room s m (([.ref h, .int p1] : List Value).toArray) below meth c s.heap [] 0 0 (MQ below (rQ (some (.int z))) (([.ref h, .int p1] : List Value).toArray) s 0 0 (fun _ => False)) (F0 m 4 ls []) := by
    intro F4
    induction F4 with
    | zero => intro x3_4 x2_5 ls h0 hl; cases h0
    | succ F4 ih4 =>
      intro x3_4 x2_5 ls h0 hl
      rw [mX10_rounds_L4] at h0
      refine lv_iload_n hx hb dX10_rounds_4 rfl (lv_at hl 0 rfl) ?_
      refine lv_aload_n hx hb dX10_rounds_5 rfl (lv_at hl 2 rfl) ?_
      refine va_get (D := D) (ci := 7) (v := .ref h_s) (C := RX10) (T := TX10) (N := 14) hx hb hts hi_X10 hown hK hP 0 rfl rfl 0 (by decide) hf_7 (fun _ h9 => h9) rfl dX10_rounds_6 ?_
      refine lv_iconst (v := 0) hx hb dX10_rounds_9 (by decide) ?_
      refine va_iald hx hb hK hP 1 0 rfl rfl (by unfold vp_in; decide) dX10_rounds_10 ?_
      refine lv_icmp_ge (tgt := 85) hx hb dX10_rounds_11 (by decide) (fun c9 => ?_) (fun c9 => ?_)
      · have h0 := it_t c9 h0
        exact E_4_85_2 x3_4 x2_5 ls h0 hl
      · have h0 := it_f c9 h0
        refine lv_iload_n hx hb dX10_rounds_14 rfl (lv_at hl 0 rfl) ?_
        refine lv_istore (lv' := [(4, .int x3_4), (3, .int x3_4), (2, .int x2_5), (0, .ref h), (1, .int p1)]) hx hb dX10_rounds_15 hl (by decide) rfl (fun ls hl => ?_)
        refine lv_iload_n hx hb dX10_rounds_17 rfl (lv_at hl 1 rfl) ?_
        refine lv_istore (lv' := [(5, .int x3_4), (4, .int x3_4), (3, .int x3_4), (2, .int x2_5), (0, .ref h), (1, .int p1)]) hx hb dX10_rounds_18 hl (by decide) rfl (fun ls hl => ?_)
        refine lv_iconst (v := 0) hx hb dX10_rounds_20 (by decide) ?_
        refine lv_istore (lv' := [(6, .int 0), (5, .int x3_4), (4, .int x3_4), (3, .int x3_4), (2, .int x2_5), (0, .ref h), (1, .int p1)]) hx hb dX10_rounds_21 hl (by decide) rfl (fun ls hl => ?_)
        have E_23_65_8 : ∀ (x6_6 : Int32) (x5_7 : Int32) (x4_8 : Int32) (ls : Array Slot), (if x4_8 = x3_4 then (mX10_rounds_L4 h_s_f p1 (fun (x3_1 : Int32) (x2_2 : Int32) => some (x2_2)) F4 (x3_4 + 1) (x2_5 + 1)) else (mX10_rounds_L4 h_s_f p1 (fun (x3_1 : Int32) (x2_2 : Int32) => some (x2_2)) F4 (x3_4 + 1) (x2_5 + 0))) = some z → lv_has ls 7 [(6, .int x6_6), (5, .int x5_7), (4, .int x4_8), (3, .int x3_4), (2, .int x2_5), (0, .ref h), (1, .int p1)] → W p l e (headSpec wsX10_rounds ({ frames := 2, cells := 0, slots := 0, locals := 43 } : Room)).room s m (([.ref h, .int p1] : List Value).toArray) below meth c s.heap [] 0 0 (MQ below (rQ (some (.int z))) (([.ref h, .int p1] : List Value).toArray) s 0 0 (fun _ => False)) (F0 m 65 ls []) := by
          intro x6_6 x5_7 x4_8 ls h0 hl
          refine lv_iload_n hx hb dX10_rounds_65 rfl (lv_at hl 4 rfl) ?_
          refine lv_iload hx hb dX10_rounds_66 (lv_at hl 2 rfl) ?_
          refine lv_iload_n hx hb dX10_rounds_68 rfl (lv_at hl 3 rfl) ?_
          refine lv_icmp_ne (tgt := 76) hx hb dX10_rounds_69 (by decide) (fun c9 => ?_) (fun c9 => ?_)
          · have h0 := it_f c9 h0
            refine lv_iconst (v := 0) hx hb dX10_rounds_76 (by decide) ?_
            refine lv_iadd hx hb dX10_rounds_77 ?_
            refine lv_istore_n (lv' := [(2, .int (x2_5 + 0)), (6, .int x6_6), (5, .int x5_7), (4, .int x4_8), (3, .int x3_4), (0, .ref h), (1, .int p1)]) hx hb dX10_rounds_78 rfl hl (by decide) rfl (fun ls hl => ?_)
            refine lv_iinc (v := (x3_4 + 1)) (lv' := [(3, .int (x3_4 + 1)), (2, .int (x2_5 + 0)), (6, .int x6_6), (5, .int x5_7), (4, .int x4_8), (0, .ref h), (1, .int p1)]) hx hb dX10_rounds_79 hl (k := 4) rfl rfl (by decide) rfl (fun ls hl => ?_)
            refine lv_goto (tgt := 4) hx hb dX10_rounds_82 (by decide) ?_
            exact ih4 (x3_4 + 1) (x2_5 + 0) ls h0 (lv_sub hl [0, 1, 5, 6] rfl)
          · have h0 := it_t c9 h0
            refine lv_iconst (v := 1) hx hb dX10_rounds_72 (by decide) ?_
            refine lv_goto (tgt := 77) hx hb dX10_rounds_73 (by decide) ?_
            refine lv_iadd hx hb dX10_rounds_77 ?_
            refine lv_istore_n (lv' := [(2, .int (x2_5 + 1)), (6, .int x6_6), (5, .int x5_7), (4, .int x4_8), (3, .int x3_4), (0, .ref h), (1, .int p1)]) hx hb dX10_rounds_78 rfl hl (by decide) rfl (fun ls hl => ?_)
            refine lv_iinc (v := (x3_4 + 1)) (lv' := [(3, .int (x3_4 + 1)), (2, .int (x2_5 + 1)), (6, .int x6_6), (5, .int x5_7), (4, .int x4_8), (0, .ref h), (1, .int p1)]) hx hb dX10_rounds_79 hl (k := 4) rfl rfl (by decide) rfl (fun ls hl => ?_)
            refine lv_goto (tgt := 4) hx hb dX10_rounds_82 (by decide) ?_
            exact ih4 (x3_4 + 1) (x2_5 + 1) ls h0 (lv_sub hl [0, 1, 5, 6] rfl)
        have L_23_13 : ∀ (F23 : Nat) (x6_10 : Int32) (x5_11 : Int32) (x4_12 : Int32) (ls : Array Slot), mX10_rounds_L23 h_s_f p1 (fun (x6_6 : Int32) (x5_7 : Int32) (x4_8 : Int32) => if x4_8 = x3_4 then (mX10_rounds_L4 h_s_f p1 (fun (x3_1 : Int32) (x2_2 : Int32) => some (x2_2)) F4 (x3_4 + 1) (x2_5 + 1)) else (mX10_rounds_L4 h_s_f p1 (fun (x3_1 : Int32) (x2_2 : Int32) => some (x2_2)) F4 (x3_4 + 1) (x2_5 + 0))) F23 x6_10 x5_11 x4_12 = some z → lv_has ls 7 [(6, .int x6_10), (5, .int x5_11), (4, .int x4_12), (3, .int x3_4), (2, .int x2_5), (0, .ref h), (1, .int p1)] → W p l e (headSpec wsX10_rounds ({ frames := 2, cells := 0, slots := 0, locals := 43 } : Room)).room s m (([.ref h, .int p1] : List Value).toArray) below meth c s.heap [] 0 0 (MQ below (rQ (some (.int z))) (([.ref h, .int p1] : List Value).toArray) s 0 0 (fun _ => False)) (F0 m 23 ls []) := by
          intro F23
          induction F23 with
          | zero => intro x6_10 x5_11 x4_12 ls h0 hl; cases h0
          | succ F23 ih23 =>
            intro x6_10 x5_11 x4_12 ls h0 hl
            rw [mX10_rounds_L23] at h0
            refine lv_iload hx hb dX10_rounds_23 (lv_at hl 0 rfl) ?_
            refine lv_aload_n hx hb dX10_rounds_25 rfl (lv_at hl 5 rfl) ?_
            refine va_get (D := D) (ci := 7) (v := .ref h_s) (C := RX10) (T := TX10) (N := 14) hx hb hts hi_X10 hown hK hP 0 rfl rfl 0 (by decide) hf_7 (fun _ h9 => h9) rfl dX10_rounds_26 ?_
            refine lv_iconst (v := 0) hx hb dX10_rounds_29 (by decide) ?_
            refine va_iald hx hb hK hP 1 0 rfl rfl (by unfold vp_in; decide) dX10_rounds_30 ?_
            refine lv_icmp_ge (tgt := 65) hx hb dX10_rounds_31 (by decide) (fun c9 => ?_) (fun c9 => ?_)
            · have h0 := it_t c9 h0
              exact E_23_65_8 x6_10 x5_11 x4_12 ls h0 hl
            · have h0 := it_f c9 h0
              refine lv_aload_n hx hb dX10_rounds_34 rfl (lv_at hl 5 rfl) ?_
              refine lv_iload_n hx hb dX10_rounds_35 rfl (lv_at hl 6 rfl) ?_
              refine lv_iload hx hb dX10_rounds_36 (lv_at hl 1 rfl) ?_
              obtain ⟨z_13, hz, h0⟩ := bd_ok h0
              refine ro_V (As := [.int p1, .int x5_11]) (rest := []) (wc := [(h, .inr (7, [.ref h_s, .ref h_aside, .ref h_past, .int h_pasts, .ref h_snapshot, .int h_isKept, .ref h_pad, .int h_length, .ref h_steps, .int h_many, .int h_value, .ref h_summed, .ref h_plus, .ref h_parts])), (h_s, .inl (cI, 65, .inl h_s_f)), (h_aside, .inl (cI, 65, .inl h_aside_f)), (h_past, .inl (cI, 260, .inl h_past_f)), (h_snapshot, .inl (cI, 65, .inl h_snapshot_f)), (h_pad, .inl (cI, 80, .inl h_pad_f)), (h_steps, .inl (cI, 320, .inl h_steps_f)), (h_summed, .inl (cI, 81, .inl h_summed_f)), (h_plus, .inl (cI, 81, .inl h_plus_f)), (h_parts, .inl (cI, 392, .inl h_parts_f))]) hcf (kX10_plain l D cI cC cT h h_s h_aside h_past h_snapshot h_pad h_steps h_summed h_plus h_parts h_s_f h_aside_f h_past_f h_pasts h_snapshot_f h_isKept h_pad_f h_length h_steps_f h_many h_value h_summed_f h_plus_f h_parts_f p1 x5_11 z_13 hz) (cwV 2 hts gX10_rounds_X10_plain rfl rfl rfl (by decide +kernel) ⟨Nat.le_of_ble_eq_true rfl, Nat.le_of_ble_eq_true rfl⟩) hE (hP.sub [0, 1, 2, 3, 4, 5, 6, 7, 8, 9] rfl) (va_recv hK hP (ci := 7) (q0 := 0) rfl rfl) rfl hl.1 rfl (Nat.le_of_ble_eq_true rfl) dX10_rounds_38 ⟨Nat.le_of_ble_eq_true rfl, Nat.le_of_ble_eq_true rfl⟩ ?_
              refine W.eq (g2 := F0 m 41 ls [.int z_13]) rfl ?_
              refine lv_istore (lv' := [(5, .int z_13), (6, .int x6_10), (4, .int x4_12), (3, .int x3_4), (2, .int x2_5), (0, .ref h), (1, .int p1)]) hx hb dX10_rounds_41 hl (by decide) rfl (fun ls hl => ?_)
              refine lv_iload hx hb dX10_rounds_43 (lv_at hl 0 rfl) ?_
              refine lv_iload hx hb dX10_rounds_45 (lv_at hl 2 rfl) ?_
              refine lv_icmp_ge (tgt := 55) hx hb dX10_rounds_47 (by decide) (fun c9 => ?_) (fun c9 => ?_)
              · have h0 := it_t c9 h0
                refine lv_iload hx hb dX10_rounds_55 (lv_at hl 2 rfl) ?_
                refine lv_istore (lv' := [(4, .int x4_12), (5, .int z_13), (6, .int x6_10), (3, .int x3_4), (2, .int x2_5), (0, .ref h), (1, .int p1)]) hx hb dX10_rounds_57 hl (by decide) rfl (fun ls hl => ?_)
                refine lv_iinc (v := (x6_10 + 1)) (lv' := [(6, .int (x6_10 + 1)), (4, .int x4_12), (5, .int z_13), (3, .int x3_4), (2, .int x2_5), (0, .ref h), (1, .int p1)]) hx hb dX10_rounds_59 hl (k := 2) rfl rfl (by decide) rfl (fun ls hl => ?_)
                refine lv_goto (tgt := 23) hx hb dX10_rounds_62 (by decide) ?_
                exact ih23 (x6_10 + 1) z_13 x4_12 ls h0 (lv_sub hl [0, 2, 1, 3, 4, 5, 6] rfl)
              · have h0 := it_f c9 h0
                refine lv_iload hx hb dX10_rounds_50 (lv_at hl 0 rfl) ?_
                refine lv_goto (tgt := 57) hx hb dX10_rounds_52 (by decide) ?_
                refine lv_istore (lv' := [(4, .int z_13), (5, .int z_13), (6, .int x6_10), (3, .int x3_4), (2, .int x2_5), (0, .ref h), (1, .int p1)]) hx hb dX10_rounds_57 hl (by decide) rfl (fun ls hl => ?_)
                refine lv_iinc (v := (x6_10 + 1)) (lv' := [(6, .int (x6_10 + 1)), (4, .int z_13), (5, .int z_13), (3, .int x3_4), (2, .int x2_5), (0, .ref h), (1, .int p1)]) hx hb dX10_rounds_59 hl (k := 2) rfl rfl (by decide) rfl (fun ls hl => ?_)
                refine lv_goto (tgt := 23) hx hb dX10_rounds_62 (by decide) ?_
                exact ih23 (x6_10 + 1) z_13 z_13 ls h0 (lv_sub hl [0, 2, 1, 3, 4, 5, 6] rfl)
        exact L_23_13 FU 0 x3_4 x3_4 ls h0 hl
  exact L_4_14 FU 0 0 ls h0 hl
noncomputable def mX10_token (h_s_f : Nat → Int32) (p1 : Int32) (p2 : Int32) : Option (Int32) :=
  bd (mX10_isToken h_s_f p1) (fun z_1 => if z_1 = 0 then (some ((-1))) else (if p2 = 0 then (bd (mX10_commuteWith h_s_f p1) (fun z_3 => some (z_3))) else (if p2 = 1 then (bd (mX10_pairsOf h_s_f p1) (fun z_5 => some (z_5))) else (if p2 = 2 then (bd (mX10_isIdle h_s_f p1 1) (fun z_7 => if z_7 = 0 then (some (0)) else (some (1)))) else (if p2 = 3 then (bd (mX10_isIdle h_s_f p1 0) (fun z_9 => if z_9 = 0 then (some (0)) else (some (1)))) else (if p2 = 4 then (bd (mX10_ringOf h_s_f ((1 : Int32) <<< (p1 &&& 31))) (fun z_11 => bd (mX10_bits z_11) (fun z_12 => some (z_12)))) else (if p2 = 5 then (bd (mX10_ringOf h_s_f ((1 : Int32) <<< (p1 &&& 31))) (fun z_14 => some (z_14))) else (if p2 = 6 then (bd (mX10_plain h_s_f p1 p1) (fun z_16 => some (z_16))) else (if p2 = 7 then (bd (mX10_rounds h_s_f p1) (fun z_18 => some (z_18))) else (if p2 = 8 then (bd (mX10_again h_s_f p1) (fun z_20 => some (z_20))) else (some ((-1)))))))))))))
set_option maxHeartbeats 8000000 in
set_option maxRecDepth 100000 in
theorem kX10_token (l : Launch) (D : va_G) (cI cC cT : ClassId) (h h_s h_aside h_past h_snapshot h_pad h_steps h_summed h_plus h_parts : Nat) (h_s_f : Nat → Int32) (h_aside_f : Nat → Int32) (h_past_f : Nat → Int32) (h_pasts : Int32) (h_snapshot_f : Nat → Int32) (h_isKept : Int32) (h_pad_f : Nat → Int32) (h_length : Int32) (h_steps_f : Nat → Int32) (h_many : Int32) (h_value : Int32) (h_summed_f : Nat → Int32) (h_plus_f : Nat → Int32) (h_parts_f : Nat → Int32) (p1 : Int32) (p2 : Int32) (z : Int32) (h0 : mX10_token h_s_f p1 p2 = some z) : Met l yX10_token wsX10_token ({ frames := 4, cells := 0, slots := 0, locals := 92 } : Room) (va_Pc [.ref h, .int p1, .int p2] (rP D cI cC cT [(h, .inr (7, [.ref h_s, .ref h_aside, .ref h_past, .int h_pasts, .ref h_snapshot, .int h_isKept, .ref h_pad, .int h_length, .ref h_steps, .int h_many, .int h_value, .ref h_summed, .ref h_plus, .ref h_parts])), (h_s, .inl (cI, 65, .inl h_s_f)), (h_aside, .inl (cI, 65, .inl h_aside_f)), (h_past, .inl (cI, 260, .inl h_past_f)), (h_snapshot, .inl (cI, 65, .inl h_snapshot_f)), (h_pad, .inl (cI, 80, .inl h_pad_f)), (h_steps, .inl (cI, 320, .inl h_steps_f)), (h_summed, .inl (cI, 81, .inl h_summed_f)), (h_plus, .inl (cI, 81, .inl h_plus_f)), (h_parts, .inl (cI, 392, .inl h_parts_f))])) (rQ (some (.int z))) 0 0 (fun _ => False) := by
  refine Met.ofW (cc := cX10_token) (maxL := 3) (ret := (some .int)) (by decide) rfl ?_
  intro p e s m args below meth c s₁ B hml hv
  obtain ⟨rfl, hP, hE⟩ := hv
  have hx := B.exec
  have hb := B.bytes
  have hr := B.returns
  have hts := atoms_spec (ws := wsX10_token) B.pre
  have hown : s.vm.findClass RX10 = some m.cls := findClass_of_methodNamed B.named
  have hlocks := B.notSynchronized
  have hK := hE.1
  have hcf : CallFix p m c cX10_token 3 s ([.ref h, .int p1, .int p2] : List Value).toArray wsX10_token RX10 := ⟨hx, hb, hml, hown, hts⟩
  have hP : va_P D vwCl [(h, .inr (7, [.ref h_s, .ref h_aside, .ref h_past, .int h_pasts, .ref h_snapshot, .int h_isKept, .ref h_pad, .int h_length, .ref h_steps, .int h_many, .int h_value, .ref h_summed, .ref h_plus, .ref h_parts])), (h_s, .inl (cI, 65, .inl h_s_f)), (h_aside, .inl (cI, 65, .inl h_aside_f)), (h_past, .inl (cI, 260, .inl h_past_f)), (h_snapshot, .inl (cI, 65, .inl h_snapshot_f)), (h_pad, .inl (cI, 80, .inl h_pad_f)), (h_steps, .inl (cI, 320, .inl h_steps_f)), (h_summed, .inl (cI, 81, .inl h_summed_f)), (h_plus, .inl (cI, 81, .inl h_plus_f)), (h_parts, .inl (cI, 392, .inl h_parts_f))] s.heap := hP
  have hl := lv_entry ([.ref h, .int p1, .int p2]) (n := 3) (Nat.le_of_ble_eq_true rfl)
  rw [lg_entry_eq]
  generalize (lg_sl ([.ref h, .int p1, .int p2]) ++ List.replicate (3 - (lg_sl ([.ref h, .int p1, .int p2])).length) Slot.unset).toArray = ls at hl ⊢
  have hl : lv_has ls 3 [(0, .ref h), (1, .int p1), (2, .int p2)] := hl
  unfold mX10_token at h0
  refine lv_aload_n hx hb dX10_token_0 rfl (lv_at hl 0 rfl) ?_
  refine lv_iload_n hx hb dX10_token_1 rfl (lv_at hl 1 rfl) ?_
  obtain ⟨z_1, hz, h0⟩ := bd_ok h0
  refine ro_V (As := [.int p1]) (rest := []) (wc := [(h, .inr (7, [.ref h_s, .ref h_aside, .ref h_past, .int h_pasts, .ref h_snapshot, .int h_isKept, .ref h_pad, .int h_length, .ref h_steps, .int h_many, .int h_value, .ref h_summed, .ref h_plus, .ref h_parts])), (h_s, .inl (cI, 65, .inl h_s_f)), (h_aside, .inl (cI, 65, .inl h_aside_f)), (h_past, .inl (cI, 260, .inl h_past_f)), (h_snapshot, .inl (cI, 65, .inl h_snapshot_f)), (h_pad, .inl (cI, 80, .inl h_pad_f)), (h_steps, .inl (cI, 320, .inl h_steps_f)), (h_summed, .inl (cI, 81, .inl h_summed_f)), (h_plus, .inl (cI, 81, .inl h_plus_f)), (h_parts, .inl (cI, 392, .inl h_parts_f))]) hcf (kX10_isToken l D cI cC cT h h_s h_aside h_past h_snapshot h_pad h_steps h_summed h_plus h_parts h_s_f h_aside_f h_past_f h_pasts h_snapshot_f h_isKept h_pad_f h_length h_steps_f h_many h_value h_summed_f h_plus_f h_parts_f p1 z_1 hz) (cwV 1 hts gX10_token_X10_isToken rfl rfl rfl (by decide +kernel) ⟨Nat.le_of_ble_eq_true rfl, Nat.le_of_ble_eq_true rfl⟩) hE (hP.sub [0, 1, 2, 3, 4, 5, 6, 7, 8, 9] rfl) (va_recv hK hP (ci := 7) (q0 := 0) rfl rfl) rfl hl.1 rfl (Nat.le_of_ble_eq_true rfl) dX10_token_2 ⟨Nat.le_of_ble_eq_true rfl, Nat.le_of_ble_eq_true rfl⟩ ?_
  refine W.eq (g2 := F0 m 5 ls [.int z_1]) rfl ?_
  refine lv_if_ne (tgt := 10) hx hb dX10_token_5 (by decide) (fun c9 => ?_) (fun c9 => ?_)
  · have h0 := it_f c9 h0
    refine lv_iload_n hx hb dX10_token_10 rfl (lv_at hl 2 rfl) ?_
    by_cases c_2 : p2 = 0
    · have h0 := it_t c_2 h0
      refine lv_tableIn (tgt := 60) hx hb dX10_token_11 (by rw [c_2]; decide) (by rw [c_2]; decide) (by rw [c_2]; rfl) (by decide) ?_
      refine lv_aload_n hx hb dX10_token_60 rfl (lv_at hl 0 rfl) ?_
      refine lv_iload_n hx hb dX10_token_61 rfl (lv_at hl 1 rfl) ?_
      obtain ⟨z_3, hz, h0⟩ := bd_ok h0
      refine ro_V (As := [.int p1]) (rest := []) (wc := [(h, .inr (7, [.ref h_s, .ref h_aside, .ref h_past, .int h_pasts, .ref h_snapshot, .int h_isKept, .ref h_pad, .int h_length, .ref h_steps, .int h_many, .int h_value, .ref h_summed, .ref h_plus, .ref h_parts])), (h_s, .inl (cI, 65, .inl h_s_f)), (h_aside, .inl (cI, 65, .inl h_aside_f)), (h_past, .inl (cI, 260, .inl h_past_f)), (h_snapshot, .inl (cI, 65, .inl h_snapshot_f)), (h_pad, .inl (cI, 80, .inl h_pad_f)), (h_steps, .inl (cI, 320, .inl h_steps_f)), (h_summed, .inl (cI, 81, .inl h_summed_f)), (h_plus, .inl (cI, 81, .inl h_plus_f)), (h_parts, .inl (cI, 392, .inl h_parts_f))]) hcf (kX10_commuteWith l D cI cC cT h h_s h_aside h_past h_snapshot h_pad h_steps h_summed h_plus h_parts h_s_f h_aside_f h_past_f h_pasts h_snapshot_f h_isKept h_pad_f h_length h_steps_f h_many h_value h_summed_f h_plus_f h_parts_f p1 z_3 hz) (cwV 1 hts gX10_token_X10_commuteWith rfl rfl rfl (by decide +kernel) ⟨Nat.le_of_ble_eq_true rfl, Nat.le_of_ble_eq_true rfl⟩) hE (hP.sub [0, 1, 2, 3, 4, 5, 6, 7, 8, 9] rfl) (va_recv hK hP (ci := 7) (q0 := 0) rfl rfl) rfl hl.1 rfl (Nat.le_of_ble_eq_true rfl) dX10_token_62 ⟨Nat.le_of_ble_eq_true rfl, Nat.le_of_ble_eq_true rfl⟩ ?_
      refine W.eq (g2 := F0 m 65 ls [.int z_3]) rfl ?_
      have e0 := Option.some.inj h0
      subst e0
      exact W.iret (v := z_3) hx hb hr (fun t ht hW => ⟨rfl, ht⟩) (fun q hq => absurd hq List.not_mem_nil) dX10_token_65
    · have h0 := it_f c_2 h0
      by_cases c_4 : p2 = 1
      · have h0 := it_t c_4 h0
        refine lv_tableIn (tgt := 66) hx hb dX10_token_11 (by rw [c_4]; decide) (by rw [c_4]; decide) (by rw [c_4]; rfl) (by decide) ?_
        refine lv_aload_n hx hb dX10_token_66 rfl (lv_at hl 0 rfl) ?_
        refine lv_iload_n hx hb dX10_token_67 rfl (lv_at hl 1 rfl) ?_
        obtain ⟨z_5, hz, h0⟩ := bd_ok h0
        refine ro_V (As := [.int p1]) (rest := []) (wc := [(h, .inr (7, [.ref h_s, .ref h_aside, .ref h_past, .int h_pasts, .ref h_snapshot, .int h_isKept, .ref h_pad, .int h_length, .ref h_steps, .int h_many, .int h_value, .ref h_summed, .ref h_plus, .ref h_parts])), (h_s, .inl (cI, 65, .inl h_s_f)), (h_aside, .inl (cI, 65, .inl h_aside_f)), (h_past, .inl (cI, 260, .inl h_past_f)), (h_snapshot, .inl (cI, 65, .inl h_snapshot_f)), (h_pad, .inl (cI, 80, .inl h_pad_f)), (h_steps, .inl (cI, 320, .inl h_steps_f)), (h_summed, .inl (cI, 81, .inl h_summed_f)), (h_plus, .inl (cI, 81, .inl h_plus_f)), (h_parts, .inl (cI, 392, .inl h_parts_f))]) hcf (kX10_pairsOf l D cI cC cT h h_s h_aside h_past h_snapshot h_pad h_steps h_summed h_plus h_parts h_s_f h_aside_f h_past_f h_pasts h_snapshot_f h_isKept h_pad_f h_length h_steps_f h_many h_value h_summed_f h_plus_f h_parts_f p1 z_5 hz) (cwV 1 hts gX10_token_X10_pairsOf rfl rfl rfl (by decide +kernel) ⟨Nat.le_of_ble_eq_true rfl, Nat.le_of_ble_eq_true rfl⟩) hE (hP.sub [0, 1, 2, 3, 4, 5, 6, 7, 8, 9] rfl) (va_recv hK hP (ci := 7) (q0 := 0) rfl rfl) rfl hl.1 rfl (Nat.le_of_ble_eq_true rfl) dX10_token_68 ⟨Nat.le_of_ble_eq_true rfl, Nat.le_of_ble_eq_true rfl⟩ ?_
        refine W.eq (g2 := F0 m 71 ls [.int z_5]) rfl ?_
        have e0 := Option.some.inj h0
        subst e0
        exact W.iret (v := z_5) hx hb hr (fun t ht hW => ⟨rfl, ht⟩) (fun q hq => absurd hq List.not_mem_nil) dX10_token_71
      · have h0 := it_f c_4 h0
        by_cases c_6 : p2 = 2
        · have h0 := it_t c_6 h0
          refine lv_tableIn (tgt := 72) hx hb dX10_token_11 (by rw [c_6]; decide) (by rw [c_6]; decide) (by rw [c_6]; rfl) (by decide) ?_
          refine lv_aload_n hx hb dX10_token_72 rfl (lv_at hl 0 rfl) ?_
          refine lv_iload_n hx hb dX10_token_73 rfl (lv_at hl 1 rfl) ?_
          refine lv_iconst (v := 1) hx hb dX10_token_74 (by decide) ?_
          obtain ⟨z_7, hz, h0⟩ := bd_ok h0
          refine ro_V (As := [.int p1, .int 1]) (rest := []) (wc := [(h, .inr (7, [.ref h_s, .ref h_aside, .ref h_past, .int h_pasts, .ref h_snapshot, .int h_isKept, .ref h_pad, .int h_length, .ref h_steps, .int h_many, .int h_value, .ref h_summed, .ref h_plus, .ref h_parts])), (h_s, .inl (cI, 65, .inl h_s_f)), (h_aside, .inl (cI, 65, .inl h_aside_f)), (h_past, .inl (cI, 260, .inl h_past_f)), (h_snapshot, .inl (cI, 65, .inl h_snapshot_f)), (h_pad, .inl (cI, 80, .inl h_pad_f)), (h_steps, .inl (cI, 320, .inl h_steps_f)), (h_summed, .inl (cI, 81, .inl h_summed_f)), (h_plus, .inl (cI, 81, .inl h_plus_f)), (h_parts, .inl (cI, 392, .inl h_parts_f))]) hcf (kX10_isIdle l D cI cC cT h h_s h_aside h_past h_snapshot h_pad h_steps h_summed h_plus h_parts h_s_f h_aside_f h_past_f h_pasts h_snapshot_f h_isKept h_pad_f h_length h_steps_f h_many h_value h_summed_f h_plus_f h_parts_f p1 1 z_7 hz) (cwV 2 hts gX10_token_X10_isIdle rfl rfl rfl (by decide +kernel) ⟨Nat.le_of_ble_eq_true rfl, Nat.le_of_ble_eq_true rfl⟩) hE (hP.sub [0, 1, 2, 3, 4, 5, 6, 7, 8, 9] rfl) (va_recv hK hP (ci := 7) (q0 := 0) rfl rfl) rfl hl.1 rfl (Nat.le_of_ble_eq_true rfl) dX10_token_75 ⟨Nat.le_of_ble_eq_true rfl, Nat.le_of_ble_eq_true rfl⟩ ?_
          refine W.eq (g2 := F0 m 78 ls [.int z_7]) rfl ?_
          refine lv_if_eq (tgt := 85) hx hb dX10_token_78 (by decide) (fun c9 => ?_) (fun c9 => ?_)
          · have h0 := it_t c9 h0
            refine lv_iconst (v := 0) hx hb dX10_token_85 (by decide) ?_
            have e0 := Option.some.inj h0
            subst e0
            exact W.iret (v := 0) hx hb hr (fun t ht hW => ⟨rfl, ht⟩) (fun q hq => absurd hq List.not_mem_nil) dX10_token_86
          · have h0 := it_f c9 h0
            refine lv_iconst (v := 1) hx hb dX10_token_81 (by decide) ?_
            refine lv_goto (tgt := 86) hx hb dX10_token_82 (by decide) ?_
            have e0 := Option.some.inj h0
            subst e0
            exact W.iret (v := 1) hx hb hr (fun t ht hW => ⟨rfl, ht⟩) (fun q hq => absurd hq List.not_mem_nil) dX10_token_86
        · have h0 := it_f c_6 h0
          by_cases c_8 : p2 = 3
          · have h0 := it_t c_8 h0
            refine lv_tableIn (tgt := 87) hx hb dX10_token_11 (by rw [c_8]; decide) (by rw [c_8]; decide) (by rw [c_8]; rfl) (by decide) ?_
            refine lv_aload_n hx hb dX10_token_87 rfl (lv_at hl 0 rfl) ?_
            refine lv_iload_n hx hb dX10_token_88 rfl (lv_at hl 1 rfl) ?_
            refine lv_iconst (v := 0) hx hb dX10_token_89 (by decide) ?_
            obtain ⟨z_9, hz, h0⟩ := bd_ok h0
            refine ro_V (As := [.int p1, .int 0]) (rest := []) (wc := [(h, .inr (7, [.ref h_s, .ref h_aside, .ref h_past, .int h_pasts, .ref h_snapshot, .int h_isKept, .ref h_pad, .int h_length, .ref h_steps, .int h_many, .int h_value, .ref h_summed, .ref h_plus, .ref h_parts])), (h_s, .inl (cI, 65, .inl h_s_f)), (h_aside, .inl (cI, 65, .inl h_aside_f)), (h_past, .inl (cI, 260, .inl h_past_f)), (h_snapshot, .inl (cI, 65, .inl h_snapshot_f)), (h_pad, .inl (cI, 80, .inl h_pad_f)), (h_steps, .inl (cI, 320, .inl h_steps_f)), (h_summed, .inl (cI, 81, .inl h_summed_f)), (h_plus, .inl (cI, 81, .inl h_plus_f)), (h_parts, .inl (cI, 392, .inl h_parts_f))]) hcf (kX10_isIdle l D cI cC cT h h_s h_aside h_past h_snapshot h_pad h_steps h_summed h_plus h_parts h_s_f h_aside_f h_past_f h_pasts h_snapshot_f h_isKept h_pad_f h_length h_steps_f h_many h_value h_summed_f h_plus_f h_parts_f p1 0 z_9 hz) (cwV 2 hts gX10_token_X10_isIdle rfl rfl rfl (by decide +kernel) ⟨Nat.le_of_ble_eq_true rfl, Nat.le_of_ble_eq_true rfl⟩) hE (hP.sub [0, 1, 2, 3, 4, 5, 6, 7, 8, 9] rfl) (va_recv hK hP (ci := 7) (q0 := 0) rfl rfl) rfl hl.1 rfl (Nat.le_of_ble_eq_true rfl) dX10_token_90 ⟨Nat.le_of_ble_eq_true rfl, Nat.le_of_ble_eq_true rfl⟩ ?_
            refine W.eq (g2 := F0 m 93 ls [.int z_9]) rfl ?_
            refine lv_if_eq (tgt := 100) hx hb dX10_token_93 (by decide) (fun c9 => ?_) (fun c9 => ?_)
            · have h0 := it_t c9 h0
              refine lv_iconst (v := 0) hx hb dX10_token_100 (by decide) ?_
              have e0 := Option.some.inj h0
              subst e0
              exact W.iret (v := 0) hx hb hr (fun t ht hW => ⟨rfl, ht⟩) (fun q hq => absurd hq List.not_mem_nil) dX10_token_101
            · have h0 := it_f c9 h0
              refine lv_iconst (v := 1) hx hb dX10_token_96 (by decide) ?_
              refine lv_goto (tgt := 101) hx hb dX10_token_97 (by decide) ?_
              have e0 := Option.some.inj h0
              subst e0
              exact W.iret (v := 1) hx hb hr (fun t ht hW => ⟨rfl, ht⟩) (fun q hq => absurd hq List.not_mem_nil) dX10_token_101
          · have h0 := it_f c_8 h0
            by_cases c_10 : p2 = 4
            · have h0 := it_t c_10 h0
              refine lv_tableIn (tgt := 102) hx hb dX10_token_11 (by rw [c_10]; decide) (by rw [c_10]; decide) (by rw [c_10]; rfl) (by decide) ?_
              refine lv_aload_n hx hb dX10_token_102 rfl (lv_at hl 0 rfl) ?_
              refine lv_iconst (v := 1) hx hb dX10_token_103 (by decide) ?_
              refine lv_iload_n hx hb dX10_token_104 rfl (lv_at hl 1 rfl) ?_
              refine lv_ishl hx hb dX10_token_105 ?_
              obtain ⟨z_11, hz, h0⟩ := bd_ok h0
              refine ro_V (As := [.int ((1 : Int32) <<< (p1 &&& 31))]) (rest := []) (wc := [(h, .inr (7, [.ref h_s, .ref h_aside, .ref h_past, .int h_pasts, .ref h_snapshot, .int h_isKept, .ref h_pad, .int h_length, .ref h_steps, .int h_many, .int h_value, .ref h_summed, .ref h_plus, .ref h_parts])), (h_s, .inl (cI, 65, .inl h_s_f)), (h_aside, .inl (cI, 65, .inl h_aside_f)), (h_past, .inl (cI, 260, .inl h_past_f)), (h_snapshot, .inl (cI, 65, .inl h_snapshot_f)), (h_pad, .inl (cI, 80, .inl h_pad_f)), (h_steps, .inl (cI, 320, .inl h_steps_f)), (h_summed, .inl (cI, 81, .inl h_summed_f)), (h_plus, .inl (cI, 81, .inl h_plus_f)), (h_parts, .inl (cI, 392, .inl h_parts_f))]) hcf (kX10_ringOf l D cI cC cT h h_s h_aside h_past h_snapshot h_pad h_steps h_summed h_plus h_parts h_s_f h_aside_f h_past_f h_pasts h_snapshot_f h_isKept h_pad_f h_length h_steps_f h_many h_value h_summed_f h_plus_f h_parts_f ((1 : Int32) <<< (p1 &&& 31)) z_11 hz) (cwV 1 hts gX10_token_X10_ringOf rfl rfl rfl (by decide +kernel) ⟨Nat.le_of_ble_eq_true rfl, Nat.le_of_ble_eq_true rfl⟩) hE (hP.sub [0, 1, 2, 3, 4, 5, 6, 7, 8, 9] rfl) (va_recv hK hP (ci := 7) (q0 := 0) rfl rfl) rfl hl.1 rfl (Nat.le_of_ble_eq_true rfl) dX10_token_106 ⟨Nat.le_of_ble_eq_true rfl, Nat.le_of_ble_eq_true rfl⟩ ?_
              refine W.eq (g2 := F0 m 109 ls [.int z_11]) rfl ?_
              obtain ⟨z_12, hz, h0⟩ := bd_ok h0
              refine ro_S (As := [.int z_11]) (rest := []) (wc := []) hcf (kX10_bits l D cI cC cT z_11 z_12 hz) (va_cwS 1 hts gX10_token_X10_bits rfl rfl rfl (by decide +kernel) ⟨Nat.le_of_ble_eq_true rfl, Nat.le_of_ble_eq_true rfl⟩) hE (hP.sub [] rfl) rfl hl.1 rfl (Nat.le_of_ble_eq_true rfl) dX10_token_109 ⟨Nat.le_of_ble_eq_true rfl, Nat.le_of_ble_eq_true rfl⟩ ?_
              refine W.eq (g2 := F0 m 112 ls [.int z_12]) rfl ?_
              have e0 := Option.some.inj h0
              subst e0
              exact W.iret (v := z_12) hx hb hr (fun t ht hW => ⟨rfl, ht⟩) (fun q hq => absurd hq List.not_mem_nil) dX10_token_112
            · have h0 := it_f c_10 h0
              by_cases c_13 : p2 = 5
              · have h0 := it_t c_13 h0
                refine lv_tableIn (tgt := 113) hx hb dX10_token_11 (by rw [c_13]; decide) (by rw [c_13]; decide) (by rw [c_13]; rfl) (by decide) ?_
                refine lv_aload_n hx hb dX10_token_113 rfl (lv_at hl 0 rfl) ?_
                refine lv_iconst (v := 1) hx hb dX10_token_114 (by decide) ?_
                refine lv_iload_n hx hb dX10_token_115 rfl (lv_at hl 1 rfl) ?_
                refine lv_ishl hx hb dX10_token_116 ?_
                obtain ⟨z_14, hz, h0⟩ := bd_ok h0
                refine ro_V (As := [.int ((1 : Int32) <<< (p1 &&& 31))]) (rest := []) (wc := [(h, .inr (7, [.ref h_s, .ref h_aside, .ref h_past, .int h_pasts, .ref h_snapshot, .int h_isKept, .ref h_pad, .int h_length, .ref h_steps, .int h_many, .int h_value, .ref h_summed, .ref h_plus, .ref h_parts])), (h_s, .inl (cI, 65, .inl h_s_f)), (h_aside, .inl (cI, 65, .inl h_aside_f)), (h_past, .inl (cI, 260, .inl h_past_f)), (h_snapshot, .inl (cI, 65, .inl h_snapshot_f)), (h_pad, .inl (cI, 80, .inl h_pad_f)), (h_steps, .inl (cI, 320, .inl h_steps_f)), (h_summed, .inl (cI, 81, .inl h_summed_f)), (h_plus, .inl (cI, 81, .inl h_plus_f)), (h_parts, .inl (cI, 392, .inl h_parts_f))]) hcf (kX10_ringOf l D cI cC cT h h_s h_aside h_past h_snapshot h_pad h_steps h_summed h_plus h_parts h_s_f h_aside_f h_past_f h_pasts h_snapshot_f h_isKept h_pad_f h_length h_steps_f h_many h_value h_summed_f h_plus_f h_parts_f ((1 : Int32) <<< (p1 &&& 31)) z_14 hz) (cwV 1 hts gX10_token_X10_ringOf rfl rfl rfl (by decide +kernel) ⟨Nat.le_of_ble_eq_true rfl, Nat.le_of_ble_eq_true rfl⟩) hE (hP.sub [0, 1, 2, 3, 4, 5, 6, 7, 8, 9] rfl) (va_recv hK hP (ci := 7) (q0 := 0) rfl rfl) rfl hl.1 rfl (Nat.le_of_ble_eq_true rfl) dX10_token_117 ⟨Nat.le_of_ble_eq_true rfl, Nat.le_of_ble_eq_true rfl⟩ ?_
                refine W.eq (g2 := F0 m 120 ls [.int z_14]) rfl ?_
                have e0 := Option.some.inj h0
                subst e0
                exact W.iret (v := z_14) hx hb hr (fun t ht hW => ⟨rfl, ht⟩) (fun q hq => absurd hq List.not_mem_nil) dX10_token_120
              · have h0 := it_f c_13 h0
                by_cases c_15 : p2 = 6
                · have h0 := it_t c_15 h0
                  refine lv_tableIn (tgt := 121) hx hb dX10_token_11 (by rw [c_15]; decide) (by rw [c_15]; decide) (by rw [c_15]; rfl) (by decide) ?_
                  refine lv_aload_n hx hb dX10_token_121 rfl (lv_at hl 0 rfl) ?_
                  refine lv_iload_n hx hb dX10_token_122 rfl (lv_at hl 1 rfl) ?_
                  refine lv_iload_n hx hb dX10_token_123 rfl (lv_at hl 1 rfl) ?_
                  obtain ⟨z_16, hz, h0⟩ := bd_ok h0
                  refine ro_V (As := [.int p1, .int p1]) (rest := []) (wc := [(h, .inr (7, [.ref h_s, .ref h_aside, .ref h_past, .int h_pasts, .ref h_snapshot, .int h_isKept, .ref h_pad, .int h_length, .ref h_steps, .int h_many, .int h_value, .ref h_summed, .ref h_plus, .ref h_parts])), (h_s, .inl (cI, 65, .inl h_s_f)), (h_aside, .inl (cI, 65, .inl h_aside_f)), (h_past, .inl (cI, 260, .inl h_past_f)), (h_snapshot, .inl (cI, 65, .inl h_snapshot_f)), (h_pad, .inl (cI, 80, .inl h_pad_f)), (h_steps, .inl (cI, 320, .inl h_steps_f)), (h_summed, .inl (cI, 81, .inl h_summed_f)), (h_plus, .inl (cI, 81, .inl h_plus_f)), (h_parts, .inl (cI, 392, .inl h_parts_f))]) hcf (kX10_plain l D cI cC cT h h_s h_aside h_past h_snapshot h_pad h_steps h_summed h_plus h_parts h_s_f h_aside_f h_past_f h_pasts h_snapshot_f h_isKept h_pad_f h_length h_steps_f h_many h_value h_summed_f h_plus_f h_parts_f p1 p1 z_16 hz) (cwV 2 hts gX10_token_X10_plain rfl rfl rfl (by decide +kernel) ⟨Nat.le_of_ble_eq_true rfl, Nat.le_of_ble_eq_true rfl⟩) hE (hP.sub [0, 1, 2, 3, 4, 5, 6, 7, 8, 9] rfl) (va_recv hK hP (ci := 7) (q0 := 0) rfl rfl) rfl hl.1 rfl (Nat.le_of_ble_eq_true rfl) dX10_token_124 ⟨Nat.le_of_ble_eq_true rfl, Nat.le_of_ble_eq_true rfl⟩ ?_
                  refine W.eq (g2 := F0 m 127 ls [.int z_16]) rfl ?_
                  have e0 := Option.some.inj h0
                  subst e0
                  exact W.iret (v := z_16) hx hb hr (fun t ht hW => ⟨rfl, ht⟩) (fun q hq => absurd hq List.not_mem_nil) dX10_token_127
                · have h0 := it_f c_15 h0
                  by_cases c_17 : p2 = 7
                  · have h0 := it_t c_17 h0
                    refine lv_tableIn (tgt := 128) hx hb dX10_token_11 (by rw [c_17]; decide) (by rw [c_17]; decide) (by rw [c_17]; rfl) (by decide) ?_
                    refine lv_aload_n hx hb dX10_token_128 rfl (lv_at hl 0 rfl) ?_
                    refine lv_iload_n hx hb dX10_token_129 rfl (lv_at hl 1 rfl) ?_
                    obtain ⟨z_18, hz, h0⟩ := bd_ok h0
                    refine ro_V (As := [.int p1]) (rest := []) (wc := [(h, .inr (7, [.ref h_s, .ref h_aside, .ref h_past, .int h_pasts, .ref h_snapshot, .int h_isKept, .ref h_pad, .int h_length, .ref h_steps, .int h_many, .int h_value, .ref h_summed, .ref h_plus, .ref h_parts])), (h_s, .inl (cI, 65, .inl h_s_f)), (h_aside, .inl (cI, 65, .inl h_aside_f)), (h_past, .inl (cI, 260, .inl h_past_f)), (h_snapshot, .inl (cI, 65, .inl h_snapshot_f)), (h_pad, .inl (cI, 80, .inl h_pad_f)), (h_steps, .inl (cI, 320, .inl h_steps_f)), (h_summed, .inl (cI, 81, .inl h_summed_f)), (h_plus, .inl (cI, 81, .inl h_plus_f)), (h_parts, .inl (cI, 392, .inl h_parts_f))]) hcf (kX10_rounds l D cI cC cT h h_s h_aside h_past h_snapshot h_pad h_steps h_summed h_plus h_parts h_s_f h_aside_f h_past_f h_pasts h_snapshot_f h_isKept h_pad_f h_length h_steps_f h_many h_value h_summed_f h_plus_f h_parts_f p1 z_18 hz) (cwV 1 hts gX10_token_X10_rounds rfl rfl rfl (by decide +kernel) ⟨Nat.le_of_ble_eq_true rfl, Nat.le_of_ble_eq_true rfl⟩) hE (hP.sub [0, 1, 2, 3, 4, 5, 6, 7, 8, 9] rfl) (va_recv hK hP (ci := 7) (q0 := 0) rfl rfl) rfl hl.1 rfl (Nat.le_of_ble_eq_true rfl) dX10_token_130 ⟨Nat.le_of_ble_eq_true rfl, Nat.le_of_ble_eq_true rfl⟩ ?_
                    refine W.eq (g2 := F0 m 133 ls [.int z_18]) rfl ?_
                    have e0 := Option.some.inj h0
                    subst e0
                    exact W.iret (v := z_18) hx hb hr (fun t ht hW => ⟨rfl, ht⟩) (fun q hq => absurd hq List.not_mem_nil) dX10_token_133
                  · have h0 := it_f c_17 h0
                    by_cases c_19 : p2 = 8
                    · have h0 := it_t c_19 h0
                      refine lv_tableIn (tgt := 134) hx hb dX10_token_11 (by rw [c_19]; decide) (by rw [c_19]; decide) (by rw [c_19]; rfl) (by decide) ?_
                      refine lv_aload_n hx hb dX10_token_134 rfl (lv_at hl 0 rfl) ?_
                      refine lv_iload_n hx hb dX10_token_135 rfl (lv_at hl 1 rfl) ?_
                      obtain ⟨z_20, hz, h0⟩ := bd_ok h0
                      refine ro_V (As := [.int p1]) (rest := []) (wc := [(h, .inr (7, [.ref h_s, .ref h_aside, .ref h_past, .int h_pasts, .ref h_snapshot, .int h_isKept, .ref h_pad, .int h_length, .ref h_steps, .int h_many, .int h_value, .ref h_summed, .ref h_plus, .ref h_parts])), (h_s, .inl (cI, 65, .inl h_s_f)), (h_aside, .inl (cI, 65, .inl h_aside_f)), (h_past, .inl (cI, 260, .inl h_past_f)), (h_snapshot, .inl (cI, 65, .inl h_snapshot_f)), (h_pad, .inl (cI, 80, .inl h_pad_f)), (h_steps, .inl (cI, 320, .inl h_steps_f)), (h_summed, .inl (cI, 81, .inl h_summed_f)), (h_plus, .inl (cI, 81, .inl h_plus_f)), (h_parts, .inl (cI, 392, .inl h_parts_f))]) hcf (kX10_again l D cI cC cT h h_s h_aside h_past h_snapshot h_pad h_steps h_summed h_plus h_parts h_s_f h_aside_f h_past_f h_pasts h_snapshot_f h_isKept h_pad_f h_length h_steps_f h_many h_value h_summed_f h_plus_f h_parts_f p1 z_20 hz) (cwV 1 hts gX10_token_X10_again rfl rfl rfl (by decide +kernel) ⟨Nat.le_of_ble_eq_true rfl, Nat.le_of_ble_eq_true rfl⟩) hE (hP.sub [0, 1, 2, 3, 4, 5, 6, 7, 8, 9] rfl) (va_recv hK hP (ci := 7) (q0 := 0) rfl rfl) rfl hl.1 rfl (Nat.le_of_ble_eq_true rfl) dX10_token_136 ⟨Nat.le_of_ble_eq_true rfl, Nat.le_of_ble_eq_true rfl⟩ ?_
                      refine W.eq (g2 := F0 m 139 ls [.int z_20]) rfl ?_
                      have e0 := Option.some.inj h0
                      subst e0
                      exact W.iret (v := z_20) hx hb hr (fun t ht hW => ⟨rfl, ht⟩) (fun q hq => absurd hq List.not_mem_nil) dX10_token_139
                    · have h0 := it_f c_19 h0
                      refine lv_tableOut (tgt := 140) hx hb dX10_token_11 (by have a0 := sw_ne 0 0 (by decide) c_2; have a1 := sw_ne 1 1 (by decide) c_4; have a2 := sw_ne 2 2 (by decide) c_6; have a3 := sw_ne 3 3 (by decide) c_8; have a4 := sw_ne 4 4 (by decide) c_10; have a5 := sw_ne 5 5 (by decide) c_13; have a6 := sw_ne 6 6 (by decide) c_15; have a7 := sw_ne 7 7 (by decide) c_17; have a8 := sw_ne 8 8 (by decide) c_19; omega) (by decide) ?_
                      refine lv_iconst (v := (-1)) hx hb dX10_token_140 (by decide) ?_
                      have e0 := Option.some.inj h0
                      subst e0
                      exact W.iret (v := (-1)) hx hb hr (fun t ht hW => ⟨rfl, ht⟩) (fun q hq => absurd hq List.not_mem_nil) dX10_token_141
  · have h0 := it_t c9 h0
    refine lv_iconst (v := (-1)) hx hb dX10_token_8 (by decide) ?_
    have e0 := Option.some.inj h0
    subst e0
    exact W.iret (v := (-1)) hx hb hr (fun t ht hW => ⟨rfl, ht⟩) (fun q hq => absurd hq List.not_mem_nil) dX10_token_9
