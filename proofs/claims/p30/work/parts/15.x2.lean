noncomputable def mJ6_bitCount_0f7a4 (p1 : Int32) : Option (Int32) :=
  some (((((((((p1 - (((p1).toUInt32 >>> (((1 : Int32)).toUInt32 &&& Int32.toUInt32 31)).toInt32 &&& 1431655765)) &&& 858993459) + ((((p1 - (((p1).toUInt32 >>> (((1 : Int32)).toUInt32 &&& Int32.toUInt32 31)).toInt32 &&& 1431655765))).toUInt32 >>> (((2 : Int32)).toUInt32 &&& Int32.toUInt32 31)).toInt32 &&& 858993459)) + (((((p1 - (((p1).toUInt32 >>> (((1 : Int32)).toUInt32 &&& Int32.toUInt32 31)).toInt32 &&& 1431655765)) &&& 858993459) + ((((p1 - (((p1).toUInt32 >>> (((1 : Int32)).toUInt32 &&& Int32.toUInt32 31)).toInt32 &&& 1431655765))).toUInt32 >>> (((2 : Int32)).toUInt32 &&& Int32.toUInt32 31)).toInt32 &&& 858993459))).toUInt32 >>> (((4 : Int32)).toUInt32 &&& Int32.toUInt32 31)).toInt32) &&& 252645135) + (((((((p1 - (((p1).toUInt32 >>> (((1 : Int32)).toUInt32 &&& Int32.toUInt32 31)).toInt32 &&& 1431655765)) &&& 858993459) + ((((p1 - (((p1).toUInt32 >>> (((1 : Int32)).toUInt32 &&& Int32.toUInt32 31)).toInt32 &&& 1431655765))).toUInt32 >>> (((2 : Int32)).toUInt32 &&& Int32.toUInt32 31)).toInt32 &&& 858993459)) + (((((p1 - (((p1).toUInt32 >>> (((1 : Int32)).toUInt32 &&& Int32.toUInt32 31)).toInt32 &&& 1431655765)) &&& 858993459) + ((((p1 - (((p1).toUInt32 >>> (((1 : Int32)).toUInt32 &&& Int32.toUInt32 31)).toInt32 &&& 1431655765))).toUInt32 >>> (((2 : Int32)).toUInt32 &&& Int32.toUInt32 31)).toInt32 &&& 858993459))).toUInt32 >>> (((4 : Int32)).toUInt32 &&& Int32.toUInt32 31)).toInt32) &&& 252645135)).toUInt32 >>> (((8 : Int32)).toUInt32 &&& Int32.toUInt32 31)).toInt32) + ((((((((p1 - (((p1).toUInt32 >>> (((1 : Int32)).toUInt32 &&& Int32.toUInt32 31)).toInt32 &&& 1431655765)) &&& 858993459) + ((((p1 - (((p1).toUInt32 >>> (((1 : Int32)).toUInt32 &&& Int32.toUInt32 31)).toInt32 &&& 1431655765))).toUInt32 >>> (((2 : Int32)).toUInt32 &&& Int32.toUInt32 31)).toInt32 &&& 858993459)) + (((((p1 - (((p1).toUInt32 >>> (((1 : Int32)).toUInt32 &&& Int32.toUInt32 31)).toInt32 &&& 1431655765)) &&& 858993459) + ((((p1 - (((p1).toUInt32 >>> (((1 : Int32)).toUInt32 &&& Int32.toUInt32 31)).toInt32 &&& 1431655765))).toUInt32 >>> (((2 : Int32)).toUInt32 &&& Int32.toUInt32 31)).toInt32 &&& 858993459))).toUInt32 >>> (((4 : Int32)).toUInt32 &&& Int32.toUInt32 31)).toInt32) &&& 252645135) + (((((((p1 - (((p1).toUInt32 >>> (((1 : Int32)).toUInt32 &&& Int32.toUInt32 31)).toInt32 &&& 1431655765)) &&& 858993459) + ((((p1 - (((p1).toUInt32 >>> (((1 : Int32)).toUInt32 &&& Int32.toUInt32 31)).toInt32 &&& 1431655765))).toUInt32 >>> (((2 : Int32)).toUInt32 &&& Int32.toUInt32 31)).toInt32 &&& 858993459)) + (((((p1 - (((p1).toUInt32 >>> (((1 : Int32)).toUInt32 &&& Int32.toUInt32 31)).toInt32 &&& 1431655765)) &&& 858993459) + ((((p1 - (((p1).toUInt32 >>> (((1 : Int32)).toUInt32 &&& Int32.toUInt32 31)).toInt32 &&& 1431655765))).toUInt32 >>> (((2 : Int32)).toUInt32 &&& Int32.toUInt32 31)).toInt32 &&& 858993459))).toUInt32 >>> (((4 : Int32)).toUInt32 &&& Int32.toUInt32 31)).toInt32) &&& 252645135)).toUInt32 >>> (((8 : Int32)).toUInt32 &&& Int32.toUInt32 31)).toInt32)).toUInt32 >>> (((16 : Int32)).toUInt32 &&& Int32.toUInt32 31)).toInt32) &&& 63))
set_option maxHeartbeats 8000000 in
set_option maxRecDepth 100000 in
theorem kJ6_bitCount_0f7a4 (l : Launch) (D : va_G) (cI cC cT : ClassId) (p1 : Int32) (z : Int32) (h0 : mJ6_bitCount_0f7a4 p1 = some z) : Met l yJ6_bitCount_0f7a4 wsJ6_bitCount_0f7a4 ({ frames := 0, cells := 0, slots := 0, locals := 0 } : Room) (va_Pc [.int p1] (rP D cI cC cT [])) (rQ (some (.int z))) 0 0 (fun _ => False) := by
  refine Met.ofW (cc := cJ6_bitCount_0f7a4) (maxL := 1) (ret := (some .int)) (by decide) rfl ?_
  intro p e s m args below meth c s₁ B hml hv
  obtain ⟨rfl, hP, hE⟩ := hv
  have hx := B.exec
  have hb := B.bytes
  have hr := B.returns
  have hts := atoms_spec (ws := wsJ6_bitCount_0f7a4) B.pre
  have hown : s.vm.findClass RJ6 = some m.cls := findClass_of_methodNamed B.named
  have hlocks := B.notSynchronized
  have hK := hE.1
  have hcf : CallFix p m c cJ6_bitCount_0f7a4 1 s ([.int p1] : List Value).toArray wsJ6_bitCount_0f7a4 RJ6 := ⟨hx, hb, hml, hown, hts⟩
  have hP : va_P D vwCl [] s.heap := hP
  have hc_265 := hts (.constant RJ6 265 (1431655765)) (by decide +kernel)
  have hc_266 := hts (.constant RJ6 266 (858993459)) (by decide +kernel)
  have hc_267 := hts (.constant RJ6 267 (252645135)) (by decide +kernel)
  have hl := lv_entry ([.int p1]) (n := 1) (Nat.le_of_ble_eq_true rfl)
  rw [lg_entry_eq]
  generalize (lg_sl ([.int p1]) ++ List.replicate (1 - (lg_sl ([.int p1])).length) Slot.unset).toArray = ls at hl ⊢
  have hl : lv_has ls 1 [(0, .int p1)] := hl
  unfold mJ6_bitCount_0f7a4 at h0
  refine lv_iload_n hx hb dJ6_bitCount_0f7a4_0 rfl (lv_at hl 0 rfl) ?_
  refine lv_iload_n hx hb dJ6_bitCount_0f7a4_1 rfl (lv_at hl 0 rfl) ?_
  refine lv_iconst (v := 1) hx hb dJ6_bitCount_0f7a4_2 (by decide) ?_
  refine lv_iushr hx hb dJ6_bitCount_0f7a4_3 rfl ?_
  refine lv_ldcw (v := 1431655765) hx hb hown hc_265 dJ6_bitCount_0f7a4_4 ?_
  refine lv_iand hx hb dJ6_bitCount_0f7a4_7 ?_
  refine lv_isub hx hb dJ6_bitCount_0f7a4_8 ?_
  refine lv_istore_n (lv' := [(0, .int (p1 - (((p1).toUInt32 >>> (((1 : Int32)).toUInt32 &&& Int32.toUInt32 31)).toInt32 &&& 1431655765)))]) hx hb dJ6_bitCount_0f7a4_9 rfl hl (by decide) rfl (fun ls hl => ?_)
  refine lv_iload_n hx hb dJ6_bitCount_0f7a4_10 rfl (lv_at hl 0 rfl) ?_
  refine lv_ldcw (v := 858993459) hx hb hown hc_266 dJ6_bitCount_0f7a4_11 ?_
  refine lv_iand hx hb dJ6_bitCount_0f7a4_14 ?_
  refine lv_iload_n hx hb dJ6_bitCount_0f7a4_15 rfl (lv_at hl 0 rfl) ?_
  refine lv_iconst (v := 2) hx hb dJ6_bitCount_0f7a4_16 (by decide) ?_
  refine lv_iushr hx hb dJ6_bitCount_0f7a4_17 rfl ?_
  refine lv_ldcw (v := 858993459) hx hb hown hc_266 dJ6_bitCount_0f7a4_18 ?_
  refine lv_iand hx hb dJ6_bitCount_0f7a4_21 ?_
  refine lv_iadd hx hb dJ6_bitCount_0f7a4_22 ?_
  refine lv_istore_n (lv' := [(0, .int (((p1 - (((p1).toUInt32 >>> (((1 : Int32)).toUInt32 &&& Int32.toUInt32 31)).toInt32 &&& 1431655765)) &&& 858993459) + ((((p1 - (((p1).toUInt32 >>> (((1 : Int32)).toUInt32 &&& Int32.toUInt32 31)).toInt32 &&& 1431655765))).toUInt32 >>> (((2 : Int32)).toUInt32 &&& Int32.toUInt32 31)).toInt32 &&& 858993459)))]) hx hb dJ6_bitCount_0f7a4_23 rfl hl (by decide) rfl (fun ls hl => ?_)
  refine lv_iload_n hx hb dJ6_bitCount_0f7a4_24 rfl (lv_at hl 0 rfl) ?_
  refine lv_iload_n hx hb dJ6_bitCount_0f7a4_25 rfl (lv_at hl 0 rfl) ?_
  refine lv_iconst (v := 4) hx hb dJ6_bitCount_0f7a4_26 (by decide) ?_
  refine lv_iushr hx hb dJ6_bitCount_0f7a4_27 rfl ?_
  refine lv_iadd hx hb dJ6_bitCount_0f7a4_28 ?_
  refine lv_ldcw (v := 252645135) hx hb hown hc_267 dJ6_bitCount_0f7a4_29 ?_
  refine lv_iand hx hb dJ6_bitCount_0f7a4_32 ?_
  refine lv_istore_n (lv' := [(0, .int (((((p1 - (((p1).toUInt32 >>> (((1 : Int32)).toUInt32 &&& Int32.toUInt32 31)).toInt32 &&& 1431655765)) &&& 858993459) + ((((p1 - (((p1).toUInt32 >>> (((1 : Int32)).toUInt32 &&& Int32.toUInt32 31)).toInt32 &&& 1431655765))).toUInt32 >>> (((2 : Int32)).toUInt32 &&& Int32.toUInt32 31)).toInt32 &&& 858993459)) + (((((p1 - (((p1).toUInt32 >>> (((1 : Int32)).toUInt32 &&& Int32.toUInt32 31)).toInt32 &&& 1431655765)) &&& 858993459) + ((((p1 - (((p1).toUInt32 >>> (((1 : Int32)).toUInt32 &&& Int32.toUInt32 31)).toInt32 &&& 1431655765))).toUInt32 >>> (((2 : Int32)).toUInt32 &&& Int32.toUInt32 31)).toInt32 &&& 858993459))).toUInt32 >>> (((4 : Int32)).toUInt32 &&& Int32.toUInt32 31)).toInt32) &&& 252645135))]) hx hb dJ6_bitCount_0f7a4_33 rfl hl (by decide) rfl (fun ls hl => ?_)
  refine lv_iload_n hx hb dJ6_bitCount_0f7a4_34 rfl (lv_at hl 0 rfl) ?_
  refine lv_iload_n hx hb dJ6_bitCount_0f7a4_35 rfl (lv_at hl 0 rfl) ?_
  refine lv_bipush (v := 8) hx hb dJ6_bitCount_0f7a4_36 (by decide) ?_
  refine lv_iushr hx hb dJ6_bitCount_0f7a4_38 rfl ?_
  refine lv_iadd hx hb dJ6_bitCount_0f7a4_39 ?_
  refine lv_istore_n (lv' := [(0, .int ((((((p1 - (((p1).toUInt32 >>> (((1 : Int32)).toUInt32 &&& Int32.toUInt32 31)).toInt32 &&& 1431655765)) &&& 858993459) + ((((p1 - (((p1).toUInt32 >>> (((1 : Int32)).toUInt32 &&& Int32.toUInt32 31)).toInt32 &&& 1431655765))).toUInt32 >>> (((2 : Int32)).toUInt32 &&& Int32.toUInt32 31)).toInt32 &&& 858993459)) + (((((p1 - (((p1).toUInt32 >>> (((1 : Int32)).toUInt32 &&& Int32.toUInt32 31)).toInt32 &&& 1431655765)) &&& 858993459) + ((((p1 - (((p1).toUInt32 >>> (((1 : Int32)).toUInt32 &&& Int32.toUInt32 31)).toInt32 &&& 1431655765))).toUInt32 >>> (((2 : Int32)).toUInt32 &&& Int32.toUInt32 31)).toInt32 &&& 858993459))).toUInt32 >>> (((4 : Int32)).toUInt32 &&& Int32.toUInt32 31)).toInt32) &&& 252645135) + (((((((p1 - (((p1).toUInt32 >>> (((1 : Int32)).toUInt32 &&& Int32.toUInt32 31)).toInt32 &&& 1431655765)) &&& 858993459) + ((((p1 - (((p1).toUInt32 >>> (((1 : Int32)).toUInt32 &&& Int32.toUInt32 31)).toInt32 &&& 1431655765))).toUInt32 >>> (((2 : Int32)).toUInt32 &&& Int32.toUInt32 31)).toInt32 &&& 858993459)) + (((((p1 - (((p1).toUInt32 >>> (((1 : Int32)).toUInt32 &&& Int32.toUInt32 31)).toInt32 &&& 1431655765)) &&& 858993459) + ((((p1 - (((p1).toUInt32 >>> (((1 : Int32)).toUInt32 &&& Int32.toUInt32 31)).toInt32 &&& 1431655765))).toUInt32 >>> (((2 : Int32)).toUInt32 &&& Int32.toUInt32 31)).toInt32 &&& 858993459))).toUInt32 >>> (((4 : Int32)).toUInt32 &&& Int32.toUInt32 31)).toInt32) &&& 252645135)).toUInt32 >>> (((8 : Int32)).toUInt32 &&& Int32.toUInt32 31)).toInt32))]) hx hb dJ6_bitCount_0f7a4_40 rfl hl (by decide) rfl (fun ls hl => ?_)
  refine lv_iload_n hx hb dJ6_bitCount_0f7a4_41 rfl (lv_at hl 0 rfl) ?_
  refine lv_iload_n hx hb dJ6_bitCount_0f7a4_42 rfl (lv_at hl 0 rfl) ?_
  refine lv_bipush (v := 16) hx hb dJ6_bitCount_0f7a4_43 (by decide) ?_
  refine lv_iushr hx hb dJ6_bitCount_0f7a4_45 rfl ?_
  refine lv_iadd hx hb dJ6_bitCount_0f7a4_46 ?_
  refine lv_istore_n (lv' := [(0, .int (((((((p1 - (((p1).toUInt32 >>> (((1 : Int32)).toUInt32 &&& Int32.toUInt32 31)).toInt32 &&& 1431655765)) &&& 858993459) + ((((p1 - (((p1).toUInt32 >>> (((1 : Int32)).toUInt32 &&& Int32.toUInt32 31)).toInt32 &&& 1431655765))).toUInt32 >>> (((2 : Int32)).toUInt32 &&& Int32.toUInt32 31)).toInt32 &&& 858993459)) + (((((p1 - (((p1).toUInt32 >>> (((1 : Int32)).toUInt32 &&& Int32.toUInt32 31)).toInt32 &&& 1431655765)) &&& 858993459) + ((((p1 - (((p1).toUInt32 >>> (((1 : Int32)).toUInt32 &&& Int32.toUInt32 31)).toInt32 &&& 1431655765))).toUInt32 >>> (((2 : Int32)).toUInt32 &&& Int32.toUInt32 31)).toInt32 &&& 858993459))).toUInt32 >>> (((4 : Int32)).toUInt32 &&& Int32.toUInt32 31)).toInt32) &&& 252645135) + (((((((p1 - (((p1).toUInt32 >>> (((1 : Int32)).toUInt32 &&& Int32.toUInt32 31)).toInt32 &&& 1431655765)) &&& 858993459) + ((((p1 - (((p1).toUInt32 >>> (((1 : Int32)).toUInt32 &&& Int32.toUInt32 31)).toInt32 &&& 1431655765))).toUInt32 >>> (((2 : Int32)).toUInt32 &&& Int32.toUInt32 31)).toInt32 &&& 858993459)) + (((((p1 - (((p1).toUInt32 >>> (((1 : Int32)).toUInt32 &&& Int32.toUInt32 31)).toInt32 &&& 1431655765)) &&& 858993459) + ((((p1 - (((p1).toUInt32 >>> (((1 : Int32)).toUInt32 &&& Int32.toUInt32 31)).toInt32 &&& 1431655765))).toUInt32 >>> (((2 : Int32)).toUInt32 &&& Int32.toUInt32 31)).toInt32 &&& 858993459))).toUInt32 >>> (((4 : Int32)).toUInt32 &&& Int32.toUInt32 31)).toInt32) &&& 252645135)).toUInt32 >>> (((8 : Int32)).toUInt32 &&& Int32.toUInt32 31)).toInt32) + ((((((((p1 - (((p1).toUInt32 >>> (((1 : Int32)).toUInt32 &&& Int32.toUInt32 31)).toInt32 &&& 1431655765)) &&& 858993459) + ((((p1 - (((p1).toUInt32 >>> (((1 : Int32)).toUInt32 &&& Int32.toUInt32 31)).toInt32 &&& 1431655765))).toUInt32 >>> (((2 : Int32)).toUInt32 &&& Int32.toUInt32 31)).toInt32 &&& 858993459)) + (((((p1 - (((p1).toUInt32 >>> (((1 : Int32)).toUInt32 &&& Int32.toUInt32 31)).toInt32 &&& 1431655765)) &&& 858993459) + ((((p1 - (((p1).toUInt32 >>> (((1 : Int32)).toUInt32 &&& Int32.toUInt32 31)).toInt32 &&& 1431655765))).toUInt32 >>> (((2 : Int32)).toUInt32 &&& Int32.toUInt32 31)).toInt32 &&& 858993459))).toUInt32 >>> (((4 : Int32)).toUInt32 &&& Int32.toUInt32 31)).toInt32) &&& 252645135) + (((((((p1 - (((p1).toUInt32 >>> (((1 : Int32)).toUInt32 &&& Int32.toUInt32 31)).toInt32 &&& 1431655765)) &&& 858993459) + ((((p1 - (((p1).toUInt32 >>> (((1 : Int32)).toUInt32 &&& Int32.toUInt32 31)).toInt32 &&& 1431655765))).toUInt32 >>> (((2 : Int32)).toUInt32 &&& Int32.toUInt32 31)).toInt32 &&& 858993459)) + (((((p1 - (((p1).toUInt32 >>> (((1 : Int32)).toUInt32 &&& Int32.toUInt32 31)).toInt32 &&& 1431655765)) &&& 858993459) + ((((p1 - (((p1).toUInt32 >>> (((1 : Int32)).toUInt32 &&& Int32.toUInt32 31)).toInt32 &&& 1431655765))).toUInt32 >>> (((2 : Int32)).toUInt32 &&& Int32.toUInt32 31)).toInt32 &&& 858993459))).toUInt32 >>> (((4 : Int32)).toUInt32 &&& Int32.toUInt32 31)).toInt32) &&& 252645135)).toUInt32 >>> (((8 : Int32)).toUInt32 &&& Int32.toUInt32 31)).toInt32)).toUInt32 >>> (((16 : Int32)).toUInt32 &&& Int32.toUInt32 31)).toInt32))]) hx hb dJ6_bitCount_0f7a4_47 rfl hl (by decide) rfl (fun ls hl => ?_)
  refine lv_iload_n hx hb dJ6_bitCount_0f7a4_48 rfl (lv_at hl 0 rfl) ?_
  refine lv_bipush (v := 63) hx hb dJ6_bitCount_0f7a4_49 (by decide) ?_
  refine lv_iand hx hb dJ6_bitCount_0f7a4_51 ?_
  have e0 := Option.some.inj h0
  subst e0
  exact W.iret (v := ((((((((p1 - (((p1).toUInt32 >>> (((1 : Int32)).toUInt32 &&& Int32.toUInt32 31)).toInt32 &&& 1431655765)) &&& 858993459) + ((((p1 - (((p1).toUInt32 >>> (((1 : Int32)).toUInt32 &&& Int32.toUInt32 31)).toInt32 &&& 1431655765))).toUInt32 >>> (((2 : Int32)).toUInt32 &&& Int32.toUInt32 31)).toInt32 &&& 858993459)) + (((((p1 - (((p1).toUInt32 >>> (((1 : Int32)).toUInt32 &&& Int32.toUInt32 31)).toInt32 &&& 1431655765)) &&& 858993459) + ((((p1 - (((p1).toUInt32 >>> (((1 : Int32)).toUInt32 &&& Int32.toUInt32 31)).toInt32 &&& 1431655765))).toUInt32 >>> (((2 : Int32)).toUInt32 &&& Int32.toUInt32 31)).toInt32 &&& 858993459))).toUInt32 >>> (((4 : Int32)).toUInt32 &&& Int32.toUInt32 31)).toInt32) &&& 252645135) + (((((((p1 - (((p1).toUInt32 >>> (((1 : Int32)).toUInt32 &&& Int32.toUInt32 31)).toInt32 &&& 1431655765)) &&& 858993459) + ((((p1 - (((p1).toUInt32 >>> (((1 : Int32)).toUInt32 &&& Int32.toUInt32 31)).toInt32 &&& 1431655765))).toUInt32 >>> (((2 : Int32)).toUInt32 &&& Int32.toUInt32 31)).toInt32 &&& 858993459)) + (((((p1 - (((p1).toUInt32 >>> (((1 : Int32)).toUInt32 &&& Int32.toUInt32 31)).toInt32 &&& 1431655765)) &&& 858993459) + ((((p1 - (((p1).toUInt32 >>> (((1 : Int32)).toUInt32 &&& Int32.toUInt32 31)).toInt32 &&& 1431655765))).toUInt32 >>> (((2 : Int32)).toUInt32 &&& Int32.toUInt32 31)).toInt32 &&& 858993459))).toUInt32 >>> (((4 : Int32)).toUInt32 &&& Int32.toUInt32 31)).toInt32) &&& 252645135)).toUInt32 >>> (((8 : Int32)).toUInt32 &&& Int32.toUInt32 31)).toInt32) + ((((((((p1 - (((p1).toUInt32 >>> (((1 : Int32)).toUInt32 &&& Int32.toUInt32 31)).toInt32 &&& 1431655765)) &&& 858993459) + ((((p1 - (((p1).toUInt32 >>> (((1 : Int32)).toUInt32 &&& Int32.toUInt32 31)).toInt32 &&& 1431655765))).toUInt32 >>> (((2 : Int32)).toUInt32 &&& Int32.toUInt32 31)).toInt32 &&& 858993459)) + (((((p1 - (((p1).toUInt32 >>> (((1 : Int32)).toUInt32 &&& Int32.toUInt32 31)).toInt32 &&& 1431655765)) &&& 858993459) + ((((p1 - (((p1).toUInt32 >>> (((1 : Int32)).toUInt32 &&& Int32.toUInt32 31)).toInt32 &&& 1431655765))).toUInt32 >>> (((2 : Int32)).toUInt32 &&& Int32.toUInt32 31)).toInt32 &&& 858993459))).toUInt32 >>> (((4 : Int32)).toUInt32 &&& Int32.toUInt32 31)).toInt32) &&& 252645135) + (((((((p1 - (((p1).toUInt32 >>> (((1 : Int32)).toUInt32 &&& Int32.toUInt32 31)).toInt32 &&& 1431655765)) &&& 858993459) + ((((p1 - (((p1).toUInt32 >>> (((1 : Int32)).toUInt32 &&& Int32.toUInt32 31)).toInt32 &&& 1431655765))).toUInt32 >>> (((2 : Int32)).toUInt32 &&& Int32.toUInt32 31)).toInt32 &&& 858993459)) + (((((p1 - (((p1).toUInt32 >>> (((1 : Int32)).toUInt32 &&& Int32.toUInt32 31)).toInt32 &&& 1431655765)) &&& 858993459) + ((((p1 - (((p1).toUInt32 >>> (((1 : Int32)).toUInt32 &&& Int32.toUInt32 31)).toInt32 &&& 1431655765))).toUInt32 >>> (((2 : Int32)).toUInt32 &&& Int32.toUInt32 31)).toInt32 &&& 858993459))).toUInt32 >>> (((4 : Int32)).toUInt32 &&& Int32.toUInt32 31)).toInt32) &&& 252645135)).toUInt32 >>> (((8 : Int32)).toUInt32 &&& Int32.toUInt32 31)).toInt32)).toUInt32 >>> (((16 : Int32)).toUInt32 &&& Int32.toUInt32 31)).toInt32) &&& 63)) hx hb hr (fun t ht hW => ⟨rfl, ht⟩) (fun q hq => absurd hq List.not_mem_nil) dJ6_bitCount_0f7a4_52
noncomputable def mX2_withSums_L31 (p1_cells_f : Nat → Int32) (p2 : Int32) (z_1 : Int32) (x4_5 : Int32) (k31_65 : Int32 → Int32 → Option (Int32)) : Nat → Int32 → Int32 → Option (Int32)
  | 0, _, _ => none
  | F + 1, x5_11, x3_12 => if z_1 ≤ x5_11 then (k31_65 x5_11 x3_12) else (bd (mX9_hasBit p2 x5_11) (fun z_13 => if z_13 = 0 then (mX2_withSums_L31 p1_cells_f p2 z_1 x4_5 k31_65 F (x5_11 + 1) x3_12) else (bd (mX6_at p1_cells_f x4_5 x5_11) (fun z_14 => mX2_withSums_L31 p1_cells_f p2 z_1 x4_5 k31_65 F (x5_11 + 1) (x3_12 ||| ((1 : Int32) <<< (z_14 &&& 31)))))))
noncomputable def mX2_withSums_L10 (p1_cells_f : Nat → Int32) (p2 : Int32) (z_1 : Int32) (k10_71 : Int32 → Int32 → Option (Int32)) : Nat → Int32 → Int32 → Option (Int32)
  | 0, _, _ => none
  | F + 1, x4_5, x3_6 => if z_1 ≤ x4_5 then (k10_71 x4_5 x3_6) else (bd (mX9_hasBit p2 x4_5) (fun z_7 => if z_7 = 0 then (mX2_withSums_L10 p1_cells_f p2 z_1 k10_71 F (x4_5 + 1) x3_6) else (mX2_withSums_L31 p1_cells_f p2 z_1 x4_5 (fun (x5_8 : Int32) (x3_9 : Int32) => mX2_withSums_L10 p1_cells_f p2 z_1 k10_71 F (x4_5 + 1) x3_9) FU 0 x3_6)))
noncomputable def mX2_withSums (p1_cells_f : Nat → Int32) (p1_size : Int32) (p2 : Int32) : Option (Int32) :=
  bd (mX6_size p1_size) (fun z_1 => mX2_withSums_L10 p1_cells_f p2 z_1 (fun (x4_2 : Int32) (x3_3 : Int32) => some (x3_3)) FU 0 p2)
set_option maxHeartbeats 8000000 in
set_option maxRecDepth 100000 in
theorem kX2_withSums (l : Launch) (D : va_G) (cI cC cT : ClassId) (p1 p1_cells : Nat) (p1_cells_f : Nat → Int32) (p1_size : Int32) (p2 : Int32) (z : Int32) (h0 : mX2_withSums p1_cells_f p1_size p2 = some z) : Met l yX2_withSums wsX2_withSums ({ frames := 1, cells := 0, slots := 0, locals := 23 } : Room) (va_Pc [.ref p1, .int p2] (rP D cI cC cT [(p1, .inr (5, [.ref p1_cells, .int p1_size])), (p1_cells, .inl (cI, 64, .inl p1_cells_f))])) (rQ (some (.int z))) 0 0 (fun _ => False) := by
  refine Met.ofW (cc := cX2_withSums) (maxL := 6) (ret := (some .int)) (by decide) rfl ?_
  intro p e s m args below meth c s₁ B hml hv
  obtain ⟨rfl, hP, hE⟩ := hv
  have hx := B.exec
  have hb := B.bytes
  have hr := B.returns
  have hts := atoms_spec (ws := wsX2_withSums) B.pre
  have hown : s.vm.findClass RX2 = some m.cls := findClass_of_methodNamed B.named
  have hlocks := B.notSynchronized
  have hK := hE.1
  have hcf : CallFix p m c cX2_withSums 6 s ([.ref p1, .int p2] : List Value).toArray wsX2_withSums RX2 := ⟨hx, hb, hml, hown, hts⟩
  have hP : va_P D vwCl [(p1, .inr (5, [.ref p1_cells, .int p1_size])), (p1_cells, .inl (cI, 64, .inl p1_cells_f))] s.heap := hP
  have hini_X9 := hts (.initialized RX9) (by decide +kernel)
  have hst_X9_hasBit := hts (.static yX9_hasBit) (by decide +kernel)
  have hl := lv_entry ([.ref p1, .int p2]) (n := 6) (Nat.le_of_ble_eq_true rfl)
  rw [lg_entry_eq]
  generalize (lg_sl ([.ref p1, .int p2]) ++ List.replicate (6 - (lg_sl ([.ref p1, .int p2])).length) Slot.unset).toArray = ls at hl ⊢
  have hl : lv_has ls 6 [(0, .ref p1), (1, .int p2)] := hl
  unfold mX2_withSums at h0
  refine lv_aload_n hx hb dX2_withSums_0 rfl (lv_at hl 0 rfl) ?_
  obtain ⟨z_1, hz, h0⟩ := bd_ok h0
  refine ro_V (As := []) (rest := []) (wc := [(p1, .inr (5, [.ref p1_cells, .int p1_size])), (p1_cells, .inl (cI, 64, .inl p1_cells_f))]) hcf (kX6_size l D cI cC cT p1 p1_cells p1_cells_f p1_size z_1 hz) (cwV 0 hts gX2_withSums_X6_size rfl rfl rfl (by decide +kernel) ⟨Nat.le_of_ble_eq_true rfl, Nat.le_of_ble_eq_true rfl⟩) hE (hP.sub [0, 1] rfl) (va_recv hK hP (ci := 5) (q0 := 0) rfl rfl) rfl hl.1 rfl (Nat.le_of_ble_eq_true rfl) dX2_withSums_1 ⟨Nat.le_of_ble_eq_true rfl, Nat.le_of_ble_eq_true rfl⟩ ?_
  refine W.eq (g2 := F0 m 4 ls [.int z_1]) rfl ?_
  refine lv_istore_n (lv' := [(2, .int z_1), (0, .ref p1), (1, .int p2)]) hx hb dX2_withSums_4 rfl hl (by decide) rfl (fun ls hl => ?_)
  refine lv_iload_n hx hb dX2_withSums_5 rfl (lv_at hl 2 rfl) ?_
  refine lv_istore_n (lv' := [(3, .int p2), (2, .int z_1), (0, .ref p1), (1, .int p2)]) hx hb dX2_withSums_6 rfl hl (by decide) rfl (fun ls hl => ?_)
  refine lv_iconst (v := 0) hx hb dX2_withSums_7 (by decide) ?_
  refine lv_istore (lv' := [(4, .int 0), (3, .int p2), (2, .int z_1), (0, .ref p1), (1, .int p2)]) hx hb dX2_withSums_8 hl (by decide) rfl (fun ls hl => ?_)
  have E_10_71_3 : ∀ (x4_2 : Int32) (x3_3 : Int32) (ls : Array Slot), (some (x3_3)) = some z → lv_has ls 6 [(4, .int x4_2), (3, .int x3_3), (2, .int z_1), (0, .ref p1), (1, .int p2)] → W p l e (headSpec wsX2_withSums ({ frames := 1, cells := 0, slots := 0, locals := 23 } : Room)).room s m (([.ref p1, .int p2] : List Value).toArray) below meth c s.heap [] 0 0 (MQ below (rQ (some (.int z))) (([.ref p1, .int p2] : List Value).toArray) s 0 0 (fun _ => False)) (F0 m 71 ls []) := by
    intro x4_2 x3_3 ls h0 hl
    refine lv_iload_n hx hb dX2_withSums_71 rfl (lv_at hl 1 rfl) ?_
    have e0 := Option.some.inj h0
    subst e0
    exact W.iret (v := x3_3) hx hb hr (fun t ht hW => ⟨rfl, ht⟩) (fun q hq => absurd hq List.not_mem_nil) dX2_withSums_72
  have L_10_15 : ∀ (F10 : Nat) (x4_5 : Int32) (x3_6 : Int32) (ls : Array Slot), mX2_withSums_L10 p1_cells_f p2 z_1 (fun (x4_2 : Int32) (x3_3 : Int32) => some (x3_3)) F10 x4_5 x3_6 = some z → lv_has ls 6 [(4, .int x4_5), (3, .int x3_6), (2, .int z_1), (0, .ref p1), (1, .int p2)] → W p l e (headSpec wsX2_withSums ({ frames := 1, cells := 0, slots := 0, locals := 23 } : Room)).room s m (([.ref p1, .int p2] : List Value).toArray) below meth c s.heap [] 0 0 (MQ below (rQ (some (.int z))) (([.ref p1, .int p2] : List Value).toArray) s 0 0 (fun _ => False)) (F0 m 10 ls []) := by
    intro F10
    induction F10 with
    | zero => intro x4_5 x3_6 ls h0 hl; cases h0
    | succ F10 ih10 =>
      intro x4_5 x3_6 ls h0 hl
      rw [mX2_withSums_L10] at h0
      refine lv_iload hx hb dX2_withSums_10 (lv_at hl 0 rfl) ?_
      refine lv_iload_n hx hb dX2_withSums_12 rfl (lv_at hl 2 rfl) ?_
      refine lv_icmp_ge (tgt := 71) hx hb dX2_withSums_13 (by decide) (fun c9 => ?_) (fun c9 => ?_)
      · have h0 := it_t c9 h0
        exact E_10_71_3 x4_5 x3_6 ls h0 hl
      · have h0 := it_f c9 h0
        refine lv_iload_n hx hb dX2_withSums_16 rfl (lv_at hl 4 rfl) ?_
        refine lv_iload hx hb dX2_withSums_17 (lv_at hl 0 rfl) ?_
        obtain ⟨z_7, hz, h0⟩ := bd_ok h0
        refine ro_SN (As := [.int p2, .int x4_5]) (rest := []) (wc := []) hcf (kX9_hasBit l D cI cC cT p2 x4_5 z_7 hz) ⟨va_cnB (host := RX9) 2 hts gX2_withSums_X9_hasBit_n21 rfl rfl rfl hE.2.1 hini_X9 (by decide +kernel) ⟨Nat.le_of_ble_eq_true rfl, Nat.le_of_ble_eq_true rfl⟩, hst_X9_hasBit, trivial⟩ hE (hP.sub [] rfl) rfl hl.1 rfl (Nat.le_of_ble_eq_true rfl) dX2_withSums_19 ⟨Nat.le_of_ble_eq_true rfl, Nat.le_of_ble_eq_true rfl⟩ ?_
        refine W.eq (g2 := F0 m 22 ls [.int z_7]) rfl ?_
        refine lv_if_ne (tgt := 28) hx hb dX2_withSums_22 (by decide) (fun c9 => ?_) (fun c9 => ?_)
        · have h0 := it_f c9 h0
          refine lv_iconst (v := 0) hx hb dX2_withSums_28 (by decide) ?_
          refine lv_istore (lv' := [(5, .int 0), (4, .int x4_5), (3, .int x3_6), (2, .int z_1), (0, .ref p1), (1, .int p2)]) hx hb dX2_withSums_29 hl (by decide) rfl (fun ls hl => ?_)
          have E_31_65_9 : ∀ (x5_8 : Int32) (x3_9 : Int32) (ls : Array Slot), (mX2_withSums_L10 p1_cells_f p2 z_1 (fun (x4_2 : Int32) (x3_3 : Int32) => some (x3_3)) F10 (x4_5 + 1) x3_9) = some z → lv_has ls 6 [(5, .int x5_8), (4, .int x4_5), (3, .int x3_9), (2, .int z_1), (0, .ref p1), (1, .int p2)] → W p l e (headSpec wsX2_withSums ({ frames := 1, cells := 0, slots := 0, locals := 23 } : Room)).room s m (([.ref p1, .int p2] : List Value).toArray) below meth c s.heap [] 0 0 (MQ below (rQ (some (.int z))) (([.ref p1, .int p2] : List Value).toArray) s 0 0 (fun _ => False)) (F0 m 65 ls []) := by
            intro x5_8 x3_9 ls h0 hl
            refine lv_iinc (v := (x4_5 + 1)) (lv' := [(4, .int (x4_5 + 1)), (5, .int x5_8), (3, .int x3_9), (2, .int z_1), (0, .ref p1), (1, .int p2)]) hx hb dX2_withSums_65 hl (k := 1) rfl rfl (by decide) rfl (fun ls hl => ?_)
            refine lv_goto (tgt := 10) hx hb dX2_withSums_68 (by decide) ?_
            exact ih10 (x4_5 + 1) x3_9 ls h0 (lv_sub hl [0, 2, 3, 4, 5] rfl)
          have L_31_14 : ∀ (F31 : Nat) (x5_11 : Int32) (x3_12 : Int32) (ls : Array Slot), mX2_withSums_L31 p1_cells_f p2 z_1 x4_5 (fun (x5_8 : Int32) (x3_9 : Int32) => mX2_withSums_L10 p1_cells_f p2 z_1 (fun (x4_2 : Int32) (x3_3 : Int32) => some (x3_3)) F10 (x4_5 + 1) x3_9) F31 x5_11 x3_12 = some z → lv_has ls 6 [(5, .int x5_11), (4, .int x4_5), (3, .int x3_12), (2, .int z_1), (0, .ref p1), (1, .int p2)] → W p l e (headSpec wsX2_withSums ({ frames := 1, cells := 0, slots := 0, locals := 23 } : Room)).room s m (([.ref p1, .int p2] : List Value).toArray) below meth c s.heap [] 0 0 (MQ below (rQ (some (.int z))) (([.ref p1, .int p2] : List Value).toArray) s 0 0 (fun _ => False)) (F0 m 31 ls []) := by
            intro F31
            induction F31 with
            | zero => intro x5_11 x3_12 ls h0 hl; cases h0
            | succ F31 ih31 =>
              intro x5_11 x3_12 ls h0 hl
              rw [mX2_withSums_L31] at h0
              refine lv_iload hx hb dX2_withSums_31 (lv_at hl 0 rfl) ?_
              refine lv_iload_n hx hb dX2_withSums_33 rfl (lv_at hl 3 rfl) ?_
              refine lv_icmp_ge (tgt := 65) hx hb dX2_withSums_34 (by decide) (fun c9 => ?_) (fun c9 => ?_)
              · have h0 := it_t c9 h0
                exact E_31_65_9 x5_11 x3_12 ls h0 hl
              · have h0 := it_f c9 h0
                refine lv_iload_n hx hb dX2_withSums_37 rfl (lv_at hl 5 rfl) ?_
                refine lv_iload hx hb dX2_withSums_38 (lv_at hl 0 rfl) ?_
                obtain ⟨z_13, hz, h0⟩ := bd_ok h0
                refine ro_SN (As := [.int p2, .int x5_11]) (rest := []) (wc := []) hcf (kX9_hasBit l D cI cC cT p2 x5_11 z_13 hz) ⟨va_cnB (host := RX9) 2 hts gX2_withSums_X9_hasBit_n21 rfl rfl rfl hE.2.1 hini_X9 (by decide +kernel) ⟨Nat.le_of_ble_eq_true rfl, Nat.le_of_ble_eq_true rfl⟩, hst_X9_hasBit, trivial⟩ hE (hP.sub [] rfl) rfl hl.1 rfl (Nat.le_of_ble_eq_true rfl) dX2_withSums_40 ⟨Nat.le_of_ble_eq_true rfl, Nat.le_of_ble_eq_true rfl⟩ ?_
                refine W.eq (g2 := F0 m 43 ls [.int z_13]) rfl ?_
                refine lv_if_eq (tgt := 59) hx hb dX2_withSums_43 (by decide) (fun c9 => ?_) (fun c9 => ?_)
                · have h0 := it_t c9 h0
                  refine lv_iinc (v := (x5_11 + 1)) (lv' := [(5, .int (x5_11 + 1)), (4, .int x4_5), (3, .int x3_12), (2, .int z_1), (0, .ref p1), (1, .int p2)]) hx hb dX2_withSums_59 hl (k := 0) rfl rfl (by decide) rfl (fun ls hl => ?_)
                  refine lv_goto (tgt := 31) hx hb dX2_withSums_62 (by decide) ?_
                  exact ih31 (x5_11 + 1) x3_12 ls h0 hl
                · have h0 := it_f c9 h0
                  refine lv_iload_n hx hb dX2_withSums_46 rfl (lv_at hl 2 rfl) ?_
                  refine lv_iconst (v := 1) hx hb dX2_withSums_47 (by decide) ?_
                  refine lv_aload_n hx hb dX2_withSums_48 rfl (lv_at hl 4 rfl) ?_
                  refine lv_iload hx hb dX2_withSums_49 (lv_at hl 1 rfl) ?_
                  refine lv_iload hx hb dX2_withSums_51 (lv_at hl 0 rfl) ?_
                  obtain ⟨z_14, hz, h0⟩ := bd_ok h0
                  refine ro_V (As := [.int x4_5, .int x5_11]) (rest := [.int 1, .int x3_12]) (wc := [(p1, .inr (5, [.ref p1_cells, .int p1_size])), (p1_cells, .inl (cI, 64, .inl p1_cells_f))]) hcf (kX6_at l D cI cC cT p1 p1_cells p1_cells_f p1_size x4_5 x5_11 z_14 hz) (cwV 2 hts gX2_withSums_X6_at rfl rfl rfl (by decide +kernel) ⟨Nat.le_of_ble_eq_true rfl, Nat.le_of_ble_eq_true rfl⟩) hE (hP.sub [0, 1] rfl) (va_recv hK hP (ci := 5) (q0 := 0) rfl rfl) rfl hl.1 rfl (Nat.le_of_ble_eq_true rfl) dX2_withSums_53 ⟨Nat.le_of_ble_eq_true rfl, Nat.le_of_ble_eq_true rfl⟩ ?_
                  refine W.eq (g2 := F0 m 56 ls [.int z_14, .int 1, .int x3_12]) rfl ?_
                  refine lv_ishl hx hb dX2_withSums_56 ?_
                  refine lv_ior hx hb dX2_withSums_57 ?_
                  refine lv_istore_n (lv' := [(3, .int (x3_12 ||| ((1 : Int32) <<< (z_14 &&& 31)))), (5, .int x5_11), (4, .int x4_5), (2, .int z_1), (0, .ref p1), (1, .int p2)]) hx hb dX2_withSums_58 rfl hl (by decide) rfl (fun ls hl => ?_)
                  refine lv_iinc (v := (x5_11 + 1)) (lv' := [(5, .int (x5_11 + 1)), (3, .int (x3_12 ||| ((1 : Int32) <<< (z_14 &&& 31)))), (4, .int x4_5), (2, .int z_1), (0, .ref p1), (1, .int p2)]) hx hb dX2_withSums_59 hl (k := 1) rfl rfl (by decide) rfl (fun ls hl => ?_)
                  refine lv_goto (tgt := 31) hx hb dX2_withSums_62 (by decide) ?_
                  exact ih31 (x5_11 + 1) (x3_12 ||| ((1 : Int32) <<< (z_14 &&& 31))) ls h0 (lv_sub hl [0, 2, 1, 3, 4, 5] rfl)
          exact L_31_14 FU 0 x3_6 ls h0 hl
        · have h0 := it_t c9 h0
          refine lv_goto (tgt := 65) hx hb dX2_withSums_25 (by decide) ?_
          refine lv_iinc (v := (x4_5 + 1)) (lv' := [(4, .int (x4_5 + 1)), (3, .int x3_6), (2, .int z_1), (0, .ref p1), (1, .int p2)]) hx hb dX2_withSums_65 hl (k := 0) rfl rfl (by decide) rfl (fun ls hl => ?_)
          refine lv_goto (tgt := 10) hx hb dX2_withSums_68 (by decide) ?_
          exact ih10 (x4_5 + 1) x3_6 ls h0 hl
  exact L_10_15 FU 0 p2 ls h0 hl
noncomputable def mX2_isRing (p1_cells_f : Nat → Int32) (p1_size : Int32) (p2 : Int32) : Option (Int32) :=
  bd (mX2_withSums p1_cells_f p1_size p2) (fun z_1 => if z_1 = p2 then (some (1)) else (some (0)))
set_option maxHeartbeats 8000000 in
set_option maxRecDepth 100000 in
theorem kX2_isRing (l : Launch) (D : va_G) (cI cC cT : ClassId) (p1 p1_cells : Nat) (p1_cells_f : Nat → Int32) (p1_size : Int32) (p2 : Int32) (z : Int32) (h0 : mX2_isRing p1_cells_f p1_size p2 = some z) : Met l yX2_isRing wsX2_isRing ({ frames := 2, cells := 0, slots := 0, locals := 48 } : Room) (va_Pc [.ref p1, .int p2] (rP D cI cC cT [(p1, .inr (5, [.ref p1_cells, .int p1_size])), (p1_cells, .inl (cI, 64, .inl p1_cells_f))])) (rQ (some (.int z))) 0 0 (fun _ => False) := by
  refine Met.ofW (cc := cX2_isRing) (maxL := 2) (ret := (some .boolean)) (by decide) rfl ?_
  intro p e s m args below meth c s₁ B hml hv
  obtain ⟨rfl, hP, hE⟩ := hv
  have hx := B.exec
  have hb := B.bytes
  have hr := B.returns
  have hts := atoms_spec (ws := wsX2_isRing) B.pre
  have hown : s.vm.findClass RX2 = some m.cls := findClass_of_methodNamed B.named
  have hlocks := B.notSynchronized
  have hK := hE.1
  have hcf : CallFix p m c cX2_isRing 2 s ([.ref p1, .int p2] : List Value).toArray wsX2_isRing RX2 := ⟨hx, hb, hml, hown, hts⟩
  have hP : va_P D vwCl [(p1, .inr (5, [.ref p1_cells, .int p1_size])), (p1_cells, .inl (cI, 64, .inl p1_cells_f))] s.heap := hP
  have hl := lv_entry ([.ref p1, .int p2]) (n := 2) (Nat.le_of_ble_eq_true rfl)
  rw [lg_entry_eq]
  generalize (lg_sl ([.ref p1, .int p2]) ++ List.replicate (2 - (lg_sl ([.ref p1, .int p2])).length) Slot.unset).toArray = ls at hl ⊢
  have hl : lv_has ls 2 [(0, .ref p1), (1, .int p2)] := hl
  unfold mX2_isRing at h0
  refine lv_aload_n hx hb dX2_isRing_0 rfl (lv_at hl 0 rfl) ?_
  refine lv_iload_n hx hb dX2_isRing_1 rfl (lv_at hl 1 rfl) ?_
  obtain ⟨z_1, hz, h0⟩ := bd_ok h0
  refine ro_S (As := [.ref p1, .int p2]) (rest := []) (wc := [(p1, .inr (5, [.ref p1_cells, .int p1_size])), (p1_cells, .inl (cI, 64, .inl p1_cells_f))]) hcf (kX2_withSums l D cI cC cT p1 p1_cells p1_cells_f p1_size p2 z_1 hz) (va_cwS 2 hts gX2_isRing_X2_withSums rfl rfl rfl (by decide +kernel) ⟨Nat.le_of_ble_eq_true rfl, Nat.le_of_ble_eq_true rfl⟩) hE (hP.sub [0, 1] rfl) rfl hl.1 rfl (Nat.le_of_ble_eq_true rfl) dX2_isRing_2 ⟨Nat.le_of_ble_eq_true rfl, Nat.le_of_ble_eq_true rfl⟩ ?_
  refine W.eq (g2 := F0 m 5 ls [.int z_1]) rfl ?_
  refine lv_iload_n hx hb dX2_isRing_5 rfl (lv_at hl 1 rfl) ?_
  refine lv_icmp_ne (tgt := 13) hx hb dX2_isRing_6 (by decide) (fun c9 => ?_) (fun c9 => ?_)
  · have h0 := it_f c9 h0
    refine lv_iconst (v := 0) hx hb dX2_isRing_13 (by decide) ?_
    have e0 := Option.some.inj h0
    subst e0
    exact W.zret (ty := .boolean) (v := 0) hx hb hr rfl (fun t ht hW => ⟨rfl, ht⟩) (fun q hq => absurd hq List.not_mem_nil) dX2_isRing_14
  · have h0 := it_t c9 h0
    refine lv_iconst (v := 1) hx hb dX2_isRing_9 (by decide) ?_
    refine lv_goto (tgt := 14) hx hb dX2_isRing_10 (by decide) ?_
    have e0 := Option.some.inj h0
    subst e0
    exact W.zret (ty := .boolean) (v := 1) hx hb hr rfl (fun t ht hW => ⟨rfl, ht⟩) (fun q hq => absurd hq List.not_mem_nil) dX2_isRing_14
noncomputable def mX2_atPlace_L4 (p1_cells_f : Nat → Int32) (p1_size : Int32) (p2 : Int32) (k4_36 : Int32 → Int32 → Option (Int32)) : Nat → Int32 → Int32 → Option (Int32)
  | 0, _, _ => none
  | F + 1, x3_4, x2_5 => bd (mX6_allBits p1_size) (fun z_6 => if z_6 < x3_4 then (k4_36 x3_4 x2_5) else (bd (mX2_isRing p1_cells_f p1_size x3_4) (fun z_7 => if z_7 = 0 then (mX2_atPlace_L4 p1_cells_f p1_size p2 k4_36 F (x3_4 + 1) x2_5) else (if x2_5 = p2 then (some (x3_4)) else (mX2_atPlace_L4 p1_cells_f p1_size p2 k4_36 F (x3_4 + 1) (x2_5 + 1))))))
noncomputable def mX2_atPlace (p1_cells_f : Nat → Int32) (p1_size : Int32) (p2 : Int32) : Option (Int32) :=
  mX2_atPlace_L4 p1_cells_f p1_size p2 (fun (x3_1 : Int32) (x2_2 : Int32) => some ((-4))) FU 1 0
set_option maxHeartbeats 8000000 in
set_option maxRecDepth 100000 in
theorem kX2_atPlace (l : Launch) (D : va_G) (cI cC cT : ClassId) (p1 p1_cells : Nat) (p1_cells_f : Nat → Int32) (p1_size : Int32) (p2 : Int32) (z : Int32) (h0 : mX2_atPlace p1_cells_f p1_size p2 = some z) : Met l yX2_atPlace wsX2_atPlace ({ frames := 3, cells := 0, slots := 0, locals := 69 } : Room) (va_Pc [.ref p1, .int p2] (rP D cI cC cT [(p1, .inr (5, [.ref p1_cells, .int p1_size])), (p1_cells, .inl (cI, 64, .inl p1_cells_f))])) (rQ (some (.int z))) 0 0 (fun _ => False) := by
  refine Met.ofW (cc := cX2_atPlace) (maxL := 4) (ret := (some .int)) (by decide) rfl ?_
  intro p e s m args below meth c s₁ B hml hv
  obtain ⟨rfl, hP, hE⟩ := hv
  have hx := B.exec
  have hb := B.bytes
  have hr := B.returns
  have hts := atoms_spec (ws := wsX2_atPlace) B.pre
  have hown : s.vm.findClass RX2 = some m.cls := findClass_of_methodNamed B.named
  have hlocks := B.notSynchronized
  have hK := hE.1
  have hcf : CallFix p m c cX2_atPlace 4 s ([.ref p1, .int p2] : List Value).toArray wsX2_atPlace RX2 := ⟨hx, hb, hml, hown, hts⟩
  have hP : va_P D vwCl [(p1, .inr (5, [.ref p1_cells, .int p1_size])), (p1_cells, .inl (cI, 64, .inl p1_cells_f))] s.heap := hP
  have hl := lv_entry ([.ref p1, .int p2]) (n := 4) (Nat.le_of_ble_eq_true rfl)
  rw [lg_entry_eq]
  generalize (lg_sl ([.ref p1, .int p2]) ++ List.replicate (4 - (lg_sl ([.ref p1, .int p2])).length) Slot.unset).toArray = ls at hl ⊢
  have hl : lv_has ls 4 [(0, .ref p1), (1, .int p2)] := hl
  unfold mX2_atPlace at h0
  refine lv_iconst (v := 0) hx hb dX2_atPlace_0 (by decide) ?_
  refine lv_istore_n (lv' := [(2, .int 0), (0, .ref p1), (1, .int p2)]) hx hb dX2_atPlace_1 rfl hl (by decide) rfl (fun ls hl => ?_)
  refine lv_iconst (v := 1) hx hb dX2_atPlace_2 (by decide) ?_
  refine lv_istore_n (lv' := [(3, .int 1), (2, .int 0), (0, .ref p1), (1, .int p2)]) hx hb dX2_atPlace_3 rfl hl (by decide) rfl (fun ls hl => ?_)
  have E_4_36_2 : ∀ (x3_1 : Int32) (x2_2 : Int32) (ls : Array Slot), (some ((-4))) = some z → lv_has ls 4 [(3, .int x3_1), (2, .int x2_2), (0, .ref p1), (1, .int p2)] → W p l e (headSpec wsX2_atPlace ({ frames := 3, cells := 0, slots := 0, locals := 69 } : Room)).room s m (([.ref p1, .int p2] : List Value).toArray) below meth c s.heap [] 0 0 (MQ below (rQ (some (.int z))) (([.ref p1, .int p2] : List Value).toArray) s 0 0 (fun _ => False)) (F0 m 36 ls []) := by
    intro x3_1 x2_2 ls h0 hl
    refine lv_bipush (v := (-4)) hx hb dX2_atPlace_36 (by decide) ?_
    have e0 := Option.some.inj h0
    subst e0
    exact W.iret (v := (-4)) hx hb hr (fun t ht hW => ⟨rfl, ht⟩) (fun q hq => absurd hq List.not_mem_nil) dX2_atPlace_38
  have L_4_7 : ∀ (F4 : Nat) (x3_4 : Int32) (x2_5 : Int32) (ls : Array Slot), mX2_atPlace_L4 p1_cells_f p1_size p2 (fun (x3_1 : Int32) (x2_2 : Int32) => some ((-4))) F4 x3_4 x2_5 = some z → lv_has ls 4 [(3, .int x3_4), (2, .int x2_5), (0, .ref p1), (1, .int p2)] → W p l e (headSpec wsX2_atPlace ({ frames := 3, cells := 0, slots := 0, locals := 69 } : Room)).room s m (([.ref p1, .int p2] : List Value).toArray) below meth c s.heap [] 0 0 (MQ below (rQ (some (.int z))) (([.ref p1, .int p2] : List Value).toArray) s 0 0 (fun _ => False)) (F0 m 4 ls []) := by
    intro F4
    induction F4 with
    | zero => intro x3_4 x2_5 ls h0 hl; cases h0
    | succ F4 ih4 =>
      intro x3_4 x2_5 ls h0 hl
      rw [mX2_atPlace_L4] at h0
      refine lv_iload_n hx hb dX2_atPlace_4 rfl (lv_at hl 0 rfl) ?_
      refine lv_aload_n hx hb dX2_atPlace_5 rfl (lv_at hl 2 rfl) ?_
      obtain ⟨z_6, hz, h0⟩ := bd_ok h0
      refine ro_V (As := []) (rest := [.int x3_4]) (wc := [(p1, .inr (5, [.ref p1_cells, .int p1_size])), (p1_cells, .inl (cI, 64, .inl p1_cells_f))]) hcf (kX6_allBits l D cI cC cT p1 p1_cells p1_cells_f p1_size z_6 hz) (cwV 0 hts gX2_atPlace_X6_allBits rfl rfl rfl (by decide +kernel) ⟨Nat.le_of_ble_eq_true rfl, Nat.le_of_ble_eq_true rfl⟩) hE (hP.sub [0, 1] rfl) (va_recv hK hP (ci := 5) (q0 := 0) rfl rfl) rfl hl.1 rfl (Nat.le_of_ble_eq_true rfl) dX2_atPlace_6 ⟨Nat.le_of_ble_eq_true rfl, Nat.le_of_ble_eq_true rfl⟩ ?_
      refine W.eq (g2 := F0 m 9 ls [.int z_6, .int x3_4]) rfl ?_
      refine lv_icmp_gt (tgt := 36) hx hb dX2_atPlace_9 (by decide) (fun c9 => ?_) (fun c9 => ?_)
      · have h0 := it_t c9 h0
        exact E_4_36_2 x3_4 x2_5 ls h0 hl
      · have h0 := it_f c9 h0
        refine lv_aload_n hx hb dX2_atPlace_12 rfl (lv_at hl 2 rfl) ?_
        refine lv_iload_n hx hb dX2_atPlace_13 rfl (lv_at hl 0 rfl) ?_
        obtain ⟨z_7, hz, h0⟩ := bd_ok h0
        refine ro_S (As := [.ref p1, .int x3_4]) (rest := []) (wc := [(p1, .inr (5, [.ref p1_cells, .int p1_size])), (p1_cells, .inl (cI, 64, .inl p1_cells_f))]) hcf (kX2_isRing l D cI cC cT p1 p1_cells p1_cells_f p1_size x3_4 z_7 hz) (va_cwS 2 hts gX2_atPlace_X2_isRing rfl rfl rfl (by decide +kernel) ⟨Nat.le_of_ble_eq_true rfl, Nat.le_of_ble_eq_true rfl⟩) hE (hP.sub [0, 1] rfl) rfl hl.1 rfl (Nat.le_of_ble_eq_true rfl) dX2_atPlace_14 ⟨Nat.le_of_ble_eq_true rfl, Nat.le_of_ble_eq_true rfl⟩ ?_
        refine W.eq (g2 := F0 m 17 ls [.int z_7]) rfl ?_
        refine lv_if_eq (tgt := 30) hx hb dX2_atPlace_17 (by decide) (fun c9 => ?_) (fun c9 => ?_)
        · have h0 := it_t c9 h0
          refine lv_iinc (v := (x3_4 + 1)) (lv' := [(3, .int (x3_4 + 1)), (2, .int x2_5), (0, .ref p1), (1, .int p2)]) hx hb dX2_atPlace_30 hl (k := 0) rfl rfl (by decide) rfl (fun ls hl => ?_)
          refine lv_goto (tgt := 4) hx hb dX2_atPlace_33 (by decide) ?_
          exact ih4 (x3_4 + 1) x2_5 ls h0 hl
        · have h0 := it_f c9 h0
          refine lv_iload_n hx hb dX2_atPlace_20 rfl (lv_at hl 1 rfl) ?_
          refine lv_iload_n hx hb dX2_atPlace_21 rfl (lv_at hl 3 rfl) ?_
          refine lv_icmp_ne (tgt := 27) hx hb dX2_atPlace_22 (by decide) (fun c9 => ?_) (fun c9 => ?_)
          · have h0 := it_f c9 h0
            refine lv_iinc (v := (x2_5 + 1)) (lv' := [(2, .int (x2_5 + 1)), (3, .int x3_4), (0, .ref p1), (1, .int p2)]) hx hb dX2_atPlace_27 hl (k := 1) rfl rfl (by decide) rfl (fun ls hl => ?_)
            refine lv_iinc (v := (x3_4 + 1)) (lv' := [(3, .int (x3_4 + 1)), (2, .int (x2_5 + 1)), (0, .ref p1), (1, .int p2)]) hx hb dX2_atPlace_30 hl (k := 1) rfl rfl (by decide) rfl (fun ls hl => ?_)
            refine lv_goto (tgt := 4) hx hb dX2_atPlace_33 (by decide) ?_
            exact ih4 (x3_4 + 1) (x2_5 + 1) ls h0 hl
          · have h0 := it_t c9 h0
            refine lv_iload_n hx hb dX2_atPlace_25 rfl (lv_at hl 0 rfl) ?_
            have e0 := Option.some.inj h0
            subst e0
            exact W.iret (v := x3_4) hx hb hr (fun t ht hW => ⟨rfl, ht⟩) (fun q hq => absurd hq List.not_mem_nil) dX2_atPlace_26
  exact L_4_7 FU 1 0 ls h0 hl
noncomputable def mX2_grownFrom_L4 (p1_cells_f : Nat → Int32) (p1_size : Int32) (k4_34 : Int32 → Int32 → Option (Int32)) : Nat → Int32 → Int32 → Option (Int32)
  | 0, _, _ => none
  | F + 1, x3_4, x2_5 => if (8 : Int32) ≤ x3_4 then (k4_34 x3_4 x2_5) else (bd (mX2_withSums p1_cells_f p1_size x2_5) (fun z_6 => if z_6 = x2_5 then (some (x2_5)) else (mX2_grownFrom_L4 p1_cells_f p1_size k4_34 F (x3_4 + 1) z_6)))
noncomputable def mX2_grownFrom (p1_cells_f : Nat → Int32) (p1_size : Int32) (p2 : Int32) : Option (Int32) :=
  mX2_grownFrom_L4 p1_cells_f p1_size (fun (x3_1 : Int32) (x2_2 : Int32) => some (x2_2)) FU 0 p2
set_option maxHeartbeats 8000000 in
set_option maxRecDepth 100000 in
theorem kX2_grownFrom (l : Launch) (D : va_G) (cI cC cT : ClassId) (p1 p1_cells : Nat) (p1_cells_f : Nat → Int32) (p1_size : Int32) (p2 : Int32) (z : Int32) (h0 : mX2_grownFrom p1_cells_f p1_size p2 = some z) : Met l yX2_grownFrom wsX2_grownFrom ({ frames := 2, cells := 0, slots := 0, locals := 48 } : Room) (va_Pc [.ref p1, .int p2] (rP D cI cC cT [(p1, .inr (5, [.ref p1_cells, .int p1_size])), (p1_cells, .inl (cI, 64, .inl p1_cells_f))])) (rQ (some (.int z))) 0 0 (fun _ => False) := by
  refine Met.ofW (cc := cX2_grownFrom) (maxL := 5) (ret := (some .int)) (by decide) rfl ?_
  intro p e s m args below meth c s₁ B hml hv
  obtain ⟨rfl, hP, hE⟩ := hv
  have hx := B.exec
  have hb := B.bytes
  have hr := B.returns
  have hts := atoms_spec (ws := wsX2_grownFrom) B.pre
  have hown : s.vm.findClass RX2 = some m.cls := findClass_of_methodNamed B.named
  have hlocks := B.notSynchronized
  have hK := hE.1
  have hcf : CallFix p m c cX2_grownFrom 5 s ([.ref p1, .int p2] : List Value).toArray wsX2_grownFrom RX2 := ⟨hx, hb, hml, hown, hts⟩
  have hP : va_P D vwCl [(p1, .inr (5, [.ref p1_cells, .int p1_size])), (p1_cells, .inl (cI, 64, .inl p1_cells_f))] s.heap := hP
  have hl := lv_entry ([.ref p1, .int p2]) (n := 5) (Nat.le_of_ble_eq_true rfl)
  rw [lg_entry_eq]
  generalize (lg_sl ([.ref p1, .int p2]) ++ List.replicate (5 - (lg_sl ([.ref p1, .int p2])).length) Slot.unset).toArray = ls at hl ⊢
  have hl : lv_has ls 5 [(0, .ref p1), (1, .int p2)] := hl
  unfold mX2_grownFrom at h0
  refine lv_iload_n hx hb dX2_grownFrom_0 rfl (lv_at hl 1 rfl) ?_
  refine lv_istore_n (lv' := [(2, .int p2), (0, .ref p1), (1, .int p2)]) hx hb dX2_grownFrom_1 rfl hl (by decide) rfl (fun ls hl => ?_)
  refine lv_iconst (v := 0) hx hb dX2_grownFrom_2 (by decide) ?_
  refine lv_istore_n (lv' := [(3, .int 0), (2, .int p2), (0, .ref p1), (1, .int p2)]) hx hb dX2_grownFrom_3 rfl hl (by decide) rfl (fun ls hl => ?_)
  have E_4_34_2 : ∀ (x3_1 : Int32) (x2_2 : Int32) (ls : Array Slot), (some (x2_2)) = some z → lv_has ls 5 [(3, .int x3_1), (2, .int x2_2), (0, .ref p1), (1, .int p2)] → W p l e (headSpec wsX2_grownFrom ({ frames := 2, cells := 0, slots := 0, locals := 48 } : Room)).room s m (([.ref p1, .int p2] : List Value).toArray) below meth c s.heap [] 0 0 (MQ below (rQ (some (.int z))) (([.ref p1, .int p2] : List Value).toArray) s 0 0 (fun _ => False)) (F0 m 34 ls []) := by
    intro x3_1 x2_2 ls h0 hl
    refine lv_iload_n hx hb dX2_grownFrom_34 rfl (lv_at hl 1 rfl) ?_
    have e0 := Option.some.inj h0
    subst e0
    exact W.iret (v := x2_2) hx hb hr (fun t ht hW => ⟨rfl, ht⟩) (fun q hq => absurd hq List.not_mem_nil) dX2_grownFrom_35
  have L_4_6 : ∀ (F4 : Nat) (x3_4 : Int32) (x2_5 : Int32) (ls : Array Slot), mX2_grownFrom_L4 p1_cells_f p1_size (fun (x3_1 : Int32) (x2_2 : Int32) => some (x2_2)) F4 x3_4 x2_5 = some z → lv_has ls 5 [(3, .int x3_4), (2, .int x2_5), (0, .ref p1), (1, .int p2)] → W p l e (headSpec wsX2_grownFrom ({ frames := 2, cells := 0, slots := 0, locals := 48 } : Room)).room s m (([.ref p1, .int p2] : List Value).toArray) below meth c s.heap [] 0 0 (MQ below (rQ (some (.int z))) (([.ref p1, .int p2] : List Value).toArray) s 0 0 (fun _ => False)) (F0 m 4 ls []) := by
    intro F4
    induction F4 with
    | zero => intro x3_4 x2_5 ls h0 hl; cases h0
    | succ F4 ih4 =>
      intro x3_4 x2_5 ls h0 hl
      rw [mX2_grownFrom_L4] at h0
      refine lv_iload_n hx hb dX2_grownFrom_4 rfl (lv_at hl 0 rfl) ?_
      refine lv_bipush (v := 8) hx hb dX2_grownFrom_5 (by decide) ?_
      refine lv_icmp_ge (tgt := 34) hx hb dX2_grownFrom_7 (by decide) (fun c9 => ?_) (fun c9 => ?_)
      · have h0 := it_t c9 h0
        exact E_4_34_2 x3_4 x2_5 ls h0 hl
      · have h0 := it_f c9 h0
        refine lv_aload_n hx hb dX2_grownFrom_10 rfl (lv_at hl 2 rfl) ?_
        refine lv_iload_n hx hb dX2_grownFrom_11 rfl (lv_at hl 1 rfl) ?_
        obtain ⟨z_6, hz, h0⟩ := bd_ok h0
        refine ro_S (As := [.ref p1, .int x2_5]) (rest := []) (wc := [(p1, .inr (5, [.ref p1_cells, .int p1_size])), (p1_cells, .inl (cI, 64, .inl p1_cells_f))]) hcf (kX2_withSums l D cI cC cT p1 p1_cells p1_cells_f p1_size x2_5 z_6 hz) (va_cwS 2 hts gX2_grownFrom_X2_withSums rfl rfl rfl (by decide +kernel) ⟨Nat.le_of_ble_eq_true rfl, Nat.le_of_ble_eq_true rfl⟩) hE (hP.sub [0, 1] rfl) rfl hl.1 rfl (Nat.le_of_ble_eq_true rfl) dX2_grownFrom_12 ⟨Nat.le_of_ble_eq_true rfl, Nat.le_of_ble_eq_true rfl⟩ ?_
        refine W.eq (g2 := F0 m 15 ls [.int z_6]) rfl ?_
        refine lv_istore (lv' := [(4, .int z_6), (3, .int x3_4), (2, .int x2_5), (0, .ref p1), (1, .int p2)]) hx hb dX2_grownFrom_15 hl (by decide) rfl (fun ls hl => ?_)
        refine lv_iload hx hb dX2_grownFrom_17 (lv_at hl 0 rfl) ?_
        refine lv_iload_n hx hb dX2_grownFrom_19 rfl (lv_at hl 2 rfl) ?_
        refine lv_icmp_ne (tgt := 25) hx hb dX2_grownFrom_20 (by decide) (fun c9 => ?_) (fun c9 => ?_)
        · have h0 := it_f c9 h0
          refine lv_iload hx hb dX2_grownFrom_25 (lv_at hl 0 rfl) ?_
          refine lv_istore_n (lv' := [(2, .int z_6), (4, .int z_6), (3, .int x3_4), (0, .ref p1), (1, .int p2)]) hx hb dX2_grownFrom_27 rfl hl (by decide) rfl (fun ls hl => ?_)
          refine lv_iinc (v := (x3_4 + 1)) (lv' := [(3, .int (x3_4 + 1)), (2, .int z_6), (4, .int z_6), (0, .ref p1), (1, .int p2)]) hx hb dX2_grownFrom_28 hl (k := 2) rfl rfl (by decide) rfl (fun ls hl => ?_)
          refine lv_goto (tgt := 4) hx hb dX2_grownFrom_31 (by decide) ?_
          exact ih4 (x3_4 + 1) z_6 ls h0 (lv_sub hl [0, 1, 3, 4] rfl)
        · have h0 := it_t c9 h0
          refine lv_iload_n hx hb dX2_grownFrom_23 rfl (lv_at hl 2 rfl) ?_
          have e0 := Option.some.inj h0
          subst e0
          exact W.iret (v := x2_5) hx hb hr (fun t ht hW => ⟨rfl, ht⟩) (fun q hq => absurd hq List.not_mem_nil) dX2_grownFrom_24
  exact L_4_6 FU 0 p2 ls h0 hl
noncomputable def mX2_howMany_L4 (p1_cells_f : Nat → Int32) (p1_size : Int32) (k4_29 : Int32 → Int32 → Option (Int32)) : Nat → Int32 → Int32 → Option (Int32)
  | 0, _, _ => none
  | F + 1, x2_4, x1_5 => bd (mX6_allBits p1_size) (fun z_6 => if z_6 < x2_4 then (k4_29 x2_4 x1_5) else (bd (mX2_isRing p1_cells_f p1_size x2_4) (fun z_7 => if z_7 = 0 then (mX2_howMany_L4 p1_cells_f p1_size k4_29 F (x2_4 + 1) x1_5) else (mX2_howMany_L4 p1_cells_f p1_size k4_29 F (x2_4 + 1) (x1_5 + 1)))))
noncomputable def mX2_howMany (p1_cells_f : Nat → Int32) (p1_size : Int32) : Option (Int32) :=
  mX2_howMany_L4 p1_cells_f p1_size (fun (x2_1 : Int32) (x1_2 : Int32) => some (x1_2)) FU 1 0
set_option maxHeartbeats 8000000 in
set_option maxRecDepth 100000 in
theorem kX2_howMany (l : Launch) (D : va_G) (cI cC cT : ClassId) (p1 p1_cells : Nat) (p1_cells_f : Nat → Int32) (p1_size : Int32) (z : Int32) (h0 : mX2_howMany p1_cells_f p1_size = some z) : Met l yX2_howMany wsX2_howMany ({ frames := 3, cells := 0, slots := 0, locals := 69 } : Room) (va_Pc [.ref p1] (rP D cI cC cT [(p1, .inr (5, [.ref p1_cells, .int p1_size])), (p1_cells, .inl (cI, 64, .inl p1_cells_f))])) (rQ (some (.int z))) 0 0 (fun _ => False) := by
  refine Met.ofW (cc := cX2_howMany) (maxL := 3) (ret := (some .int)) (by decide) rfl ?_
  intro p e s m args below meth c s₁ B hml hv
  obtain ⟨rfl, hP, hE⟩ := hv
  have hx := B.exec
  have hb := B.bytes
  have hr := B.returns
  have hts := atoms_spec (ws := wsX2_howMany) B.pre
  have hown : s.vm.findClass RX2 = some m.cls := findClass_of_methodNamed B.named
  have hlocks := B.notSynchronized
  have hK := hE.1
  have hcf : CallFix p m c cX2_howMany 3 s ([.ref p1] : List Value).toArray wsX2_howMany RX2 := ⟨hx, hb, hml, hown, hts⟩
  have hP : va_P D vwCl [(p1, .inr (5, [.ref p1_cells, .int p1_size])), (p1_cells, .inl (cI, 64, .inl p1_cells_f))] s.heap := hP
  have hl := lv_entry ([.ref p1]) (n := 3) (Nat.le_of_ble_eq_true rfl)
  rw [lg_entry_eq]
  generalize (lg_sl ([.ref p1]) ++ List.replicate (3 - (lg_sl ([.ref p1])).length) Slot.unset).toArray = ls at hl ⊢
  have hl : lv_has ls 3 [(0, .ref p1)] := hl
  unfold mX2_howMany at h0
  refine lv_iconst (v := 0) hx hb dX2_howMany_0 (by decide) ?_
  refine lv_istore_n (lv' := [(1, .int 0), (0, .ref p1)]) hx hb dX2_howMany_1 rfl hl (by decide) rfl (fun ls hl => ?_)
  refine lv_iconst (v := 1) hx hb dX2_howMany_2 (by decide) ?_
  refine lv_istore_n (lv' := [(2, .int 1), (1, .int 0), (0, .ref p1)]) hx hb dX2_howMany_3 rfl hl (by decide) rfl (fun ls hl => ?_)
  have E_4_29_2 : ∀ (x2_1 : Int32) (x1_2 : Int32) (ls : Array Slot), (some (x1_2)) = some z → lv_has ls 3 [(2, .int x2_1), (1, .int x1_2), (0, .ref p1)] → W p l e (headSpec wsX2_howMany ({ frames := 3, cells := 0, slots := 0, locals := 69 } : Room)).room s m (([.ref p1] : List Value).toArray) below meth c s.heap [] 0 0 (MQ below (rQ (some (.int z))) (([.ref p1] : List Value).toArray) s 0 0 (fun _ => False)) (F0 m 29 ls []) := by
    intro x2_1 x1_2 ls h0 hl
    refine lv_iload_n hx hb dX2_howMany_29 rfl (lv_at hl 1 rfl) ?_
    have e0 := Option.some.inj h0
    subst e0
    exact W.iret (v := x1_2) hx hb hr (fun t ht hW => ⟨rfl, ht⟩) (fun q hq => absurd hq List.not_mem_nil) dX2_howMany_30
  have L_4_7 : ∀ (F4 : Nat) (x2_4 : Int32) (x1_5 : Int32) (ls : Array Slot), mX2_howMany_L4 p1_cells_f p1_size (fun (x2_1 : Int32) (x1_2 : Int32) => some (x1_2)) F4 x2_4 x1_5 = some z → lv_has ls 3 [(2, .int x2_4), (1, .int x1_5), (0, .ref p1)] → W p l e (headSpec wsX2_howMany ({ frames := 3, cells := 0, slots := 0, locals := 69 } : Room)).room s m (([.ref p1] : List Value).toArray) below meth c s.heap [] 0 0 (MQ below (rQ (some (.int z))) (([.ref p1] : List Value).toArray) s 0 0 (fun _ => False)) (F0 m 4 ls []) := by
    intro F4
    induction F4 with
    | zero => intro x2_4 x1_5 ls h0 hl; cases h0
    | succ F4 ih4 =>
      intro x2_4 x1_5 ls h0 hl
      rw [mX2_howMany_L4] at h0
      refine lv_iload_n hx hb dX2_howMany_4 rfl (lv_at hl 0 rfl) ?_
      refine lv_aload_n hx hb dX2_howMany_5 rfl (lv_at hl 2 rfl) ?_
      obtain ⟨z_6, hz, h0⟩ := bd_ok h0
      refine ro_V (As := []) (rest := [.int x2_4]) (wc := [(p1, .inr (5, [.ref p1_cells, .int p1_size])), (p1_cells, .inl (cI, 64, .inl p1_cells_f))]) hcf (kX6_allBits l D cI cC cT p1 p1_cells p1_cells_f p1_size z_6 hz) (cwV 0 hts gX2_howMany_X6_allBits rfl rfl rfl (by decide +kernel) ⟨Nat.le_of_ble_eq_true rfl, Nat.le_of_ble_eq_true rfl⟩) hE (hP.sub [0, 1] rfl) (va_recv hK hP (ci := 5) (q0 := 0) rfl rfl) rfl hl.1 rfl (Nat.le_of_ble_eq_true rfl) dX2_howMany_6 ⟨Nat.le_of_ble_eq_true rfl, Nat.le_of_ble_eq_true rfl⟩ ?_
      refine W.eq (g2 := F0 m 9 ls [.int z_6, .int x2_4]) rfl ?_
      refine lv_icmp_gt (tgt := 29) hx hb dX2_howMany_9 (by decide) (fun c9 => ?_) (fun c9 => ?_)
      · have h0 := it_t c9 h0
        exact E_4_29_2 x2_4 x1_5 ls h0 hl
      · have h0 := it_f c9 h0
        refine lv_aload_n hx hb dX2_howMany_12 rfl (lv_at hl 2 rfl) ?_
        refine lv_iload_n hx hb dX2_howMany_13 rfl (lv_at hl 0 rfl) ?_
        obtain ⟨z_7, hz, h0⟩ := bd_ok h0
        refine ro_S (As := [.ref p1, .int x2_4]) (rest := []) (wc := [(p1, .inr (5, [.ref p1_cells, .int p1_size])), (p1_cells, .inl (cI, 64, .inl p1_cells_f))]) hcf (kX2_isRing l D cI cC cT p1 p1_cells p1_cells_f p1_size x2_4 z_7 hz) (va_cwS 2 hts gX2_howMany_X2_isRing rfl rfl rfl (by decide +kernel) ⟨Nat.le_of_ble_eq_true rfl, Nat.le_of_ble_eq_true rfl⟩) hE (hP.sub [0, 1] rfl) rfl hl.1 rfl (Nat.le_of_ble_eq_true rfl) dX2_howMany_14 ⟨Nat.le_of_ble_eq_true rfl, Nat.le_of_ble_eq_true rfl⟩ ?_
        refine W.eq (g2 := F0 m 17 ls [.int z_7]) rfl ?_
        refine lv_if_eq (tgt := 23) hx hb dX2_howMany_17 (by decide) (fun c9 => ?_) (fun c9 => ?_)
        · have h0 := it_t c9 h0
          refine lv_iinc (v := (x2_4 + 1)) (lv' := [(2, .int (x2_4 + 1)), (1, .int x1_5), (0, .ref p1)]) hx hb dX2_howMany_23 hl (k := 0) rfl rfl (by decide) rfl (fun ls hl => ?_)
          refine lv_goto (tgt := 4) hx hb dX2_howMany_26 (by decide) ?_
          exact ih4 (x2_4 + 1) x1_5 ls h0 hl
        · have h0 := it_f c9 h0
          refine lv_iinc (v := (x1_5 + 1)) (lv' := [(1, .int (x1_5 + 1)), (2, .int x2_4), (0, .ref p1)]) hx hb dX2_howMany_20 hl (k := 1) rfl rfl (by decide) rfl (fun ls hl => ?_)
          refine lv_iinc (v := (x2_4 + 1)) (lv' := [(2, .int (x2_4 + 1)), (1, .int (x1_5 + 1)), (0, .ref p1)]) hx hb dX2_howMany_23 hl (k := 1) rfl rfl (by decide) rfl (fun ls hl => ?_)
          refine lv_goto (tgt := 4) hx hb dX2_howMany_26 (by decide) ?_
          exact ih4 (x2_4 + 1) (x1_5 + 1) ls h0 hl
  exact L_4_7 FU 1 0 ls h0 hl
noncomputable def mX2_leastSeeds_L9 (p1_cells_f : Nat → Int32) (p1_size : Int32) (z_1 : Int32) (k9_42 : Int32 → Int32 → Option (Int32)) : Nat → Int32 → Int32 → Option (Int32)
  | 0, _, _ => none
  | F + 1, x3_5, x2_6 => if z_1 < x3_5 then (k9_42 x3_5 x2_6) else (bd (mJ6_bitCount_0f7a4 x3_5) (fun z_7 => bd (mJ6_bitCount_0f7a4 x2_6) (fun z_8 => if z_8 ≤ z_7 then (mX2_leastSeeds_L9 p1_cells_f p1_size z_1 k9_42 F (x3_5 + 1) x2_6) else (bd (mX2_grownFrom p1_cells_f p1_size x3_5) (fun z_9 => if z_9 = z_1 then (mX2_leastSeeds_L9 p1_cells_f p1_size z_1 k9_42 F (x3_5 + 1) x3_5) else (mX2_leastSeeds_L9 p1_cells_f p1_size z_1 k9_42 F (x3_5 + 1) x2_6))))))
noncomputable def mX2_leastSeeds (p1_cells_f : Nat → Int32) (p1_size : Int32) : Option (Int32) :=
  bd (mX6_allBits p1_size) (fun z_1 => mX2_leastSeeds_L9 p1_cells_f p1_size z_1 (fun (x3_2 : Int32) (x2_3 : Int32) => some (x2_3)) FU 1 z_1)
set_option maxHeartbeats 8000000 in
set_option maxRecDepth 100000 in
theorem kX2_leastSeeds (l : Launch) (D : va_G) (cI cC cT : ClassId) (p1 p1_cells : Nat) (p1_cells_f : Nat → Int32) (p1_size : Int32) (z : Int32) (h0 : mX2_leastSeeds p1_cells_f p1_size = some z) : Met l yX2_leastSeeds wsX2_leastSeeds ({ frames := 3, cells := 0, slots := 0, locals := 72 } : Room) (va_Pc [.ref p1] (rP D cI cC cT [(p1, .inr (5, [.ref p1_cells, .int p1_size])), (p1_cells, .inl (cI, 64, .inl p1_cells_f))])) (rQ (some (.int z))) 0 0 (fun _ => False) := by
  refine Met.ofW (cc := cX2_leastSeeds) (maxL := 4) (ret := (some .int)) (by decide) rfl ?_
  intro p e s m args below meth c s₁ B hml hv
  obtain ⟨rfl, hP, hE⟩ := hv
  have hx := B.exec
  have hb := B.bytes
  have hr := B.returns
  have hts := atoms_spec (ws := wsX2_leastSeeds) B.pre
  have hown : s.vm.findClass RX2 = some m.cls := findClass_of_methodNamed B.named
  have hlocks := B.notSynchronized
  have hK := hE.1
  have hcf : CallFix p m c cX2_leastSeeds 4 s ([.ref p1] : List Value).toArray wsX2_leastSeeds RX2 := ⟨hx, hb, hml, hown, hts⟩
  have hP : va_P D vwCl [(p1, .inr (5, [.ref p1_cells, .int p1_size])), (p1_cells, .inl (cI, 64, .inl p1_cells_f))] s.heap := hP
  have hl := lv_entry ([.ref p1]) (n := 4) (Nat.le_of_ble_eq_true rfl)
  rw [lg_entry_eq]
  generalize (lg_sl ([.ref p1]) ++ List.replicate (4 - (lg_sl ([.ref p1])).length) Slot.unset).toArray = ls at hl ⊢
  have hl : lv_has ls 4 [(0, .ref p1)] := hl
  unfold mX2_leastSeeds at h0
  refine lv_aload_n hx hb dX2_leastSeeds_0 rfl (lv_at hl 0 rfl) ?_
  obtain ⟨z_1, hz, h0⟩ := bd_ok h0
  refine ro_V (As := []) (rest := []) (wc := [(p1, .inr (5, [.ref p1_cells, .int p1_size])), (p1_cells, .inl (cI, 64, .inl p1_cells_f))]) hcf (kX6_allBits l D cI cC cT p1 p1_cells p1_cells_f p1_size z_1 hz) (cwV 0 hts gX2_leastSeeds_X6_allBits rfl rfl rfl (by decide +kernel) ⟨Nat.le_of_ble_eq_true rfl, Nat.le_of_ble_eq_true rfl⟩) hE (hP.sub [0, 1] rfl) (va_recv hK hP (ci := 5) (q0 := 0) rfl rfl) rfl hl.1 rfl (Nat.le_of_ble_eq_true rfl) dX2_leastSeeds_1 ⟨Nat.le_of_ble_eq_true rfl, Nat.le_of_ble_eq_true rfl⟩ ?_
  refine W.eq (g2 := F0 m 4 ls [.int z_1]) rfl ?_
  refine lv_istore_n (lv' := [(1, .int z_1), (0, .ref p1)]) hx hb dX2_leastSeeds_4 rfl hl (by decide) rfl (fun ls hl => ?_)
  refine lv_iload_n hx hb dX2_leastSeeds_5 rfl (lv_at hl 0 rfl) ?_
  refine lv_istore_n (lv' := [(2, .int z_1), (1, .int z_1), (0, .ref p1)]) hx hb dX2_leastSeeds_6 rfl hl (by decide) rfl (fun ls hl => ?_)
  refine lv_iconst (v := 1) hx hb dX2_leastSeeds_7 (by decide) ?_
  refine lv_istore_n (lv' := [(3, .int 1), (2, .int z_1), (1, .int z_1), (0, .ref p1)]) hx hb dX2_leastSeeds_8 rfl hl (by decide) rfl (fun ls hl => ?_)
  have E_9_42_3 : ∀ (x3_2 : Int32) (x2_3 : Int32) (ls : Array Slot), (some (x2_3)) = some z → lv_has ls 4 [(3, .int x3_2), (2, .int x2_3), (1, .int z_1), (0, .ref p1)] → W p l e (headSpec wsX2_leastSeeds ({ frames := 3, cells := 0, slots := 0, locals := 72 } : Room)).room s m (([.ref p1] : List Value).toArray) below meth c s.heap [] 0 0 (MQ below (rQ (some (.int z))) (([.ref p1] : List Value).toArray) s 0 0 (fun _ => False)) (F0 m 42 ls []) := by
    intro x3_2 x2_3 ls h0 hl
    refine lv_iload_n hx hb dX2_leastSeeds_42 rfl (lv_at hl 1 rfl) ?_
    have e0 := Option.some.inj h0
    subst e0
    exact W.iret (v := x2_3) hx hb hr (fun t ht hW => ⟨rfl, ht⟩) (fun q hq => absurd hq List.not_mem_nil) dX2_leastSeeds_43
  have L_9_9 : ∀ (F9 : Nat) (x3_5 : Int32) (x2_6 : Int32) (ls : Array Slot), mX2_leastSeeds_L9 p1_cells_f p1_size z_1 (fun (x3_2 : Int32) (x2_3 : Int32) => some (x2_3)) F9 x3_5 x2_6 = some z → lv_has ls 4 [(3, .int x3_5), (2, .int x2_6), (1, .int z_1), (0, .ref p1)] → W p l e (headSpec wsX2_leastSeeds ({ frames := 3, cells := 0, slots := 0, locals := 72 } : Room)).room s m (([.ref p1] : List Value).toArray) below meth c s.heap [] 0 0 (MQ below (rQ (some (.int z))) (([.ref p1] : List Value).toArray) s 0 0 (fun _ => False)) (F0 m 9 ls []) := by
    intro F9
    induction F9 with
    | zero => intro x3_5 x2_6 ls h0 hl; cases h0
    | succ F9 ih9 =>
      intro x3_5 x2_6 ls h0 hl
      rw [mX2_leastSeeds_L9] at h0
      refine lv_iload_n hx hb dX2_leastSeeds_9 rfl (lv_at hl 0 rfl) ?_
      refine lv_iload_n hx hb dX2_leastSeeds_10 rfl (lv_at hl 2 rfl) ?_
      refine lv_icmp_gt (tgt := 42) hx hb dX2_leastSeeds_11 (by decide) (fun c9 => ?_) (fun c9 => ?_)
      · have h0 := it_t c9 h0
        exact E_9_42_3 x3_5 x2_6 ls h0 hl
      · have h0 := it_f c9 h0
        refine lv_iload_n hx hb dX2_leastSeeds_14 rfl (lv_at hl 0 rfl) ?_
        obtain ⟨z_7, hz, h0⟩ := bd_ok h0
        refine ro_S (As := [.int x3_5]) (rest := []) (wc := []) hcf (kJ6_bitCount_0f7a4 l D cI cC cT x3_5 z_7 hz) (va_cwS 1 hts gX2_leastSeeds_J6_bitCount_0f7a4 rfl rfl rfl (by decide +kernel) ⟨Nat.le_of_ble_eq_true rfl, Nat.le_of_ble_eq_true rfl⟩) hE (hP.sub [] rfl) rfl hl.1 rfl (Nat.le_of_ble_eq_true rfl) dX2_leastSeeds_15 ⟨Nat.le_of_ble_eq_true rfl, Nat.le_of_ble_eq_true rfl⟩ ?_
        refine W.eq (g2 := F0 m 18 ls [.int z_7]) rfl ?_
        refine lv_iload_n hx hb dX2_leastSeeds_18 rfl (lv_at hl 1 rfl) ?_
        obtain ⟨z_8, hz, h0⟩ := bd_ok h0
        refine ro_S (As := [.int x2_6]) (rest := [.int z_7]) (wc := []) hcf (kJ6_bitCount_0f7a4 l D cI cC cT x2_6 z_8 hz) (va_cwS 1 hts gX2_leastSeeds_J6_bitCount_0f7a4 rfl rfl rfl (by decide +kernel) ⟨Nat.le_of_ble_eq_true rfl, Nat.le_of_ble_eq_true rfl⟩) hE (hP.sub [] rfl) rfl hl.1 rfl (Nat.le_of_ble_eq_true rfl) dX2_leastSeeds_19 ⟨Nat.le_of_ble_eq_true rfl, Nat.le_of_ble_eq_true rfl⟩ ?_
        refine W.eq (g2 := F0 m 22 ls [.int z_8, .int z_7]) rfl ?_
        refine lv_icmp_ge (tgt := 36) hx hb dX2_leastSeeds_22 (by decide) (fun c9 => ?_) (fun c9 => ?_)
        · have h0 := it_t c9 h0
          refine lv_iinc (v := (x3_5 + 1)) (lv' := [(3, .int (x3_5 + 1)), (2, .int x2_6), (1, .int z_1), (0, .ref p1)]) hx hb dX2_leastSeeds_36 hl (k := 0) rfl rfl (by decide) rfl (fun ls hl => ?_)
          refine lv_goto (tgt := 9) hx hb dX2_leastSeeds_39 (by decide) ?_
          exact ih9 (x3_5 + 1) x2_6 ls h0 hl
        · have h0 := it_f c9 h0
          refine lv_aload_n hx hb dX2_leastSeeds_25 rfl (lv_at hl 3 rfl) ?_
          refine lv_iload_n hx hb dX2_leastSeeds_26 rfl (lv_at hl 0 rfl) ?_
          obtain ⟨z_9, hz, h0⟩ := bd_ok h0
          refine ro_S (As := [.ref p1, .int x3_5]) (rest := []) (wc := [(p1, .inr (5, [.ref p1_cells, .int p1_size])), (p1_cells, .inl (cI, 64, .inl p1_cells_f))]) hcf (kX2_grownFrom l D cI cC cT p1 p1_cells p1_cells_f p1_size x3_5 z_9 hz) (va_cwS 2 hts gX2_leastSeeds_X2_grownFrom rfl rfl rfl (by decide +kernel) ⟨Nat.le_of_ble_eq_true rfl, Nat.le_of_ble_eq_true rfl⟩) hE (hP.sub [0, 1] rfl) rfl hl.1 rfl (Nat.le_of_ble_eq_true rfl) dX2_leastSeeds_27 ⟨Nat.le_of_ble_eq_true rfl, Nat.le_of_ble_eq_true rfl⟩ ?_
          refine W.eq (g2 := F0 m 30 ls [.int z_9]) rfl ?_
          refine lv_iload_n hx hb dX2_leastSeeds_30 rfl (lv_at hl 2 rfl) ?_
          refine lv_icmp_ne (tgt := 36) hx hb dX2_leastSeeds_31 (by decide) (fun c9 => ?_) (fun c9 => ?_)
          · have h0 := it_f c9 h0
            refine lv_iinc (v := (x3_5 + 1)) (lv' := [(3, .int (x3_5 + 1)), (2, .int x2_6), (1, .int z_1), (0, .ref p1)]) hx hb dX2_leastSeeds_36 hl (k := 0) rfl rfl (by decide) rfl (fun ls hl => ?_)
            refine lv_goto (tgt := 9) hx hb dX2_leastSeeds_39 (by decide) ?_
            exact ih9 (x3_5 + 1) x2_6 ls h0 hl
          · have h0 := it_t c9 h0
            refine lv_iload_n hx hb dX2_leastSeeds_34 rfl (lv_at hl 0 rfl) ?_
            refine lv_istore_n (lv' := [(2, .int x3_5), (3, .int x3_5), (1, .int z_1), (0, .ref p1)]) hx hb dX2_leastSeeds_35 rfl hl (by decide) rfl (fun ls hl => ?_)
            refine lv_iinc (v := (x3_5 + 1)) (lv' := [(3, .int (x3_5 + 1)), (2, .int x3_5), (1, .int z_1), (0, .ref p1)]) hx hb dX2_leastSeeds_36 hl (k := 1) rfl rfl (by decide) rfl (fun ls hl => ?_)
            refine lv_goto (tgt := 9) hx hb dX2_leastSeeds_39 (by decide) ?_
            exact ih9 (x3_5 + 1) x3_5 ls h0 hl
  exact L_9_9 FU 1 z_1 ls h0 hl
