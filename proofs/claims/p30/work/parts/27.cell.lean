noncomputable def mL_cell (L : Nat) (xs : Nat → Int32) (p2 : Int32) : Option (Int32) :=
  if (Int32.ofNat L) ≤ p2 then (some (((((40503 : Int32) * (p2 + 11)) + 17) &&& 2147483647))) else (gd (inb p2 L) (some (((xs (p2 : Int32).toNatClampNeg) &&& 2147483647))))
set_option maxHeartbeats 8000000 in
set_option maxRecDepth 100000 in
theorem kL_cell (l : Launch) (b L : Nat) (xs : Nat → Int32) (p2 : Int32) (z : Int32) (h0 : mL_cell L xs p2 = some z) : Met l yL_cell wsL_cell ({ frames := 0, cells := 0, slots := 0, locals := 0 } : Room) (va_Pc [.ref b, .int p2] (cP b L xs)) (rQ (some (.int z))) 0 0 (fun _ => False) := by
  refine Met.ofW (cc := cL_cell) (maxL := 2) (ret := (some .int)) (by decide) rfl ?_
  intro p e s m args below meth c s₁ B hml hv
  obtain ⟨rfl, hX⟩ := hv
  have hX : va_X b L xs s s.heap := hX
  have hbl : b < s.heap.size := (Array.getElem?_eq_some_iff.mp hX.choose_spec.1).1
  have hbA : ¬ (fun _ : Nat => False) b := id
  have hS : va_S (fun _ : Nat => False) s.heap s.heap [] := va_S.rf
  have hx := B.exec
  have hb := B.bytes
  have hr := B.returns
  have hts := atoms_spec (ws := wsL_cell) B.pre
  have hown : s.vm.findClass RL = some m.cls := findClass_of_methodNamed B.named
  have hlocks := B.notSynchronized
  have hc_7 := hts (.constant RL 7 (40503)) (by decide +kernel)
  have hc_8 := hts (.constant RL 8 (2147483647)) (by decide +kernel)
  have hl := lv_entry ([.ref b, .int p2]) (n := 2) (Nat.le_of_ble_eq_true rfl)
  rw [lg_entry_eq]
  generalize (lg_sl ([.ref b, .int p2]) ++ List.replicate (2 - (lg_sl ([.ref b, .int p2])).length) Slot.unset).toArray = ls at hl ⊢
  have hl : lv_has ls 2 [(0, .ref b), (1, .int p2)] := hl
  unfold mL_cell at h0
  refine lv_iload_n hx hb dL_cell_0 rfl (lv_at hl 1 rfl) ?_
  refine lv_aload_n hx hb dL_cell_1 rfl (lv_at hl 0 rfl) ?_
  refine va_slen hx hb hX hbl hbA hS dL_cell_2 ?_
  refine lv_icmp_ge (tgt := 12) hx hb dL_cell_3 (by decide) (fun c9 => ?_) (fun c9 => ?_)
  · have h0 := it_t c9 h0
    refine lv_ldc (v := 40503) hx hb hown hc_7 dL_cell_12 ?_
    refine lv_iload_n hx hb dL_cell_14 rfl (lv_at hl 1 rfl) ?_
    refine lv_bipush (v := 11) hx hb dL_cell_15 (by decide) ?_
    refine lv_iadd hx hb dL_cell_17 ?_
    refine lv_imul hx hb dL_cell_18 ?_
    refine lv_bipush (v := 17) hx hb dL_cell_19 (by decide) ?_
    refine lv_iadd hx hb dL_cell_21 ?_
    refine lv_ldc (v := 2147483647) hx hb hown hc_8 dL_cell_22 ?_
    refine lv_iand hx hb dL_cell_24 ?_
    have e0 := Option.some.inj h0
    subst e0
    exact W.iret (v := ((((40503 : Int32) * (p2 + 11)) + 17) &&& 2147483647)) hx hb hr (fun t ht hW => ⟨rfl, ht⟩) (fun q hq => absurd hq List.not_mem_nil) dL_cell_25
  · have h0 := it_f c9 h0
    refine lv_aload_n hx hb dL_cell_6 rfl (lv_at hl 0 rfl) ?_
    refine lv_iload_n hx hb dL_cell_7 rfl (lv_at hl 1 rfl) ?_
    obtain ⟨g0, h0⟩ := gd_ok h0
    refine va_sld hx hb hX hbl hbA hS (inb_ok g0) dL_cell_8 ?_
    refine lv_goto (tgt := 22) hx hb dL_cell_9 (by decide) ?_
    refine lv_ldc (v := 2147483647) hx hb hown hc_8 dL_cell_22 ?_
    refine lv_iand hx hb dL_cell_24 ?_
    have e0 := Option.some.inj h0
    subst e0
    exact W.iret (v := ((xs (p2 : Int32).toNatClampNeg) &&& 2147483647)) hx hb hr (fun t ht hW => ⟨rfl, ht⟩) (fun q hq => absurd hq List.not_mem_nil) dL_cell_25
