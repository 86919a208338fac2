noncomputable def mX6_init  : Option ((Nat → Int32) × Int32) :=
  some ((fun _ => 0), 0)
set_option maxHeartbeats 8000000 in
set_option maxRecDepth 100000 in
theorem kX6_init (l : Launch) (D : va_G) (cI cC cT : ClassId) (h : Nat) (sz : Nat) (z : (Nat → Int32) × Int32) (h0 : mX6_init  = some z) : Met l yX6_init wsX6_init ({ frames := 1, cells := 1, slots := 64, locals := 20 } : Room) (va_Pc [.ref h] (wP D cI cC cT [(h, .inr (5, [.null, .int 0]))] sz)) (wQ D none (va_A [(h, .inr (5, [.null, .int 0]))] sz) (fun (u : Nat) => [(h, .inr (5, [.ref u, .int z.2])), (u, .inl (cI, 64, .inl z.1))])) 1 64 (va_A [(h, .inr (5, [.null, .int 0]))] sz) := by
  refine Met.ofW (cc := cX6_init) (maxL := 1) (ret := none) (by decide) rfl ?_
  intro p e s m args below meth c s₁ B hml hv
  obtain ⟨rfl, hsz, hP, hE, hD0⟩ := hv
  have hx := B.exec
  have hb := B.bytes
  have hr := B.returns
  have hts := atoms_spec (ws := wsX6_init) B.pre
  have hown : s.vm.findClass RX6 = some m.cls := findClass_of_methodNamed B.named
  have hlocks := B.notSynchronized
  have hK := hE.1
  have hcf : CallFix p m c cX6_init 1 s ([.ref h] : List Value).toArray wsX6_init RX6 := ⟨hx, hb, hml, hown, hts⟩
  have hin : meth.name = "<init>" := (name_of_methodNamed B.named B.method).1
  subst hsz
  have hD := hD0.self (sz := s.heap.size)
  generalize hAe : va_A [(h, .inr (5, [.null, .int 0]))] s.heap.size = A at hD ⊢
  have hA : ∀ q : Nat, s.heap.size ≤ q → A q := fun q h => by rw [← hAe]; exact Or.inr h
  have hS : va_S A s.heap s.heap [] := va_S.rf
  have hP : va_P D vwCl [(h, .inr (5, [.null, .int 0]))] s.heap := hP
  have hf_9 := hts (.fieldLink RX6 9 "CrookedSums$Table" "cells" "[I") (by decide +kernel)
  have hi_X6 := (show ∀ w ∈ u_ws RX6 TX6 2, w ∈ wsX6_init from by decide +kernel)
  have hl := lv_entry ([.ref h]) (n := 1) (Nat.le_of_ble_eq_true rfl)
  rw [lg_entry_eq]
  generalize (lg_sl ([.ref h]) ++ List.replicate (1 - (lg_sl ([.ref h])).length) Slot.unset).toArray = ls at hl ⊢
  have hl : lv_has ls 1 [(0, .ref h)] := hl
  unfold mX6_init at h0
  refine lv_aload_n hx hb dX6_init_0 rfl (lv_at hl 0 rfl) ?_
  refine W.objInit hx hb hown (hts (.methodLink RX6 3 objectInit) (by decide +kernel)) (hts (.instanceMethod objectInit) (by decide +kernel)) (hts (.code objectInit ⟨#[0xb1]⟩ 1 none) (by decide +kernel)) rfl (by rw [hml]; exact hl.1) rfl dX6_init_1 (Nat.le_of_ble_eq_true rfl) (Nat.le_of_ble_eq_true rfl) ?_
  refine W.eq (g2 := F0 m 4 ls []) rfl ?_
  refine lv_aload_n hx hb dX6_init_4 rfl (lv_at hl 0 rfl) ?_
  refine lv_bipush (v := 64) hx hb dX6_init_5 (by decide) ?_
  refine va_newa (atype := .int) (ty := .int) (N' := 64) (a0 := (64, .inl (fun _ => 0))) hx hb (hts (.arrayClass .int) (by decide +kernel)) rfl hK hP hD hS hA (fun cA => rfl) (by decide) (by decide) (Nat.le_of_ble_eq_true rfl) (Nat.le_of_ble_eq_true rfl) (Nat.le_of_ble_eq_true rfl) dX6_init_7 (fun q_1 cA H hK2 hP hD hS => ?_)
  have ecA := eK_int hK hK2
  subst ecA
  have hP : va_P D vwCl [(h, .inr (5, [.null, .int 0])), (q_1, .inl (cI, 64, .inl (fun _ => 0)))] H := hP
  have hD : va_D A [(h, .inr (5, [.null, .int 0])), (q_1, .inl (cI, 64, .inl (fun _ => 0)))] := hD
  refine va_putF (D := D) (ci := 5) (v := .ref q_1) (ty := (.array .int)) (C := RX6) (T := TX6) (N := 2) hx hb hts hi_X6 tyX6 tyX6_ok nmX6 hown hK hP hD hS 0 rfl rfl 0 (by decide) hf_9 (fun _ h9 => h9) rfl hin rfl (by decide +kernel) rfl rfl (Nat.le_of_ble_eq_true rfl) dX6_init_9 (fun H locs hP hD hS => ?_)
  have hP : va_P D vwCl [(h, .inr (5, [.ref q_1, .int 0])), (q_1, .inl (cI, 64, .inl (fun _ => 0)))] H := hP
  have hD : va_D A [(h, .inr (5, [.ref q_1, .int 0])), (q_1, .inl (cI, 64, .inl (fun _ => 0)))] := hD
  have e0 := Option.some.inj h0
  subst e0
  refine W.widen (k := 1) (n := 64) (Nat.le_of_ble_eq_true rfl) (Nat.le_of_ble_eq_true rfl) ?_
  exact W.vret hx hb hr (fun t ht hW => wr_end (q_1) ht (hP.sub [0, 1] rfl) (hD.sub [0, 1] (by decide) rfl) hS) hS.2.2 dX6_init_12
noncomputable def mX6_copyFrom_L10 (p1_cells_f : Nat → Int32) (k10_41 : Int32 → (Nat → Int32) → Option ((Nat → Int32) × Int32)) : Nat → Int32 → (Nat → Int32) → Option ((Nat → Int32) × Int32)
  | 0, _, _ => none
  | F + 1, x2_4, f_5 => if (64 : Int32) ≤ x2_4 then (k10_41 x2_4 f_5) else (bd (mX9_get 64 p1_cells_f x2_4) (fun z_6 => bd (mX9_put 64 f_5 x2_4 z_6) (fun z_7 => mX6_copyFrom_L10 p1_cells_f k10_41 F (x2_4 + 1) z_7)))
noncomputable def mX6_copyFrom (h_cells_f : Nat → Int32) (p1_cells_f : Nat → Int32) (p1_size : Int32) : Option ((Nat → Int32) × Int32) :=
  mX6_copyFrom_L10 p1_cells_f (fun (x2_1 : Int32) (f_2 : Nat → Int32) => some (f_2, p1_size)) FU 0 h_cells_f
set_option maxHeartbeats 8000000 in
set_option maxRecDepth 100000 in
theorem kX6_copyFrom (l : Launch) (D : va_G) (cI cC cT : ClassId) (h h_cells p1 p1_cells : Nat) (h_cells_f : Nat → Int32) (h_size : Int32) (p1_cells_f : Nat → Int32) (p1_size : Int32) (sz : Nat) (z : (Nat → Int32) × Int32) (h0 : mX6_copyFrom h_cells_f p1_cells_f p1_size = some z) : Met l yX6_copyFrom wsX6_copyFrom ({ frames := 1, cells := 0, slots := 0, locals := 22 } : Room) (va_Pc [.ref h, .ref p1] (wP D cI cC cT [(h, .inr (5, [.ref h_cells, .int h_size])), (h_cells, .inl (cI, 64, .inl h_cells_f)), (p1, .inr (5, [.ref p1_cells, .int p1_size])), (p1_cells, .inl (cI, 64, .inl p1_cells_f))] sz)) (wQ D none (va_A [(h, .inr (5, [.ref h_cells, .int h_size])), (h_cells, .inl (cI, 64, .inl h_cells_f)), (p1, .inr (5, [.ref p1_cells, .int p1_size])), (p1_cells, .inl (cI, 64, .inl p1_cells_f))] sz) (fun (u : Unit) => [(h, .inr (5, [.ref h_cells, .int z.2])), (h_cells, .inl (cI, 64, .inl z.1)), (p1, .inr (5, [.ref p1_cells, .int p1_size])), (p1_cells, .inl (cI, 64, .inl p1_cells_f))])) 0 0 (va_A [(h, .inr (5, [.ref h_cells, .int h_size])), (h_cells, .inl (cI, 64, .inl h_cells_f)), (p1, .inr (5, [.ref p1_cells, .int p1_size])), (p1_cells, .inl (cI, 64, .inl p1_cells_f))] sz) := by
  refine Met.ofW (cc := cX6_copyFrom) (maxL := 3) (ret := none) (by decide) rfl ?_
  intro p e s m args below meth c s₁ B hml hv
  obtain ⟨rfl, hsz, hP, hE, hD0⟩ := hv
  have hx := B.exec
  have hb := B.bytes
  have hr := B.returns
  have hts := atoms_spec (ws := wsX6_copyFrom) B.pre
  have hown : s.vm.findClass RX6 = some m.cls := findClass_of_methodNamed B.named
  have hlocks := B.notSynchronized
  have hK := hE.1
  have hcf : CallFix p m c cX6_copyFrom 3 s ([.ref h, .ref p1] : List Value).toArray wsX6_copyFrom RX6 := ⟨hx, hb, hml, hown, hts⟩
  subst hsz
  have hD := hD0.self (sz := s.heap.size)
  generalize hAe : va_A [(h, .inr (5, [.ref h_cells, .int h_size])), (h_cells, .inl (cI, 64, .inl h_cells_f)), (p1, .inr (5, [.ref p1_cells, .int p1_size])), (p1_cells, .inl (cI, 64, .inl p1_cells_f))] s.heap.size = A at hD ⊢
  have hA : ∀ q : Nat, s.heap.size ≤ q → A q := fun q h => by rw [← hAe]; exact Or.inr h
  have hS : va_S A s.heap s.heap [] := va_S.rf
  have hP : va_P D vwCl [(h, .inr (5, [.ref h_cells, .int h_size])), (h_cells, .inl (cI, 64, .inl h_cells_f)), (p1, .inr (5, [.ref p1_cells, .int p1_size])), (p1_cells, .inl (cI, 64, .inl p1_cells_f))] s.heap := hP
  have hf_15 := hts (.fieldLink RX6 15 "CrookedSums$Table" "size" "I") (by decide +kernel)
  have hi_X6 := (show ∀ w ∈ u_ws RX6 TX6 2, w ∈ wsX6_copyFrom from by decide +kernel)
  have hf_9 := hts (.fieldLink RX6 9 "CrookedSums$Table" "cells" "[I") (by decide +kernel)
  have hini_X9 := hts (.initialized RX9) (by decide +kernel)
  have hst_X9_get := hts (.static yX9_get) (by decide +kernel)
  have hst_X9_put := hts (.static yX9_put) (by decide +kernel)
  have hl := lv_entry ([.ref h, .ref p1]) (n := 3) (Nat.le_of_ble_eq_true rfl)
  rw [lg_entry_eq]
  generalize (lg_sl ([.ref h, .ref p1]) ++ List.replicate (3 - (lg_sl ([.ref h, .ref p1])).length) Slot.unset).toArray = ls at hl ⊢
  have hl : lv_has ls 3 [(0, .ref h), (1, .ref p1)] := hl
  unfold mX6_copyFrom at h0
  refine lv_aload_n hx hb dX6_copyFrom_0 rfl (lv_at hl 0 rfl) ?_
  refine lv_aload_n hx hb dX6_copyFrom_1 rfl (lv_at hl 1 rfl) ?_
  refine va_get (D := D) (ci := 5) (v := .int p1_size) (C := RX6) (T := TX6) (N := 2) hx hb hts hi_X6 hown hK hP 2 rfl rfl 1 (by decide) hf_15 (fun _ h9 => h9) rfl dX6_copyFrom_2 ?_
  refine va_put (D := D) (ci := 5) (v := .int p1_size) (ty := .int) (C := RX6) (T := TX6) (N := 2) hx hb hts hi_X6 tyX6 tyX6_ok nmX6 hown hK hP hD hS 0 rfl rfl 1 (by decide) hf_15 (fun _ h9 => h9) rfl (by decide +kernel) rfl rfl (Nat.le_of_ble_eq_true rfl) dX6_copyFrom_5 (fun H locs hP hD hS => ?_)
  have hP : va_P D vwCl [(h, .inr (5, [.ref h_cells, .int p1_size])), (h_cells, .inl (cI, 64, .inl h_cells_f)), (p1, .inr (5, [.ref p1_cells, .int p1_size])), (p1_cells, .inl (cI, 64, .inl p1_cells_f))] H := hP
  have hD : va_D A [(h, .inr (5, [.ref h_cells, .int p1_size])), (h_cells, .inl (cI, 64, .inl h_cells_f)), (p1, .inr (5, [.ref p1_cells, .int p1_size])), (p1_cells, .inl (cI, 64, .inl p1_cells_f))] := hD
  refine lv_iconst (v := 0) hx hb dX6_copyFrom_8 (by decide) ?_
  refine lv_istore_n (lv' := [(2, .int 0), (0, .ref h), (1, .ref p1)]) hx hb dX6_copyFrom_9 rfl hl (by decide) rfl (fun ls hl => ?_)
  have E_10_41_2 : ∀ (x2_1 : Int32) (f_2 : Nat → Int32) (H : Heap) (locs : List Loc) (ls : Array Slot), (some (f_2, p1_size)) = some z → va_P D vwCl [(h, .inr (5, [.ref h_cells, .int p1_size])), (h_cells, .inl (cI, 64, .inl f_2)), (p1, .inr (5, [.ref p1_cells, .int p1_size])), (p1_cells, .inl (cI, 64, .inl p1_cells_f))] H → va_D A [(h, .inr (5, [.ref h_cells, .int p1_size])), (h_cells, .inl (cI, 64, .inl f_2)), (p1, .inr (5, [.ref p1_cells, .int p1_size])), (p1_cells, .inl (cI, 64, .inl p1_cells_f))] → va_S A s.heap H locs → lv_has ls 3 [(2, .int x2_1), (0, .ref h), (1, .ref p1)] → W p l e (headSpec wsX6_copyFrom ({ frames := 1, cells := 0, slots := 0, locals := 22 } : Room)).room s m (([.ref h, .ref p1] : List Value).toArray) below meth c H locs 0 0 (MQ below (wQ D none A (fun (u : Unit) => [(h, .inr (5, [.ref h_cells, .int z.2])), (h_cells, .inl (cI, 64, .inl z.1)), (p1, .inr (5, [.ref p1_cells, .int p1_size])), (p1_cells, .inl (cI, 64, .inl p1_cells_f))])) (([.ref h, .ref p1] : List Value).toArray) s 0 0 A) (F0 m 41 ls []) := by
    intro x2_1 f_2 H locs ls h0 hP hD hS hl
    have e0 := Option.some.inj h0
    subst e0
    exact W.vret hx hb hr (fun t ht hW => wr_end () ht hP hD hS) hS.2.2 dX6_copyFrom_41
  have L_10_7 : ∀ (F10 : Nat) (x2_4 : Int32) (f_5 : Nat → Int32) (H : Heap) (locs : List Loc) (ls : Array Slot), mX6_copyFrom_L10 p1_cells_f (fun (x2_1 : Int32) (f_2 : Nat → Int32) => some (f_2, p1_size)) F10 x2_4 f_5 = some z → va_P D vwCl [(h, .inr (5, [.ref h_cells, .int p1_size])), (h_cells, .inl (cI, 64, .inl f_5)), (p1, .inr (5, [.ref p1_cells, .int p1_size])), (p1_cells, .inl (cI, 64, .inl p1_cells_f))] H → va_D A [(h, .inr (5, [.ref h_cells, .int p1_size])), (h_cells, .inl (cI, 64, .inl f_5)), (p1, .inr (5, [.ref p1_cells, .int p1_size])), (p1_cells, .inl (cI, 64, .inl p1_cells_f))] → va_S A s.heap H locs → lv_has ls 3 [(2, .int x2_4), (0, .ref h), (1, .ref p1)] → W p l e (headSpec wsX6_copyFrom ({ frames := 1, cells := 0, slots := 0, locals := 22 } : Room)).room s m (([.ref h, .ref p1] : List Value).toArray) below meth c H locs 0 0 (MQ below (wQ D none A (fun (u : Unit) => [(h, .inr (5, [.ref h_cells, .int z.2])), (h_cells, .inl (cI, 64, .inl z.1)), (p1, .inr (5, [.ref p1_cells, .int p1_size])), (p1_cells, .inl (cI, 64, .inl p1_cells_f))])) (([.ref h, .ref p1] : List Value).toArray) s 0 0 A) (F0 m 10 ls []) := by
    intro F10
    induction F10 with
    | zero => intro x2_4 f_5 H locs ls h0 hP hD hS hl; cases h0
    | succ F10 ih10 =>
      intro x2_4 f_5 H locs ls h0 hP hD hS hl
      rw [mX6_copyFrom_L10] at h0
      refine lv_iload_n hx hb dX6_copyFrom_10 rfl (lv_at hl 0 rfl) ?_
      refine lv_aload_n hx hb dX6_copyFrom_11 rfl (lv_at hl 1 rfl) ?_
      refine va_get (D := D) (ci := 5) (v := .ref h_cells) (C := RX6) (T := TX6) (N := 2) hx hb hts hi_X6 hown hK hP 0 rfl rfl 0 (by decide) hf_9 (fun _ h9 => h9) rfl dX6_copyFrom_12 ?_
      refine va_alen hx hb hK hP 1 0 (v := 64) rfl rfl (show Int32.ofNat 64 = 64 from by decide) dX6_copyFrom_15 ?_
      refine lv_icmp_ge (tgt := 41) hx hb dX6_copyFrom_16 (by decide) (fun c9 => ?_) (fun c9 => ?_)
      · have h0 := it_t c9 h0
        exact E_10_41_2 x2_4 f_5 _ _ ls h0 hP hD hS hl
      · have h0 := it_f c9 h0
        refine lv_aload_n hx hb dX6_copyFrom_19 rfl (lv_at hl 1 rfl) ?_
        refine va_get (D := D) (ci := 5) (v := .ref h_cells) (C := RX6) (T := TX6) (N := 2) hx hb hts hi_X6 hown hK hP 0 rfl rfl 0 (by decide) hf_9 (fun _ h9 => h9) rfl dX6_copyFrom_20 ?_
        refine lv_iload_n hx hb dX6_copyFrom_23 rfl (lv_at hl 0 rfl) ?_
        refine lv_aload_n hx hb dX6_copyFrom_24 rfl (lv_at hl 2 rfl) ?_
        refine va_get (D := D) (ci := 5) (v := .ref p1_cells) (C := RX6) (T := TX6) (N := 2) hx hb hts hi_X6 hown hK hP 2 rfl rfl 0 (by decide) hf_9 (fun _ h9 => h9) rfl dX6_copyFrom_25 ?_
        refine lv_iload_n hx hb dX6_copyFrom_28 rfl (lv_at hl 0 rfl) ?_
        obtain ⟨z_6, hz, h0⟩ := bd_ok h0
        refine ro_SN (As := [.ref p1_cells, .int x2_4]) (rest := [.int x2_4, .ref h_cells]) (wc := [(p1_cells, .inl (cI, 64, .inl p1_cells_f))]) hcf (kX9_get l D cI cC cT p1_cells 64 p1_cells_f x2_4 z_6 hz) ⟨va_cnB (host := RX9) 2 hts gX6_copyFrom_X9_get_n27 rfl rfl rfl hE.2.2.2.2.2.2.2.1 hini_X9 (by decide +kernel) ⟨Nat.le_of_ble_eq_true rfl, Nat.le_of_ble_eq_true rfl⟩, hst_X9_get, trivial⟩ hE (hP.sub [3] rfl) rfl hl.1 rfl (Nat.le_of_ble_eq_true rfl) dX6_copyFrom_29 ⟨Nat.le_of_ble_eq_true rfl, Nat.le_of_ble_eq_true rfl⟩ ?_
        refine W.eq (g2 := F0 m 32 ls [.int z_6, .int x2_4, .ref h_cells]) rfl ?_
        obtain ⟨z_7, hz, h0⟩ := bd_ok h0
        refine wr_SN (As := [.ref h_cells, .int x2_4, .int z_6]) (rest := []) (wc := [(h_cells, .inl (cI, 64, .inl f_5))]) (wr := [(h, .inr (5, [.ref h_cells, .int p1_size])), (p1, .inr (5, [.ref p1_cells, .int p1_size])), (p1_cells, .inl (cI, 64, .inl p1_cells_f))]) hcf (kX9_put l D cI cC cT h_cells 64 f_5 x2_4 z_6 _ z_7 hz) ⟨va_cnB (host := RX9) 3 hts gX6_copyFrom_X9_put_n19 rfl rfl rfl hE.2.2.2.2.2.2.1 hini_X9 (by decide +kernel) ⟨Nat.le_of_ble_eq_true rfl, Nat.le_of_ble_eq_true rfl⟩, hst_X9_put, trivial⟩ hE hP hD hS hA [1] [0, 2, 3] (hP.sub [1] rfl) (hD.sub [1] (by decide) rfl) rfl rfl (by decide) (by decide) rfl hl.1 rfl (Nat.le_of_ble_eq_true rfl) dX6_copyFrom_32 ⟨Nat.le_of_ble_eq_true rfl, Nat.le_of_ble_eq_true rfl⟩ (fun u H locs hP hD hS => ?_)
        have hP : va_P D vwCl [(h, .inr (5, [.ref h_cells, .int p1_size])), (p1, .inr (5, [.ref p1_cells, .int p1_size])), (p1_cells, .inl (cI, 64, .inl p1_cells_f)), (h_cells, .inl (cI, 64, .inl z_7))] H := hP
        have hD : va_D A [(h, .inr (5, [.ref h_cells, .int p1_size])), (p1, .inr (5, [.ref p1_cells, .int p1_size])), (p1_cells, .inl (cI, 64, .inl p1_cells_f)), (h_cells, .inl (cI, 64, .inl z_7))] := hD
        refine W.eq (g2 := F0 m 35 ls []) rfl ?_
        refine lv_iinc (v := (x2_4 + 1)) (lv' := [(2, .int (x2_4 + 1)), (0, .ref h), (1, .ref p1)]) hx hb dX6_copyFrom_35 hl (k := 0) rfl rfl (by decide) rfl (fun ls hl => ?_)
        refine lv_goto (tgt := 10) hx hb dX6_copyFrom_38 (by decide) ?_
        exact ih10 (x2_4 + 1) z_7 _ _ ls h0 (hP.sub [0, 3, 1, 2] rfl) (hD.sub [0, 3, 1, 2] (by decide) rfl) hS hl
  exact L_10_7 FU 0 h_cells_f _ _ ls h0 hP hD hS hl
noncomputable def mX6_allBits (h_size : Int32) : Option (Int32) :=
  some ((((1 : Int32) <<< (h_size &&& 31)) - 1))
set_option maxHeartbeats 8000000 in
set_option maxRecDepth 100000 in
theorem kX6_allBits (l : Launch) (D : va_G) (cI cC cT : ClassId) (h h_cells : Nat) (h_cells_f : Nat → Int32) (h_size : Int32) (z : Int32) (h0 : mX6_allBits h_size = some z) : Met l yX6_allBits wsX6_allBits ({ frames := 0, cells := 0, slots := 0, locals := 0 } : Room) (va_Pc [.ref h] (rP D cI cC cT [(h, .inr (5, [.ref h_cells, .int h_size])), (h_cells, .inl (cI, 64, .inl h_cells_f))])) (rQ (some (.int z))) 0 0 (fun _ => False) := by
  refine Met.ofW (cc := cX6_allBits) (maxL := 1) (ret := (some .int)) (by decide) rfl ?_
  intro p e s m args below meth c s₁ B hml hv
  obtain ⟨rfl, hP, hE⟩ := hv
  have hx := B.exec
  have hb := B.bytes
  have hr := B.returns
  have hts := atoms_spec (ws := wsX6_allBits) B.pre
  have hown : s.vm.findClass RX6 = some m.cls := findClass_of_methodNamed B.named
  have hlocks := B.notSynchronized
  have hK := hE.1
  have hcf : CallFix p m c cX6_allBits 1 s ([.ref h] : List Value).toArray wsX6_allBits RX6 := ⟨hx, hb, hml, hown, hts⟩
  have hP : va_P D vwCl [(h, .inr (5, [.ref h_cells, .int h_size])), (h_cells, .inl (cI, 64, .inl h_cells_f))] s.heap := hP
  have hf_15 := hts (.fieldLink RX6 15 "CrookedSums$Table" "size" "I") (by decide +kernel)
  have hi_X6 := (show ∀ w ∈ u_ws RX6 TX6 2, w ∈ wsX6_allBits from by decide +kernel)
  have hl := lv_entry ([.ref h]) (n := 1) (Nat.le_of_ble_eq_true rfl)
  rw [lg_entry_eq]
  generalize (lg_sl ([.ref h]) ++ List.replicate (1 - (lg_sl ([.ref h])).length) Slot.unset).toArray = ls at hl ⊢
  have hl : lv_has ls 1 [(0, .ref h)] := hl
  unfold mX6_allBits at h0
  refine lv_iconst (v := 1) hx hb dX6_allBits_0 (by decide) ?_
  refine lv_aload_n hx hb dX6_allBits_1 rfl (lv_at hl 0 rfl) ?_
  refine va_get (D := D) (ci := 5) (v := .int h_size) (C := RX6) (T := TX6) (N := 2) hx hb hts hi_X6 hown hK hP 0 rfl rfl 1 (by decide) hf_15 (fun _ h9 => h9) rfl dX6_allBits_2 ?_
  refine lv_ishl hx hb dX6_allBits_5 ?_
  refine lv_iconst (v := 1) hx hb dX6_allBits_6 (by decide) ?_
  refine lv_isub hx hb dX6_allBits_7 ?_
  have e0 := Option.some.inj h0
  subst e0
  exact W.iret (v := (((1 : Int32) <<< (h_size &&& 31)) - 1)) hx hb hr (fun t ht hW => ⟨rfl, ht⟩) (fun q hq => absurd hq List.not_mem_nil) dX6_allBits_8
noncomputable def mX6_size (h_size : Int32) : Option (Int32) :=
  some (h_size)
set_option maxHeartbeats 8000000 in
set_option maxRecDepth 100000 in
theorem kX6_size (l : Launch) (D : va_G) (cI cC cT : ClassId) (h h_cells : Nat) (h_cells_f : Nat → Int32) (h_size : Int32) (z : Int32) (h0 : mX6_size h_size = some z) : Met l yX6_size wsX6_size ({ frames := 0, cells := 0, slots := 0, locals := 0 } : Room) (va_Pc [.ref h] (rP D cI cC cT [(h, .inr (5, [.ref h_cells, .int h_size])), (h_cells, .inl (cI, 64, .inl h_cells_f))])) (rQ (some (.int z))) 0 0 (fun _ => False) := by
  refine Met.ofW (cc := cX6_size) (maxL := 1) (ret := (some .int)) (by decide) rfl ?_
  intro p e s m args below meth c s₁ B hml hv
  obtain ⟨rfl, hP, hE⟩ := hv
  have hx := B.exec
  have hb := B.bytes
  have hr := B.returns
  have hts := atoms_spec (ws := wsX6_size) B.pre
  have hown : s.vm.findClass RX6 = some m.cls := findClass_of_methodNamed B.named
  have hlocks := B.notSynchronized
  have hK := hE.1
  have hcf : CallFix p m c cX6_size 1 s ([.ref h] : List Value).toArray wsX6_size RX6 := ⟨hx, hb, hml, hown, hts⟩
  have hP : va_P D vwCl [(h, .inr (5, [.ref h_cells, .int h_size])), (h_cells, .inl (cI, 64, .inl h_cells_f))] s.heap := hP
  have hf_15 := hts (.fieldLink RX6 15 "CrookedSums$Table" "size" "I") (by decide +kernel)
  have hi_X6 := (show ∀ w ∈ u_ws RX6 TX6 2, w ∈ wsX6_size from by decide +kernel)
  have hl := lv_entry ([.ref h]) (n := 1) (Nat.le_of_ble_eq_true rfl)
  rw [lg_entry_eq]
  generalize (lg_sl ([.ref h]) ++ List.replicate (1 - (lg_sl ([.ref h])).length) Slot.unset).toArray = ls at hl ⊢
  have hl : lv_has ls 1 [(0, .ref h)] := hl
  unfold mX6_size at h0
  refine lv_aload_n hx hb dX6_size_0 rfl (lv_at hl 0 rfl) ?_
  refine va_get (D := D) (ci := 5) (v := .int h_size) (C := RX6) (T := TX6) (N := 2) hx hb hts hi_X6 hown hK hP 0 rfl rfl 1 (by decide) hf_15 (fun _ h9 => h9) rfl dX6_size_1 ?_
  have e0 := Option.some.inj h0
  subst e0
  exact W.iret (v := h_size) hx hb hr (fun t ht hW => ⟨rfl, ht⟩) (fun q hq => absurd hq List.not_mem_nil) dX6_size_4
noncomputable def mX6_at (h_cells_f : Nat → Int32) (p1 : Int32) (p2 : Int32) : Option (Int32) :=
  if ((p1 * 8) + p2) < 0 then (some (0)) else (if (64 : Int32) ≤ ((p1 * 8) + p2) then (some (0)) else (gd (inb ((p1 * 8) + p2) 64) (some ((h_cells_f (((p1 * 8) + p2) : Int32).toNatClampNeg)))))
set_option maxHeartbeats 8000000 in
set_option maxRecDepth 100000 in
theorem kX6_at (l : Launch) (D : va_G) (cI cC cT : ClassId) (h h_cells : Nat) (h_cells_f : Nat → Int32) (h_size : Int32) (p1 : Int32) (p2 : Int32) (z : Int32) (h0 : mX6_at h_cells_f p1 p2 = some z) : Met l yX6_at wsX6_at ({ frames := 0, cells := 0, slots := 0, locals := 0 } : Room) (va_Pc [.ref h, .int p1, .int p2] (rP D cI cC cT [(h, .inr (5, [.ref h_cells, .int h_size])), (h_cells, .inl (cI, 64, .inl h_cells_f))])) (rQ (some (.int z))) 0 0 (fun _ => False) := by
  refine Met.ofW (cc := cX6_at) (maxL := 4) (ret := (some .int)) (by decide) rfl ?_
  intro p e s m args below meth c s₁ B hml hv
  obtain ⟨rfl, hP, hE⟩ := hv
  have hx := B.exec
  have hb := B.bytes
  have hr := B.returns
  have hts := atoms_spec (ws := wsX6_at) B.pre
  have hown : s.vm.findClass RX6 = some m.cls := findClass_of_methodNamed B.named
  have hlocks := B.notSynchronized
  have hK := hE.1
  have hcf : CallFix p m c cX6_at 4 s ([.ref h, .int p1, .int p2] : List Value).toArray wsX6_at RX6 := ⟨hx, hb, hml, hown, hts⟩
  have hP : va_P D vwCl [(h, .inr (5, [.ref h_cells, .int h_size])), (h_cells, .inl (cI, 64, .inl h_cells_f))] s.heap := hP
  have hf_9 := hts (.fieldLink RX6 9 "CrookedSums$Table" "cells" "[I") (by decide +kernel)
  have hi_X6 := (show ∀ w ∈ u_ws RX6 TX6 2, w ∈ wsX6_at from by decide +kernel)
  have hl := lv_entry ([.ref h, .int p1, .int p2]) (n := 4) (Nat.le_of_ble_eq_true rfl)
  rw [lg_entry_eq]
  generalize (lg_sl ([.ref h, .int p1, .int p2]) ++ List.replicate (4 - (lg_sl ([.ref h, .int p1, .int p2])).length) Slot.unset).toArray = ls at hl ⊢
  have hl : lv_has ls 4 [(0, .ref h), (1, .int p1), (2, .int p2)] := hl
  unfold mX6_at at h0
  refine lv_iload_n hx hb dX6_at_0 rfl (lv_at hl 1 rfl) ?_
  refine lv_bipush (v := 8) hx hb dX6_at_1 (by decide) ?_
  refine lv_imul hx hb dX6_at_3 ?_
  refine lv_iload_n hx hb dX6_at_4 rfl (lv_at hl 2 rfl) ?_
  refine lv_iadd hx hb dX6_at_5 ?_
  refine lv_istore_n (lv' := [(3, .int ((p1 * 8) + p2)), (0, .ref h), (1, .int p1), (2, .int p2)]) hx hb dX6_at_6 rfl hl (by decide) rfl (fun ls hl => ?_)
  refine lv_iload_n hx hb dX6_at_7 rfl (lv_at hl 0 rfl) ?_
  refine lv_if_lt (tgt := 29) hx hb dX6_at_8 (by decide) (fun c9 => ?_) (fun c9 => ?_)
  · have h0 := it_t c9 h0
    refine lv_iconst (v := 0) hx hb dX6_at_29 (by decide) ?_
    have e0 := Option.some.inj h0
    subst e0
    exact W.iret (v := 0) hx hb hr (fun t ht hW => ⟨rfl, ht⟩) (fun q hq => absurd hq List.not_mem_nil) dX6_at_30
  · have h0 := it_f c9 h0
    refine lv_iload_n hx hb dX6_at_11 rfl (lv_at hl 0 rfl) ?_
    refine lv_aload_n hx hb dX6_at_12 rfl (lv_at hl 1 rfl) ?_
    refine va_get (D := D) (ci := 5) (v := .ref h_cells) (C := RX6) (T := TX6) (N := 2) hx hb hts hi_X6 hown hK hP 0 rfl rfl 0 (by decide) hf_9 (fun _ h9 => h9) rfl dX6_at_13 ?_
    refine va_alen hx hb hK hP 1 0 (v := 64) rfl rfl (show Int32.ofNat 64 = 64 from by decide) dX6_at_16 ?_
    refine lv_icmp_ge (tgt := 29) hx hb dX6_at_17 (by decide) (fun c9 => ?_) (fun c9 => ?_)
    · have h0 := it_t c9 h0
      refine lv_iconst (v := 0) hx hb dX6_at_29 (by decide) ?_
      have e0 := Option.some.inj h0
      subst e0
      exact W.iret (v := 0) hx hb hr (fun t ht hW => ⟨rfl, ht⟩) (fun q hq => absurd hq List.not_mem_nil) dX6_at_30
    · have h0 := it_f c9 h0
      refine lv_aload_n hx hb dX6_at_20 rfl (lv_at hl 1 rfl) ?_
      refine va_get (D := D) (ci := 5) (v := .ref h_cells) (C := RX6) (T := TX6) (N := 2) hx hb hts hi_X6 hown hK hP 0 rfl rfl 0 (by decide) hf_9 (fun _ h9 => h9) rfl dX6_at_21 ?_
      refine lv_iload_n hx hb dX6_at_24 rfl (lv_at hl 0 rfl) ?_
      obtain ⟨g0, h0⟩ := gd_ok h0
      refine va_iald hx hb hK hP 1 0 rfl rfl (inb_ok g0) dX6_at_25 ?_
      refine lv_goto (tgt := 30) hx hb dX6_at_26 (by decide) ?_
      have e0 := Option.some.inj h0
      subst e0
      exact W.iret (v := (h_cells_f (((p1 * 8) + p2) : Int32).toNatClampNeg)) hx hb hr (fun t ht hW => ⟨rfl, ht⟩) (fun q hq => absurd hq List.not_mem_nil) dX6_at_30
noncomputable def mX6_has (h_size : Int32) (p1 : Int32) : Option (Int32) :=
  if p1 < 0 then (some (0)) else (if h_size ≤ p1 then (some (0)) else (some (1)))
set_option maxHeartbeats 8000000 in
set_option maxRecDepth 100000 in
theorem kX6_has (l : Launch) (D : va_G) (cI cC cT : ClassId) (h h_cells : Nat) (h_cells_f : Nat → Int32) (h_size : Int32) (p1 : Int32) (z : Int32) (h0 : mX6_has h_size p1 = some z) : Met l yX6_has wsX6_has ({ frames := 0, cells := 0, slots := 0, locals := 0 } : Room) (va_Pc [.ref h, .int p1] (rP D cI cC cT [(h, .inr (5, [.ref h_cells, .int h_size])), (h_cells, .inl (cI, 64, .inl h_cells_f))])) (rQ (some (.int z))) 0 0 (fun _ => False) := by
  refine Met.ofW (cc := cX6_has) (maxL := 2) (ret := (some .boolean)) (by decide) rfl ?_
  intro p e s m args below meth c s₁ B hml hv
  obtain ⟨rfl, hP, hE⟩ := hv
  have hx := B.exec
  have hb := B.bytes
  have hr := B.returns
  have hts := atoms_spec (ws := wsX6_has) B.pre
  have hown : s.vm.findClass RX6 = some m.cls := findClass_of_methodNamed B.named
  have hlocks := B.notSynchronized
  have hK := hE.1
  have hcf : CallFix p m c cX6_has 2 s ([.ref h, .int p1] : List Value).toArray wsX6_has RX6 := ⟨hx, hb, hml, hown, hts⟩
  have hP : va_P D vwCl [(h, .inr (5, [.ref h_cells, .int h_size])), (h_cells, .inl (cI, 64, .inl h_cells_f))] s.heap := hP
  have hf_15 := hts (.fieldLink RX6 15 "CrookedSums$Table" "size" "I") (by decide +kernel)
  have hi_X6 := (show ∀ w ∈ u_ws RX6 TX6 2, w ∈ wsX6_has from by decide +kernel)
  have hl := lv_entry ([.ref h, .int p1]) (n := 2) (Nat.le_of_ble_eq_true rfl)
  rw [lg_entry_eq]
  generalize (lg_sl ([.ref h, .int p1]) ++ List.replicate (2 - (lg_sl ([.ref h, .int p1])).length) Slot.unset).toArray = ls at hl ⊢
  have hl : lv_has ls 2 [(0, .ref h), (1, .int p1)] := hl
  unfold mX6_has at h0
  refine lv_iload_n hx hb dX6_has_0 rfl (lv_at hl 1 rfl) ?_
  refine lv_if_lt (tgt := 16) hx hb dX6_has_1 (by decide) (fun c9 => ?_) (fun c9 => ?_)
  · have h0 := it_t c9 h0
    refine lv_iconst (v := 0) hx hb dX6_has_16 (by decide) ?_
    have e0 := Option.some.inj h0
    subst e0
    exact W.zret (ty := .boolean) (v := 0) hx hb hr rfl (fun t ht hW => ⟨rfl, ht⟩) (fun q hq => absurd hq List.not_mem_nil) dX6_has_17
  · have h0 := it_f c9 h0
    refine lv_iload_n hx hb dX6_has_4 rfl (lv_at hl 1 rfl) ?_
    refine lv_aload_n hx hb dX6_has_5 rfl (lv_at hl 0 rfl) ?_
    refine va_get (D := D) (ci := 5) (v := .int h_size) (C := RX6) (T := TX6) (N := 2) hx hb hts hi_X6 hown hK hP 0 rfl rfl 1 (by decide) hf_15 (fun _ h9 => h9) rfl dX6_has_6 ?_
    refine lv_icmp_ge (tgt := 16) hx hb dX6_has_9 (by decide) (fun c9 => ?_) (fun c9 => ?_)
    · have h0 := it_t c9 h0
      refine lv_iconst (v := 0) hx hb dX6_has_16 (by decide) ?_
      have e0 := Option.some.inj h0
      subst e0
      exact W.zret (ty := .boolean) (v := 0) hx hb hr rfl (fun t ht hW => ⟨rfl, ht⟩) (fun q hq => absurd hq List.not_mem_nil) dX6_has_17
    · have h0 := it_f c9 h0
      refine lv_iconst (v := 1) hx hb dX6_has_12 (by decide) ?_
      refine lv_goto (tgt := 17) hx hb dX6_has_13 (by decide) ?_
      have e0 := Option.some.inj h0
      subst e0
      exact W.zret (ty := .boolean) (v := 1) hx hb hr rfl (fun t ht hW => ⟨rfl, ht⟩) (fun q hq => absurd hq List.not_mem_nil) dX6_has_17
noncomputable def mX6_isLittleSquare (h_cells_f : Nat → Int32) (p1 : Int32) (p2 : Int32) (p3 : Int32) (p4 : Int32) : Option (Int32) :=
  bd (mX6_at h_cells_f p1 p3) (fun z_1 => bd (mX6_at h_cells_f p2 p4) (fun z_2 => if z_1 = z_2 then (bd (mX6_at h_cells_f p1 p4) (fun z_3 => bd (mX6_at h_cells_f p2 p3) (fun z_4 => if z_3 = z_4 then (some (1)) else (some (0))))) else (some (0))))
set_option maxHeartbeats 8000000 in
set_option maxRecDepth 100000 in
theorem kX6_isLittleSquare (l : Launch) (D : va_G) (cI cC cT : ClassId) (h h_cells : Nat) (h_cells_f : Nat → Int32) (h_size : Int32) (p1 : Int32) (p2 : Int32) (p3 : Int32) (p4 : Int32) (z : Int32) (h0 : mX6_isLittleSquare h_cells_f p1 p2 p3 p4 = some z) : Met l yX6_isLittleSquare wsX6_isLittleSquare ({ frames := 1, cells := 0, slots := 0, locals := 23 } : Room) (va_Pc [.ref h, .int p1, .int p2, .int p3, .int p4] (rP D cI cC cT [(h, .inr (5, [.ref h_cells, .int h_size])), (h_cells, .inl (cI, 64, .inl h_cells_f))])) (rQ (some (.int z))) 0 0 (fun _ => False) := by
  refine Met.ofW (cc := cX6_isLittleSquare) (maxL := 5) (ret := (some .boolean)) (by decide) rfl ?_
  intro p e s m args below meth c s₁ B hml hv
  obtain ⟨rfl, hP, hE⟩ := hv
  have hx := B.exec
  have hb := B.bytes
  have hr := B.returns
  have hts := atoms_spec (ws := wsX6_isLittleSquare) B.pre
  have hown : s.vm.findClass RX6 = some m.cls := findClass_of_methodNamed B.named
  have hlocks := B.notSynchronized
  have hK := hE.1
  have hcf : CallFix p m c cX6_isLittleSquare 5 s ([.ref h, .int p1, .int p2, .int p3, .int p4] : List Value).toArray wsX6_isLittleSquare RX6 := ⟨hx, hb, hml, hown, hts⟩
  have hP : va_P D vwCl [(h, .inr (5, [.ref h_cells, .int h_size])), (h_cells, .inl (cI, 64, .inl h_cells_f))] s.heap := hP
  have hl := lv_entry ([.ref h, .int p1, .int p2, .int p3, .int p4]) (n := 5) (Nat.le_of_ble_eq_true rfl)
  rw [lg_entry_eq]
  generalize (lg_sl ([.ref h, .int p1, .int p2, .int p3, .int p4]) ++ List.replicate (5 - (lg_sl ([.ref h, .int p1, .int p2, .int p3, .int p4])).length) Slot.unset).toArray = ls at hl ⊢
  have hl : lv_has ls 5 [(0, .ref h), (1, .int p1), (2, .int p2), (3, .int p3), (4, .int p4)] := hl
  unfold mX6_isLittleSquare at h0
  refine lv_aload_n hx hb dX6_isLittleSquare_0 rfl (lv_at hl 0 rfl) ?_
  refine lv_iload_n hx hb dX6_isLittleSquare_1 rfl (lv_at hl 1 rfl) ?_
  refine lv_iload_n hx hb dX6_isLittleSquare_2 rfl (lv_at hl 3 rfl) ?_
  obtain ⟨z_1, hz, h0⟩ := bd_ok h0
  refine ro_V (As := [.int p1, .int p3]) (rest := []) (wc := [(h, .inr (5, [.ref h_cells, .int h_size])), (h_cells, .inl (cI, 64, .inl h_cells_f))]) hcf (kX6_at l D cI cC cT h h_cells h_cells_f h_size p1 p3 z_1 hz) (cwV 2 hts gX6_isLittleSquare_X6_at rfl rfl rfl (by decide +kernel) ⟨Nat.le_of_ble_eq_true rfl, Nat.le_of_ble_eq_true rfl⟩) hE (hP.sub [0, 1] rfl) (va_recv hK hP (ci := 5) (q0 := 0) rfl rfl) rfl hl.1 rfl (Nat.le_of_ble_eq_true rfl) dX6_isLittleSquare_3 ⟨Nat.le_of_ble_eq_true rfl, Nat.le_of_ble_eq_true rfl⟩ ?_
  refine W.eq (g2 := F0 m 6 ls [.int z_1]) rfl ?_
  refine lv_aload_n hx hb dX6_isLittleSquare_6 rfl (lv_at hl 0 rfl) ?_
  refine lv_iload_n hx hb dX6_isLittleSquare_7 rfl (lv_at hl 2 rfl) ?_
  refine lv_iload hx hb dX6_isLittleSquare_8 (lv_at hl 4 rfl) ?_
  obtain ⟨z_2, hz, h0⟩ := bd_ok h0
  refine ro_V (As := [.int p2, .int p4]) (rest := [.int z_1]) (wc := [(h, .inr (5, [.ref h_cells, .int h_size])), (h_cells, .inl (cI, 64, .inl h_cells_f))]) hcf (kX6_at l D cI cC cT h h_cells h_cells_f h_size p2 p4 z_2 hz) (cwV 2 hts gX6_isLittleSquare_X6_at rfl rfl rfl (by decide +kernel) ⟨Nat.le_of_ble_eq_true rfl, Nat.le_of_ble_eq_true rfl⟩) hE (hP.sub [0, 1] rfl) (va_recv hK hP (ci := 5) (q0 := 0) rfl rfl) rfl hl.1 rfl (Nat.le_of_ble_eq_true rfl) dX6_isLittleSquare_10 ⟨Nat.le_of_ble_eq_true rfl, Nat.le_of_ble_eq_true rfl⟩ ?_
  refine W.eq (g2 := F0 m 13 ls [.int z_2, .int z_1]) rfl ?_
  refine lv_icmp_ne (tgt := 36) hx hb dX6_isLittleSquare_13 (by decide) (fun c9 => ?_) (fun c9 => ?_)
  · have h0 := it_f c9 h0
    refine lv_iconst (v := 0) hx hb dX6_isLittleSquare_36 (by decide) ?_
    have e0 := Option.some.inj h0
    subst e0
    exact W.zret (ty := .boolean) (v := 0) hx hb hr rfl (fun t ht hW => ⟨rfl, ht⟩) (fun q hq => absurd hq List.not_mem_nil) dX6_isLittleSquare_37
  · have h0 := it_t c9 h0
    refine lv_aload_n hx hb dX6_isLittleSquare_16 rfl (lv_at hl 0 rfl) ?_
    refine lv_iload_n hx hb dX6_isLittleSquare_17 rfl (lv_at hl 1 rfl) ?_
    refine lv_iload hx hb dX6_isLittleSquare_18 (lv_at hl 4 rfl) ?_
    obtain ⟨z_3, hz, h0⟩ := bd_ok h0
    refine ro_V (As := [.int p1, .int p4]) (rest := []) (wc := [(h, .inr (5, [.ref h_cells, .int h_size])), (h_cells, .inl (cI, 64, .inl h_cells_f))]) hcf (kX6_at l D cI cC cT h h_cells h_cells_f h_size p1 p4 z_3 hz) (cwV 2 hts gX6_isLittleSquare_X6_at rfl rfl rfl (by decide +kernel) ⟨Nat.le_of_ble_eq_true rfl, Nat.le_of_ble_eq_true rfl⟩) hE (hP.sub [0, 1] rfl) (va_recv hK hP (ci := 5) (q0 := 0) rfl rfl) rfl hl.1 rfl (Nat.le_of_ble_eq_true rfl) dX6_isLittleSquare_20 ⟨Nat.le_of_ble_eq_true rfl, Nat.le_of_ble_eq_true rfl⟩ ?_
    refine W.eq (g2 := F0 m 23 ls [.int z_3]) rfl ?_
    refine lv_aload_n hx hb dX6_isLittleSquare_23 rfl (lv_at hl 0 rfl) ?_
    refine lv_iload_n hx hb dX6_isLittleSquare_24 rfl (lv_at hl 2 rfl) ?_
    refine lv_iload_n hx hb dX6_isLittleSquare_25 rfl (lv_at hl 3 rfl) ?_
    obtain ⟨z_4, hz, h0⟩ := bd_ok h0
    refine ro_V (As := [.int p2, .int p3]) (rest := [.int z_3]) (wc := [(h, .inr (5, [.ref h_cells, .int h_size])), (h_cells, .inl (cI, 64, .inl h_cells_f))]) hcf (kX6_at l D cI cC cT h h_cells h_cells_f h_size p2 p3 z_4 hz) (cwV 2 hts gX6_isLittleSquare_X6_at rfl rfl rfl (by decide +kernel) ⟨Nat.le_of_ble_eq_true rfl, Nat.le_of_ble_eq_true rfl⟩) hE (hP.sub [0, 1] rfl) (va_recv hK hP (ci := 5) (q0 := 0) rfl rfl) rfl hl.1 rfl (Nat.le_of_ble_eq_true rfl) dX6_isLittleSquare_26 ⟨Nat.le_of_ble_eq_true rfl, Nat.le_of_ble_eq_true rfl⟩ ?_
    refine W.eq (g2 := F0 m 29 ls [.int z_4, .int z_3]) rfl ?_
    refine lv_icmp_ne (tgt := 36) hx hb dX6_isLittleSquare_29 (by decide) (fun c9 => ?_) (fun c9 => ?_)
    · have h0 := it_f c9 h0
      refine lv_iconst (v := 0) hx hb dX6_isLittleSquare_36 (by decide) ?_
      have e0 := Option.some.inj h0
      subst e0
      exact W.zret (ty := .boolean) (v := 0) hx hb hr rfl (fun t ht hW => ⟨rfl, ht⟩) (fun q hq => absurd hq List.not_mem_nil) dX6_isLittleSquare_37
    · have h0 := it_t c9 h0
      refine lv_iconst (v := 1) hx hb dX6_isLittleSquare_32 (by decide) ?_
      refine lv_goto (tgt := 37) hx hb dX6_isLittleSquare_33 (by decide) ?_
      have e0 := Option.some.inj h0
      subst e0
      exact W.zret (ty := .boolean) (v := 1) hx hb hr rfl (fun t ht hW => ⟨rfl, ht⟩) (fun q hq => absurd hq List.not_mem_nil) dX6_isLittleSquare_37
noncomputable def mX6_set (h_cells_f : Nat → Int32) (p1 : Int32) (p2 : Int32) (p3 : Int32) : Option ((Nat → Int32)) :=
  bd (mX9_put 64 h_cells_f ((p1 * 8) + p2) p3) (fun z_1 => some (z_1))
set_option maxHeartbeats 8000000 in
set_option maxRecDepth 100000 in
theorem kX6_set (l : Launch) (D : va_G) (cI cC cT : ClassId) (h h_cells : Nat) (h_cells_f : Nat → Int32) (h_size : Int32) (p1 : Int32) (p2 : Int32) (p3 : Int32) (sz : Nat) (z : (Nat → Int32)) (h0 : mX6_set h_cells_f p1 p2 p3 = some z) : Met l yX6_set wsX6_set ({ frames := 1, cells := 0, slots := 0, locals := 22 } : Room) (va_Pc [.ref h, .int p1, .int p2, .int p3] (wP D cI cC cT [(h, .inr (5, [.ref h_cells, .int h_size])), (h_cells, .inl (cI, 64, .inl h_cells_f))] sz)) (wQ D none (va_A [(h, .inr (5, [.ref h_cells, .int h_size])), (h_cells, .inl (cI, 64, .inl h_cells_f))] sz) (fun (u : Unit) => [(h, .inr (5, [.ref h_cells, .int h_size])), (h_cells, .inl (cI, 64, .inl z))])) 0 0 (va_A [(h, .inr (5, [.ref h_cells, .int h_size])), (h_cells, .inl (cI, 64, .inl h_cells_f))] sz) := by
  refine Met.ofW (cc := cX6_set) (maxL := 4) (ret := none) (by decide) rfl ?_
  intro p e s m args below meth c s₁ B hml hv
  obtain ⟨rfl, hsz, hP, hE, hD0⟩ := hv
  have hx := B.exec
  have hb := B.bytes
  have hr := B.returns
  have hts := atoms_spec (ws := wsX6_set) B.pre
  have hown : s.vm.findClass RX6 = some m.cls := findClass_of_methodNamed B.named
  have hlocks := B.notSynchronized
  have hK := hE.1
  have hcf : CallFix p m c cX6_set 4 s ([.ref h, .int p1, .int p2, .int p3] : List Value).toArray wsX6_set RX6 := ⟨hx, hb, hml, hown, hts⟩
  subst hsz
  have hD := hD0.self (sz := s.heap.size)
  generalize hAe : va_A [(h, .inr (5, [.ref h_cells, .int h_size])), (h_cells, .inl (cI, 64, .inl h_cells_f))] s.heap.size = A at hD ⊢
  have hA : ∀ q : Nat, s.heap.size ≤ q → A q := fun q h => by rw [← hAe]; exact Or.inr h
  have hS : va_S A s.heap s.heap [] := va_S.rf
  have hP : va_P D vwCl [(h, .inr (5, [.ref h_cells, .int h_size])), (h_cells, .inl (cI, 64, .inl h_cells_f))] s.heap := hP
  have hf_9 := hts (.fieldLink RX6 9 "CrookedSums$Table" "cells" "[I") (by decide +kernel)
  have hi_X6 := (show ∀ w ∈ u_ws RX6 TX6 2, w ∈ wsX6_set from by decide +kernel)
  have hini_X9 := hts (.initialized RX9) (by decide +kernel)
  have hst_X9_put := hts (.static yX9_put) (by decide +kernel)
  have hl := lv_entry ([.ref h, .int p1, .int p2, .int p3]) (n := 4) (Nat.le_of_ble_eq_true rfl)
  rw [lg_entry_eq]
  generalize (lg_sl ([.ref h, .int p1, .int p2, .int p3]) ++ List.replicate (4 - (lg_sl ([.ref h, .int p1, .int p2, .int p3])).length) Slot.unset).toArray = ls at hl ⊢
  have hl : lv_has ls 4 [(0, .ref h), (1, .int p1), (2, .int p2), (3, .int p3)] := hl
  unfold mX6_set at h0
  refine lv_aload_n hx hb dX6_set_0 rfl (lv_at hl 0 rfl) ?_
  refine va_get (D := D) (ci := 5) (v := .ref h_cells) (C := RX6) (T := TX6) (N := 2) hx hb hts hi_X6 hown hK hP 0 rfl rfl 0 (by decide) hf_9 (fun _ h9 => h9) rfl dX6_set_1 ?_
  refine lv_iload_n hx hb dX6_set_4 rfl (lv_at hl 1 rfl) ?_
  refine lv_bipush (v := 8) hx hb dX6_set_5 (by decide) ?_
  refine lv_imul hx hb dX6_set_7 ?_
  refine lv_iload_n hx hb dX6_set_8 rfl (lv_at hl 2 rfl) ?_
  refine lv_iadd hx hb dX6_set_9 ?_
  refine lv_iload_n hx hb dX6_set_10 rfl (lv_at hl 3 rfl) ?_
  obtain ⟨z_1, hz, h0⟩ := bd_ok h0
  refine wr_SN (As := [.ref h_cells, .int ((p1 * 8) + p2), .int p3]) (rest := []) (wc := [(h_cells, .inl (cI, 64, .inl h_cells_f))]) (wr := [(h, .inr (5, [.ref h_cells, .int h_size]))]) hcf (kX9_put l D cI cC cT h_cells 64 h_cells_f ((p1 * 8) + p2) p3 _ z_1 hz) ⟨va_cnB (host := RX9) 3 hts gX6_set_X9_put_n19 rfl rfl rfl hE.2.2.2.2.2.2.1 hini_X9 (by decide +kernel) ⟨Nat.le_of_ble_eq_true rfl, Nat.le_of_ble_eq_true rfl⟩, hst_X9_put, trivial⟩ hE hP hD hS hA [1] [0] (hP.sub [1] rfl) (hD.sub [1] (by decide) rfl) rfl rfl (by decide) (by decide) rfl hl.1 rfl (Nat.le_of_ble_eq_true rfl) dX6_set_11 ⟨Nat.le_of_ble_eq_true rfl, Nat.le_of_ble_eq_true rfl⟩ (fun u H locs hP hD hS => ?_)
  have hP : va_P D vwCl [(h, .inr (5, [.ref h_cells, .int h_size])), (h_cells, .inl (cI, 64, .inl z_1))] H := hP
  have hD : va_D A [(h, .inr (5, [.ref h_cells, .int h_size])), (h_cells, .inl (cI, 64, .inl z_1))] := hD
  refine W.eq (g2 := F0 m 14 ls []) rfl ?_
  have e0 := Option.some.inj h0
  subst e0
  exact W.vret hx hb hr (fun t ht hW => wr_end () ht hP hD hS) hS.2.2 dX6_set_14
noncomputable def mX6_exchange (h_cells_f : Nat → Int32) (p1 : Int32) (p2 : Int32) (p3 : Int32) (p4 : Int32) : Option ((Nat → Int32)) :=
  bd (mX6_at h_cells_f p1 p2) (fun z_1 => bd (mX6_at h_cells_f p3 p4) (fun z_2 => bd (mX6_set h_cells_f p1 p2 z_2) (fun z_3 => bd (mX6_set z_3 p3 p4 z_1) (fun z_4 => some (z_4)))))
set_option maxHeartbeats 8000000 in
set_option maxRecDepth 100000 in
theorem kX6_exchange (l : Launch) (D : va_G) (cI cC cT : ClassId) (h h_cells : Nat) (h_cells_f : Nat → Int32) (h_size : Int32) (p1 : Int32) (p2 : Int32) (p3 : Int32) (p4 : Int32) (sz : Nat) (z : (Nat → Int32)) (h0 : mX6_exchange h_cells_f p1 p2 p3 p4 = some z) : Met l yX6_exchange wsX6_exchange ({ frames := 2, cells := 0, slots := 0, locals := 45 } : Room) (va_Pc [.ref h, .int p1, .int p2, .int p3, .int p4] (wP D cI cC cT [(h, .inr (5, [.ref h_cells, .int h_size])), (h_cells, .inl (cI, 64, .inl h_cells_f))] sz)) (wQ D none (va_A [(h, .inr (5, [.ref h_cells, .int h_size])), (h_cells, .inl (cI, 64, .inl h_cells_f))] sz) (fun (u : Unit) => [(h, .inr (5, [.ref h_cells, .int h_size])), (h_cells, .inl (cI, 64, .inl z))])) 0 0 (va_A [(h, .inr (5, [.ref h_cells, .int h_size])), (h_cells, .inl (cI, 64, .inl h_cells_f))] sz) := by
  refine Met.ofW (cc := cX6_exchange) (maxL := 6) (ret := none) (by decide) rfl ?_
  intro p e s m args below meth c s₁ B hml hv
  obtain ⟨rfl, hsz, hP, hE, hD0⟩ := hv
  have hx := B.exec
  have hb := B.bytes
  have hr := B.returns
  have hts := atoms_spec (ws := wsX6_exchange) B.pre
  have hown : s.vm.findClass RX6 = some m.cls := findClass_of_methodNamed B.named
  have hlocks := B.notSynchronized
  have hK := hE.1
  have hcf : CallFix p m c cX6_exchange 6 s ([.ref h, .int p1, .int p2, .int p3, .int p4] : List Value).toArray wsX6_exchange RX6 := ⟨hx, hb, hml, hown, hts⟩
  subst hsz
  have hD := hD0.self (sz := s.heap.size)
  generalize hAe : va_A [(h, .inr (5, [.ref h_cells, .int h_size])), (h_cells, .inl (cI, 64, .inl h_cells_f))] s.heap.size = A at hD ⊢
  have hA : ∀ q : Nat, s.heap.size ≤ q → A q := fun q h => by rw [← hAe]; exact Or.inr h
  have hS : va_S A s.heap s.heap [] := va_S.rf
  have hP : va_P D vwCl [(h, .inr (5, [.ref h_cells, .int h_size])), (h_cells, .inl (cI, 64, .inl h_cells_f))] s.heap := hP
  have hl := lv_entry ([.ref h, .int p1, .int p2, .int p3, .int p4]) (n := 6) (Nat.le_of_ble_eq_true rfl)
  rw [lg_entry_eq]
  generalize (lg_sl ([.ref h, .int p1, .int p2, .int p3, .int p4]) ++ List.replicate (6 - (lg_sl ([.ref h, .int p1, .int p2, .int p3, .int p4])).length) Slot.unset).toArray = ls at hl ⊢
  have hl : lv_has ls 6 [(0, .ref h), (1, .int p1), (2, .int p2), (3, .int p3), (4, .int p4)] := hl
  unfold mX6_exchange at h0
  refine lv_aload_n hx hb dX6_exchange_0 rfl (lv_at hl 0 rfl) ?_
  refine lv_iload_n hx hb dX6_exchange_1 rfl (lv_at hl 1 rfl) ?_
  refine lv_iload_n hx hb dX6_exchange_2 rfl (lv_at hl 2 rfl) ?_
  obtain ⟨z_1, hz, h0⟩ := bd_ok h0
  refine ro_V (As := [.int p1, .int p2]) (rest := []) (wc := [(h, .inr (5, [.ref h_cells, .int h_size])), (h_cells, .inl (cI, 64, .inl h_cells_f))]) hcf (kX6_at l D cI cC cT h h_cells h_cells_f h_size p1 p2 z_1 hz) (cwV 2 hts gX6_exchange_X6_at rfl rfl rfl (by decide +kernel) ⟨Nat.le_of_ble_eq_true rfl, Nat.le_of_ble_eq_true rfl⟩) hE (hP.sub [0, 1] rfl) (va_recv hK hP (ci := 5) (q0 := 0) rfl rfl) rfl hl.1 rfl (Nat.le_of_ble_eq_true rfl) dX6_exchange_3 ⟨Nat.le_of_ble_eq_true rfl, Nat.le_of_ble_eq_true rfl⟩ ?_
  refine W.eq (g2 := F0 m 6 ls [.int z_1]) rfl ?_
  refine lv_istore (lv' := [(5, .int z_1), (0, .ref h), (1, .int p1), (2, .int p2), (3, .int p3), (4, .int p4)]) hx hb dX6_exchange_6 hl (by decide) rfl (fun ls hl => ?_)
  refine lv_aload_n hx hb dX6_exchange_8 rfl (lv_at hl 1 rfl) ?_
  refine lv_iload_n hx hb dX6_exchange_9 rfl (lv_at hl 2 rfl) ?_
  refine lv_iload_n hx hb dX6_exchange_10 rfl (lv_at hl 3 rfl) ?_
  refine lv_aload_n hx hb dX6_exchange_11 rfl (lv_at hl 1 rfl) ?_
  refine lv_iload_n hx hb dX6_exchange_12 rfl (lv_at hl 4 rfl) ?_
  refine lv_iload hx hb dX6_exchange_13 (lv_at hl 5 rfl) ?_
  obtain ⟨z_2, hz, h0⟩ := bd_ok h0
  refine ro_V (As := [.int p3, .int p4]) (rest := [.int p2, .int p1, .ref h]) (wc := [(h, .inr (5, [.ref h_cells, .int h_size])), (h_cells, .inl (cI, 64, .inl h_cells_f))]) hcf (kX6_at l D cI cC cT h h_cells h_cells_f h_size p3 p4 z_2 hz) (cwV 2 hts gX6_exchange_X6_at rfl rfl rfl (by decide +kernel) ⟨Nat.le_of_ble_eq_true rfl, Nat.le_of_ble_eq_true rfl⟩) hE (hP.sub [0, 1] rfl) (va_recv hK hP (ci := 5) (q0 := 0) rfl rfl) rfl hl.1 rfl (Nat.le_of_ble_eq_true rfl) dX6_exchange_15 ⟨Nat.le_of_ble_eq_true rfl, Nat.le_of_ble_eq_true rfl⟩ ?_
  refine W.eq (g2 := F0 m 18 ls [.int z_2, .int p2, .int p1, .ref h]) rfl ?_
  obtain ⟨z_3, hz, h0⟩ := bd_ok h0
  refine wr_V (As := [.int p1, .int p2, .int z_2]) (rest := []) (wc := [(h, .inr (5, [.ref h_cells, .int h_size])), (h_cells, .inl (cI, 64, .inl h_cells_f))]) (wr := []) hcf (kX6_set l D cI cC cT h h_cells h_cells_f h_size p1 p2 z_2 _ z_3 hz) (cwV 3 hts gX6_exchange_X6_set rfl rfl rfl (by decide +kernel) ⟨Nat.le_of_ble_eq_true rfl, Nat.le_of_ble_eq_true rfl⟩) hE hP hD hS hA [0, 1] [] (hP.sub [0, 1] rfl) (hD.sub [0, 1] (by decide) rfl) (va_recv hK hP (ci := 5) (q0 := 0) rfl rfl) rfl rfl (by decide) (by decide) rfl hl.1 rfl (Nat.le_of_ble_eq_true rfl) dX6_exchange_18 ⟨Nat.le_of_ble_eq_true rfl, Nat.le_of_ble_eq_true rfl⟩ (fun u H locs hP hD hS => ?_)
  have hP : va_P D vwCl [(h, .inr (5, [.ref h_cells, .int h_size])), (h_cells, .inl (cI, 64, .inl z_3))] H := hP
  have hD : va_D A [(h, .inr (5, [.ref h_cells, .int h_size])), (h_cells, .inl (cI, 64, .inl z_3))] := hD
  refine W.eq (g2 := F0 m 21 ls []) rfl ?_
  refine lv_aload_n hx hb dX6_exchange_21 rfl (lv_at hl 1 rfl) ?_
  refine lv_iload_n hx hb dX6_exchange_22 rfl (lv_at hl 4 rfl) ?_
  refine lv_iload hx hb dX6_exchange_23 (lv_at hl 5 rfl) ?_
  refine lv_iload hx hb dX6_exchange_25 (lv_at hl 0 rfl) ?_
  obtain ⟨z_4, hz, h0⟩ := bd_ok h0
  refine wr_V (As := [.int p3, .int p4, .int z_1]) (rest := []) (wc := [(h, .inr (5, [.ref h_cells, .int h_size])), (h_cells, .inl (cI, 64, .inl z_3))]) (wr := []) hcf (kX6_set l D cI cC cT h h_cells z_3 h_size p3 p4 z_1 _ z_4 hz) (cwV 3 hts gX6_exchange_X6_set rfl rfl rfl (by decide +kernel) ⟨Nat.le_of_ble_eq_true rfl, Nat.le_of_ble_eq_true rfl⟩) hE hP hD hS hA [0, 1] [] (hP.sub [0, 1] rfl) (hD.sub [0, 1] (by decide) rfl) (va_recv hK hP (ci := 5) (q0 := 0) rfl rfl) rfl rfl (by decide) (by decide) rfl hl.1 rfl (Nat.le_of_ble_eq_true rfl) dX6_exchange_27 ⟨Nat.le_of_ble_eq_true rfl, Nat.le_of_ble_eq_true rfl⟩ (fun u H locs hP hD hS => ?_)
  have hP : va_P D vwCl [(h, .inr (5, [.ref h_cells, .int h_size])), (h_cells, .inl (cI, 64, .inl z_4))] H := hP
  have hD : va_D A [(h, .inr (5, [.ref h_cells, .int h_size])), (h_cells, .inl (cI, 64, .inl z_4))] := hD
  refine W.eq (g2 := F0 m 30 ls []) rfl ?_
  have e0 := Option.some.inj h0
  subst e0
  exact W.vret hx hb hr (fun t ht hW => wr_end () ht hP hD hS) hS.2.2 dX6_exchange_30
noncomputable def mX6_swapSquare (h_cells_f : Nat → Int32) (p1 : Int32) (p2 : Int32) (p3 : Int32) (p4 : Int32) : Option ((Nat → Int32)) :=
  bd (mX6_exchange h_cells_f p1 p3 p1 p4) (fun z_1 => bd (mX6_exchange z_1 p2 p3 p2 p4) (fun z_2 => some (z_2)))
set_option maxHeartbeats 8000000 in
set_option maxRecDepth 100000 in
theorem kX6_swapSquare (l : Launch) (D : va_G) (cI cC cT : ClassId) (h h_cells : Nat) (h_cells_f : Nat → Int32) (h_size : Int32) (p1 : Int32) (p2 : Int32) (p3 : Int32) (p4 : Int32) (sz : Nat) (z : (Nat → Int32)) (h0 : mX6_swapSquare h_cells_f p1 p2 p3 p4 = some z) : Met l yX6_swapSquare wsX6_swapSquare ({ frames := 3, cells := 0, slots := 0, locals := 70 } : Room) (va_Pc [.ref h, .int p1, .int p2, .int p3, .int p4] (wP D cI cC cT [(h, .inr (5, [.ref h_cells, .int h_size])), (h_cells, .inl (cI, 64, .inl h_cells_f))] sz)) (wQ D none (va_A [(h, .inr (5, [.ref h_cells, .int h_size])), (h_cells, .inl (cI, 64, .inl h_cells_f))] sz) (fun (u : Unit) => [(h, .inr (5, [.ref h_cells, .int h_size])), (h_cells, .inl (cI, 64, .inl z))])) 0 0 (va_A [(h, .inr (5, [.ref h_cells, .int h_size])), (h_cells, .inl (cI, 64, .inl h_cells_f))] sz) := by
  refine Met.ofW (cc := cX6_swapSquare) (maxL := 5) (ret := none) (by decide) rfl ?_
  intro p e s m args below meth c s₁ B hml hv
  obtain ⟨rfl, hsz, hP, hE, hD0⟩ := hv
  have hx := B.exec
  have hb := B.bytes
  have hr := B.returns
  have hts := atoms_spec (ws := wsX6_swapSquare) B.pre
  have hown : s.vm.findClass RX6 = some m.cls := findClass_of_methodNamed B.named
  have hlocks := B.notSynchronized
  have hK := hE.1
  have hcf : CallFix p m c cX6_swapSquare 5 s ([.ref h, .int p1, .int p2, .int p3, .int p4] : List Value).toArray wsX6_swapSquare RX6 := ⟨hx, hb, hml, hown, hts⟩
  subst hsz
  have hD := hD0.self (sz := s.heap.size)
  generalize hAe : va_A [(h, .inr (5, [.ref h_cells, .int h_size])), (h_cells, .inl (cI, 64, .inl h_cells_f))] s.heap.size = A at hD ⊢
  have hA : ∀ q : Nat, s.heap.size ≤ q → A q := fun q h => by rw [← hAe]; exact Or.inr h
  have hS : va_S A s.heap s.heap [] := va_S.rf
  have hP : va_P D vwCl [(h, .inr (5, [.ref h_cells, .int h_size])), (h_cells, .inl (cI, 64, .inl h_cells_f))] s.heap := hP
  have hl := lv_entry ([.ref h, .int p1, .int p2, .int p3, .int p4]) (n := 5) (Nat.le_of_ble_eq_true rfl)
  rw [lg_entry_eq]
  generalize (lg_sl ([.ref h, .int p1, .int p2, .int p3, .int p4]) ++ List.replicate (5 - (lg_sl ([.ref h, .int p1, .int p2, .int p3, .int p4])).length) Slot.unset).toArray = ls at hl ⊢
  have hl : lv_has ls 5 [(0, .ref h), (1, .int p1), (2, .int p2), (3, .int p3), (4, .int p4)] := hl
  unfold mX6_swapSquare at h0
  refine lv_aload_n hx hb dX6_swapSquare_0 rfl (lv_at hl 0 rfl) ?_
  refine lv_iload_n hx hb dX6_swapSquare_1 rfl (lv_at hl 1 rfl) ?_
  refine lv_iload_n hx hb dX6_swapSquare_2 rfl (lv_at hl 3 rfl) ?_
  refine lv_iload_n hx hb dX6_swapSquare_3 rfl (lv_at hl 1 rfl) ?_
  refine lv_iload hx hb dX6_swapSquare_4 (lv_at hl 4 rfl) ?_
  obtain ⟨z_1, hz, h0⟩ := bd_ok h0
  refine wr_V (As := [.int p1, .int p3, .int p1, .int p4]) (rest := []) (wc := [(h, .inr (5, [.ref h_cells, .int h_size])), (h_cells, .inl (cI, 64, .inl h_cells_f))]) (wr := []) hcf (kX6_exchange l D cI cC cT h h_cells h_cells_f h_size p1 p3 p1 p4 _ z_1 hz) (cwV 4 hts gX6_swapSquare_X6_exchange rfl rfl rfl (by decide +kernel) ⟨Nat.le_of_ble_eq_true rfl, Nat.le_of_ble_eq_true rfl⟩) hE hP hD hS hA [0, 1] [] (hP.sub [0, 1] rfl) (hD.sub [0, 1] (by decide) rfl) (va_recv hK hP (ci := 5) (q0 := 0) rfl rfl) rfl rfl (by decide) (by decide) rfl hl.1 rfl (Nat.le_of_ble_eq_true rfl) dX6_swapSquare_6 ⟨Nat.le_of_ble_eq_true rfl, Nat.le_of_ble_eq_true rfl⟩ (fun u H locs hP hD hS => ?_)
  have hP : va_P D vwCl [(h, .inr (5, [.ref h_cells, .int h_size])), (h_cells, .inl (cI, 64, .inl z_1))] H := hP
  have hD : va_D A [(h, .inr (5, [.ref h_cells, .int h_size])), (h_cells, .inl (cI, 64, .inl z_1))] := hD
  refine W.eq (g2 := F0 m 9 ls []) rfl ?_
  refine lv_aload_n hx hb dX6_swapSquare_9 rfl (lv_at hl 0 rfl) ?_
  refine lv_iload_n hx hb dX6_swapSquare_10 rfl (lv_at hl 2 rfl) ?_
  refine lv_iload_n hx hb dX6_swapSquare_11 rfl (lv_at hl 3 rfl) ?_
  refine lv_iload_n hx hb dX6_swapSquare_12 rfl (lv_at hl 2 rfl) ?_
  refine lv_iload hx hb dX6_swapSquare_13 (lv_at hl 4 rfl) ?_
  obtain ⟨z_2, hz, h0⟩ := bd_ok h0
  refine wr_V (As := [.int p2, .int p3, .int p2, .int p4]) (rest := []) (wc := [(h, .inr (5, [.ref h_cells, .int h_size])), (h_cells, .inl (cI, 64, .inl z_1))]) (wr := []) hcf (kX6_exchange l D cI cC cT h h_cells z_1 h_size p2 p3 p2 p4 _ z_2 hz) (cwV 4 hts gX6_swapSquare_X6_exchange rfl rfl rfl (by decide +kernel) ⟨Nat.le_of_ble_eq_true rfl, Nat.le_of_ble_eq_true rfl⟩) hE hP hD hS hA [0, 1] [] (hP.sub [0, 1] rfl) (hD.sub [0, 1] (by decide) rfl) (va_recv hK hP (ci := 5) (q0 := 0) rfl rfl) rfl rfl (by decide) (by decide) rfl hl.1 rfl (Nat.le_of_ble_eq_true rfl) dX6_swapSquare_15 ⟨Nat.le_of_ble_eq_true rfl, Nat.le_of_ble_eq_true rfl⟩ (fun u H locs hP hD hS => ?_)
  have hP : va_P D vwCl [(h, .inr (5, [.ref h_cells, .int h_size])), (h_cells, .inl (cI, 64, .inl z_2))] H := hP
  have hD : va_D A [(h, .inr (5, [.ref h_cells, .int h_size])), (h_cells, .inl (cI, 64, .inl z_2))] := hD
  refine W.eq (g2 := F0 m 18 ls []) rfl ?_
  have e0 := Option.some.inj h0
  subst e0
  exact W.vret hx hb hr (fun t ht hW => wr_end () ht hP hD hS) hS.2.2 dX6_swapSquare_18
noncomputable def mX6_differencesTo_L15 (h_cells_f : Nat → Int32) (h_size : Int32) (p1_cells_f : Nat → Int32) (x3_4 : Int32) (k15_50 : Int32 → Int32 → Option (Int32)) : Nat → Int32 → Int32 → Option (Int32)
  | 0, _, _ => none
  | F + 1, x4_9, x2_10 => if h_size ≤ x4_9 then (k15_50 x4_9 x2_10) else (bd (mX6_at h_cells_f x3_4 x4_9) (fun z_11 => bd (mX6_at p1_cells_f x3_4 x4_9) (fun z_12 => if z_11 = z_12 then (mX6_differencesTo_L15 h_cells_f h_size p1_cells_f x3_4 k15_50 F (x4_9 + 1) x2_10) else (mX6_differencesTo_L15 h_cells_f h_size p1_cells_f x3_4 k15_50 F (x4_9 + 1) (x2_10 + 1)))))
noncomputable def mX6_differencesTo_L4 (h_cells_f : Nat → Int32) (h_size : Int32) (p1_cells_f : Nat → Int32) (k4_56 : Int32 → Int32 → Option (Int32)) : Nat → Int32 → Int32 → Option (Int32)
  | 0, _, _ => none
  | F + 1, x3_4, x2_5 => if h_size ≤ x3_4 then (k4_56 x3_4 x2_5) else (mX6_differencesTo_L15 h_cells_f h_size p1_cells_f x3_4 (fun (x4_6 : Int32) (x2_7 : Int32) => mX6_differencesTo_L4 h_cells_f h_size p1_cells_f k4_56 F (x3_4 + 1) x2_7) FU 0 x2_5)
noncomputable def mX6_differencesTo (h_cells_f : Nat → Int32) (h_size : Int32) (p1_cells_f : Nat → Int32) : Option (Int32) :=
  mX6_differencesTo_L4 h_cells_f h_size p1_cells_f (fun (x3_1 : Int32) (x2_2 : Int32) => some (x2_2)) FU 0 0
set_option maxHeartbeats 8000000 in
set_option maxRecDepth 100000 in
theorem kX6_differencesTo (l : Launch) (D : va_G) (cI cC cT : ClassId) (h h_cells p1 p1_cells : Nat) (h_cells_f : Nat → Int32) (h_size : Int32) (p1_cells_f : Nat → Int32) (p1_size : Int32) (z : Int32) (h0 : mX6_differencesTo h_cells_f h_size p1_cells_f = some z) : Met l yX6_differencesTo wsX6_differencesTo ({ frames := 1, cells := 0, slots := 0, locals := 23 } : Room) (va_Pc [.ref h, .ref p1] (rP D cI cC cT [(h, .inr (5, [.ref h_cells, .int h_size])), (h_cells, .inl (cI, 64, .inl h_cells_f)), (p1, .inr (5, [.ref p1_cells, .int p1_size])), (p1_cells, .inl (cI, 64, .inl p1_cells_f))])) (rQ (some (.int z))) 0 0 (fun _ => False) := by
  refine Met.ofW (cc := cX6_differencesTo) (maxL := 5) (ret := (some .int)) (by decide) rfl ?_
  intro p e s m args below meth c s₁ B hml hv
  obtain ⟨rfl, hP, hE⟩ := hv
  have hx := B.exec
  have hb := B.bytes
  have hr := B.returns
  have hts := atoms_spec (ws := wsX6_differencesTo) B.pre
  have hown : s.vm.findClass RX6 = some m.cls := findClass_of_methodNamed B.named
  have hlocks := B.notSynchronized
  have hK := hE.1
  have hcf : CallFix p m c cX6_differencesTo 5 s ([.ref h, .ref p1] : List Value).toArray wsX6_differencesTo RX6 := ⟨hx, hb, hml, hown, hts⟩
  have hP : va_P D vwCl [(h, .inr (5, [.ref h_cells, .int h_size])), (h_cells, .inl (cI, 64, .inl h_cells_f)), (p1, .inr (5, [.ref p1_cells, .int p1_size])), (p1_cells, .inl (cI, 64, .inl p1_cells_f))] s.heap := hP
  have hf_15 := hts (.fieldLink RX6 15 "CrookedSums$Table" "size" "I") (by decide +kernel)
  have hi_X6 := (show ∀ w ∈ u_ws RX6 TX6 2, w ∈ wsX6_differencesTo from by decide +kernel)
  have hl := lv_entry ([.ref h, .ref p1]) (n := 5) (Nat.le_of_ble_eq_true rfl)
  rw [lg_entry_eq]
  generalize (lg_sl ([.ref h, .ref p1]) ++ List.replicate (5 - (lg_sl ([.ref h, .ref p1])).length) Slot.unset).toArray = ls at hl ⊢
  have hl : lv_has ls 5 [(0, .ref h), (1, .ref p1)] := hl
  unfold mX6_differencesTo at h0
  refine lv_iconst (v := 0) hx hb dX6_differencesTo_0 (by decide) ?_
  refine lv_istore_n (lv' := [(2, .int 0), (0, .ref h), (1, .ref p1)]) hx hb dX6_differencesTo_1 rfl hl (by decide) rfl (fun ls hl => ?_)
  refine lv_iconst (v := 0) hx hb dX6_differencesTo_2 (by decide) ?_
  refine lv_istore_n (lv' := [(3, .int 0), (2, .int 0), (0, .ref h), (1, .ref p1)]) hx hb dX6_differencesTo_3 rfl hl (by decide) rfl (fun ls hl => ?_)
  have E_4_56_2 : ∀ (x3_1 : Int32) (x2_2 : Int32) (ls : Array Slot), (some (x2_2)) = some z → lv_has ls 5 [(3, .int x3_1), (2, .int x2_2), (0, .ref h), (1, .ref p1)] → W p l e (headSpec wsX6_differencesTo ({ frames := 1, cells := 0, slots := 0, locals := 23 } : Room)).room s m (([.ref h, .ref p1] : List Value).toArray) below meth c s.heap [] 0 0 (MQ below (rQ (some (.int z))) (([.ref h, .ref p1] : List Value).toArray) s 0 0 (fun _ => False)) (F0 m 56 ls []) := by
    intro x3_1 x2_2 ls h0 hl
    refine lv_iload_n hx hb dX6_differencesTo_56 rfl (lv_at hl 1 rfl) ?_
    have e0 := Option.some.inj h0
    subst e0
    exact W.iret (v := x2_2) hx hb hr (fun t ht hW => ⟨rfl, ht⟩) (fun q hq => absurd hq List.not_mem_nil) dX6_differencesTo_57
  have L_4_13 : ∀ (F4 : Nat) (x3_4 : Int32) (x2_5 : Int32) (ls : Array Slot), mX6_differencesTo_L4 h_cells_f h_size p1_cells_f (fun (x3_1 : Int32) (x2_2 : Int32) => some (x2_2)) F4 x3_4 x2_5 = some z → lv_has ls 5 [(3, .int x3_4), (2, .int x2_5), (0, .ref h), (1, .ref p1)] → W p l e (headSpec wsX6_differencesTo ({ frames := 1, cells := 0, slots := 0, locals := 23 } : Room)).room s m (([.ref h, .ref p1] : List Value).toArray) below meth c s.heap [] 0 0 (MQ below (rQ (some (.int z))) (([.ref h, .ref p1] : List Value).toArray) s 0 0 (fun _ => False)) (F0 m 4 ls []) := by
    intro F4
    induction F4 with
    | zero => intro x3_4 x2_5 ls h0 hl; cases h0
    | succ F4 ih4 =>
      intro x3_4 x2_5 ls h0 hl
      rw [mX6_differencesTo_L4] at h0
      refine lv_iload_n hx hb dX6_differencesTo_4 rfl (lv_at hl 0 rfl) ?_
      refine lv_aload_n hx hb dX6_differencesTo_5 rfl (lv_at hl 2 rfl) ?_
      refine va_get (D := D) (ci := 5) (v := .int h_size) (C := RX6) (T := TX6) (N := 2) hx hb hts hi_X6 hown hK hP 0 rfl rfl 1 (by decide) hf_15 (fun _ h9 => h9) rfl dX6_differencesTo_6 ?_
      refine lv_icmp_ge (tgt := 56) hx hb dX6_differencesTo_9 (by decide) (fun c9 => ?_) (fun c9 => ?_)
      · have h0 := it_t c9 h0
        exact E_4_56_2 x3_4 x2_5 ls h0 hl
      · have h0 := it_f c9 h0
        refine lv_iconst (v := 0) hx hb dX6_differencesTo_12 (by decide) ?_
        refine lv_istore (lv' := [(4, .int 0), (3, .int x3_4), (2, .int x2_5), (0, .ref h), (1, .ref p1)]) hx hb dX6_differencesTo_13 hl (by decide) rfl (fun ls hl => ?_)
        have E_15_50_7 : ∀ (x4_6 : Int32) (x2_7 : Int32) (ls : Array Slot), (mX6_differencesTo_L4 h_cells_f h_size p1_cells_f (fun (x3_1 : Int32) (x2_2 : Int32) => some (x2_2)) F4 (x3_4 + 1) x2_7) = some z → lv_has ls 5 [(4, .int x4_6), (3, .int x3_4), (2, .int x2_7), (0, .ref h), (1, .ref p1)] → W p l e (headSpec wsX6_differencesTo ({ frames := 1, cells := 0, slots := 0, locals := 23 } : Room)).room s m (([.ref h, .ref p1] : List Value).toArray) below meth c s.heap [] 0 0 (MQ below (rQ (some (.int z))) (([.ref h, .ref p1] : List Value).toArray) s 0 0 (fun _ => False)) (F0 m 50 ls []) := by
          intro x4_6 x2_7 ls h0 hl
          refine lv_iinc (v := (x3_4 + 1)) (lv' := [(3, .int (x3_4 + 1)), (4, .int x4_6), (2, .int x2_7), (0, .ref h), (1, .ref p1)]) hx hb dX6_differencesTo_50 hl (k := 1) rfl rfl (by decide) rfl (fun ls hl => ?_)
          refine lv_goto (tgt := 4) hx hb dX6_differencesTo_53 (by decide) ?_
          exact ih4 (x3_4 + 1) x2_7 ls h0 (lv_sub hl [0, 2, 3, 4] rfl)
        have L_15_12 : ∀ (F15 : Nat) (x4_9 : Int32) (x2_10 : Int32) (ls : Array Slot), mX6_differencesTo_L15 h_cells_f h_size p1_cells_f x3_4 (fun (x4_6 : Int32) (x2_7 : Int32) => mX6_differencesTo_L4 h_cells_f h_size p1_cells_f (fun (x3_1 : Int32) (x2_2 : Int32) => some (x2_2)) F4 (x3_4 + 1) x2_7) F15 x4_9 x2_10 = some z → lv_has ls 5 [(4, .int x4_9), (3, .int x3_4), (2, .int x2_10), (0, .ref h), (1, .ref p1)] → W p l e (headSpec wsX6_differencesTo ({ frames := 1, cells := 0, slots := 0, locals := 23 } : Room)).room s m (([.ref h, .ref p1] : List Value).toArray) below meth c s.heap [] 0 0 (MQ below (rQ (some (.int z))) (([.ref h, .ref p1] : List Value).toArray) s 0 0 (fun _ => False)) (F0 m 15 ls []) := by
          intro F15
          induction F15 with
          | zero => intro x4_9 x2_10 ls h0 hl; cases h0
          | succ F15 ih15 =>
            intro x4_9 x2_10 ls h0 hl
            rw [mX6_differencesTo_L15] at h0
            refine lv_iload hx hb dX6_differencesTo_15 (lv_at hl 0 rfl) ?_
            refine lv_aload_n hx hb dX6_differencesTo_17 rfl (lv_at hl 3 rfl) ?_
            refine va_get (D := D) (ci := 5) (v := .int h_size) (C := RX6) (T := TX6) (N := 2) hx hb hts hi_X6 hown hK hP 0 rfl rfl 1 (by decide) hf_15 (fun _ h9 => h9) rfl dX6_differencesTo_18 ?_
            refine lv_icmp_ge (tgt := 50) hx hb dX6_differencesTo_21 (by decide) (fun c9 => ?_) (fun c9 => ?_)
            · have h0 := it_t c9 h0
              exact E_15_50_7 x4_9 x2_10 ls h0 hl
            · have h0 := it_f c9 h0
              refine lv_aload_n hx hb dX6_differencesTo_24 rfl (lv_at hl 3 rfl) ?_
              refine lv_iload_n hx hb dX6_differencesTo_25 rfl (lv_at hl 1 rfl) ?_
              refine lv_iload hx hb dX6_differencesTo_26 (lv_at hl 0 rfl) ?_
              obtain ⟨z_11, hz, h0⟩ := bd_ok h0
              refine ro_V (As := [.int x3_4, .int x4_9]) (rest := []) (wc := [(h, .inr (5, [.ref h_cells, .int h_size])), (h_cells, .inl (cI, 64, .inl h_cells_f))]) hcf (kX6_at l D cI cC cT h h_cells h_cells_f h_size x3_4 x4_9 z_11 hz) (cwV 2 hts gX6_differencesTo_X6_at rfl rfl rfl (by decide +kernel) ⟨Nat.le_of_ble_eq_true rfl, Nat.le_of_ble_eq_true rfl⟩) hE (hP.sub [0, 1] rfl) (va_recv hK hP (ci := 5) (q0 := 0) rfl rfl) rfl hl.1 rfl (Nat.le_of_ble_eq_true rfl) dX6_differencesTo_28 ⟨Nat.le_of_ble_eq_true rfl, Nat.le_of_ble_eq_true rfl⟩ ?_
              refine W.eq (g2 := F0 m 31 ls [.int z_11]) rfl ?_
              refine lv_aload_n hx hb dX6_differencesTo_31 rfl (lv_at hl 4 rfl) ?_
              refine lv_iload_n hx hb dX6_differencesTo_32 rfl (lv_at hl 1 rfl) ?_
              refine lv_iload hx hb dX6_differencesTo_33 (lv_at hl 0 rfl) ?_
              obtain ⟨z_12, hz, h0⟩ := bd_ok h0
              refine ro_V (As := [.int x3_4, .int x4_9]) (rest := [.int z_11]) (wc := [(p1, .inr (5, [.ref p1_cells, .int p1_size])), (p1_cells, .inl (cI, 64, .inl p1_cells_f))]) hcf (kX6_at l D cI cC cT p1 p1_cells p1_cells_f p1_size x3_4 x4_9 z_12 hz) (cwV 2 hts gX6_differencesTo_X6_at rfl rfl rfl (by decide +kernel) ⟨Nat.le_of_ble_eq_true rfl, Nat.le_of_ble_eq_true rfl⟩) hE (hP.sub [2, 3] rfl) (va_recv hK hP (ci := 5) (q0 := 2) rfl rfl) rfl hl.1 rfl (Nat.le_of_ble_eq_true rfl) dX6_differencesTo_35 ⟨Nat.le_of_ble_eq_true rfl, Nat.le_of_ble_eq_true rfl⟩ ?_
              refine W.eq (g2 := F0 m 38 ls [.int z_12, .int z_11]) rfl ?_
              refine lv_icmp_eq (tgt := 44) hx hb dX6_differencesTo_38 (by decide) (fun c9 => ?_) (fun c9 => ?_)
              · have h0 := it_t c9 h0
                refine lv_iinc (v := (x4_9 + 1)) (lv' := [(4, .int (x4_9 + 1)), (3, .int x3_4), (2, .int x2_10), (0, .ref h), (1, .ref p1)]) hx hb dX6_differencesTo_44 hl (k := 0) rfl rfl (by decide) rfl (fun ls hl => ?_)
                refine lv_goto (tgt := 15) hx hb dX6_differencesTo_47 (by decide) ?_
                exact ih15 (x4_9 + 1) x2_10 ls h0 hl
              · have h0 := it_f c9 h0
                refine lv_iinc (v := (x2_10 + 1)) (lv' := [(2, .int (x2_10 + 1)), (4, .int x4_9), (3, .int x3_4), (0, .ref h), (1, .ref p1)]) hx hb dX6_differencesTo_41 hl (k := 2) rfl rfl (by decide) rfl (fun ls hl => ?_)
                refine lv_iinc (v := (x4_9 + 1)) (lv' := [(4, .int (x4_9 + 1)), (2, .int (x2_10 + 1)), (3, .int x3_4), (0, .ref h), (1, .ref p1)]) hx hb dX6_differencesTo_44 hl (k := 1) rfl rfl (by decide) rfl (fun ls hl => ?_)
                refine lv_goto (tgt := 15) hx hb dX6_differencesTo_47 (by decide) ?_
                exact ih15 (x4_9 + 1) (x2_10 + 1) ls h0 (lv_sub hl [0, 2, 1, 3, 4] rfl)
        exact L_15_12 FU 0 x2_5 ls h0 hl
  exact L_4_13 FU 0 0 ls h0 hl
noncomputable def mX6_makeNew_L23 (p1 : Int32) (p2 : Int32) (x3_4 : Int32) (k23_53 : Int32 → (Nat → Int32) → Option ((Nat → Int32) × Int32)) : Nat → Int32 → (Nat → Int32) → Option ((Nat → Int32) × Int32)
  | 0, _, _ => none
  | F + 1, x4_9, f_10 => if p1 ≤ x4_9 then (k23_53 x4_9 f_10) else (gd (nzb p1) (bd (mX6_set f_10 x3_4 x4_9 (((p2 * x3_4) + x4_9) - ((p2 * x3_4) + x4_9) / p1 * p1)) (fun z_11 => mX6_makeNew_L23 p1 p2 x3_4 k23_53 F (x4_9 + 1) z_11)))
noncomputable def mX6_makeNew_L12 (p1 : Int32) (p2 : Int32) (k12_59 : Int32 → (Nat → Int32) → Option ((Nat → Int32) × Int32)) : Nat → Int32 → (Nat → Int32) → Option ((Nat → Int32) × Int32)
  | 0, _, _ => none
  | F + 1, x3_4, f_5 => if p1 ≤ x3_4 then (k12_59 x3_4 f_5) else (mX6_makeNew_L23 p1 p2 x3_4 (fun (x4_6 : Int32) (f_7 : Nat → Int32) => mX6_makeNew_L12 p1 p2 k12_59 F (x3_4 + 1) f_7) FU 0 f_5)
noncomputable def mX6_makeNew (h_cells_f : Nat → Int32) (h_size : Int32) (p1 : Int32) (p2 : Int32) : Option ((Nat → Int32) × Int32) :=
  if (0 : Int32) < p1 then (mX6_makeNew_L12 p1 p2 (fun (x3_1 : Int32) (f_2 : Nat → Int32) => some (f_2, p1)) FU 0 h_cells_f) else (some (h_cells_f, h_size))
set_option maxHeartbeats 8000000 in
set_option maxRecDepth 100000 in
theorem kX6_makeNew (l : Launch) (D : va_G) (cI cC cT : ClassId) (h h_cells : Nat) (h_cells_f : Nat → Int32) (h_size : Int32) (p1 : Int32) (p2 : Int32) (sz : Nat) (z : (Nat → Int32) × Int32) (h0 : mX6_makeNew h_cells_f h_size p1 p2 = some z) : Met l yX6_makeNew wsX6_makeNew ({ frames := 2, cells := 0, slots := 0, locals := 45 } : Room) (va_Pc [.ref h, .int p1, .int p2] (wP D cI cC cT [(h, .inr (5, [.ref h_cells, .int h_size])), (h_cells, .inl (cI, 64, .inl h_cells_f))] sz)) (wQ D none (va_A [(h, .inr (5, [.ref h_cells, .int h_size])), (h_cells, .inl (cI, 64, .inl h_cells_f))] sz) (fun (u : Unit) => [(h, .inr (5, [.ref h_cells, .int z.2])), (h_cells, .inl (cI, 64, .inl z.1))])) 0 0 (va_A [(h, .inr (5, [.ref h_cells, .int h_size])), (h_cells, .inl (cI, 64, .inl h_cells_f))] sz) := by
  refine Met.ofW (cc := cX6_makeNew) (maxL := 5) (ret := none) (by decide) rfl ?_
  intro p e s m args below meth c s₁ B hml hv
  obtain ⟨rfl, hsz, hP, hE, hD0⟩ := hv
  have hx := B.exec
  have hb := B.bytes
  have hr := B.returns
  have hts := atoms_spec (ws := wsX6_makeNew) B.pre
  have hown : s.vm.findClass RX6 = some m.cls := findClass_of_methodNamed B.named
  have hlocks := B.notSynchronized
  have hK := hE.1
  have hcf : CallFix p m c cX6_makeNew 5 s ([.ref h, .int p1, .int p2] : List Value).toArray wsX6_makeNew RX6 := ⟨hx, hb, hml, hown, hts⟩
  subst hsz
  have hD := hD0.self (sz := s.heap.size)
  generalize hAe : va_A [(h, .inr (5, [.ref h_cells, .int h_size])), (h_cells, .inl (cI, 64, .inl h_cells_f))] s.heap.size = A at hD ⊢
  have hA : ∀ q : Nat, s.heap.size ≤ q → A q := fun q h => by rw [← hAe]; exact Or.inr h
  have hS : va_S A s.heap s.heap [] := va_S.rf
  have hP : va_P D vwCl [(h, .inr (5, [.ref h_cells, .int h_size])), (h_cells, .inl (cI, 64, .inl h_cells_f))] s.heap := hP
  have hf_15 := hts (.fieldLink RX6 15 "CrookedSums$Table" "size" "I") (by decide +kernel)
  have hi_X6 := (show ∀ w ∈ u_ws RX6 TX6 2, w ∈ wsX6_makeNew from by decide +kernel)
  have hl := lv_entry ([.ref h, .int p1, .int p2]) (n := 5) (Nat.le_of_ble_eq_true rfl)
  rw [lg_entry_eq]
  generalize (lg_sl ([.ref h, .int p1, .int p2]) ++ List.replicate (5 - (lg_sl ([.ref h, .int p1, .int p2])).length) Slot.unset).toArray = ls at hl ⊢
  have hl : lv_has ls 5 [(0, .ref h), (1, .int p1), (2, .int p2)] := hl
  unfold mX6_makeNew at h0
  refine lv_iload_n hx hb dX6_makeNew_0 rfl (lv_at hl 1 rfl) ?_
  refine lv_if_gt (tgt := 5) hx hb dX6_makeNew_1 (by decide) (fun c9 => ?_) (fun c9 => ?_)
  · have h0 := it_t c9 h0
    refine lv_aload_n hx hb dX6_makeNew_5 rfl (lv_at hl 0 rfl) ?_
    refine lv_iload_n hx hb dX6_makeNew_6 rfl (lv_at hl 1 rfl) ?_
    refine va_put (D := D) (ci := 5) (v := .int p1) (ty := .int) (C := RX6) (T := TX6) (N := 2) hx hb hts hi_X6 tyX6 tyX6_ok nmX6 hown hK hP hD hS 0 rfl rfl 1 (by decide) hf_15 (fun _ h9 => h9) rfl (by decide +kernel) rfl rfl (Nat.le_of_ble_eq_true rfl) dX6_makeNew_7 (fun H locs hP hD hS => ?_)
    have hP : va_P D vwCl [(h, .inr (5, [.ref h_cells, .int p1])), (h_cells, .inl (cI, 64, .inl h_cells_f))] H := hP
    have hD : va_D A [(h, .inr (5, [.ref h_cells, .int p1])), (h_cells, .inl (cI, 64, .inl h_cells_f))] := hD
    refine lv_iconst (v := 0) hx hb dX6_makeNew_10 (by decide) ?_
    refine lv_istore_n (lv' := [(3, .int 0), (0, .ref h), (1, .int p1), (2, .int p2)]) hx hb dX6_makeNew_11 rfl hl (by decide) rfl (fun ls hl => ?_)
    have E_12_59_2 : ∀ (x3_1 : Int32) (f_2 : Nat → Int32) (H : Heap) (locs : List Loc) (ls : Array Slot), (some (f_2, p1)) = some z → va_P D vwCl [(h, .inr (5, [.ref h_cells, .int p1])), (h_cells, .inl (cI, 64, .inl f_2))] H → va_D A [(h, .inr (5, [.ref h_cells, .int p1])), (h_cells, .inl (cI, 64, .inl f_2))] → va_S A s.heap H locs → lv_has ls 5 [(3, .int x3_1), (0, .ref h), (1, .int p1), (2, .int p2)] → W p l e (headSpec wsX6_makeNew ({ frames := 2, cells := 0, slots := 0, locals := 45 } : Room)).room s m (([.ref h, .int p1, .int p2] : List Value).toArray) below meth c H locs 0 0 (MQ below (wQ D none A (fun (u : Unit) => [(h, .inr (5, [.ref h_cells, .int z.2])), (h_cells, .inl (cI, 64, .inl z.1))])) (([.ref h, .int p1, .int p2] : List Value).toArray) s 0 0 A) (F0 m 59 ls []) := by
      intro x3_1 f_2 H locs ls h0 hP hD hS hl
      have e0 := Option.some.inj h0
      subst e0
      exact W.vret hx hb hr (fun t ht hW => wr_end () ht hP hD hS) hS.2.2 dX6_makeNew_59
    have L_12_12 : ∀ (F12 : Nat) (x3_4 : Int32) (f_5 : Nat → Int32) (H : Heap) (locs : List Loc) (ls : Array Slot), mX6_makeNew_L12 p1 p2 (fun (x3_1 : Int32) (f_2 : Nat → Int32) => some (f_2, p1)) F12 x3_4 f_5 = some z → va_P D vwCl [(h, .inr (5, [.ref h_cells, .int p1])), (h_cells, .inl (cI, 64, .inl f_5))] H → va_D A [(h, .inr (5, [.ref h_cells, .int p1])), (h_cells, .inl (cI, 64, .inl f_5))] → va_S A s.heap H locs → lv_has ls 5 [(3, .int x3_4), (0, .ref h), (1, .int p1), (2, .int p2)] → W p l e (headSpec wsX6_makeNew ({ frames := 2, cells := 0, slots := 0, locals := 45 } : Room)).room s m (([.ref h, .int p1, .int p2] : List Value).toArray) below meth c H locs 0 0 (MQ below (wQ D none A (fun (u : Unit) => [(h, .inr (5, [.ref h_cells, .int z.2])), (h_cells, .inl (cI, 64, .inl z.1))])) (([.ref h, .int p1, .int p2] : List Value).toArray) s 0 0 A) (F0 m 12 ls []) := by
      intro F12
      induction F12 with
      | zero => intro x3_4 f_5 H locs ls h0 hP hD hS hl; cases h0
      | succ F12 ih12 =>
        intro x3_4 f_5 H locs ls h0 hP hD hS hl
        rw [mX6_makeNew_L12] at h0
        refine lv_iload_n hx hb dX6_makeNew_12 rfl (lv_at hl 0 rfl) ?_
        refine lv_aload_n hx hb dX6_makeNew_13 rfl (lv_at hl 1 rfl) ?_
        refine va_get (D := D) (ci := 5) (v := .int p1) (C := RX6) (T := TX6) (N := 2) hx hb hts hi_X6 hown hK hP 0 rfl rfl 1 (by decide) hf_15 (fun _ h9 => h9) rfl dX6_makeNew_14 ?_
        refine lv_icmp_ge (tgt := 59) hx hb dX6_makeNew_17 (by decide) (fun c9 => ?_) (fun c9 => ?_)
        · have h0 := it_t c9 h0
          exact E_12_59_2 x3_4 f_5 _ _ ls h0 hP hD hS hl
        · have h0 := it_f c9 h0
          refine lv_iconst (v := 0) hx hb dX6_makeNew_20 (by decide) ?_
          refine lv_istore (lv' := [(4, .int 0), (3, .int x3_4), (0, .ref h), (1, .int p1), (2, .int p2)]) hx hb dX6_makeNew_21 hl (by decide) rfl (fun ls hl => ?_)
          have E_23_53_7 : ∀ (x4_6 : Int32) (f_7 : Nat → Int32) (H : Heap) (locs : List Loc) (ls : Array Slot), (mX6_makeNew_L12 p1 p2 (fun (x3_1 : Int32) (f_2 : Nat → Int32) => some (f_2, p1)) F12 (x3_4 + 1) f_7) = some z → va_P D vwCl [(h, .inr (5, [.ref h_cells, .int p1])), (h_cells, .inl (cI, 64, .inl f_7))] H → va_D A [(h, .inr (5, [.ref h_cells, .int p1])), (h_cells, .inl (cI, 64, .inl f_7))] → va_S A s.heap H locs → lv_has ls 5 [(4, .int x4_6), (3, .int x3_4), (0, .ref h), (1, .int p1), (2, .int p2)] → W p l e (headSpec wsX6_makeNew ({ frames := 2, cells := 0, slots := 0, locals := 45 } : Room)).room s m (([.ref h, .int p1, .int p2] : List Value).toArray) below meth c H locs 0 0 (MQ below (wQ D none A (fun (u : Unit) => [(h, .inr (5, [.ref h_cells, .int z.2])), (h_cells, .inl (cI, 64, .inl z.1))])) (([.ref h, .int p1, .int p2] : List Value).toArray) s 0 0 A) (F0 m 53 ls []) := by
            intro x4_6 f_7 H locs ls h0 hP hD hS hl
            refine lv_iinc (v := (x3_4 + 1)) (lv' := [(3, .int (x3_4 + 1)), (4, .int x4_6), (0, .ref h), (1, .int p1), (2, .int p2)]) hx hb dX6_makeNew_53 hl (k := 1) rfl rfl (by decide) rfl (fun ls hl => ?_)
            refine lv_goto (tgt := 12) hx hb dX6_makeNew_56 (by decide) ?_
            exact ih12 (x3_4 + 1) f_7 _ _ ls h0 hP hD hS (lv_sub hl [0, 2, 3, 4] rfl)
          have L_23_11 : ∀ (F23 : Nat) (x4_9 : Int32) (f_10 : Nat → Int32) (H : Heap) (locs : List Loc) (ls : Array Slot), mX6_makeNew_L23 p1 p2 x3_4 (fun (x4_6 : Int32) (f_7 : Nat → Int32) => mX6_makeNew_L12 p1 p2 (fun (x3_1 : Int32) (f_2 : Nat → Int32) => some (f_2, p1)) F12 (x3_4 + 1) f_7) F23 x4_9 f_10 = some z → va_P D vwCl [(h, .inr (5, [.ref h_cells, .int p1])), (h_cells, .inl (cI, 64, .inl f_10))] H → va_D A [(h, .inr (5, [.ref h_cells, .int p1])), (h_cells, .inl (cI, 64, .inl f_10))] → va_S A s.heap H locs → lv_has ls 5 [(4, .int x4_9), (3, .int x3_4), (0, .ref h), (1, .int p1), (2, .int p2)] → W p l e (headSpec wsX6_makeNew ({ frames := 2, cells := 0, slots := 0, locals := 45 } : Room)).room s m (([.ref h, .int p1, .int p2] : List Value).toArray) below meth c H locs 0 0 (MQ below (wQ D none A (fun (u : Unit) => [(h, .inr (5, [.ref h_cells, .int z.2])), (h_cells, .inl (cI, 64, .inl z.1))])) (([.ref h, .int p1, .int p2] : List Value).toArray) s 0 0 A) (F0 m 23 ls []) := by
            intro F23
            induction F23 with
            | zero => intro x4_9 f_10 H locs ls h0 hP hD hS hl; cases h0
            | succ F23 ih23 =>
              intro x4_9 f_10 H locs ls h0 hP hD hS hl
              rw [mX6_makeNew_L23] at h0
              refine lv_iload hx hb dX6_makeNew_23 (lv_at hl 0 rfl) ?_
              refine lv_aload_n hx hb dX6_makeNew_25 rfl (lv_at hl 2 rfl) ?_
              refine va_get (D := D) (ci := 5) (v := .int p1) (C := RX6) (T := TX6) (N := 2) hx hb hts hi_X6 hown hK hP 0 rfl rfl 1 (by decide) hf_15 (fun _ h9 => h9) rfl dX6_makeNew_26 ?_
              refine lv_icmp_ge (tgt := 53) hx hb dX6_makeNew_29 (by decide) (fun c9 => ?_) (fun c9 => ?_)
              · have h0 := it_t c9 h0
                exact E_23_53_7 x4_9 f_10 _ _ ls h0 hP hD hS hl
              · have h0 := it_f c9 h0
                refine lv_aload_n hx hb dX6_makeNew_32 rfl (lv_at hl 2 rfl) ?_
                refine lv_iload_n hx hb dX6_makeNew_33 rfl (lv_at hl 1 rfl) ?_
                refine lv_iload hx hb dX6_makeNew_34 (lv_at hl 0 rfl) ?_
                refine lv_iload_n hx hb dX6_makeNew_36 rfl (lv_at hl 4 rfl) ?_
                refine lv_iload_n hx hb dX6_makeNew_37 rfl (lv_at hl 1 rfl) ?_
                refine lv_imul hx hb dX6_makeNew_38 ?_
                refine lv_iload hx hb dX6_makeNew_39 (lv_at hl 0 rfl) ?_
                refine lv_iadd hx hb dX6_makeNew_41 ?_
                refine lv_iload_n hx hb dX6_makeNew_42 rfl (lv_at hl 3 rfl) ?_
                obtain ⟨g0, h0⟩ := gd_ok h0
                refine lv_irem hx hb dX6_makeNew_43 (nzb_ok g0) ?_
                obtain ⟨z_11, hz, h0⟩ := bd_ok h0
                refine wr_V (As := [.int x3_4, .int x4_9, .int (((p2 * x3_4) + x4_9) - ((p2 * x3_4) + x4_9) / p1 * p1)]) (rest := []) (wc := [(h, .inr (5, [.ref h_cells, .int p1])), (h_cells, .inl (cI, 64, .inl f_10))]) (wr := []) hcf (kX6_set l D cI cC cT h h_cells f_10 p1 x3_4 x4_9 (((p2 * x3_4) + x4_9) - ((p2 * x3_4) + x4_9) / p1 * p1) _ z_11 hz) (cwV 3 hts gX6_makeNew_X6_set rfl rfl rfl (by decide +kernel) ⟨Nat.le_of_ble_eq_true rfl, Nat.le_of_ble_eq_true rfl⟩) hE hP hD hS hA [0, 1] [] (hP.sub [0, 1] rfl) (hD.sub [0, 1] (by decide) rfl) (va_recv hK hP (ci := 5) (q0 := 0) rfl rfl) rfl rfl (by decide) (by decide) rfl hl.1 rfl (Nat.le_of_ble_eq_true rfl) dX6_makeNew_44 ⟨Nat.le_of_ble_eq_true rfl, Nat.le_of_ble_eq_true rfl⟩ (fun u H locs hP hD hS => ?_)
                have hP : va_P D vwCl [(h, .inr (5, [.ref h_cells, .int p1])), (h_cells, .inl (cI, 64, .inl z_11))] H := hP
                have hD : va_D A [(h, .inr (5, [.ref h_cells, .int p1])), (h_cells, .inl (cI, 64, .inl z_11))] := hD
                refine W.eq (g2 := F0 m 47 ls []) rfl ?_
                refine lv_iinc (v := (x4_9 + 1)) (lv' := [(4, .int (x4_9 + 1)), (3, .int x3_4), (0, .ref h), (1, .int p1), (2, .int p2)]) hx hb dX6_makeNew_47 hl (k := 0) rfl rfl (by decide) rfl (fun ls hl => ?_)
                refine lv_goto (tgt := 23) hx hb dX6_makeNew_50 (by decide) ?_
                exact ih23 (x4_9 + 1) z_11 _ _ ls h0 hP hD hS hl
          exact L_23_11 FU 0 f_5 _ _ ls h0 hP hD hS hl
    exact L_12_12 FU 0 h_cells_f _ _ ls h0 hP hD hS hl
  · have h0 := it_f c9 h0
    have e0 := Option.some.inj h0
    subst e0
    exact W.vret hx hb hr (fun t ht hW => wr_end () ht hP hD hS) hS.2.2 dX6_makeNew_4
