noncomputable def mX6_exchangeColumns_L2 (h_size : Int32) (p1 : Int32) (p2 : Int32) (k2_24 : Int32 → (Nat → Int32) → Option ((Nat → Int32))) : Nat → Int32 → (Nat → Int32) → Option ((Nat → Int32))
  | 0, _, _ => none
  | F + 1, x3_4, f_5 => if h_size ≤ x3_4 then (k2_24 x3_4 f_5) else (bd (mX6_exchange f_5 x3_4 p1 x3_4 p2) (fun z_6 => mX6_exchangeColumns_L2 h_size p1 p2 k2_24 F (x3_4 + 1) z_6))
noncomputable def mX6_exchangeColumns (h_cells_f : Nat → Int32) (h_size : Int32) (p1 : Int32) (p2 : Int32) : Option ((Nat → Int32)) :=
  mX6_exchangeColumns_L2 h_size p1 p2 (fun (x3_1 : Int32) (f_2 : Nat → Int32) => some (f_2)) FU 0 h_cells_f
set_option maxHeartbeats 8000000 in
set_option maxRecDepth 100000 in
theorem kX6_exchangeColumns (l : Launch) (D : va_G) (cI cC cT : ClassId) (h h_cells : Nat) (h_cells_f : Nat → Int32) (h_size : Int32) (p1 : Int32) (p2 : Int32) (sz : Nat) (z : (Nat → Int32)) (h0 : mX6_exchangeColumns h_cells_f h_size p1 p2 = some z) : Met l yX6_exchangeColumns wsX6_exchangeColumns ({ frames := 3, cells := 0, slots := 0, locals := 70 } : Room) (va_Pc [.ref h, .int p1, .int p2] (wP D cI cC cT [(h, .inr (5, [.ref h_cells, .int h_size])), (h_cells, .inl (cI, 64, .inl h_cells_f))] sz)) (wQ D none (va_A [(h, .inr (5, [.ref h_cells, .int h_size])), (h_cells, .inl (cI, 64, .inl h_cells_f))] sz) (fun (u : Unit) => [(h, .inr (5, [.ref h_cells, .int h_size])), (h_cells, .inl (cI, 64, .inl z))])) 0 0 (va_A [(h, .inr (5, [.ref h_cells, .int h_size])), (h_cells, .inl (cI, 64, .inl h_cells_f))] sz) := by
  refine Met.ofW (cc := cX6_exchangeColumns) (maxL := 4) (ret := none) (by decide) rfl ?_
  intro p e s m args below meth c s₁ B hml hv
  obtain ⟨rfl, hsz, hP, hE, hD0⟩ := hv
  have hx := B.exec
  have hb := B.bytes
  have hr := B.returns
  have hts := atoms_spec (ws := wsX6_exchangeColumns) B.pre
  have hown : s.vm.findClass RX6 = some m.cls := findClass_of_methodNamed B.named
  have hlocks := B.notSynchronized
  have hK := hE.1
  have hcf : CallFix p m c cX6_exchangeColumns 4 s ([.ref h, .int p1, .int p2] : List Value).toArray wsX6_exchangeColumns RX6 := ⟨hx, hb, hml, hown, hts⟩
  subst hsz
  have hD := hD0.self (sz := s.heap.size)
  generalize hAe : va_A [(h, .inr (5, [.ref h_cells, .int h_size])), (h_cells, .inl (cI, 64, .inl h_cells_f))] s.heap.size = A at hD ⊢
  have hA : ∀ q : Nat, s.heap.size ≤ q → A q := fun q h => by rw [← hAe]; exact Or.inr h
  have hS : va_S A s.heap s.heap [] := va_S.rf
  have hP : va_P D vwCl [(h, .inr (5, [.ref h_cells, .int h_size])), (h_cells, .inl (cI, 64, .inl h_cells_f))] s.heap := hP
  have hf_15 := hts (.fieldLink RX6 15 "CrookedSums$Table" "size" "I") (by decide +kernel)
  have hi_X6 := (show ∀ w ∈ u_ws RX6 TX6 2, w ∈ wsX6_exchangeColumns from by decide +kernel)
  have hl := lv_entry ([.ref h, .int p1, .int p2]) (n := 4) (Nat.le_of_ble_eq_true rfl)
  rw [lg_entry_eq]
  generalize (lg_sl ([.ref h, .int p1, .int p2]) ++ List.replicate (4 - (lg_sl ([.ref h, .int p1, .int p2])).length) Slot.unset).toArray = ls at hl ⊢
  have hl : lv_has ls 4 [(0, .ref h), (1, .int p1), (2, .int p2)] := hl
  unfold mX6_exchangeColumns at h0
  refine lv_iconst (v := 0) hx hb dX6_exchangeColumns_0 (by decide) ?_
  refine lv_istore_n (lv' := [(3, .int 0), (0, .ref h), (1, .int p1), (2, .int p2)]) hx hb dX6_exchangeColumns_1 rfl hl (by decide) rfl (fun ls hl => ?_)
  have E_2_24_2 : ∀ (x3_1 : Int32) (f_2 : Nat → Int32) (H : Heap) (locs : List Loc) (ls : Array Slot), (some (f_2)) = some z → va_P D vwCl [(h, .inr (5, [.ref h_cells, .int h_size])), (h_cells, .inl (cI, 64, .inl f_2))] H → va_D A [(h, .inr (5, [.ref h_cells, .int h_size])), (h_cells, .inl (cI, 64, .inl f_2))] → va_S A s.heap H locs → lv_has ls 4 [(3, .int x3_1), (0, .ref h), (1, .int p1), (2, .int p2)] → W p l e (headSpec wsX6_exchangeColumns ({ frames := 3, cells := 0, slots := 0, locals := 70 } : Room)).room s m (([.ref h, .int p1, .int p2] : List Value).toArray) below meth c H locs 0 0 (MQ below (wQ D none A (fun (u : Unit) => [(h, .inr (5, [.ref h_cells, .int h_size])), (h_cells, .inl (cI, 64, .inl z))])) (([.ref h, .int p1, .int p2] : List Value).toArray) s 0 0 A) (F0 m 24 ls []) := by
    intro x3_1 f_2 H locs ls h0 hP hD hS hl
    have e0 := Option.some.inj h0
    subst e0
    exact W.vret hx hb hr (fun t ht hW => wr_end () ht hP hD hS) hS.2.2 dX6_exchangeColumns_24
  have L_2_6 : ∀ (F2 : Nat) (x3_4 : Int32) (f_5 : Nat → Int32) (H : Heap) (locs : List Loc) (ls : Array Slot), mX6_exchangeColumns_L2 h_size p1 p2 (fun (x3_1 : Int32) (f_2 : Nat → Int32) => some (f_2)) F2 x3_4 f_5 = some z → va_P D vwCl [(h, .inr (5, [.ref h_cells, .int h_size])), (h_cells, .inl (cI, 64, .inl f_5))] H → va_D A [(h, .inr (5, [.ref h_cells, .int h_size])), (h_cells, .inl (cI, 64, .inl f_5))] → va_S A s.heap H locs → lv_has ls 4 [(3, .int x3_4), (0, .ref h), (1, .int p1), (2, .int p2)] → W p l e (headSpec wsX6_exchangeColumns ({ frames := 3, cells := 0, slots := 0, locals := 70 } : Room)).room s m (([.ref h, .int p1, .int p2] : List Value).toArray) below meth c H locs 0 0 (MQ below (wQ D none A (fun (u : Unit) => [(h, .inr (5, [.ref h_cells, .int h_size])), (h_cells, .inl (cI, 64, .inl z))])) (([.ref h, .int p1, .int p2] : List Value).toArray) s 0 0 A) (F0 m 2 ls []) := by
    intro F2
    induction F2 with
    | zero => intro x3_4 f_5 H locs ls h0 hP hD hS hl; cases h0
    | succ F2 ih2 =>
      intro x3_4 f_5 H locs ls h0 hP hD hS hl
      rw [mX6_exchangeColumns_L2] at h0
      refine lv_iload_n hx hb dX6_exchangeColumns_2 rfl (lv_at hl 0 rfl) ?_
      refine lv_aload_n hx hb dX6_exchangeColumns_3 rfl (lv_at hl 1 rfl) ?_
      refine va_get (D := D) (ci := 5) (v := .int h_size) (C := RX6) (T := TX6) (N := 2) hx hb hts hi_X6 hown hK hP 0 rfl rfl 1 (by decide) hf_15 (fun _ h9 => h9) rfl dX6_exchangeColumns_4 ?_
      refine lv_icmp_ge (tgt := 24) hx hb dX6_exchangeColumns_7 (by decide) (fun c9 => ?_) (fun c9 => ?_)
      · have h0 := it_t c9 h0
        exact E_2_24_2 x3_4 f_5 _ _ ls h0 hP hD hS hl
      · have h0 := it_f c9 h0
        refine lv_aload_n hx hb dX6_exchangeColumns_10 rfl (lv_at hl 1 rfl) ?_
        refine lv_iload_n hx hb dX6_exchangeColumns_11 rfl (lv_at hl 0 rfl) ?_
        refine lv_iload_n hx hb dX6_exchangeColumns_12 rfl (lv_at hl 2 rfl) ?_
        refine lv_iload_n hx hb dX6_exchangeColumns_13 rfl (lv_at hl 0 rfl) ?_
        refine lv_iload_n hx hb dX6_exchangeColumns_14 rfl (lv_at hl 3 rfl) ?_
        obtain ⟨z_6, hz, h0⟩ := bd_ok h0
        refine wr_V (As := [.int x3_4, .int p1, .int x3_4, .int p2]) (rest := []) (wc := [(h, .inr (5, [.ref h_cells, .int h_size])), (h_cells, .inl (cI, 64, .inl f_5))]) (wr := []) hcf (kX6_exchange l D cI cC cT h h_cells f_5 h_size x3_4 p1 x3_4 p2 _ z_6 hz) (cwV 4 hts gX6_exchangeColumns_X6_exchange rfl rfl rfl (by decide +kernel) ⟨Nat.le_of_ble_eq_true rfl, Nat.le_of_ble_eq_true rfl⟩) hE hP hD hS hA [0, 1] [] (hP.sub [0, 1] rfl) (hD.sub [0, 1] (by decide) rfl) (va_recv hK hP (ci := 5) (q0 := 0) rfl rfl) rfl rfl (by decide) (by decide) rfl hl.1 rfl (Nat.le_of_ble_eq_true rfl) dX6_exchangeColumns_15 ⟨Nat.le_of_ble_eq_true rfl, Nat.le_of_ble_eq_true rfl⟩ (fun u H locs hP hD hS => ?_)
        have hP : va_P D vwCl [(h, .inr (5, [.ref h_cells, .int h_size])), (h_cells, .inl (cI, 64, .inl z_6))] H := hP
        have hD : va_D A [(h, .inr (5, [.ref h_cells, .int h_size])), (h_cells, .inl (cI, 64, .inl z_6))] := hD
        refine W.eq (g2 := F0 m 18 ls []) rfl ?_
        refine lv_iinc (v := (x3_4 + 1)) (lv' := [(3, .int (x3_4 + 1)), (0, .ref h), (1, .int p1), (2, .int p2)]) hx hb dX6_exchangeColumns_18 hl (k := 0) rfl rfl (by decide) rfl (fun ls hl => ?_)
        refine lv_goto (tgt := 2) hx hb dX6_exchangeColumns_21 (by decide) ?_
        exact ih2 (x3_4 + 1) z_6 _ _ ls h0 hP hD hS hl
  exact L_2_6 FU 0 h_cells_f _ _ ls h0 hP hD hS hl
noncomputable def mX6_exchangeNames_L13 (h_size : Int32) (p1 : Int32) (p2 : Int32) (x3_4 : Int32) (k13_66 : Int32 → (Nat → Int32) → Option ((Nat → Int32))) : Nat → Int32 → (Nat → Int32) → Option ((Nat → Int32))
  | 0, _, _ => none
  | F + 1, x4_9, f_10 => if h_size ≤ x4_9 then (k13_66 x4_9 f_10) else (bd (mX6_at f_10 x3_4 x4_9) (fun z_11 => if z_11 = p1 then (bd (mX6_set f_10 x3_4 x4_9 p2) (fun z_14 => mX6_exchangeNames_L13 h_size p1 p2 x3_4 k13_66 F (x4_9 + 1) z_14)) else (if z_11 = p2 then (bd (mX6_set f_10 x3_4 x4_9 p1) (fun z_13 => mX6_exchangeNames_L13 h_size p1 p2 x3_4 k13_66 F (x4_9 + 1) z_13)) else (bd (mX6_set f_10 x3_4 x4_9 z_11) (fun z_12 => mX6_exchangeNames_L13 h_size p1 p2 x3_4 k13_66 F (x4_9 + 1) z_12)))))
noncomputable def mX6_exchangeNames_L2 (h_size : Int32) (p1 : Int32) (p2 : Int32) (k2_72 : Int32 → (Nat → Int32) → Option ((Nat → Int32))) : Nat → Int32 → (Nat → Int32) → Option ((Nat → Int32))
  | 0, _, _ => none
  | F + 1, x3_4, f_5 => if h_size ≤ x3_4 then (k2_72 x3_4 f_5) else (mX6_exchangeNames_L13 h_size p1 p2 x3_4 (fun (x4_6 : Int32) (f_7 : Nat → Int32) => mX6_exchangeNames_L2 h_size p1 p2 k2_72 F (x3_4 + 1) f_7) FU 0 f_5)
noncomputable def mX6_exchangeNames (h_cells_f : Nat → Int32) (h_size : Int32) (p1 : Int32) (p2 : Int32) : Option ((Nat → Int32)) :=
  mX6_exchangeNames_L2 h_size p1 p2 (fun (x3_1 : Int32) (f_2 : Nat → Int32) => some (f_2)) FU 0 h_cells_f
set_option maxHeartbeats 8000000 in
set_option maxRecDepth 100000 in
theorem kX6_exchangeNames (l : Launch) (D : va_G) (cI cC cT : ClassId) (h h_cells : Nat) (h_cells_f : Nat → Int32) (h_size : Int32) (p1 : Int32) (p2 : Int32) (sz : Nat) (z : (Nat → Int32)) (h0 : mX6_exchangeNames h_cells_f h_size p1 p2 = some z) : Met l yX6_exchangeNames wsX6_exchangeNames ({ frames := 2, cells := 0, slots := 0, locals := 45 } : Room) (va_Pc [.ref h, .int p1, .int p2] (wP D cI cC cT [(h, .inr (5, [.ref h_cells, .int h_size])), (h_cells, .inl (cI, 64, .inl h_cells_f))] sz)) (wQ D none (va_A [(h, .inr (5, [.ref h_cells, .int h_size])), (h_cells, .inl (cI, 64, .inl h_cells_f))] sz) (fun (u : Unit) => [(h, .inr (5, [.ref h_cells, .int h_size])), (h_cells, .inl (cI, 64, .inl z))])) 0 0 (va_A [(h, .inr (5, [.ref h_cells, .int h_size])), (h_cells, .inl (cI, 64, .inl h_cells_f))] sz) := by
  refine Met.ofW (cc := cX6_exchangeNames) (maxL := 6) (ret := none) (by decide) rfl ?_
  intro p e s m args below meth c s₁ B hml hv
  obtain ⟨rfl, hsz, hP, hE, hD0⟩ := hv
  have hx := B.exec
  have hb := B.bytes
  have hr := B.returns
  have hts := atoms_spec (ws := wsX6_exchangeNames) B.pre
  have hown : s.vm.findClass RX6 = some m.cls := findClass_of_methodNamed B.named
  have hlocks := B.notSynchronized
  have hK := hE.1
  have hcf : CallFix p m c cX6_exchangeNames 6 s ([.ref h, .int p1, .int p2] : List Value).toArray wsX6_exchangeNames RX6 := ⟨hx, hb, hml, hown, hts⟩
  subst hsz
  have hD := hD0.self (sz := s.heap.size)
  generalize hAe : va_A [(h, .inr (5, [.ref h_cells, .int h_size])), (h_cells, .inl (cI, 64, .inl h_cells_f))] s.heap.size = A at hD ⊢
  have hA : ∀ q : Nat, s.heap.size ≤ q → A q := fun q h => by rw [← hAe]; exact Or.inr h
  have hS : va_S A s.heap s.heap [] := va_S.rf
  have hP : va_P D vwCl [(h, .inr (5, [.ref h_cells, .int h_size])), (h_cells, .inl (cI, 64, .inl h_cells_f))] s.heap := hP
  have hf_15 := hts (.fieldLink RX6 15 "CrookedSums$Table" "size" "I") (by decide +kernel)
  have hi_X6 := (show ∀ w ∈ u_ws RX6 TX6 2, w ∈ wsX6_exchangeNames from by decide +kernel)
  have hl := lv_entry ([.ref h, .int p1, .int p2]) (n := 6) (Nat.le_of_ble_eq_true rfl)
  rw [lg_entry_eq]
  generalize (lg_sl ([.ref h, .int p1, .int p2]) ++ List.replicate (6 - (lg_sl ([.ref h, .int p1, .int p2])).length) Slot.unset).toArray = ls at hl ⊢
  have hl : lv_has ls 6 [(0, .ref h), (1, .int p1), (2, .int p2)] := hl
  unfold mX6_exchangeNames at h0
  refine lv_iconst (v := 0) hx hb dX6_exchangeNames_0 (by decide) ?_
  refine lv_istore_n (lv' := [(3, .int 0), (0, .ref h), (1, .int p1), (2, .int p2)]) hx hb dX6_exchangeNames_1 rfl hl (by decide) rfl (fun ls hl => ?_)
  have E_2_72_2 : ∀ (x3_1 : Int32) (f_2 : Nat → Int32) (H : Heap) (locs : List Loc) (ls : Array Slot), (some (f_2)) = some z → va_P D vwCl [(h, .inr (5, [.ref h_cells, .int h_size])), (h_cells, .inl (cI, 64, .inl f_2))] H → va_D A [(h, .inr (5, [.ref h_cells, .int h_size])), (h_cells, .inl (cI, 64, .inl f_2))] → va_S A s.heap H locs → lv_has ls 6 [(3, .int x3_1), (0, .ref h), (1, .int p1), (2, .int p2)] → W p l e (headSpec wsX6_exchangeNames ({ frames := 2, cells := 0, slots := 0, locals := 45 } : Room)).room s m (([.ref h, .int p1, .int p2] : List Value).toArray) below meth c H locs 0 0 (MQ below (wQ D none A (fun (u : Unit) => [(h, .inr (5, [.ref h_cells, .int h_size])), (h_cells, .inl (cI, 64, .inl z))])) (([.ref h, .int p1, .int p2] : List Value).toArray) s 0 0 A) (F0 m 72 ls []) := by
    intro x3_1 f_2 H locs ls h0 hP hD hS hl
    have e0 := Option.some.inj h0
    subst e0
    exact W.vret hx hb hr (fun t ht hW => wr_end () ht hP hD hS) hS.2.2 dX6_exchangeNames_72
  have L_2_15 : ∀ (F2 : Nat) (x3_4 : Int32) (f_5 : Nat → Int32) (H : Heap) (locs : List Loc) (ls : Array Slot), mX6_exchangeNames_L2 h_size p1 p2 (fun (x3_1 : Int32) (f_2 : Nat → Int32) => some (f_2)) F2 x3_4 f_5 = some z → va_P D vwCl [(h, .inr (5, [.ref h_cells, .int h_size])), (h_cells, .inl (cI, 64, .inl f_5))] H → va_D A [(h, .inr (5, [.ref h_cells, .int h_size])), (h_cells, .inl (cI, 64, .inl f_5))] → va_S A s.heap H locs → lv_has ls 6 [(3, .int x3_4), (0, .ref h), (1, .int p1), (2, .int p2)] → W p l e (headSpec wsX6_exchangeNames ({ frames := 2, cells := 0, slots := 0, locals := 45 } : Room)).room s m (([.ref h, .int p1, .int p2] : List Value).toArray) below meth c H locs 0 0 (MQ below (wQ D none A (fun (u : Unit) => [(h, .inr (5, [.ref h_cells, .int h_size])), (h_cells, .inl (cI, 64, .inl z))])) (([.ref h, .int p1, .int p2] : List Value).toArray) s 0 0 A) (F0 m 2 ls []) := by
    intro F2
    induction F2 with
    | zero => intro x3_4 f_5 H locs ls h0 hP hD hS hl; cases h0
    | succ F2 ih2 =>
      intro x3_4 f_5 H locs ls h0 hP hD hS hl
      rw [mX6_exchangeNames_L2] at h0
      refine lv_iload_n hx hb dX6_exchangeNames_2 rfl (lv_at hl 0 rfl) ?_
      refine lv_aload_n hx hb dX6_exchangeNames_3 rfl (lv_at hl 1 rfl) ?_
      refine va_get (D := D) (ci := 5) (v := .int h_size) (C := RX6) (T := TX6) (N := 2) hx hb hts hi_X6 hown hK hP 0 rfl rfl 1 (by decide) hf_15 (fun _ h9 => h9) rfl dX6_exchangeNames_4 ?_
      refine lv_icmp_ge (tgt := 72) hx hb dX6_exchangeNames_7 (by decide) (fun c9 => ?_) (fun c9 => ?_)
      · have h0 := it_t c9 h0
        exact E_2_72_2 x3_4 f_5 _ _ ls h0 hP hD hS hl
      · have h0 := it_f c9 h0
        refine lv_iconst (v := 0) hx hb dX6_exchangeNames_10 (by decide) ?_
        refine lv_istore (lv' := [(4, .int 0), (3, .int x3_4), (0, .ref h), (1, .int p1), (2, .int p2)]) hx hb dX6_exchangeNames_11 hl (by decide) rfl (fun ls hl => ?_)
        have E_13_66_7 : ∀ (x4_6 : Int32) (f_7 : Nat → Int32) (H : Heap) (locs : List Loc) (ls : Array Slot), (mX6_exchangeNames_L2 h_size p1 p2 (fun (x3_1 : Int32) (f_2 : Nat → Int32) => some (f_2)) F2 (x3_4 + 1) f_7) = some z → va_P D vwCl [(h, .inr (5, [.ref h_cells, .int h_size])), (h_cells, .inl (cI, 64, .inl f_7))] H → va_D A [(h, .inr (5, [.ref h_cells, .int h_size])), (h_cells, .inl (cI, 64, .inl f_7))] → va_S A s.heap H locs → lv_has ls 6 [(4, .int x4_6), (3, .int x3_4), (0, .ref h), (1, .int p1), (2, .int p2)] → W p l e (headSpec wsX6_exchangeNames ({ frames := 2, cells := 0, slots := 0, locals := 45 } : Room)).room s m (([.ref h, .int p1, .int p2] : List Value).toArray) below meth c H locs 0 0 (MQ below (wQ D none A (fun (u : Unit) => [(h, .inr (5, [.ref h_cells, .int h_size])), (h_cells, .inl (cI, 64, .inl z))])) (([.ref h, .int p1, .int p2] : List Value).toArray) s 0 0 A) (F0 m 66 ls []) := by
          intro x4_6 f_7 H locs ls h0 hP hD hS hl
          refine lv_iinc (v := (x3_4 + 1)) (lv' := [(3, .int (x3_4 + 1)), (4, .int x4_6), (0, .ref h), (1, .int p1), (2, .int p2)]) hx hb dX6_exchangeNames_66 hl (k := 1) rfl rfl (by decide) rfl (fun ls hl => ?_)
          refine lv_goto (tgt := 2) hx hb dX6_exchangeNames_69 (by decide) ?_
          exact ih2 (x3_4 + 1) f_7 _ _ ls h0 hP hD hS (lv_sub hl [0, 2, 3, 4] rfl)
        have L_13_14 : ∀ (F13 : Nat) (x4_9 : Int32) (f_10 : Nat → Int32) (H : Heap) (locs : List Loc) (ls : Array Slot), mX6_exchangeNames_L13 h_size p1 p2 x3_4 (fun (x4_6 : Int32) (f_7 : Nat → Int32) => mX6_exchangeNames_L2 h_size p1 p2 (fun (x3_1 : Int32) (f_2 : Nat → Int32) => some (f_2)) F2 (x3_4 + 1) f_7) F13 x4_9 f_10 = some z → va_P D vwCl [(h, .inr (5, [.ref h_cells, .int h_size])), (h_cells, .inl (cI, 64, .inl f_10))] H → va_D A [(h, .inr (5, [.ref h_cells, .int h_size])), (h_cells, .inl (cI, 64, .inl f_10))] → va_S A s.heap H locs → lv_has ls 6 [(4, .int x4_9), (3, .int x3_4), (0, .ref h), (1, .int p1), (2, .int p2)] → W p l e (headSpec wsX6_exchangeNames ({ frames := 2, cells := 0, slots := 0, locals := 45 } : Room)).room s m (([.ref h, .int p1, .int p2] : List Value).toArray) below meth c H locs 0 0 (MQ below (wQ D none A (fun (u : Unit) => [(h, .inr (5, [.ref h_cells, .int h_size])), (h_cells, .inl (cI, 64, .inl z))])) (([.ref h, .int p1, .int p2] : List Value).toArray) s 0 0 A) (F0 m 13 ls []) := by
          intro F13
          induction F13 with
          | zero => intro x4_9 f_10 H locs ls h0 hP hD hS hl; cases h0
          | succ F13 ih13 =>
            intro x4_9 f_10 H locs ls h0 hP hD hS hl
            rw [mX6_exchangeNames_L13] at h0
            refine lv_iload hx hb dX6_exchangeNames_13 (lv_at hl 0 rfl) ?_
            refine lv_aload_n hx hb dX6_exchangeNames_15 rfl (lv_at hl 2 rfl) ?_
            refine va_get (D := D) (ci := 5) (v := .int h_size) (C := RX6) (T := TX6) (N := 2) hx hb hts hi_X6 hown hK hP 0 rfl rfl 1 (by decide) hf_15 (fun _ h9 => h9) rfl dX6_exchangeNames_16 ?_
            refine lv_icmp_ge (tgt := 66) hx hb dX6_exchangeNames_19 (by decide) (fun c9 => ?_) (fun c9 => ?_)
            · have h0 := it_t c9 h0
              exact E_13_66_7 x4_9 f_10 _ _ ls h0 hP hD hS hl
            · have h0 := it_f c9 h0
              refine lv_aload_n hx hb dX6_exchangeNames_22 rfl (lv_at hl 2 rfl) ?_
              refine lv_iload_n hx hb dX6_exchangeNames_23 rfl (lv_at hl 1 rfl) ?_
              refine lv_iload hx hb dX6_exchangeNames_24 (lv_at hl 0 rfl) ?_
              obtain ⟨z_11, hz, h0⟩ := bd_ok h0
              refine ro_V (As := [.int x3_4, .int x4_9]) (rest := []) (wc := [(h, .inr (5, [.ref h_cells, .int h_size])), (h_cells, .inl (cI, 64, .inl f_10))]) hcf (kX6_at l D cI cC cT h h_cells f_10 h_size x3_4 x4_9 z_11 hz) (cwV 2 hts gX6_exchangeNames_X6_at rfl rfl rfl (by decide +kernel) ⟨Nat.le_of_ble_eq_true rfl, Nat.le_of_ble_eq_true rfl⟩) hE (hP.sub [0, 1] rfl) (va_recv hK hP (ci := 5) (q0 := 0) rfl rfl) rfl hl.1 rfl (Nat.le_of_ble_eq_true rfl) dX6_exchangeNames_26 ⟨Nat.le_of_ble_eq_true rfl, Nat.le_of_ble_eq_true rfl⟩ ?_
              refine W.eq (g2 := F0 m 29 ls [.int z_11]) rfl ?_
              refine lv_istore (lv' := [(5, .int z_11), (4, .int x4_9), (3, .int x3_4), (0, .ref h), (1, .int p1), (2, .int p2)]) hx hb dX6_exchangeNames_29 hl (by decide) rfl (fun ls hl => ?_)
              refine lv_aload_n hx hb dX6_exchangeNames_31 rfl (lv_at hl 3 rfl) ?_
              refine lv_iload_n hx hb dX6_exchangeNames_32 rfl (lv_at hl 2 rfl) ?_
              refine lv_iload hx hb dX6_exchangeNames_33 (lv_at hl 1 rfl) ?_
              refine lv_iload hx hb dX6_exchangeNames_35 (lv_at hl 0 rfl) ?_
              refine lv_iload_n hx hb dX6_exchangeNames_37 rfl (lv_at hl 4 rfl) ?_
              refine lv_icmp_ne (tgt := 45) hx hb dX6_exchangeNames_38 (by decide) (fun c9 => ?_) (fun c9 => ?_)
              · have h0 := it_f c9 h0
                refine lv_iload hx hb dX6_exchangeNames_45 (lv_at hl 0 rfl) ?_
                refine lv_iload_n hx hb dX6_exchangeNames_47 rfl (lv_at hl 5 rfl) ?_
                refine lv_icmp_ne (tgt := 55) hx hb dX6_exchangeNames_48 (by decide) (fun c9 => ?_) (fun c9 => ?_)
                · have h0 := it_f c9 h0
                  refine lv_iload hx hb dX6_exchangeNames_55 (lv_at hl 0 rfl) ?_
                  obtain ⟨z_12, hz, h0⟩ := bd_ok h0
                  refine wr_V (As := [.int x3_4, .int x4_9, .int z_11]) (rest := []) (wc := [(h, .inr (5, [.ref h_cells, .int h_size])), (h_cells, .inl (cI, 64, .inl f_10))]) (wr := []) hcf (kX6_set l D cI cC cT h h_cells f_10 h_size x3_4 x4_9 z_11 _ z_12 hz) (cwV 3 hts gX6_exchangeNames_X6_set rfl rfl rfl (by decide +kernel) ⟨Nat.le_of_ble_eq_true rfl, Nat.le_of_ble_eq_true rfl⟩) hE hP hD hS hA [0, 1] [] (hP.sub [0, 1] rfl) (hD.sub [0, 1] (by decide) rfl) (va_recv hK hP (ci := 5) (q0 := 0) rfl rfl) rfl rfl (by decide) (by decide) rfl hl.1 rfl (Nat.le_of_ble_eq_true rfl) dX6_exchangeNames_57 ⟨Nat.le_of_ble_eq_true rfl, Nat.le_of_ble_eq_true rfl⟩ (fun u H locs hP hD hS => ?_)
                  have hP : va_P D vwCl [(h, .inr (5, [.ref h_cells, .int h_size])), (h_cells, .inl (cI, 64, .inl z_12))] H := hP
                  have hD : va_D A [(h, .inr (5, [.ref h_cells, .int h_size])), (h_cells, .inl (cI, 64, .inl z_12))] := hD
                  refine W.eq (g2 := F0 m 60 ls []) rfl ?_
                  refine lv_iinc (v := (x4_9 + 1)) (lv' := [(4, .int (x4_9 + 1)), (5, .int z_11), (3, .int x3_4), (0, .ref h), (1, .int p1), (2, .int p2)]) hx hb dX6_exchangeNames_60 hl (k := 1) rfl rfl (by decide) rfl (fun ls hl => ?_)
                  refine lv_goto (tgt := 13) hx hb dX6_exchangeNames_63 (by decide) ?_
                  exact ih13 (x4_9 + 1) z_12 _ _ ls h0 hP hD hS (lv_sub hl [0, 2, 3, 4, 5] rfl)
                · have h0 := it_t c9 h0
                  refine lv_iload_n hx hb dX6_exchangeNames_51 rfl (lv_at hl 4 rfl) ?_
                  refine lv_goto (tgt := 57) hx hb dX6_exchangeNames_52 (by decide) ?_
                  obtain ⟨z_13, hz, h0⟩ := bd_ok h0
                  refine wr_V (As := [.int x3_4, .int x4_9, .int p1]) (rest := []) (wc := [(h, .inr (5, [.ref h_cells, .int h_size])), (h_cells, .inl (cI, 64, .inl f_10))]) (wr := []) hcf (kX6_set l D cI cC cT h h_cells f_10 h_size x3_4 x4_9 p1 _ z_13 hz) (cwV 3 hts gX6_exchangeNames_X6_set rfl rfl rfl (by decide +kernel) ⟨Nat.le_of_ble_eq_true rfl, Nat.le_of_ble_eq_true rfl⟩) hE hP hD hS hA [0, 1] [] (hP.sub [0, 1] rfl) (hD.sub [0, 1] (by decide) rfl) (va_recv hK hP (ci := 5) (q0 := 0) rfl rfl) rfl rfl (by decide) (by decide) rfl hl.1 rfl (Nat.le_of_ble_eq_true rfl) dX6_exchangeNames_57 ⟨Nat.le_of_ble_eq_true rfl, Nat.le_of_ble_eq_true rfl⟩ (fun u H locs hP hD hS => ?_)
                  have hP : va_P D vwCl [(h, .inr (5, [.ref h_cells, .int h_size])), (h_cells, .inl (cI, 64, .inl z_13))] H := hP
                  have hD : va_D A [(h, .inr (5, [.ref h_cells, .int h_size])), (h_cells, .inl (cI, 64, .inl z_13))] := hD
                  refine W.eq (g2 := F0 m 60 ls []) rfl ?_
                  refine lv_iinc (v := (x4_9 + 1)) (lv' := [(4, .int (x4_9 + 1)), (5, .int z_11), (3, .int x3_4), (0, .ref h), (1, .int p1), (2, .int p2)]) hx hb dX6_exchangeNames_60 hl (k := 1) rfl rfl (by decide) rfl (fun ls hl => ?_)
                  refine lv_goto (tgt := 13) hx hb dX6_exchangeNames_63 (by decide) ?_
                  exact ih13 (x4_9 + 1) z_13 _ _ ls h0 hP hD hS (lv_sub hl [0, 2, 3, 4, 5] rfl)
              · have h0 := it_t c9 h0
                refine lv_iload_n hx hb dX6_exchangeNames_41 rfl (lv_at hl 5 rfl) ?_
                refine lv_goto (tgt := 57) hx hb dX6_exchangeNames_42 (by decide) ?_
                obtain ⟨z_14, hz, h0⟩ := bd_ok h0
                refine wr_V (As := [.int x3_4, .int x4_9, .int p2]) (rest := []) (wc := [(h, .inr (5, [.ref h_cells, .int h_size])), (h_cells, .inl (cI, 64, .inl f_10))]) (wr := []) hcf (kX6_set l D cI cC cT h h_cells f_10 h_size x3_4 x4_9 p2 _ z_14 hz) (cwV 3 hts gX6_exchangeNames_X6_set rfl rfl rfl (by decide +kernel) ⟨Nat.le_of_ble_eq_true rfl, Nat.le_of_ble_eq_true rfl⟩) hE hP hD hS hA [0, 1] [] (hP.sub [0, 1] rfl) (hD.sub [0, 1] (by decide) rfl) (va_recv hK hP (ci := 5) (q0 := 0) rfl rfl) rfl rfl (by decide) (by decide) rfl hl.1 rfl (Nat.le_of_ble_eq_true rfl) dX6_exchangeNames_57 ⟨Nat.le_of_ble_eq_true rfl, Nat.le_of_ble_eq_true rfl⟩ (fun u H locs hP hD hS => ?_)
                have hP : va_P D vwCl [(h, .inr (5, [.ref h_cells, .int h_size])), (h_cells, .inl (cI, 64, .inl z_14))] H := hP
                have hD : va_D A [(h, .inr (5, [.ref h_cells, .int h_size])), (h_cells, .inl (cI, 64, .inl z_14))] := hD
                refine W.eq (g2 := F0 m 60 ls []) rfl ?_
                refine lv_iinc (v := (x4_9 + 1)) (lv' := [(4, .int (x4_9 + 1)), (5, .int z_11), (3, .int x3_4), (0, .ref h), (1, .int p1), (2, .int p2)]) hx hb dX6_exchangeNames_60 hl (k := 1) rfl rfl (by decide) rfl (fun ls hl => ?_)
                refine lv_goto (tgt := 13) hx hb dX6_exchangeNames_63 (by decide) ?_
                exact ih13 (x4_9 + 1) z_14 _ _ ls h0 hP hD hS (lv_sub hl [0, 2, 3, 4, 5] rfl)
        exact L_13_14 FU 0 f_5 _ _ ls h0 hP hD hS hl
  exact L_2_15 FU 0 h_cells_f _ _ ls h0 hP hD hS hl
noncomputable def mX6_exchangeRows_L2 (h_size : Int32) (p1 : Int32) (p2 : Int32) (k2_24 : Int32 → (Nat → Int32) → Option ((Nat → Int32))) : Nat → Int32 → (Nat → Int32) → Option ((Nat → Int32))
  | 0, _, _ => none
  | F + 1, x3_4, f_5 => if h_size ≤ x3_4 then (k2_24 x3_4 f_5) else (bd (mX6_exchange f_5 p1 x3_4 p2 x3_4) (fun z_6 => mX6_exchangeRows_L2 h_size p1 p2 k2_24 F (x3_4 + 1) z_6))
noncomputable def mX6_exchangeRows (h_cells_f : Nat → Int32) (h_size : Int32) (p1 : Int32) (p2 : Int32) : Option ((Nat → Int32)) :=
  mX6_exchangeRows_L2 h_size p1 p2 (fun (x3_1 : Int32) (f_2 : Nat → Int32) => some (f_2)) FU 0 h_cells_f
set_option maxHeartbeats 8000000 in
set_option maxRecDepth 100000 in
theorem kX6_exchangeRows (l : Launch) (D : va_G) (cI cC cT : ClassId) (h h_cells : Nat) (h_cells_f : Nat → Int32) (h_size : Int32) (p1 : Int32) (p2 : Int32) (sz : Nat) (z : (Nat → Int32)) (h0 : mX6_exchangeRows h_cells_f h_size p1 p2 = some z) : Met l yX6_exchangeRows wsX6_exchangeRows ({ frames := 3, cells := 0, slots := 0, locals := 70 } : Room) (va_Pc [.ref h, .int p1, .int p2] (wP D cI cC cT [(h, .inr (5, [.ref h_cells, .int h_size])), (h_cells, .inl (cI, 64, .inl h_cells_f))] sz)) (wQ D none (va_A [(h, .inr (5, [.ref h_cells, .int h_size])), (h_cells, .inl (cI, 64, .inl h_cells_f))] sz) (fun (u : Unit) => [(h, .inr (5, [.ref h_cells, .int h_size])), (h_cells, .inl (cI, 64, .inl z))])) 0 0 (va_A [(h, .inr (5, [.ref h_cells, .int h_size])), (h_cells, .inl (cI, 64, .inl h_cells_f))] sz) := by
  refine Met.ofW (cc := cX6_exchangeRows) (maxL := 4) (ret := none) (by decide) rfl ?_
  intro p e s m args below meth c s₁ B hml hv
  obtain ⟨rfl, hsz, hP, hE, hD0⟩ := hv
  have hx := B.exec
  have hb := B.bytes
  have hr := B.returns
  have hts := atoms_spec (ws := wsX6_exchangeRows) B.pre
  have hown : s.vm.findClass RX6 = some m.cls := findClass_of_methodNamed B.named
  have hlocks := B.notSynchronized
  have hK := hE.1
  have hcf : CallFix p m c cX6_exchangeRows 4 s ([.ref h, .int p1, .int p2] : List Value).toArray wsX6_exchangeRows RX6 := ⟨hx, hb, hml, hown, hts⟩
  subst hsz
  have hD := hD0.self (sz := s.heap.size)
  generalize hAe : va_A [(h, .inr (5, [.ref h_cells, .int h_size])), (h_cells, .inl (cI, 64, .inl h_cells_f))] s.heap.size = A at hD ⊢
  have hA : ∀ q : Nat, s.heap.size ≤ q → A q := fun q h => by rw [← hAe]; exact Or.inr h
  have hS : va_S A s.heap s.heap [] := va_S.rf
  have hP : va_P D vwCl [(h, .inr (5, [.ref h_cells, .int h_size])), (h_cells, .inl (cI, 64, .inl h_cells_f))] s.heap := hP
  have hf_15 := hts (.fieldLink RX6 15 "CrookedSums$Table" "size" "I") (by decide +kernel)
  have hi_X6 := (show ∀ w ∈ u_ws RX6 TX6 2, w ∈ wsX6_exchangeRows from by decide +kernel)
  have hl := lv_entry ([.ref h, .int p1, .int p2]) (n := 4) (Nat.le_of_ble_eq_true rfl)
  rw [lg_entry_eq]
  generalize (lg_sl ([.ref h, .int p1, .int p2]) ++ List.replicate (4 - (lg_sl ([.ref h, .int p1, .int p2])).length) Slot.unset).toArray = ls at hl ⊢
  have hl : lv_has ls 4 [(0, .ref h), (1, .int p1), (2, .int p2)] := hl
  unfold mX6_exchangeRows at h0
  refine lv_iconst (v := 0) hx hb dX6_exchangeRows_0 (by decide) ?_
  refine lv_istore_n (lv' := [(3, .int 0), (0, .ref h), (1, .int p1), (2, .int p2)]) hx hb dX6_exchangeRows_1 rfl hl (by decide) rfl (fun ls hl => ?_)
  have E_2_24_2 : ∀ (x3_1 : Int32) (f_2 : Nat → Int32) (H : Heap) (locs : List Loc) (ls : Array Slot), (some (f_2)) = some z → va_P D vwCl [(h, .inr (5, [.ref h_cells, .int h_size])), (h_cells, .inl (cI, 64, .inl f_2))] H → va_D A [(h, .inr (5, [.ref h_cells, .int h_size])), (h_cells, .inl (cI, 64, .inl f_2))] → va_S A s.heap H locs → lv_has ls 4 [(3, .int x3_1), (0, .ref h), (1, .int p1), (2, .int p2)] → W p l e (headSpec wsX6_exchangeRows ({ frames := 3, cells := 0, slots := 0, locals := 70 } : Room)).room s m (([.ref h, .int p1, .int p2] : List Value).toArray) below meth c H locs 0 0 (MQ below (wQ D none A (fun (u : Unit) => [(h, .inr (5, [.ref h_cells, .int h_size])), (h_cells, .inl (cI, 64, .inl z))])) (([.ref h, .int p1, .int p2] : List Value).toArray) s 0 0 A) (F0 m 24 ls []) := by
    intro x3_1 f_2 H locs ls h0 hP hD hS hl
    have e0 := Option.some.inj h0
    subst e0
    exact W.vret hx hb hr (fun t ht hW => wr_end () ht hP hD hS) hS.2.2 dX6_exchangeRows_24
  have L_2_6 : ∀ (F2 : Nat) (x3_4 : Int32) (f_5 : Nat → Int32) (H : Heap) (locs : List Loc) (ls : Array Slot), mX6_exchangeRows_L2 h_size p1 p2 (fun (x3_1 : Int32) (f_2 : Nat → Int32) => some (f_2)) F2 x3_4 f_5 = some z → va_P D vwCl [(h, .inr (5, [.ref h_cells, .int h_size])), (h_cells, .inl (cI, 64, .inl f_5))] H → va_D A [(h, .inr (5, [.ref h_cells, .int h_size])), (h_cells, .inl (cI, 64, .inl f_5))] → va_S A s.heap H locs → lv_has ls 4 [(3, .int x3_4), (0, .ref h), (1, .int p1), (2, .int p2)] → W p l e (headSpec wsX6_exchangeRows ({ frames := 3, cells := 0, slots := 0, locals := 70 } : Room)).room s m (([.ref h, .int p1, .int p2] : List Value).toArray) below meth c H locs 0 0 (MQ below (wQ D none A (fun (u : Unit) => [(h, .inr (5, [.ref h_cells, .int h_size])), (h_cells, .inl (cI, 64, .inl z))])) (([.ref h, .int p1, .int p2] : List Value).toArray) s 0 0 A) (F0 m 2 ls []) := by
    intro F2
    induction F2 with
    | zero => intro x3_4 f_5 H locs ls h0 hP hD hS hl; cases h0
    | succ F2 ih2 =>
      intro x3_4 f_5 H locs ls h0 hP hD hS hl
      rw [mX6_exchangeRows_L2] at h0
      refine lv_iload_n hx hb dX6_exchangeRows_2 rfl (lv_at hl 0 rfl) ?_
      refine lv_aload_n hx hb dX6_exchangeRows_3 rfl (lv_at hl 1 rfl) ?_
      refine va_get (D := D) (ci := 5) (v := .int h_size) (C := RX6) (T := TX6) (N := 2) hx hb hts hi_X6 hown hK hP 0 rfl rfl 1 (by decide) hf_15 (fun _ h9 => h9) rfl dX6_exchangeRows_4 ?_
      refine lv_icmp_ge (tgt := 24) hx hb dX6_exchangeRows_7 (by decide) (fun c9 => ?_) (fun c9 => ?_)
      · have h0 := it_t c9 h0
        exact E_2_24_2 x3_4 f_5 _ _ ls h0 hP hD hS hl
      · have h0 := it_f c9 h0
        refine lv_aload_n hx hb dX6_exchangeRows_10 rfl (lv_at hl 1 rfl) ?_
        refine lv_iload_n hx hb dX6_exchangeRows_11 rfl (lv_at hl 2 rfl) ?_
        refine lv_iload_n hx hb dX6_exchangeRows_12 rfl (lv_at hl 0 rfl) ?_
        refine lv_iload_n hx hb dX6_exchangeRows_13 rfl (lv_at hl 3 rfl) ?_
        refine lv_iload_n hx hb dX6_exchangeRows_14 rfl (lv_at hl 0 rfl) ?_
        obtain ⟨z_6, hz, h0⟩ := bd_ok h0
        refine wr_V (As := [.int p1, .int x3_4, .int p2, .int x3_4]) (rest := []) (wc := [(h, .inr (5, [.ref h_cells, .int h_size])), (h_cells, .inl (cI, 64, .inl f_5))]) (wr := []) hcf (kX6_exchange l D cI cC cT h h_cells f_5 h_size p1 x3_4 p2 x3_4 _ z_6 hz) (cwV 4 hts gX6_exchangeRows_X6_exchange rfl rfl rfl (by decide +kernel) ⟨Nat.le_of_ble_eq_true rfl, Nat.le_of_ble_eq_true rfl⟩) hE hP hD hS hA [0, 1] [] (hP.sub [0, 1] rfl) (hD.sub [0, 1] (by decide) rfl) (va_recv hK hP (ci := 5) (q0 := 0) rfl rfl) rfl rfl (by decide) (by decide) rfl hl.1 rfl (Nat.le_of_ble_eq_true rfl) dX6_exchangeRows_15 ⟨Nat.le_of_ble_eq_true rfl, Nat.le_of_ble_eq_true rfl⟩ (fun u H locs hP hD hS => ?_)
        have hP : va_P D vwCl [(h, .inr (5, [.ref h_cells, .int h_size])), (h_cells, .inl (cI, 64, .inl z_6))] H := hP
        have hD : va_D A [(h, .inr (5, [.ref h_cells, .int h_size])), (h_cells, .inl (cI, 64, .inl z_6))] := hD
        refine W.eq (g2 := F0 m 18 ls []) rfl ?_
        refine lv_iinc (v := (x3_4 + 1)) (lv' := [(3, .int (x3_4 + 1)), (0, .ref h), (1, .int p1), (2, .int p2)]) hx hb dX6_exchangeRows_18 hl (k := 0) rfl rfl (by decide) rfl (fun ls hl => ?_)
        refine lv_goto (tgt := 2) hx hb dX6_exchangeRows_21 (by decide) ?_
        exact ih2 (x3_4 + 1) z_6 _ _ ls h0 hP hD hS hl
  exact L_2_6 FU 0 h_cells_f _ _ ls h0 hP hD hS hl
noncomputable def mX6_isTaken_L31 (h_cells_f : Nat → Int32) (p1 : Int32) (p2 : Int32) (p3 : Int32) (k31_56 : Int32 → Option (Int32)) : Nat → Int32 → Option (Int32)
  | 0, _ => none
  | F + 1, x4_4 => if p1 ≤ x4_4 then (k31_56 x4_4) else (bd (mX6_at h_cells_f x4_4 p2) (fun z_5 => if z_5 = p3 then (some (1)) else (mX6_isTaken_L31 h_cells_f p1 p2 p3 k31_56 F (x4_4 + 1))))
noncomputable def mX6_isTaken_L3 (h_cells_f : Nat → Int32) (p1 : Int32) (p2 : Int32) (p3 : Int32) (k3_28 : Int32 → Option (Int32)) : Nat → Int32 → Option (Int32)
  | 0, _ => none
  | F + 1, x4_8 => if p2 ≤ x4_8 then (k3_28 x4_8) else (bd (mX6_at h_cells_f p1 x4_8) (fun z_9 => if z_9 = p3 then (some (1)) else (mX6_isTaken_L3 h_cells_f p1 p2 p3 k3_28 F (x4_8 + 1))))
noncomputable def mX6_isTaken (h_cells_f : Nat → Int32) (p1 : Int32) (p2 : Int32) (p3 : Int32) : Option (Int32) :=
  mX6_isTaken_L3 h_cells_f p1 p2 p3 (fun (x4_1 : Int32) => mX6_isTaken_L31 h_cells_f p1 p2 p3 (fun (x4_2 : Int32) => some (0)) FU 0) FU 0
set_option maxHeartbeats 8000000 in
set_option maxRecDepth 100000 in
theorem kX6_isTaken (l : Launch) (D : va_G) (cI cC cT : ClassId) (h h_cells : Nat) (h_cells_f : Nat → Int32) (h_size : Int32) (p1 : Int32) (p2 : Int32) (p3 : Int32) (z : Int32) (h0 : mX6_isTaken h_cells_f p1 p2 p3 = some z) : Met l yX6_isTaken wsX6_isTaken ({ frames := 1, cells := 0, slots := 0, locals := 23 } : Room) (va_Pc [.ref h, .int p1, .int p2, .int p3] (rP D cI cC cT [(h, .inr (5, [.ref h_cells, .int h_size])), (h_cells, .inl (cI, 64, .inl h_cells_f))])) (rQ (some (.int z))) 0 0 (fun _ => False) := by
  refine Met.ofW (cc := cX6_isTaken) (maxL := 5) (ret := (some .boolean)) (by decide) rfl ?_
  intro p e s m args below meth c s₁ B hml hv
  obtain ⟨rfl, hP, hE⟩ := hv
  have hx := B.exec
  have hb := B.bytes
  have hr := B.returns
  have hts := atoms_spec (ws := wsX6_isTaken) B.pre
  have hown : s.vm.findClass RX6 = some m.cls := findClass_of_methodNamed B.named
  have hlocks := B.notSynchronized
  have hK := hE.1
  have hcf : CallFix p m c cX6_isTaken 5 s ([.ref h, .int p1, .int p2, .int p3] : List Value).toArray wsX6_isTaken RX6 := ⟨hx, hb, hml, hown, hts⟩
  have hP : va_P D vwCl [(h, .inr (5, [.ref h_cells, .int h_size])), (h_cells, .inl (cI, 64, .inl h_cells_f))] s.heap := hP
  have hl := lv_entry ([.ref h, .int p1, .int p2, .int p3]) (n := 5) (Nat.le_of_ble_eq_true rfl)
  rw [lg_entry_eq]
  generalize (lg_sl ([.ref h, .int p1, .int p2, .int p3]) ++ List.replicate (5 - (lg_sl ([.ref h, .int p1, .int p2, .int p3])).length) Slot.unset).toArray = ls at hl ⊢
  have hl : lv_has ls 5 [(0, .ref h), (1, .int p1), (2, .int p2), (3, .int p3)] := hl
  unfold mX6_isTaken at h0
  refine lv_iconst (v := 0) hx hb dX6_isTaken_0 (by decide) ?_
  refine lv_istore (lv' := [(4, .int 0), (0, .ref h), (1, .int p1), (2, .int p2), (3, .int p3)]) hx hb dX6_isTaken_1 hl (by decide) rfl (fun ls hl => ?_)
  have E_3_28_6 : ∀ (x4_1 : Int32) (ls : Array Slot), (mX6_isTaken_L31 h_cells_f p1 p2 p3 (fun (x4_2 : Int32) => some (0)) FU 0) = some z → lv_has ls 5 [(4, .int x4_1), (0, .ref h), (1, .int p1), (2, .int p2), (3, .int p3)] → W p l e (headSpec wsX6_isTaken ({ frames := 1, cells := 0, slots := 0, locals := 23 } : Room)).room s m (([.ref h, .int p1, .int p2, .int p3] : List Value).toArray) below meth c s.heap [] 0 0 (MQ below (rQ (some (.int z))) (([.ref h, .int p1, .int p2, .int p3] : List Value).toArray) s 0 0 (fun _ => False)) (F0 m 28 ls []) := by
    intro x4_1 ls h0 hl
    refine lv_iconst (v := 0) hx hb dX6_isTaken_28 (by decide) ?_
    refine lv_istore (lv' := [(4, .int 0), (0, .ref h), (1, .int p1), (2, .int p2), (3, .int p3)]) hx hb dX6_isTaken_29 hl (by decide) rfl (fun ls hl => ?_)
    have E_31_56_2 : ∀ (x4_2 : Int32) (ls : Array Slot), (some (0)) = some z → lv_has ls 5 [(4, .int x4_2), (0, .ref h), (1, .int p1), (2, .int p2), (3, .int p3)] → W p l e (headSpec wsX6_isTaken ({ frames := 1, cells := 0, slots := 0, locals := 23 } : Room)).room s m (([.ref h, .int p1, .int p2, .int p3] : List Value).toArray) below meth c s.heap [] 0 0 (MQ below (rQ (some (.int z))) (([.ref h, .int p1, .int p2, .int p3] : List Value).toArray) s 0 0 (fun _ => False)) (F0 m 56 ls []) := by
      intro x4_2 ls h0 hl
      refine lv_iconst (v := 0) hx hb dX6_isTaken_56 (by decide) ?_
      have e0 := Option.some.inj h0
      subst e0
      exact W.zret (ty := .boolean) (v := 0) hx hb hr rfl (fun t ht hW => ⟨rfl, ht⟩) (fun q hq => absurd hq List.not_mem_nil) dX6_isTaken_57
    have L_31_5 : ∀ (F31 : Nat) (x4_4 : Int32) (ls : Array Slot), mX6_isTaken_L31 h_cells_f p1 p2 p3 (fun (x4_2 : Int32) => some (0)) F31 x4_4 = some z → lv_has ls 5 [(4, .int x4_4), (0, .ref h), (1, .int p1), (2, .int p2), (3, .int p3)] → W p l e (headSpec wsX6_isTaken ({ frames := 1, cells := 0, slots := 0, locals := 23 } : Room)).room s m (([.ref h, .int p1, .int p2, .int p3] : List Value).toArray) below meth c s.heap [] 0 0 (MQ below (rQ (some (.int z))) (([.ref h, .int p1, .int p2, .int p3] : List Value).toArray) s 0 0 (fun _ => False)) (F0 m 31 ls []) := by
      intro F31
      induction F31 with
      | zero => intro x4_4 ls h0 hl; cases h0
      | succ F31 ih31 =>
        intro x4_4 ls h0 hl
        rw [mX6_isTaken_L31] at h0
        refine lv_iload hx hb dX6_isTaken_31 (lv_at hl 0 rfl) ?_
        refine lv_iload_n hx hb dX6_isTaken_33 rfl (lv_at hl 2 rfl) ?_
        refine lv_icmp_ge (tgt := 56) hx hb dX6_isTaken_34 (by decide) (fun c9 => ?_) (fun c9 => ?_)
        · have h0 := it_t c9 h0
          exact E_31_56_2 x4_4 ls h0 hl
        · have h0 := it_f c9 h0
          refine lv_aload_n hx hb dX6_isTaken_37 rfl (lv_at hl 1 rfl) ?_
          refine lv_iload hx hb dX6_isTaken_38 (lv_at hl 0 rfl) ?_
          refine lv_iload_n hx hb dX6_isTaken_40 rfl (lv_at hl 3 rfl) ?_
          obtain ⟨z_5, hz, h0⟩ := bd_ok h0
          refine ro_V (As := [.int x4_4, .int p2]) (rest := []) (wc := [(h, .inr (5, [.ref h_cells, .int h_size])), (h_cells, .inl (cI, 64, .inl h_cells_f))]) hcf (kX6_at l D cI cC cT h h_cells h_cells_f h_size x4_4 p2 z_5 hz) (cwV 2 hts gX6_isTaken_X6_at rfl rfl rfl (by decide +kernel) ⟨Nat.le_of_ble_eq_true rfl, Nat.le_of_ble_eq_true rfl⟩) hE (hP.sub [0, 1] rfl) (va_recv hK hP (ci := 5) (q0 := 0) rfl rfl) rfl hl.1 rfl (Nat.le_of_ble_eq_true rfl) dX6_isTaken_41 ⟨Nat.le_of_ble_eq_true rfl, Nat.le_of_ble_eq_true rfl⟩ ?_
          refine W.eq (g2 := F0 m 44 ls [.int z_5]) rfl ?_
          refine lv_iload_n hx hb dX6_isTaken_44 rfl (lv_at hl 4 rfl) ?_
          refine lv_icmp_ne (tgt := 50) hx hb dX6_isTaken_45 (by decide) (fun c9 => ?_) (fun c9 => ?_)
          · have h0 := it_f c9 h0
            refine lv_iinc (v := (x4_4 + 1)) (lv' := [(4, .int (x4_4 + 1)), (0, .ref h), (1, .int p1), (2, .int p2), (3, .int p3)]) hx hb dX6_isTaken_50 hl (k := 0) rfl rfl (by decide) rfl (fun ls hl => ?_)
            refine lv_goto (tgt := 31) hx hb dX6_isTaken_53 (by decide) ?_
            exact ih31 (x4_4 + 1) ls h0 hl
          · have h0 := it_t c9 h0
            refine lv_iconst (v := 1) hx hb dX6_isTaken_48 (by decide) ?_
            have e0 := Option.some.inj h0
            subst e0
            exact W.zret (ty := .boolean) (v := 1) hx hb hr rfl (fun t ht hW => ⟨rfl, ht⟩) (fun q hq => absurd hq List.not_mem_nil) dX6_isTaken_49
    exact L_31_5 FU 0 ls h0 hl
  have L_3_9 : ∀ (F3 : Nat) (x4_8 : Int32) (ls : Array Slot), mX6_isTaken_L3 h_cells_f p1 p2 p3 (fun (x4_1 : Int32) => mX6_isTaken_L31 h_cells_f p1 p2 p3 (fun (x4_2 : Int32) => some (0)) FU 0) F3 x4_8 = some z → lv_has ls 5 [(4, .int x4_8), (0, .ref h), (1, .int p1), (2, .int p2), (3, .int p3)] → W p l e (headSpec wsX6_isTaken ({ frames := 1, cells := 0, slots := 0, locals := 23 } : Room)).room s m (([.ref h, .int p1, .int p2, .int p3] : List Value).toArray) below meth c s.heap [] 0 0 (MQ below (rQ (some (.int z))) (([.ref h, .int p1, .int p2, .int p3] : List Value).toArray) s 0 0 (fun _ => False)) (F0 m 3 ls []) := by
    intro F3
    induction F3 with
    | zero => intro x4_8 ls h0 hl; cases h0
    | succ F3 ih3 =>
      intro x4_8 ls h0 hl
      rw [mX6_isTaken_L3] at h0
      refine lv_iload hx hb dX6_isTaken_3 (lv_at hl 0 rfl) ?_
      refine lv_iload_n hx hb dX6_isTaken_5 rfl (lv_at hl 3 rfl) ?_
      refine lv_icmp_ge (tgt := 28) hx hb dX6_isTaken_6 (by decide) (fun c9 => ?_) (fun c9 => ?_)
      · have h0 := it_t c9 h0
        exact E_3_28_6 x4_8 ls h0 hl
      · have h0 := it_f c9 h0
        refine lv_aload_n hx hb dX6_isTaken_9 rfl (lv_at hl 1 rfl) ?_
        refine lv_iload_n hx hb dX6_isTaken_10 rfl (lv_at hl 2 rfl) ?_
        refine lv_iload hx hb dX6_isTaken_11 (lv_at hl 0 rfl) ?_
        obtain ⟨z_9, hz, h0⟩ := bd_ok h0
        refine ro_V (As := [.int p1, .int x4_8]) (rest := []) (wc := [(h, .inr (5, [.ref h_cells, .int h_size])), (h_cells, .inl (cI, 64, .inl h_cells_f))]) hcf (kX6_at l D cI cC cT h h_cells h_cells_f h_size p1 x4_8 z_9 hz) (cwV 2 hts gX6_isTaken_X6_at rfl rfl rfl (by decide +kernel) ⟨Nat.le_of_ble_eq_true rfl, Nat.le_of_ble_eq_true rfl⟩) hE (hP.sub [0, 1] rfl) (va_recv hK hP (ci := 5) (q0 := 0) rfl rfl) rfl hl.1 rfl (Nat.le_of_ble_eq_true rfl) dX6_isTaken_13 ⟨Nat.le_of_ble_eq_true rfl, Nat.le_of_ble_eq_true rfl⟩ ?_
        refine W.eq (g2 := F0 m 16 ls [.int z_9]) rfl ?_
        refine lv_iload_n hx hb dX6_isTaken_16 rfl (lv_at hl 4 rfl) ?_
        refine lv_icmp_ne (tgt := 22) hx hb dX6_isTaken_17 (by decide) (fun c9 => ?_) (fun c9 => ?_)
        · have h0 := it_f c9 h0
          refine lv_iinc (v := (x4_8 + 1)) (lv' := [(4, .int (x4_8 + 1)), (0, .ref h), (1, .int p1), (2, .int p2), (3, .int p3)]) hx hb dX6_isTaken_22 hl (k := 0) rfl rfl (by decide) rfl (fun ls hl => ?_)
          refine lv_goto (tgt := 3) hx hb dX6_isTaken_25 (by decide) ?_
          exact ih3 (x4_8 + 1) ls h0 hl
        · have h0 := it_t c9 h0
          refine lv_iconst (v := 1) hx hb dX6_isTaken_20 (by decide) ?_
          have e0 := Option.some.inj h0
          subst e0
          exact W.zret (ty := .boolean) (v := 1) hx hb hr rfl (fun t ht hW => ⟨rfl, ht⟩) (fun q hq => absurd hq List.not_mem_nil) dX6_isTaken_21
  exact L_3_9 FU 0 ls h0 hl
noncomputable def mX6_readFrom_L42 (p1_signs_f : Nat → Int32) (p1_length : Int32) (p2 : Int32) (x4_6 : Int32) (k42_101 : Int32 → Int32 → (Nat → Int32) → Option (Int32 × (Nat → Int32) × Int32)) : Nat → Int32 → Int32 → (Nat → Int32) → Option (Int32 × (Nat → Int32) × Int32)
  | 0, _, _, _ => none
  | F + 1, x5_13, x3_14, f_15 => if p2 ≤ x5_13 then (k42_101 x5_13 x3_14 f_15) else (bd (mX1_digitAt p1_signs_f p1_length x3_14) (fun z_16 => bd (mX6_has p2 z_16) (fun z_17 => if z_17 = 0 then (some (x3_14, f_15, p2)) else (bd (mX6_isTaken f_15 x4_6 x5_13 z_16) (fun z_18 => if z_18 = 0 then (bd (mX6_set f_15 x4_6 x5_13 z_16) (fun z_19 => mX6_readFrom_L42 p1_signs_f p1_length p2 x4_6 k42_101 F (x5_13 + 1) (x3_14 + 1) z_19)) else (some (x3_14, f_15, p2)))))))
noncomputable def mX6_readFrom_L10 (p1_signs_f : Nat → Int32) (p1_length : Int32) (p2 : Int32) (k10_107 : Int32 → Int32 → (Nat → Int32) → Option (Int32 × (Nat → Int32) × Int32)) : Nat → Int32 → Int32 → (Nat → Int32) → Option (Int32 × (Nat → Int32) × Int32)
  | 0, _, _, _ => none
  | F + 1, x4_6, x3_7, f_8 => if p2 ≤ x4_6 then (k10_107 x4_6 x3_7 f_8) else (if x4_6 ≤ 0 then (mX6_readFrom_L42 p1_signs_f p1_length p2 x4_6 (fun (x5_9 : Int32) (x3_10 : Int32) (f_11 : Nat → Int32) => mX6_readFrom_L10 p1_signs_f p1_length p2 k10_107 F (x4_6 + 1) x3_10 f_11) FU 0 x3_7 f_8) else (bd (mX1_signAt p1_signs_f p1_length x3_7) (fun z_21 => if z_21 = 47 then (mX6_readFrom_L42 p1_signs_f p1_length p2 x4_6 (fun (x5_22 : Int32) (x3_23 : Int32) (f_24 : Nat → Int32) => mX6_readFrom_L10 p1_signs_f p1_length p2 k10_107 F (x4_6 + 1) x3_23 f_24) FU 0 (x3_7 + 1) f_8) else (some (x3_7, f_8, p2)))))
noncomputable def mX6_readFrom (h_cells_f : Nat → Int32) (p1_signs_f : Nat → Int32) (p1_length : Int32) (p2 : Int32) : Option (Int32 × (Nat → Int32) × Int32) :=
  mX6_readFrom_L10 p1_signs_f p1_length p2 (fun (x4_1 : Int32) (x3_2 : Int32) (f_3 : Nat → Int32) => bd (mX1_length p1_length) (fun z_4 => if z_4 ≤ x3_2 then (some ((-4), f_3, p2)) else (some (x3_2, f_3, p2)))) FU 0 0 h_cells_f
set_option maxHeartbeats 8000000 in
set_option maxRecDepth 100000 in
theorem kX6_readFrom (l : Launch) (D : va_G) (cI cC cT : ClassId) (h h_cells p1 p1_signs : Nat) (h_cells_f : Nat → Int32) (h_size : Int32) (p1_signs_f : Nat → Int32) (p1_length : Int32) (p2 : Int32) (sz : Nat) (z : Int32 × (Nat → Int32) × Int32) (h0 : mX6_readFrom h_cells_f p1_signs_f p1_length p2 = some z) : Met l yX6_readFrom wsX6_readFrom ({ frames := 2, cells := 0, slots := 0, locals := 47 } : Room) (va_Pc [.ref h, .ref p1, .int p2] (wP D cI cC cT [(h, .inr (5, [.ref h_cells, .int h_size])), (h_cells, .inl (cI, 64, .inl h_cells_f)), (p1, .inr (1, [.ref p1_signs, .int p1_length])), (p1_signs, .inl (cC, 80, .inl p1_signs_f))] sz)) (wQ D (some (.int z.1)) (va_A [(h, .inr (5, [.ref h_cells, .int h_size])), (h_cells, .inl (cI, 64, .inl h_cells_f)), (p1, .inr (1, [.ref p1_signs, .int p1_length])), (p1_signs, .inl (cC, 80, .inl p1_signs_f))] sz) (fun (u : Unit) => [(h, .inr (5, [.ref h_cells, .int z.2.2])), (h_cells, .inl (cI, 64, .inl z.2.1)), (p1, .inr (1, [.ref p1_signs, .int p1_length])), (p1_signs, .inl (cC, 80, .inl p1_signs_f))])) 0 0 (va_A [(h, .inr (5, [.ref h_cells, .int h_size])), (h_cells, .inl (cI, 64, .inl h_cells_f)), (p1, .inr (1, [.ref p1_signs, .int p1_length])), (p1_signs, .inl (cC, 80, .inl p1_signs_f))] sz) := by
  refine Met.ofW (cc := cX6_readFrom) (maxL := 7) (ret := (some .int)) (by decide) rfl ?_
  intro p e s m args below meth c s₁ B hml hv
  obtain ⟨rfl, hsz, hP, hE, hD0⟩ := hv
  have hx := B.exec
  have hb := B.bytes
  have hr := B.returns
  have hts := atoms_spec (ws := wsX6_readFrom) B.pre
  have hown : s.vm.findClass RX6 = some m.cls := findClass_of_methodNamed B.named
  have hlocks := B.notSynchronized
  have hK := hE.1
  have hcf : CallFix p m c cX6_readFrom 7 s ([.ref h, .ref p1, .int p2] : List Value).toArray wsX6_readFrom RX6 := ⟨hx, hb, hml, hown, hts⟩
  subst hsz
  have hD := hD0.self (sz := s.heap.size)
  generalize hAe : va_A [(h, .inr (5, [.ref h_cells, .int h_size])), (h_cells, .inl (cI, 64, .inl h_cells_f)), (p1, .inr (1, [.ref p1_signs, .int p1_length])), (p1_signs, .inl (cC, 80, .inl p1_signs_f))] s.heap.size = A at hD ⊢
  have hA : ∀ q : Nat, s.heap.size ≤ q → A q := fun q h => by rw [← hAe]; exact Or.inr h
  have hS : va_S A s.heap s.heap [] := va_S.rf
  have hP : va_P D vwCl [(h, .inr (5, [.ref h_cells, .int h_size])), (h_cells, .inl (cI, 64, .inl h_cells_f)), (p1, .inr (1, [.ref p1_signs, .int p1_length])), (p1_signs, .inl (cC, 80, .inl p1_signs_f))] s.heap := hP
  have hf_15 := hts (.fieldLink RX6 15 "CrookedSums$Table" "size" "I") (by decide +kernel)
  have hi_X6 := (show ∀ w ∈ u_ws RX6 TX6 2, w ∈ wsX6_readFrom from by decide +kernel)
  have hl := lv_entry ([.ref h, .ref p1, .int p2]) (n := 7) (Nat.le_of_ble_eq_true rfl)
  rw [lg_entry_eq]
  generalize (lg_sl ([.ref h, .ref p1, .int p2]) ++ List.replicate (7 - (lg_sl ([.ref h, .ref p1, .int p2])).length) Slot.unset).toArray = ls at hl ⊢
  have hl : lv_has ls 7 [(0, .ref h), (1, .ref p1), (2, .int p2)] := hl
  unfold mX6_readFrom at h0
  refine lv_aload_n hx hb dX6_readFrom_0 rfl (lv_at hl 0 rfl) ?_
  refine lv_iload_n hx hb dX6_readFrom_1 rfl (lv_at hl 2 rfl) ?_
  refine va_put (D := D) (ci := 5) (v := .int p2) (ty := .int) (C := RX6) (T := TX6) (N := 2) hx hb hts hi_X6 tyX6 tyX6_ok nmX6 hown hK hP hD hS 0 rfl rfl 1 (by decide) hf_15 (fun _ h9 => h9) rfl (by decide +kernel) rfl rfl (Nat.le_of_ble_eq_true rfl) dX6_readFrom_2 (fun H locs hP hD hS => ?_)
  have hP : va_P D vwCl [(h, .inr (5, [.ref h_cells, .int p2])), (h_cells, .inl (cI, 64, .inl h_cells_f)), (p1, .inr (1, [.ref p1_signs, .int p1_length])), (p1_signs, .inl (cC, 80, .inl p1_signs_f))] H := hP
  have hD : va_D A [(h, .inr (5, [.ref h_cells, .int p2])), (h_cells, .inl (cI, 64, .inl h_cells_f)), (p1, .inr (1, [.ref p1_signs, .int p1_length])), (p1_signs, .inl (cC, 80, .inl p1_signs_f))] := hD
  refine lv_iconst (v := 0) hx hb dX6_readFrom_5 (by decide) ?_
  refine lv_istore_n (lv' := [(3, .int 0), (0, .ref h), (1, .ref p1), (2, .int p2)]) hx hb dX6_readFrom_6 rfl hl (by decide) rfl (fun ls hl => ?_)
  refine lv_iconst (v := 0) hx hb dX6_readFrom_7 (by decide) ?_
  refine lv_istore (lv' := [(4, .int 0), (3, .int 0), (0, .ref h), (1, .ref p1), (2, .int p2)]) hx hb dX6_readFrom_8 hl (by decide) rfl (fun ls hl => ?_)
  have E_10_107_4 : ∀ (x4_1 : Int32) (x3_2 : Int32) (f_3 : Nat → Int32) (H : Heap) (locs : List Loc) (ls : Array Slot), (bd (mX1_length p1_length) (fun z_4 => if z_4 ≤ x3_2 then (some ((-4), f_3, p2)) else (some (x3_2, f_3, p2)))) = some z → va_P D vwCl [(h, .inr (5, [.ref h_cells, .int p2])), (h_cells, .inl (cI, 64, .inl f_3)), (p1, .inr (1, [.ref p1_signs, .int p1_length])), (p1_signs, .inl (cC, 80, .inl p1_signs_f))] H → va_D A [(h, .inr (5, [.ref h_cells, .int p2])), (h_cells, .inl (cI, 64, .inl f_3)), (p1, .inr (1, [.ref p1_signs, .int p1_length])), (p1_signs, .inl (cC, 80, .inl p1_signs_f))] → va_S A s.heap H locs → lv_has ls 7 [(4, .int x4_1), (3, .int x3_2), (0, .ref h), (1, .ref p1), (2, .int p2)] → W p l e (headSpec wsX6_readFrom ({ frames := 2, cells := 0, slots := 0, locals := 47 } : Room)).room s m (([.ref h, .ref p1, .int p2] : List Value).toArray) below meth c H locs 0 0 (MQ below (wQ D (some (.int z.1)) A (fun (u : Unit) => [(h, .inr (5, [.ref h_cells, .int z.2.2])), (h_cells, .inl (cI, 64, .inl z.2.1)), (p1, .inr (1, [.ref p1_signs, .int p1_length])), (p1_signs, .inl (cC, 80, .inl p1_signs_f))])) (([.ref h, .ref p1, .int p2] : List Value).toArray) s 0 0 A) (F0 m 107 ls []) := by
    intro x4_1 x3_2 f_3 H locs ls h0 hP hD hS hl
    refine lv_iload_n hx hb dX6_readFrom_107 rfl (lv_at hl 1 rfl) ?_
    refine lv_aload_n hx hb dX6_readFrom_108 rfl (lv_at hl 3 rfl) ?_
    obtain ⟨z_4, hz, h0⟩ := bd_ok h0
    refine ro_V (As := []) (rest := [.int x3_2]) (wc := [(p1, .inr (1, [.ref p1_signs, .int p1_length])), (p1_signs, .inl (cC, 80, .inl p1_signs_f))]) hcf (kX1_length l D cI cC cT p1 p1_signs p1_signs_f p1_length z_4 hz) (cwV 0 hts gX6_readFrom_X1_length rfl rfl rfl (by decide +kernel) ⟨Nat.le_of_ble_eq_true rfl, Nat.le_of_ble_eq_true rfl⟩) hE (hP.sub [2, 3] rfl) (va_recv hK hP (ci := 1) (q0 := 2) rfl rfl) rfl hl.1 rfl (Nat.le_of_ble_eq_true rfl) dX6_readFrom_109 ⟨Nat.le_of_ble_eq_true rfl, Nat.le_of_ble_eq_true rfl⟩ ?_
    refine W.eq (g2 := F0 m 112 ls [.int z_4, .int x3_2]) rfl ?_
    refine lv_icmp_ge (tgt := 119) hx hb dX6_readFrom_112 (by decide) (fun c9 => ?_) (fun c9 => ?_)
    · have h0 := it_t c9 h0
      refine lv_bipush (v := (-4)) hx hb dX6_readFrom_119 (by decide) ?_
      have e0 := Option.some.inj h0
      subst e0
      exact W.iret (v := (-4)) hx hb hr (fun t ht hW => wr_end () ht hP hD hS) hS.2.2 dX6_readFrom_121
    · have h0 := it_f c9 h0
      refine lv_iload_n hx hb dX6_readFrom_115 rfl (lv_at hl 1 rfl) ?_
      refine lv_goto (tgt := 121) hx hb dX6_readFrom_116 (by decide) ?_
      have e0 := Option.some.inj h0
      subst e0
      exact W.iret (v := x3_2) hx hb hr (fun t ht hW => wr_end () ht hP hD hS) hS.2.2 dX6_readFrom_121
  have L_10_33 : ∀ (F10 : Nat) (x4_6 : Int32) (x3_7 : Int32) (f_8 : Nat → Int32) (H : Heap) (locs : List Loc) (ls : Array Slot), mX6_readFrom_L10 p1_signs_f p1_length p2 (fun (x4_1 : Int32) (x3_2 : Int32) (f_3 : Nat → Int32) => bd (mX1_length p1_length) (fun z_4 => if z_4 ≤ x3_2 then (some ((-4), f_3, p2)) else (some (x3_2, f_3, p2)))) F10 x4_6 x3_7 f_8 = some z → va_P D vwCl [(h, .inr (5, [.ref h_cells, .int p2])), (h_cells, .inl (cI, 64, .inl f_8)), (p1, .inr (1, [.ref p1_signs, .int p1_length])), (p1_signs, .inl (cC, 80, .inl p1_signs_f))] H → va_D A [(h, .inr (5, [.ref h_cells, .int p2])), (h_cells, .inl (cI, 64, .inl f_8)), (p1, .inr (1, [.ref p1_signs, .int p1_length])), (p1_signs, .inl (cC, 80, .inl p1_signs_f))] → va_S A s.heap H locs → lv_has ls 7 [(4, .int x4_6), (3, .int x3_7), (0, .ref h), (1, .ref p1), (2, .int p2)] → W p l e (headSpec wsX6_readFrom ({ frames := 2, cells := 0, slots := 0, locals := 47 } : Room)).room s m (([.ref h, .ref p1, .int p2] : List Value).toArray) below meth c H locs 0 0 (MQ below (wQ D (some (.int z.1)) A (fun (u : Unit) => [(h, .inr (5, [.ref h_cells, .int z.2.2])), (h_cells, .inl (cI, 64, .inl z.2.1)), (p1, .inr (1, [.ref p1_signs, .int p1_length])), (p1_signs, .inl (cC, 80, .inl p1_signs_f))])) (([.ref h, .ref p1, .int p2] : List Value).toArray) s 0 0 A) (F0 m 10 ls []) := by
    intro F10
    induction F10 with
    | zero => intro x4_6 x3_7 f_8 H locs ls h0 hP hD hS hl; cases h0
    | succ F10 ih10 =>
      intro x4_6 x3_7 f_8 H locs ls h0 hP hD hS hl
      rw [mX6_readFrom_L10] at h0
      refine lv_iload hx hb dX6_readFrom_10 (lv_at hl 0 rfl) ?_
      refine lv_aload_n hx hb dX6_readFrom_12 rfl (lv_at hl 2 rfl) ?_
      refine va_get (D := D) (ci := 5) (v := .int p2) (C := RX6) (T := TX6) (N := 2) hx hb hts hi_X6 hown hK hP 0 rfl rfl 1 (by decide) hf_15 (fun _ h9 => h9) rfl dX6_readFrom_13 ?_
      refine lv_icmp_ge (tgt := 107) hx hb dX6_readFrom_16 (by decide) (fun c9 => ?_) (fun c9 => ?_)
      · have h0 := it_t c9 h0
        exact E_10_107_4 x4_6 x3_7 f_8 _ _ ls h0 hP hD hS hl
      · have h0 := it_f c9 h0
        refine lv_iload hx hb dX6_readFrom_19 (lv_at hl 0 rfl) ?_
        refine lv_if_le (tgt := 39) hx hb dX6_readFrom_21 (by decide) (fun c9 => ?_) (fun c9 => ?_)
        · have h0 := it_t c9 h0
          refine lv_iconst (v := 0) hx hb dX6_readFrom_39 (by decide) ?_
          refine lv_istore (lv' := [(5, .int 0), (4, .int x4_6), (3, .int x3_7), (0, .ref h), (1, .ref p1), (2, .int p2)]) hx hb dX6_readFrom_40 hl (by decide) rfl (fun ls hl => ?_)
          have E_42_101_11 : ∀ (x5_9 : Int32) (x3_10 : Int32) (f_11 : Nat → Int32) (H : Heap) (locs : List Loc) (ls : Array Slot), (mX6_readFrom_L10 p1_signs_f p1_length p2 (fun (x4_1 : Int32) (x3_2 : Int32) (f_3 : Nat → Int32) => bd (mX1_length p1_length) (fun z_4 => if z_4 ≤ x3_2 then (some ((-4), f_3, p2)) else (some (x3_2, f_3, p2)))) F10 (x4_6 + 1) x3_10 f_11) = some z → va_P D vwCl [(h, .inr (5, [.ref h_cells, .int p2])), (h_cells, .inl (cI, 64, .inl f_11)), (p1, .inr (1, [.ref p1_signs, .int p1_length])), (p1_signs, .inl (cC, 80, .inl p1_signs_f))] H → va_D A [(h, .inr (5, [.ref h_cells, .int p2])), (h_cells, .inl (cI, 64, .inl f_11)), (p1, .inr (1, [.ref p1_signs, .int p1_length])), (p1_signs, .inl (cC, 80, .inl p1_signs_f))] → va_S A s.heap H locs → lv_has ls 7 [(5, .int x5_9), (4, .int x4_6), (3, .int x3_10), (0, .ref h), (1, .ref p1), (2, .int p2)] → W p l e (headSpec wsX6_readFrom ({ frames := 2, cells := 0, slots := 0, locals := 47 } : Room)).room s m (([.ref h, .ref p1, .int p2] : List Value).toArray) below meth c H locs 0 0 (MQ below (wQ D (some (.int z.1)) A (fun (u : Unit) => [(h, .inr (5, [.ref h_cells, .int z.2.2])), (h_cells, .inl (cI, 64, .inl z.2.1)), (p1, .inr (1, [.ref p1_signs, .int p1_length])), (p1_signs, .inl (cC, 80, .inl p1_signs_f))])) (([.ref h, .ref p1, .int p2] : List Value).toArray) s 0 0 A) (F0 m 101 ls []) := by
            intro x5_9 x3_10 f_11 H locs ls h0 hP hD hS hl
            refine lv_iinc (v := (x4_6 + 1)) (lv' := [(4, .int (x4_6 + 1)), (5, .int x5_9), (3, .int x3_10), (0, .ref h), (1, .ref p1), (2, .int p2)]) hx hb dX6_readFrom_101 hl (k := 1) rfl rfl (by decide) rfl (fun ls hl => ?_)
            refine lv_goto (tgt := 10) hx hb dX6_readFrom_104 (by decide) ?_
            exact ih10 (x4_6 + 1) x3_10 f_11 _ _ ls h0 hP hD hS (lv_sub hl [0, 2, 3, 4, 5] rfl)
          have L_42_19 : ∀ (F42 : Nat) (x5_13 : Int32) (x3_14 : Int32) (f_15 : Nat → Int32) (H : Heap) (locs : List Loc) (ls : Array Slot), mX6_readFrom_L42 p1_signs_f p1_length p2 x4_6 (fun (x5_9 : Int32) (x3_10 : Int32) (f_11 : Nat → Int32) => mX6_readFrom_L10 p1_signs_f p1_length p2 (fun (x4_1 : Int32) (x3_2 : Int32) (f_3 : Nat → Int32) => bd (mX1_length p1_length) (fun z_4 => if z_4 ≤ x3_2 then (some ((-4), f_3, p2)) else (some (x3_2, f_3, p2)))) F10 (x4_6 + 1) x3_10 f_11) F42 x5_13 x3_14 f_15 = some z → va_P D vwCl [(h, .inr (5, [.ref h_cells, .int p2])), (h_cells, .inl (cI, 64, .inl f_15)), (p1, .inr (1, [.ref p1_signs, .int p1_length])), (p1_signs, .inl (cC, 80, .inl p1_signs_f))] H → va_D A [(h, .inr (5, [.ref h_cells, .int p2])), (h_cells, .inl (cI, 64, .inl f_15)), (p1, .inr (1, [.ref p1_signs, .int p1_length])), (p1_signs, .inl (cC, 80, .inl p1_signs_f))] → va_S A s.heap H locs → lv_has ls 7 [(5, .int x5_13), (4, .int x4_6), (3, .int x3_14), (0, .ref h), (1, .ref p1), (2, .int p2)] → W p l e (headSpec wsX6_readFrom ({ frames := 2, cells := 0, slots := 0, locals := 47 } : Room)).room s m (([.ref h, .ref p1, .int p2] : List Value).toArray) below meth c H locs 0 0 (MQ below (wQ D (some (.int z.1)) A (fun (u : Unit) => [(h, .inr (5, [.ref h_cells, .int z.2.2])), (h_cells, .inl (cI, 64, .inl z.2.1)), (p1, .inr (1, [.ref p1_signs, .int p1_length])), (p1_signs, .inl (cC, 80, .inl p1_signs_f))])) (([.ref h, .ref p1, .int p2] : List Value).toArray) s 0 0 A) (F0 m 42 ls []) := by
            intro F42
            induction F42 with
            | zero => intro x5_13 x3_14 f_15 H locs ls h0 hP hD hS hl; cases h0
            | succ F42 ih42 =>
              intro x5_13 x3_14 f_15 H locs ls h0 hP hD hS hl
              rw [mX6_readFrom_L42] at h0
              refine lv_iload hx hb dX6_readFrom_42 (lv_at hl 0 rfl) ?_
              refine lv_aload_n hx hb dX6_readFrom_44 rfl (lv_at hl 3 rfl) ?_
              refine va_get (D := D) (ci := 5) (v := .int p2) (C := RX6) (T := TX6) (N := 2) hx hb hts hi_X6 hown hK hP 0 rfl rfl 1 (by decide) hf_15 (fun _ h9 => h9) rfl dX6_readFrom_45 ?_
              refine lv_icmp_ge (tgt := 101) hx hb dX6_readFrom_48 (by decide) (fun c9 => ?_) (fun c9 => ?_)
              · have h0 := it_t c9 h0
                exact E_42_101_11 x5_13 x3_14 f_15 _ _ ls h0 hP hD hS hl
              · have h0 := it_f c9 h0
                refine lv_aload_n hx hb dX6_readFrom_51 rfl (lv_at hl 4 rfl) ?_
                refine lv_iload_n hx hb dX6_readFrom_52 rfl (lv_at hl 2 rfl) ?_
                obtain ⟨z_16, hz, h0⟩ := bd_ok h0
                refine ro_V (As := [.int x3_14]) (rest := []) (wc := [(p1, .inr (1, [.ref p1_signs, .int p1_length])), (p1_signs, .inl (cC, 80, .inl p1_signs_f))]) hcf (kX1_digitAt l D cI cC cT p1 p1_signs p1_signs_f p1_length x3_14 z_16 hz) (cwV 1 hts gX6_readFrom_X1_digitAt rfl rfl rfl (by decide +kernel) ⟨Nat.le_of_ble_eq_true rfl, Nat.le_of_ble_eq_true rfl⟩) hE (hP.sub [2, 3] rfl) (va_recv hK hP (ci := 1) (q0 := 2) rfl rfl) rfl hl.1 rfl (Nat.le_of_ble_eq_true rfl) dX6_readFrom_53 ⟨Nat.le_of_ble_eq_true rfl, Nat.le_of_ble_eq_true rfl⟩ ?_
                refine W.eq (g2 := F0 m 56 ls [.int z_16]) rfl ?_
                refine lv_istore (lv' := [(6, .int z_16), (5, .int x5_13), (4, .int x4_6), (3, .int x3_14), (0, .ref h), (1, .ref p1), (2, .int p2)]) hx hb dX6_readFrom_56 hl (by decide) rfl (fun ls hl => ?_)
                refine lv_aload_n hx hb dX6_readFrom_58 rfl (lv_at hl 4 rfl) ?_
                refine lv_iload hx hb dX6_readFrom_59 (lv_at hl 0 rfl) ?_
                obtain ⟨z_17, hz, h0⟩ := bd_ok h0
                refine ro_V (As := [.int z_16]) (rest := []) (wc := [(h, .inr (5, [.ref h_cells, .int p2])), (h_cells, .inl (cI, 64, .inl f_15))]) hcf (kX6_has l D cI cC cT h h_cells f_15 p2 z_16 z_17 hz) (cwV 1 hts gX6_readFrom_X6_has rfl rfl rfl (by decide +kernel) ⟨Nat.le_of_ble_eq_true rfl, Nat.le_of_ble_eq_true rfl⟩) hE (hP.sub [0, 1] rfl) (va_recv hK hP (ci := 5) (q0 := 0) rfl rfl) rfl hl.1 rfl (Nat.le_of_ble_eq_true rfl) dX6_readFrom_61 ⟨Nat.le_of_ble_eq_true rfl, Nat.le_of_ble_eq_true rfl⟩ ?_
                refine W.eq (g2 := F0 m 64 ls [.int z_17]) rfl ?_
                refine lv_if_eq (tgt := 80) hx hb dX6_readFrom_64 (by decide) (fun c9 => ?_) (fun c9 => ?_)
                · have h0 := it_t c9 h0
                  refine lv_iload_n hx hb dX6_readFrom_80 rfl (lv_at hl 3 rfl) ?_
                  have e0 := Option.some.inj h0
                  subst e0
                  exact W.iret (v := x3_14) hx hb hr (fun t ht hW => wr_end () ht hP hD hS) hS.2.2 dX6_readFrom_81
                · have h0 := it_f c9 h0
                  refine lv_aload_n hx hb dX6_readFrom_67 rfl (lv_at hl 4 rfl) ?_
                  refine lv_iload hx hb dX6_readFrom_68 (lv_at hl 2 rfl) ?_
                  refine lv_iload hx hb dX6_readFrom_70 (lv_at hl 1 rfl) ?_
                  refine lv_iload hx hb dX6_readFrom_72 (lv_at hl 0 rfl) ?_
                  obtain ⟨z_18, hz, h0⟩ := bd_ok h0
                  refine ro_V (As := [.int x4_6, .int x5_13, .int z_16]) (rest := []) (wc := [(h, .inr (5, [.ref h_cells, .int p2])), (h_cells, .inl (cI, 64, .inl f_15))]) hcf (kX6_isTaken l D cI cC cT h h_cells f_15 p2 x4_6 x5_13 z_16 z_18 hz) (cwV 3 hts gX6_readFrom_X6_isTaken rfl rfl rfl (by decide +kernel) ⟨Nat.le_of_ble_eq_true rfl, Nat.le_of_ble_eq_true rfl⟩) hE (hP.sub [0, 1] rfl) (va_recv hK hP (ci := 5) (q0 := 0) rfl rfl) rfl hl.1 rfl (Nat.le_of_ble_eq_true rfl) dX6_readFrom_74 ⟨Nat.le_of_ble_eq_true rfl, Nat.le_of_ble_eq_true rfl⟩ ?_
                  refine W.eq (g2 := F0 m 77 ls [.int z_18]) rfl ?_
                  refine lv_if_eq (tgt := 82) hx hb dX6_readFrom_77 (by decide) (fun c9 => ?_) (fun c9 => ?_)
                  · have h0 := it_t c9 h0
                    refine lv_aload_n hx hb dX6_readFrom_82 rfl (lv_at hl 4 rfl) ?_
                    refine lv_iload hx hb dX6_readFrom_83 (lv_at hl 2 rfl) ?_
                    refine lv_iload hx hb dX6_readFrom_85 (lv_at hl 1 rfl) ?_
                    refine lv_iload hx hb dX6_readFrom_87 (lv_at hl 0 rfl) ?_
                    obtain ⟨z_19, hz, h0⟩ := bd_ok h0
                    refine wr_V (As := [.int x4_6, .int x5_13, .int z_16]) (rest := []) (wc := [(h, .inr (5, [.ref h_cells, .int p2])), (h_cells, .inl (cI, 64, .inl f_15))]) (wr := [(p1, .inr (1, [.ref p1_signs, .int p1_length])), (p1_signs, .inl (cC, 80, .inl p1_signs_f))]) hcf (kX6_set l D cI cC cT h h_cells f_15 p2 x4_6 x5_13 z_16 _ z_19 hz) (cwV 3 hts gX6_readFrom_X6_set rfl rfl rfl (by decide +kernel) ⟨Nat.le_of_ble_eq_true rfl, Nat.le_of_ble_eq_true rfl⟩) hE hP hD hS hA [0, 1] [2, 3] (hP.sub [0, 1] rfl) (hD.sub [0, 1] (by decide) rfl) (va_recv hK hP (ci := 5) (q0 := 0) rfl rfl) rfl rfl (by decide) (by decide) rfl hl.1 rfl (Nat.le_of_ble_eq_true rfl) dX6_readFrom_89 ⟨Nat.le_of_ble_eq_true rfl, Nat.le_of_ble_eq_true rfl⟩ (fun u H locs hP hD hS => ?_)
                    have hP : va_P D vwCl [(p1, .inr (1, [.ref p1_signs, .int p1_length])), (p1_signs, .inl (cC, 80, .inl p1_signs_f)), (h, .inr (5, [.ref h_cells, .int p2])), (h_cells, .inl (cI, 64, .inl z_19))] H := hP
                    have hD : va_D A [(p1, .inr (1, [.ref p1_signs, .int p1_length])), (p1_signs, .inl (cC, 80, .inl p1_signs_f)), (h, .inr (5, [.ref h_cells, .int p2])), (h_cells, .inl (cI, 64, .inl z_19))] := hD
                    refine W.eq (g2 := F0 m 92 ls []) rfl ?_
                    refine lv_iinc (v := (x3_14 + 1)) (lv' := [(3, .int (x3_14 + 1)), (6, .int z_16), (5, .int x5_13), (4, .int x4_6), (0, .ref h), (1, .ref p1), (2, .int p2)]) hx hb dX6_readFrom_92 hl (k := 3) rfl rfl (by decide) rfl (fun ls hl => ?_)
                    refine lv_iinc (v := (x5_13 + 1)) (lv' := [(5, .int (x5_13 + 1)), (3, .int (x3_14 + 1)), (6, .int z_16), (4, .int x4_6), (0, .ref h), (1, .ref p1), (2, .int p2)]) hx hb dX6_readFrom_95 hl (k := 2) rfl rfl (by decide) rfl (fun ls hl => ?_)
                    refine lv_goto (tgt := 42) hx hb dX6_readFrom_98 (by decide) ?_
                    exact ih42 (x5_13 + 1) (x3_14 + 1) z_19 _ _ ls h0 (hP.sub [2, 3, 0, 1] rfl) (hD.sub [2, 3, 0, 1] (by decide) rfl) hS (lv_sub hl [0, 3, 1, 4, 5, 6] rfl)
                  · have h0 := it_f c9 h0
                    refine lv_iload_n hx hb dX6_readFrom_80 rfl (lv_at hl 3 rfl) ?_
                    have e0 := Option.some.inj h0
                    subst e0
                    exact W.iret (v := x3_14) hx hb hr (fun t ht hW => wr_end () ht hP hD hS) hS.2.2 dX6_readFrom_81
          exact L_42_19 FU 0 x3_7 f_8 _ _ ls h0 hP hD hS hl
        · have h0 := it_f c9 h0
          refine lv_aload_n hx hb dX6_readFrom_24 rfl (lv_at hl 3 rfl) ?_
          refine lv_iload_n hx hb dX6_readFrom_25 rfl (lv_at hl 1 rfl) ?_
          obtain ⟨z_21, hz, h0⟩ := bd_ok h0
          refine ro_V (As := [.int x3_7]) (rest := []) (wc := [(p1, .inr (1, [.ref p1_signs, .int p1_length])), (p1_signs, .inl (cC, 80, .inl p1_signs_f))]) hcf (kX1_signAt l D cI cC cT p1 p1_signs p1_signs_f p1_length x3_7 z_21 hz) (cwV 1 hts gX6_readFrom_X1_signAt rfl rfl rfl (by decide +kernel) ⟨Nat.le_of_ble_eq_true rfl, Nat.le_of_ble_eq_true rfl⟩) hE (hP.sub [2, 3] rfl) (va_recv hK hP (ci := 1) (q0 := 2) rfl rfl) rfl hl.1 rfl (Nat.le_of_ble_eq_true rfl) dX6_readFrom_26 ⟨Nat.le_of_ble_eq_true rfl, Nat.le_of_ble_eq_true rfl⟩ ?_
          refine W.eq (g2 := F0 m 29 ls [.int z_21]) rfl ?_
          refine lv_bipush (v := 47) hx hb dX6_readFrom_29 (by decide) ?_
          refine lv_icmp_eq (tgt := 36) hx hb dX6_readFrom_31 (by decide) (fun c9 => ?_) (fun c9 => ?_)
          · have h0 := it_t c9 h0
            refine lv_iinc (v := (x3_7 + 1)) (lv' := [(3, .int (x3_7 + 1)), (4, .int x4_6), (0, .ref h), (1, .ref p1), (2, .int p2)]) hx hb dX6_readFrom_36 hl (k := 1) rfl rfl (by decide) rfl (fun ls hl => ?_)
            refine lv_iconst (v := 0) hx hb dX6_readFrom_39 (by decide) ?_
            refine lv_istore (lv' := [(5, .int 0), (3, .int (x3_7 + 1)), (4, .int x4_6), (0, .ref h), (1, .ref p1), (2, .int p2)]) hx hb dX6_readFrom_40 hl (by decide) rfl (fun ls hl => ?_)
            have E_42_101_24 : ∀ (x5_22 : Int32) (x3_23 : Int32) (f_24 : Nat → Int32) (H : Heap) (locs : List Loc) (ls : Array Slot), (mX6_readFrom_L10 p1_signs_f p1_length p2 (fun (x4_1 : Int32) (x3_2 : Int32) (f_3 : Nat → Int32) => bd (mX1_length p1_length) (fun z_4 => if z_4 ≤ x3_2 then (some ((-4), f_3, p2)) else (some (x3_2, f_3, p2)))) F10 (x4_6 + 1) x3_23 f_24) = some z → va_P D vwCl [(h, .inr (5, [.ref h_cells, .int p2])), (h_cells, .inl (cI, 64, .inl f_24)), (p1, .inr (1, [.ref p1_signs, .int p1_length])), (p1_signs, .inl (cC, 80, .inl p1_signs_f))] H → va_D A [(h, .inr (5, [.ref h_cells, .int p2])), (h_cells, .inl (cI, 64, .inl f_24)), (p1, .inr (1, [.ref p1_signs, .int p1_length])), (p1_signs, .inl (cC, 80, .inl p1_signs_f))] → va_S A s.heap H locs → lv_has ls 7 [(5, .int x5_22), (3, .int x3_23), (4, .int x4_6), (0, .ref h), (1, .ref p1), (2, .int p2)] → W p l e (headSpec wsX6_readFrom ({ frames := 2, cells := 0, slots := 0, locals := 47 } : Room)).room s m (([.ref h, .ref p1, .int p2] : List Value).toArray) below meth c H locs 0 0 (MQ below (wQ D (some (.int z.1)) A (fun (u : Unit) => [(h, .inr (5, [.ref h_cells, .int z.2.2])), (h_cells, .inl (cI, 64, .inl z.2.1)), (p1, .inr (1, [.ref p1_signs, .int p1_length])), (p1_signs, .inl (cC, 80, .inl p1_signs_f))])) (([.ref h, .ref p1, .int p2] : List Value).toArray) s 0 0 A) (F0 m 101 ls []) := by
              intro x5_22 x3_23 f_24 H locs ls h0 hP hD hS hl
              refine lv_iinc (v := (x4_6 + 1)) (lv' := [(4, .int (x4_6 + 1)), (5, .int x5_22), (3, .int x3_23), (0, .ref h), (1, .ref p1), (2, .int p2)]) hx hb dX6_readFrom_101 hl (k := 2) rfl rfl (by decide) rfl (fun ls hl => ?_)
              refine lv_goto (tgt := 10) hx hb dX6_readFrom_104 (by decide) ?_
              exact ih10 (x4_6 + 1) x3_23 f_24 _ _ ls h0 hP hD hS (lv_sub hl [0, 2, 3, 4, 5] rfl)
            have L_42_32 : ∀ (F42 : Nat) (x5_26 : Int32) (x3_27 : Int32) (f_28 : Nat → Int32) (H : Heap) (locs : List Loc) (ls : Array Slot), mX6_readFrom_L42 p1_signs_f p1_length p2 x4_6 (fun (x5_22 : Int32) (x3_23 : Int32) (f_24 : Nat → Int32) => mX6_readFrom_L10 p1_signs_f p1_length p2 (fun (x4_1 : Int32) (x3_2 : Int32) (f_3 : Nat → Int32) => bd (mX1_length p1_length) (fun z_4 => if z_4 ≤ x3_2 then (some ((-4), f_3, p2)) else (some (x3_2, f_3, p2)))) F10 (x4_6 + 1) x3_23 f_24) F42 x5_26 x3_27 f_28 = some z → va_P D vwCl [(h, .inr (5, [.ref h_cells, .int p2])), (h_cells, .inl (cI, 64, .inl f_28)), (p1, .inr (1, [.ref p1_signs, .int p1_length])), (p1_signs, .inl (cC, 80, .inl p1_signs_f))] H → va_D A [(h, .inr (5, [.ref h_cells, .int p2])), (h_cells, .inl (cI, 64, .inl f_28)), (p1, .inr (1, [.ref p1_signs, .int p1_length])), (p1_signs, .inl (cC, 80, .inl p1_signs_f))] → va_S A s.heap H locs → lv_has ls 7 [(5, .int x5_26), (3, .int x3_27), (4, .int x4_6), (0, .ref h), (1, .ref p1), (2, .int p2)] → W p l e (headSpec wsX6_readFrom ({ frames := 2, cells := 0, slots := 0, locals := 47 } : Room)).room s m (([.ref h, .ref p1, .int p2] : List Value).toArray) below meth c H locs 0 0 (MQ below (wQ D (some (.int z.1)) A (fun (u : Unit) => [(h, .inr (5, [.ref h_cells, .int z.2.2])), (h_cells, .inl (cI, 64, .inl z.2.1)), (p1, .inr (1, [.ref p1_signs, .int p1_length])), (p1_signs, .inl (cC, 80, .inl p1_signs_f))])) (([.ref h, .ref p1, .int p2] : List Value).toArray) s 0 0 A) (F0 m 42 ls []) := by
              intro F42
              induction F42 with
              | zero => intro x5_26 x3_27 f_28 H locs ls h0 hP hD hS hl; cases h0
              | succ F42 ih42 =>
                intro x5_26 x3_27 f_28 H locs ls h0 hP hD hS hl
                rw [mX6_readFrom_L42] at h0
                refine lv_iload hx hb dX6_readFrom_42 (lv_at hl 0 rfl) ?_
                refine lv_aload_n hx hb dX6_readFrom_44 rfl (lv_at hl 3 rfl) ?_
                refine va_get (D := D) (ci := 5) (v := .int p2) (C := RX6) (T := TX6) (N := 2) hx hb hts hi_X6 hown hK hP 0 rfl rfl 1 (by decide) hf_15 (fun _ h9 => h9) rfl dX6_readFrom_45 ?_
                refine lv_icmp_ge (tgt := 101) hx hb dX6_readFrom_48 (by decide) (fun c9 => ?_) (fun c9 => ?_)
                · have h0 := it_t c9 h0
                  exact E_42_101_24 x5_26 x3_27 f_28 _ _ ls h0 hP hD hS hl
                · have h0 := it_f c9 h0
                  refine lv_aload_n hx hb dX6_readFrom_51 rfl (lv_at hl 4 rfl) ?_
                  refine lv_iload_n hx hb dX6_readFrom_52 rfl (lv_at hl 1 rfl) ?_
                  obtain ⟨z_29, hz, h0⟩ := bd_ok h0
                  refine ro_V (As := [.int x3_27]) (rest := []) (wc := [(p1, .inr (1, [.ref p1_signs, .int p1_length])), (p1_signs, .inl (cC, 80, .inl p1_signs_f))]) hcf (kX1_digitAt l D cI cC cT p1 p1_signs p1_signs_f p1_length x3_27 z_29 hz) (cwV 1 hts gX6_readFrom_X1_digitAt rfl rfl rfl (by decide +kernel) ⟨Nat.le_of_ble_eq_true rfl, Nat.le_of_ble_eq_true rfl⟩) hE (hP.sub [2, 3] rfl) (va_recv hK hP (ci := 1) (q0 := 2) rfl rfl) rfl hl.1 rfl (Nat.le_of_ble_eq_true rfl) dX6_readFrom_53 ⟨Nat.le_of_ble_eq_true rfl, Nat.le_of_ble_eq_true rfl⟩ ?_
                  refine W.eq (g2 := F0 m 56 ls [.int z_29]) rfl ?_
                  refine lv_istore (lv' := [(6, .int z_29), (5, .int x5_26), (3, .int x3_27), (4, .int x4_6), (0, .ref h), (1, .ref p1), (2, .int p2)]) hx hb dX6_readFrom_56 hl (by decide) rfl (fun ls hl => ?_)
                  refine lv_aload_n hx hb dX6_readFrom_58 rfl (lv_at hl 4 rfl) ?_
                  refine lv_iload hx hb dX6_readFrom_59 (lv_at hl 0 rfl) ?_
                  obtain ⟨z_30, hz, h0⟩ := bd_ok h0
                  refine ro_V (As := [.int z_29]) (rest := []) (wc := [(h, .inr (5, [.ref h_cells, .int p2])), (h_cells, .inl (cI, 64, .inl f_28))]) hcf (kX6_has l D cI cC cT h h_cells f_28 p2 z_29 z_30 hz) (cwV 1 hts gX6_readFrom_X6_has rfl rfl rfl (by decide +kernel) ⟨Nat.le_of_ble_eq_true rfl, Nat.le_of_ble_eq_true rfl⟩) hE (hP.sub [0, 1] rfl) (va_recv hK hP (ci := 5) (q0 := 0) rfl rfl) rfl hl.1 rfl (Nat.le_of_ble_eq_true rfl) dX6_readFrom_61 ⟨Nat.le_of_ble_eq_true rfl, Nat.le_of_ble_eq_true rfl⟩ ?_
                  refine W.eq (g2 := F0 m 64 ls [.int z_30]) rfl ?_
                  refine lv_if_eq (tgt := 80) hx hb dX6_readFrom_64 (by decide) (fun c9 => ?_) (fun c9 => ?_)
                  · have h0 := it_t c9 h0
                    refine lv_iload_n hx hb dX6_readFrom_80 rfl (lv_at hl 2 rfl) ?_
                    have e0 := Option.some.inj h0
                    subst e0
                    exact W.iret (v := x3_27) hx hb hr (fun t ht hW => wr_end () ht hP hD hS) hS.2.2 dX6_readFrom_81
                  · have h0 := it_f c9 h0
                    refine lv_aload_n hx hb dX6_readFrom_67 rfl (lv_at hl 4 rfl) ?_
                    refine lv_iload hx hb dX6_readFrom_68 (lv_at hl 3 rfl) ?_
                    refine lv_iload hx hb dX6_readFrom_70 (lv_at hl 1 rfl) ?_
                    refine lv_iload hx hb dX6_readFrom_72 (lv_at hl 0 rfl) ?_
                    obtain ⟨z_31, hz, h0⟩ := bd_ok h0
                    refine ro_V (As := [.int x4_6, .int x5_26, .int z_29]) (rest := []) (wc := [(h, .inr (5, [.ref h_cells, .int p2])), (h_cells, .inl (cI, 64, .inl f_28))]) hcf (kX6_isTaken l D cI cC cT h h_cells f_28 p2 x4_6 x5_26 z_29 z_31 hz) (cwV 3 hts gX6_readFrom_X6_isTaken rfl rfl rfl (by decide +kernel) ⟨Nat.le_of_ble_eq_true rfl, Nat.le_of_ble_eq_true rfl⟩) hE (hP.sub [0, 1] rfl) (va_recv hK hP (ci := 5) (q0 := 0) rfl rfl) rfl hl.1 rfl (Nat.le_of_ble_eq_true rfl) dX6_readFrom_74 ⟨Nat.le_of_ble_eq_true rfl, Nat.le_of_ble_eq_true rfl⟩ ?_
                    refine W.eq (g2 := F0 m 77 ls [.int z_31]) rfl ?_
                    refine lv_if_eq (tgt := 82) hx hb dX6_readFrom_77 (by decide) (fun c9 => ?_) (fun c9 => ?_)
                    · have h0 := it_t c9 h0
                      refine lv_aload_n hx hb dX6_readFrom_82 rfl (lv_at hl 4 rfl) ?_
                      refine lv_iload hx hb dX6_readFrom_83 (lv_at hl 3 rfl) ?_
                      refine lv_iload hx hb dX6_readFrom_85 (lv_at hl 1 rfl) ?_
                      refine lv_iload hx hb dX6_readFrom_87 (lv_at hl 0 rfl) ?_
                      obtain ⟨z_32, hz, h0⟩ := bd_ok h0
                      refine wr_V (As := [.int x4_6, .int x5_26, .int z_29]) (rest := []) (wc := [(h, .inr (5, [.ref h_cells, .int p2])), (h_cells, .inl (cI, 64, .inl f_28))]) (wr := [(p1, .inr (1, [.ref p1_signs, .int p1_length])), (p1_signs, .inl (cC, 80, .inl p1_signs_f))]) hcf (kX6_set l D cI cC cT h h_cells f_28 p2 x4_6 x5_26 z_29 _ z_32 hz) (cwV 3 hts gX6_readFrom_X6_set rfl rfl rfl (by decide +kernel) ⟨Nat.le_of_ble_eq_true rfl, Nat.le_of_ble_eq_true rfl⟩) hE hP hD hS hA [0, 1] [2, 3] (hP.sub [0, 1] rfl) (hD.sub [0, 1] (by decide) rfl) (va_recv hK hP (ci := 5) (q0 := 0) rfl rfl) rfl rfl (by decide) (by decide) rfl hl.1 rfl (Nat.le_of_ble_eq_true rfl) dX6_readFrom_89 ⟨Nat.le_of_ble_eq_true rfl, Nat.le_of_ble_eq_true rfl⟩ (fun u H locs hP hD hS => ?_)
                      have hP : va_P D vwCl [(p1, .inr (1, [.ref p1_signs, .int p1_length])), (p1_signs, .inl (cC, 80, .inl p1_signs_f)), (h, .inr (5, [.ref h_cells, .int p2])), (h_cells, .inl (cI, 64, .inl z_32))] H := hP
                      have hD : va_D A [(p1, .inr (1, [.ref p1_signs, .int p1_length])), (p1_signs, .inl (cC, 80, .inl p1_signs_f)), (h, .inr (5, [.ref h_cells, .int p2])), (h_cells, .inl (cI, 64, .inl z_32))] := hD
                      refine W.eq (g2 := F0 m 92 ls []) rfl ?_
                      refine lv_iinc (v := (x3_27 + 1)) (lv' := [(3, .int (x3_27 + 1)), (6, .int z_29), (5, .int x5_26), (4, .int x4_6), (0, .ref h), (1, .ref p1), (2, .int p2)]) hx hb dX6_readFrom_92 hl (k := 2) rfl rfl (by decide) rfl (fun ls hl => ?_)
                      refine lv_iinc (v := (x5_26 + 1)) (lv' := [(5, .int (x5_26 + 1)), (3, .int (x3_27 + 1)), (6, .int z_29), (4, .int x4_6), (0, .ref h), (1, .ref p1), (2, .int p2)]) hx hb dX6_readFrom_95 hl (k := 2) rfl rfl (by decide) rfl (fun ls hl => ?_)
                      refine lv_goto (tgt := 42) hx hb dX6_readFrom_98 (by decide) ?_
                      exact ih42 (x5_26 + 1) (x3_27 + 1) z_32 _ _ ls h0 (hP.sub [2, 3, 0, 1] rfl) (hD.sub [2, 3, 0, 1] (by decide) rfl) hS (lv_sub hl [0, 1, 3, 4, 5, 6] rfl)
                    · have h0 := it_f c9 h0
                      refine lv_iload_n hx hb dX6_readFrom_80 rfl (lv_at hl 2 rfl) ?_
                      have e0 := Option.some.inj h0
                      subst e0
                      exact W.iret (v := x3_27) hx hb hr (fun t ht hW => wr_end () ht hP hD hS) hS.2.2 dX6_readFrom_81
            exact L_42_32 FU 0 (x3_7 + 1) f_8 _ _ ls h0 hP hD hS hl
          · have h0 := it_f c9 h0
            refine lv_iload_n hx hb dX6_readFrom_34 rfl (lv_at hl 1 rfl) ?_
            have e0 := Option.some.inj h0
            subst e0
            exact W.iret (v := x3_7) hx hb hr (fun t ht hW => wr_end () ht hP hD hS) hS.2.2 dX6_readFrom_35
  exact L_10_33 FU 0 0 h_cells_f _ _ ls h0 hP hD hS hl
