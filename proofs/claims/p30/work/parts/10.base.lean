noncomputable def mX9_get (p1_n : Nat) (p1_f : Nat → Int32) (p2 : Int32) : Option (Int32) :=
  if p2 < 0 then (some (0)) else (if (Int32.ofNat p1_n) ≤ p2 then (some (0)) else (gd (inb p2 p1_n) (some ((p1_f (p2 : Int32).toNatClampNeg)))))
set_option maxHeartbeats 8000000 in
set_option maxRecDepth 100000 in
theorem kX9_get (l : Launch) (D : va_G) (cI cC cT : ClassId) (p1 : Nat) (p1_n : Nat) (p1_f : Nat → Int32) (p2 : Int32) (z : Int32) (h0 : mX9_get p1_n p1_f p2 = some z) : Met l yX9_get wsX9_get ({ frames := 0, cells := 0, slots := 0, locals := 0 } : Room) (va_Pc [.ref p1, .int p2] (rP D cI cC cT [(p1, .inl (cI, p1_n, .inl p1_f))])) (rQ (some (.int z))) 0 0 (fun _ => False) := by
  refine Met.ofW (cc := cX9_get) (maxL := 2) (ret := (some .int)) (by decide) rfl ?_
  intro p e s m args below meth c s₁ B hml hv
  obtain ⟨rfl, hP, hE⟩ := hv
  have hx := B.exec
  have hb := B.bytes
  have hr := B.returns
  have hts := atoms_spec (ws := wsX9_get) B.pre
  have hown : s.vm.findClass RX9 = some m.cls := findClass_of_methodNamed B.named
  have hlocks := B.notSynchronized
  have hK := hE.1
  have hcf : CallFix p m c cX9_get 2 s ([.ref p1, .int p2] : List Value).toArray wsX9_get RX9 := ⟨hx, hb, hml, hown, hts⟩
  have hP : va_P D vwCl [(p1, .inl (cI, p1_n, .inl p1_f))] s.heap := hP
  have hl := lv_entry ([.ref p1, .int p2]) (n := 2) (Nat.le_of_ble_eq_true rfl)
  rw [lg_entry_eq]
  generalize (lg_sl ([.ref p1, .int p2]) ++ List.replicate (2 - (lg_sl ([.ref p1, .int p2])).length) Slot.unset).toArray = ls at hl ⊢
  have hl : lv_has ls 2 [(0, .ref p1), (1, .int p2)] := hl
  unfold mX9_get at h0
  refine lv_iload_n hx hb dX9_get_0 rfl (lv_at hl 1 rfl) ?_
  refine lv_if_lt (tgt := 16) hx hb dX9_get_1 (by decide) (fun c9 => ?_) (fun c9 => ?_)
  · have h0 := it_t c9 h0
    refine lv_iconst (v := 0) hx hb dX9_get_16 (by decide) ?_
    have e0 := Option.some.inj h0
    subst e0
    exact W.iret (v := 0) hx hb hr (fun t ht hW => ⟨rfl, ht⟩) (fun q hq => absurd hq List.not_mem_nil) dX9_get_17
  · have h0 := it_f c9 h0
    refine lv_iload_n hx hb dX9_get_4 rfl (lv_at hl 1 rfl) ?_
    refine lv_aload_n hx hb dX9_get_5 rfl (lv_at hl 0 rfl) ?_
    refine va_alen hx hb hK hP 0 0 (v := (Int32.ofNat p1_n)) rfl rfl rfl dX9_get_6 ?_
    refine lv_icmp_ge (tgt := 16) hx hb dX9_get_7 (by decide) (fun c9 => ?_) (fun c9 => ?_)
    · have h0 := it_t c9 h0
      refine lv_iconst (v := 0) hx hb dX9_get_16 (by decide) ?_
      have e0 := Option.some.inj h0
      subst e0
      exact W.iret (v := 0) hx hb hr (fun t ht hW => ⟨rfl, ht⟩) (fun q hq => absurd hq List.not_mem_nil) dX9_get_17
    · have h0 := it_f c9 h0
      refine lv_aload_n hx hb dX9_get_10 rfl (lv_at hl 0 rfl) ?_
      refine lv_iload_n hx hb dX9_get_11 rfl (lv_at hl 1 rfl) ?_
      obtain ⟨g0, h0⟩ := gd_ok h0
      refine va_iald hx hb hK hP 0 0 rfl rfl (inb_ok g0) dX9_get_12 ?_
      refine lv_goto (tgt := 17) hx hb dX9_get_13 (by decide) ?_
      have e0 := Option.some.inj h0
      subst e0
      exact W.iret (v := (p1_f (p2 : Int32).toNatClampNeg)) hx hb hr (fun t ht hW => ⟨rfl, ht⟩) (fun q hq => absurd hq List.not_mem_nil) dX9_get_17
noncomputable def mX9_put (p1_n : Nat) (p1_f : Nat → Int32) (p2 : Int32) (p3 : Int32) : Option ((Nat → Int32)) :=
  if p2 < 0 then (some (p1_f)) else (if (Int32.ofNat p1_n) ≤ p2 then (some (p1_f)) else (gd (inb p2 p1_n) (some ((upd p1_f (p2 : Int32).toNatClampNeg p3)))))
set_option maxHeartbeats 8000000 in
set_option maxRecDepth 100000 in
theorem kX9_put (l : Launch) (D : va_G) (cI cC cT : ClassId) (p1 : Nat) (p1_n : Nat) (p1_f : Nat → Int32) (p2 : Int32) (p3 : Int32) (sz : Nat) (z : (Nat → Int32)) (h0 : mX9_put p1_n p1_f p2 p3 = some z) : Met l yX9_put wsX9_put ({ frames := 0, cells := 0, slots := 0, locals := 0 } : Room) (va_Pc [.ref p1, .int p2, .int p3] (wP D cI cC cT [(p1, .inl (cI, p1_n, .inl p1_f))] sz)) (wQ D none (va_A [(p1, .inl (cI, p1_n, .inl p1_f))] sz) (fun (u : Unit) => [(p1, .inl (cI, p1_n, .inl z))])) 0 0 (va_A [(p1, .inl (cI, p1_n, .inl p1_f))] sz) := by
  refine Met.ofW (cc := cX9_put) (maxL := 3) (ret := none) (by decide) rfl ?_
  intro p e s m args below meth c s₁ B hml hv
  obtain ⟨rfl, hsz, hP, hE, hD0⟩ := hv
  have hx := B.exec
  have hb := B.bytes
  have hr := B.returns
  have hts := atoms_spec (ws := wsX9_put) B.pre
  have hown : s.vm.findClass RX9 = some m.cls := findClass_of_methodNamed B.named
  have hlocks := B.notSynchronized
  have hK := hE.1
  have hcf : CallFix p m c cX9_put 3 s ([.ref p1, .int p2, .int p3] : List Value).toArray wsX9_put RX9 := ⟨hx, hb, hml, hown, hts⟩
  subst hsz
  have hD := hD0.self (sz := s.heap.size)
  generalize hAe : va_A [(p1, .inl (cI, p1_n, .inl p1_f))] s.heap.size = A at hD ⊢
  have hA : ∀ q : Nat, s.heap.size ≤ q → A q := fun q h => by rw [← hAe]; exact Or.inr h
  have hS : va_S A s.heap s.heap [] := va_S.rf
  have hP : va_P D vwCl [(p1, .inl (cI, p1_n, .inl p1_f))] s.heap := hP
  have hl := lv_entry ([.ref p1, .int p2, .int p3]) (n := 3) (Nat.le_of_ble_eq_true rfl)
  rw [lg_entry_eq]
  generalize (lg_sl ([.ref p1, .int p2, .int p3]) ++ List.replicate (3 - (lg_sl ([.ref p1, .int p2, .int p3])).length) Slot.unset).toArray = ls at hl ⊢
  have hl : lv_has ls 3 [(0, .ref p1), (1, .int p2), (2, .int p3)] := hl
  unfold mX9_put at h0
  refine lv_iload_n hx hb dX9_put_0 rfl (lv_at hl 1 rfl) ?_
  refine lv_if_lt (tgt := 14) hx hb dX9_put_1 (by decide) (fun c9 => ?_) (fun c9 => ?_)
  · have h0 := it_t c9 h0
    have e0 := Option.some.inj h0
    subst e0
    exact W.vret hx hb hr (fun t ht hW => wr_end () ht hP hD hS) hS.2.2 dX9_put_14
  · have h0 := it_f c9 h0
    refine lv_iload_n hx hb dX9_put_4 rfl (lv_at hl 1 rfl) ?_
    refine lv_aload_n hx hb dX9_put_5 rfl (lv_at hl 0 rfl) ?_
    refine va_alen hx hb hK hP 0 0 (v := (Int32.ofNat p1_n)) rfl rfl rfl dX9_put_6 ?_
    refine lv_icmp_ge (tgt := 14) hx hb dX9_put_7 (by decide) (fun c9 => ?_) (fun c9 => ?_)
    · have h0 := it_t c9 h0
      have e0 := Option.some.inj h0
      subst e0
      exact W.vret hx hb hr (fun t ht hW => wr_end () ht hP hD hS) hS.2.2 dX9_put_14
    · have h0 := it_f c9 h0
      refine lv_aload_n hx hb dX9_put_10 rfl (lv_at hl 0 rfl) ?_
      refine lv_iload_n hx hb dX9_put_11 rfl (lv_at hl 1 rfl) ?_
      refine lv_iload_n hx hb dX9_put_12 rfl (lv_at hl 2 rfl) ?_
      obtain ⟨g0, h0⟩ := gd_ok h0
      refine va_iast hx hb hK hP hD hS 0 0 rfl rfl (inb_ok g0) dX9_put_13 (fun H locs hP hD hS => ?_)
      have hP : va_P D vwCl [(p1, .inl (cI, p1_n, .inl (upd p1_f (p2 : Int32).toNatClampNeg p3)))] H := hP
      have hD : va_D A [(p1, .inl (cI, p1_n, .inl (upd p1_f (p2 : Int32).toNatClampNeg p3)))] := hD
      have e0 := Option.some.inj h0
      subst e0
      exact W.vret hx hb hr (fun t ht hW => wr_end () ht hP hD hS) hS.2.2 dX9_put_14
noncomputable def mX1_init  : Option ((Nat → Int32) × Int32) :=
  some ((fun _ => 0), 0)
set_option maxHeartbeats 8000000 in
set_option maxRecDepth 100000 in
theorem kX1_init (l : Launch) (D : va_G) (cI cC cT : ClassId) (h : Nat) (sz : Nat) (z : (Nat → Int32) × Int32) (h0 : mX1_init  = some z) : Met l yX1_init wsX1_init ({ frames := 1, cells := 1, slots := 80, locals := 20 } : Room) (va_Pc [.ref h] (wP D cI cC cT [(h, .inr (1, [.null, .int 0]))] sz)) (wQ D none (va_A [(h, .inr (1, [.null, .int 0]))] sz) (fun (u : Nat) => [(h, .inr (1, [.ref u, .int z.2])), (u, .inl (cC, 80, .inl z.1))])) 1 80 (va_A [(h, .inr (1, [.null, .int 0]))] sz) := by
  refine Met.ofW (cc := cX1_init) (maxL := 1) (ret := none) (by decide) rfl ?_
  intro p e s m args below meth c s₁ B hml hv
  obtain ⟨rfl, hsz, hP, hE, hD0⟩ := hv
  have hx := B.exec
  have hb := B.bytes
  have hr := B.returns
  have hts := atoms_spec (ws := wsX1_init) B.pre
  have hown : s.vm.findClass RX1 = some m.cls := findClass_of_methodNamed B.named
  have hlocks := B.notSynchronized
  have hK := hE.1
  have hcf : CallFix p m c cX1_init 1 s ([.ref h] : List Value).toArray wsX1_init RX1 := ⟨hx, hb, hml, hown, hts⟩
  have hin : meth.name = "<init>" := (name_of_methodNamed B.named B.method).1
  subst hsz
  have hD := hD0.self (sz := s.heap.size)
  generalize hAe : va_A [(h, .inr (1, [.null, .int 0]))] s.heap.size = A at hD ⊢
  have hA : ∀ q : Nat, s.heap.size ≤ q → A q := fun q h => by rw [← hAe]; exact Or.inr h
  have hS : va_S A s.heap s.heap [] := va_S.rf
  have hP : va_P D vwCl [(h, .inr (1, [.null, .int 0]))] s.heap := hP
  have hf_9 := hts (.fieldLink RX1 9 "CrookedSums$Pad" "signs" "[C") (by decide +kernel)
  have hi_X1 := (show ∀ w ∈ u_ws RX1 TX1 2, w ∈ wsX1_init from by decide +kernel)
  have hl := lv_entry ([.ref h]) (n := 1) (Nat.le_of_ble_eq_true rfl)
  rw [lg_entry_eq]
  generalize (lg_sl ([.ref h]) ++ List.replicate (1 - (lg_sl ([.ref h])).length) Slot.unset).toArray = ls at hl ⊢
  have hl : lv_has ls 1 [(0, .ref h)] := hl
  unfold mX1_init at h0
  refine lv_aload_n hx hb dX1_init_0 rfl (lv_at hl 0 rfl) ?_
  refine W.objInit hx hb hown (hts (.methodLink RX1 1 objectInit) (by decide +kernel)) (hts (.instanceMethod objectInit) (by decide +kernel)) (hts (.code objectInit ⟨#[0xb1]⟩ 1 none) (by decide +kernel)) rfl (by rw [hml]; exact hl.1) rfl dX1_init_1 (Nat.le_of_ble_eq_true rfl) (Nat.le_of_ble_eq_true rfl) ?_
  refine W.eq (g2 := F0 m 4 ls []) rfl ?_
  refine lv_aload_n hx hb dX1_init_4 rfl (lv_at hl 0 rfl) ?_
  refine lv_bipush (v := 80) hx hb dX1_init_5 (by decide) ?_
  refine va_newa (atype := .char) (ty := .char) (N' := 80) (a0 := (80, .inl (fun _ => 0))) hx hb (hts (.arrayClass .char) (by decide +kernel)) rfl hK hP hD hS hA (fun cA => rfl) (by decide) (by decide) (Nat.le_of_ble_eq_true rfl) (Nat.le_of_ble_eq_true rfl) (Nat.le_of_ble_eq_true rfl) dX1_init_7 (fun q_1 cA H hK2 hP hD hS => ?_)
  have ecA := eK_char hK hK2
  subst ecA
  have hP : va_P D vwCl [(h, .inr (1, [.null, .int 0])), (q_1, .inl (cC, 80, .inl (fun _ => 0)))] H := hP
  have hD : va_D A [(h, .inr (1, [.null, .int 0])), (q_1, .inl (cC, 80, .inl (fun _ => 0)))] := hD
  refine va_putF (D := D) (ci := 1) (v := .ref q_1) (ty := (.array .char)) (C := RX1) (T := TX1) (N := 2) hx hb hts hi_X1 tyX1 tyX1_ok nmX1 hown hK hP hD hS 0 rfl rfl 0 (by decide) hf_9 (fun _ h9 => h9) rfl hin rfl (by decide +kernel) rfl rfl (Nat.le_of_ble_eq_true rfl) dX1_init_9 (fun H locs hP hD hS => ?_)
  have hP : va_P D vwCl [(h, .inr (1, [.ref q_1, .int 0])), (q_1, .inl (cC, 80, .inl (fun _ => 0)))] H := hP
  have hD : va_D A [(h, .inr (1, [.ref q_1, .int 0])), (q_1, .inl (cC, 80, .inl (fun _ => 0)))] := hD
  have e0 := Option.some.inj h0
  subst e0
  refine W.widen (k := 1) (n := 80) (Nat.le_of_ble_eq_true rfl) (Nat.le_of_ble_eq_true rfl) ?_
  exact W.vret hx hb hr (fun t ht hW => wr_end (q_1) ht (hP.sub [0, 1] rfl) (hD.sub [0, 1] (by decide) rfl) hS) hS.2.2 dX1_init_12
noncomputable def mX1_add (h_signs_f : Nat → Int32) (h_length : Int32) (p1 : Int32) : Option (Int32 × (Nat → Int32) × Int32) :=
  if h_length < 0 then (some (0, h_signs_f, h_length)) else (if h_length < 80 then (gd (inb h_length 80) (some (1, (upd h_signs_f (h_length : Int32).toNatClampNeg (vp_nar .char p1)), (h_length + 1)))) else (some (0, h_signs_f, h_length)))
set_option maxHeartbeats 8000000 in
set_option maxRecDepth 100000 in
theorem kX1_add (l : Launch) (D : va_G) (cI cC cT : ClassId) (h h_signs : Nat) (h_signs_f : Nat → Int32) (h_length : Int32) (p1 : Int32) (sz : Nat) (z : Int32 × (Nat → Int32) × Int32) (h0 : mX1_add h_signs_f h_length p1 = some z) : Met l yX1_add wsX1_add ({ frames := 0, cells := 0, slots := 0, locals := 0 } : Room) (va_Pc [.ref h, .int p1] (wP D cI cC cT [(h, .inr (1, [.ref h_signs, .int h_length])), (h_signs, .inl (cC, 80, .inl h_signs_f))] sz)) (wQ D (some (.int z.1)) (va_A [(h, .inr (1, [.ref h_signs, .int h_length])), (h_signs, .inl (cC, 80, .inl h_signs_f))] sz) (fun (u : Unit) => [(h, .inr (1, [.ref h_signs, .int z.2.2])), (h_signs, .inl (cC, 80, .inl z.2.1))])) 0 0 (va_A [(h, .inr (1, [.ref h_signs, .int h_length])), (h_signs, .inl (cC, 80, .inl h_signs_f))] sz) := by
  refine Met.ofW (cc := cX1_add) (maxL := 2) (ret := (some .boolean)) (by decide) rfl ?_
  intro p e s m args below meth c s₁ B hml hv
  obtain ⟨rfl, hsz, hP, hE, hD0⟩ := hv
  have hx := B.exec
  have hb := B.bytes
  have hr := B.returns
  have hts := atoms_spec (ws := wsX1_add) B.pre
  have hown : s.vm.findClass RX1 = some m.cls := findClass_of_methodNamed B.named
  have hlocks := B.notSynchronized
  have hK := hE.1
  have hcf : CallFix p m c cX1_add 2 s ([.ref h, .int p1] : List Value).toArray wsX1_add RX1 := ⟨hx, hb, hml, hown, hts⟩
  subst hsz
  have hD := hD0.self (sz := s.heap.size)
  generalize hAe : va_A [(h, .inr (1, [.ref h_signs, .int h_length])), (h_signs, .inl (cC, 80, .inl h_signs_f))] s.heap.size = A at hD ⊢
  have hA : ∀ q : Nat, s.heap.size ≤ q → A q := fun q h => by rw [← hAe]; exact Or.inr h
  have hS : va_S A s.heap s.heap [] := va_S.rf
  have hP : va_P D vwCl [(h, .inr (1, [.ref h_signs, .int h_length])), (h_signs, .inl (cC, 80, .inl h_signs_f))] s.heap := hP
  have hf_13 := hts (.fieldLink RX1 13 "CrookedSums$Pad" "length" "I") (by decide +kernel)
  have hi_X1 := (show ∀ w ∈ u_ws RX1 TX1 2, w ∈ wsX1_add from by decide +kernel)
  have hf_9 := hts (.fieldLink RX1 9 "CrookedSums$Pad" "signs" "[C") (by decide +kernel)
  have hl := lv_entry ([.ref h, .int p1]) (n := 2) (Nat.le_of_ble_eq_true rfl)
  rw [lg_entry_eq]
  generalize (lg_sl ([.ref h, .int p1]) ++ List.replicate (2 - (lg_sl ([.ref h, .int p1])).length) Slot.unset).toArray = ls at hl ⊢
  have hl : lv_has ls 2 [(0, .ref h), (1, .int p1)] := hl
  unfold mX1_add at h0
  refine lv_aload_n hx hb dX1_add_0 rfl (lv_at hl 0 rfl) ?_
  refine va_get (D := D) (ci := 1) (v := .int h_length) (C := RX1) (T := TX1) (N := 2) hx hb hts hi_X1 hown hK hP 0 rfl rfl 1 (by decide) hf_13 (fun _ h9 => h9) rfl dX1_add_1 ?_
  refine lv_if_lt (tgt := 19) hx hb dX1_add_4 (by decide) (fun c9 => ?_) (fun c9 => ?_)
  · have h0 := it_t c9 h0
    refine lv_iconst (v := 0) hx hb dX1_add_19 (by decide) ?_
    have e0 := Option.some.inj h0
    subst e0
    exact W.zret (ty := .boolean) (v := 0) hx hb hr rfl (fun t ht hW => wr_end () ht hP hD hS) hS.2.2 dX1_add_20
  · have h0 := it_f c9 h0
    refine lv_aload_n hx hb dX1_add_7 rfl (lv_at hl 0 rfl) ?_
    refine va_get (D := D) (ci := 1) (v := .int h_length) (C := RX1) (T := TX1) (N := 2) hx hb hts hi_X1 hown hK hP 0 rfl rfl 1 (by decide) hf_13 (fun _ h9 => h9) rfl dX1_add_8 ?_
    refine lv_aload_n hx hb dX1_add_11 rfl (lv_at hl 0 rfl) ?_
    refine va_get (D := D) (ci := 1) (v := .ref h_signs) (C := RX1) (T := TX1) (N := 2) hx hb hts hi_X1 hown hK hP 0 rfl rfl 0 (by decide) hf_9 (fun _ h9 => h9) rfl dX1_add_12 ?_
    refine va_alen hx hb hK hP 1 1 (v := 80) rfl rfl (show Int32.ofNat 80 = 80 from by decide) dX1_add_15 ?_
    refine lv_icmp_lt (tgt := 21) hx hb dX1_add_16 (by decide) (fun c9 => ?_) (fun c9 => ?_)
    · have h0 := it_t c9 h0
      refine lv_aload_n hx hb dX1_add_21 rfl (lv_at hl 0 rfl) ?_
      refine va_get (D := D) (ci := 1) (v := .ref h_signs) (C := RX1) (T := TX1) (N := 2) hx hb hts hi_X1 hown hK hP 0 rfl rfl 0 (by decide) hf_9 (fun _ h9 => h9) rfl dX1_add_22 ?_
      refine lv_aload_n hx hb dX1_add_25 rfl (lv_at hl 0 rfl) ?_
      refine va_get (D := D) (ci := 1) (v := .int h_length) (C := RX1) (T := TX1) (N := 2) hx hb hts hi_X1 hown hK hP 0 rfl rfl 1 (by decide) hf_13 (fun _ h9 => h9) rfl dX1_add_26 ?_
      refine lv_iload_n hx hb dX1_add_29 rfl (lv_at hl 1 rfl) ?_
      obtain ⟨g0, h0⟩ := gd_ok h0
      refine va_cast hx hb hK hP hD hS 1 1 rfl rfl (inb_ok g0) dX1_add_30 (fun H locs hP hD hS => ?_)
      have hP : va_P D vwCl [(h, .inr (1, [.ref h_signs, .int h_length])), (h_signs, .inl (cC, 80, .inl (upd h_signs_f (h_length : Int32).toNatClampNeg (vp_nar .char p1))))] H := hP
      have hD : va_D A [(h, .inr (1, [.ref h_signs, .int h_length])), (h_signs, .inl (cC, 80, .inl (upd h_signs_f (h_length : Int32).toNatClampNeg (vp_nar .char p1))))] := hD
      refine lv_aload_n hx hb dX1_add_31 rfl (lv_at hl 0 rfl) ?_
      refine lv_dup hx hb dX1_add_32 rfl ?_
      refine va_get (D := D) (ci := 1) (v := .int h_length) (C := RX1) (T := TX1) (N := 2) hx hb hts hi_X1 hown hK hP 0 rfl rfl 1 (by decide) hf_13 (fun _ h9 => h9) rfl dX1_add_33 ?_
      refine lv_iconst (v := 1) hx hb dX1_add_36 (by decide) ?_
      refine lv_iadd hx hb dX1_add_37 ?_
      refine va_put (D := D) (ci := 1) (v := .int (h_length + 1)) (ty := .int) (C := RX1) (T := TX1) (N := 2) hx hb hts hi_X1 tyX1 tyX1_ok nmX1 hown hK hP hD hS 0 rfl rfl 1 (by decide) hf_13 (fun _ h9 => h9) rfl (by decide +kernel) rfl rfl (Nat.le_of_ble_eq_true rfl) dX1_add_38 (fun H locs hP hD hS => ?_)
      have hP : va_P D vwCl [(h, .inr (1, [.ref h_signs, .int (h_length + 1)])), (h_signs, .inl (cC, 80, .inl (upd h_signs_f (h_length : Int32).toNatClampNeg (vp_nar .char p1))))] H := hP
      have hD : va_D A [(h, .inr (1, [.ref h_signs, .int (h_length + 1)])), (h_signs, .inl (cC, 80, .inl (upd h_signs_f (h_length : Int32).toNatClampNeg (vp_nar .char p1))))] := hD
      refine lv_iconst (v := 1) hx hb dX1_add_41 (by decide) ?_
      have e0 := Option.some.inj h0
      subst e0
      exact W.zret (ty := .boolean) (v := 1) hx hb hr rfl (fun t ht hW => wr_end () ht hP hD hS) hS.2.2 dX1_add_42
    · have h0 := it_f c9 h0
      refine lv_iconst (v := 0) hx hb dX1_add_19 (by decide) ?_
      have e0 := Option.some.inj h0
      subst e0
      exact W.zret (ty := .boolean) (v := 0) hx hb hr rfl (fun t ht hW => wr_end () ht hP hD hS) hS.2.2 dX1_add_20
noncomputable def mX1_signAt (h_signs_f : Nat → Int32) (h_length : Int32) (p1 : Int32) : Option (Int32) :=
  if p1 < 0 then (some (0)) else (if h_length ≤ p1 then (some (0)) else (if (80 : Int32) ≤ p1 then (some (0)) else (gd (inb p1 80) (gd (nch (h_signs_f (p1 : Int32).toNatClampNeg)) (some ((h_signs_f (p1 : Int32).toNatClampNeg)))))))
set_option maxHeartbeats 8000000 in
set_option maxRecDepth 100000 in
theorem kX1_signAt (l : Launch) (D : va_G) (cI cC cT : ClassId) (h h_signs : Nat) (h_signs_f : Nat → Int32) (h_length : Int32) (p1 : Int32) (z : Int32) (h0 : mX1_signAt h_signs_f h_length p1 = some z) : Met l yX1_signAt wsX1_signAt ({ frames := 0, cells := 0, slots := 0, locals := 0 } : Room) (va_Pc [.ref h, .int p1] (rP D cI cC cT [(h, .inr (1, [.ref h_signs, .int h_length])), (h_signs, .inl (cC, 80, .inl h_signs_f))])) (rQ (some (.int z))) 0 0 (fun _ => False) := by
  refine Met.ofW (cc := cX1_signAt) (maxL := 2) (ret := (some .char)) (by decide) rfl ?_
  intro p e s m args below meth c s₁ B hml hv
  obtain ⟨rfl, hP, hE⟩ := hv
  have hx := B.exec
  have hb := B.bytes
  have hr := B.returns
  have hts := atoms_spec (ws := wsX1_signAt) B.pre
  have hown : s.vm.findClass RX1 = some m.cls := findClass_of_methodNamed B.named
  have hlocks := B.notSynchronized
  have hK := hE.1
  have hcf : CallFix p m c cX1_signAt 2 s ([.ref h, .int p1] : List Value).toArray wsX1_signAt RX1 := ⟨hx, hb, hml, hown, hts⟩
  have hP : va_P D vwCl [(h, .inr (1, [.ref h_signs, .int h_length])), (h_signs, .inl (cC, 80, .inl h_signs_f))] s.heap := hP
  have hf_13 := hts (.fieldLink RX1 13 "CrookedSums$Pad" "length" "I") (by decide +kernel)
  have hi_X1 := (show ∀ w ∈ u_ws RX1 TX1 2, w ∈ wsX1_signAt from by decide +kernel)
  have hf_9 := hts (.fieldLink RX1 9 "CrookedSums$Pad" "signs" "[C") (by decide +kernel)
  have hl := lv_entry ([.ref h, .int p1]) (n := 2) (Nat.le_of_ble_eq_true rfl)
  rw [lg_entry_eq]
  generalize (lg_sl ([.ref h, .int p1]) ++ List.replicate (2 - (lg_sl ([.ref h, .int p1])).length) Slot.unset).toArray = ls at hl ⊢
  have hl : lv_has ls 2 [(0, .ref h), (1, .int p1)] := hl
  unfold mX1_signAt at h0
  refine lv_iload_n hx hb dX1_signAt_0 rfl (lv_at hl 1 rfl) ?_
  refine lv_if_lt (tgt := 30) hx hb dX1_signAt_1 (by decide) (fun c9 => ?_) (fun c9 => ?_)
  · have h0 := it_t c9 h0
    refine lv_iconst (v := 0) hx hb dX1_signAt_30 (by decide) ?_
    have e0 := Option.some.inj h0
    subst e0
    exact W.zret (ty := .char) (v := 0) hx hb hr rfl (fun t ht hW => ⟨rfl, ht⟩) (fun q hq => absurd hq List.not_mem_nil) dX1_signAt_31
  · have h0 := it_f c9 h0
    refine lv_iload_n hx hb dX1_signAt_4 rfl (lv_at hl 1 rfl) ?_
    refine lv_aload_n hx hb dX1_signAt_5 rfl (lv_at hl 0 rfl) ?_
    refine va_get (D := D) (ci := 1) (v := .int h_length) (C := RX1) (T := TX1) (N := 2) hx hb hts hi_X1 hown hK hP 0 rfl rfl 1 (by decide) hf_13 (fun _ h9 => h9) rfl dX1_signAt_6 ?_
    refine lv_icmp_ge (tgt := 30) hx hb dX1_signAt_9 (by decide) (fun c9 => ?_) (fun c9 => ?_)
    · have h0 := it_t c9 h0
      refine lv_iconst (v := 0) hx hb dX1_signAt_30 (by decide) ?_
      have e0 := Option.some.inj h0
      subst e0
      exact W.zret (ty := .char) (v := 0) hx hb hr rfl (fun t ht hW => ⟨rfl, ht⟩) (fun q hq => absurd hq List.not_mem_nil) dX1_signAt_31
    · have h0 := it_f c9 h0
      refine lv_iload_n hx hb dX1_signAt_12 rfl (lv_at hl 1 rfl) ?_
      refine lv_aload_n hx hb dX1_signAt_13 rfl (lv_at hl 0 rfl) ?_
      refine va_get (D := D) (ci := 1) (v := .ref h_signs) (C := RX1) (T := TX1) (N := 2) hx hb hts hi_X1 hown hK hP 0 rfl rfl 0 (by decide) hf_9 (fun _ h9 => h9) rfl dX1_signAt_14 ?_
      refine va_alen hx hb hK hP 1 1 (v := 80) rfl rfl (show Int32.ofNat 80 = 80 from by decide) dX1_signAt_17 ?_
      refine lv_icmp_ge (tgt := 30) hx hb dX1_signAt_18 (by decide) (fun c9 => ?_) (fun c9 => ?_)
      · have h0 := it_t c9 h0
        refine lv_iconst (v := 0) hx hb dX1_signAt_30 (by decide) ?_
        have e0 := Option.some.inj h0
        subst e0
        exact W.zret (ty := .char) (v := 0) hx hb hr rfl (fun t ht hW => ⟨rfl, ht⟩) (fun q hq => absurd hq List.not_mem_nil) dX1_signAt_31
      · have h0 := it_f c9 h0
        refine lv_aload_n hx hb dX1_signAt_21 rfl (lv_at hl 0 rfl) ?_
        refine va_get (D := D) (ci := 1) (v := .ref h_signs) (C := RX1) (T := TX1) (N := 2) hx hb hts hi_X1 hown hK hP 0 rfl rfl 0 (by decide) hf_9 (fun _ h9 => h9) rfl dX1_signAt_22 ?_
        refine lv_iload_n hx hb dX1_signAt_25 rfl (lv_at hl 1 rfl) ?_
        obtain ⟨g0, h0⟩ := gd_ok h0
        refine va_cald hx hb hK hP 1 1 rfl rfl (inb_ok g0) dX1_signAt_26 ?_
        refine lv_goto (tgt := 31) hx hb dX1_signAt_27 (by decide) ?_
        obtain ⟨g0, h0⟩ := gd_ok h0
        have e0 := Option.some.inj h0
        subst e0
        exact W.zret (ty := .char) (v := (h_signs_f (p1 : Int32).toNatClampNeg)) hx hb hr (nch_ok g0) (fun t ht hW => ⟨rfl, ht⟩) (fun q hq => absurd hq List.not_mem_nil) dX1_signAt_31
noncomputable def mX1_digitAt (h_signs_f : Nat → Int32) (h_length : Int32) (p1 : Int32) : Option (Int32) :=
  bd (mX1_signAt h_signs_f h_length p1) (fun z_1 => some ((z_1 - 48)))
set_option maxHeartbeats 8000000 in
set_option maxRecDepth 100000 in
theorem kX1_digitAt (l : Launch) (D : va_G) (cI cC cT : ClassId) (h h_signs : Nat) (h_signs_f : Nat → Int32) (h_length : Int32) (p1 : Int32) (z : Int32) (h0 : mX1_digitAt h_signs_f h_length p1 = some z) : Met l yX1_digitAt wsX1_digitAt ({ frames := 1, cells := 0, slots := 0, locals := 21 } : Room) (va_Pc [.ref h, .int p1] (rP D cI cC cT [(h, .inr (1, [.ref h_signs, .int h_length])), (h_signs, .inl (cC, 80, .inl h_signs_f))])) (rQ (some (.int z))) 0 0 (fun _ => False) := by
  refine Met.ofW (cc := cX1_digitAt) (maxL := 2) (ret := (some .int)) (by decide) rfl ?_
  intro p e s m args below meth c s₁ B hml hv
  obtain ⟨rfl, hP, hE⟩ := hv
  have hx := B.exec
  have hb := B.bytes
  have hr := B.returns
  have hts := atoms_spec (ws := wsX1_digitAt) B.pre
  have hown : s.vm.findClass RX1 = some m.cls := findClass_of_methodNamed B.named
  have hlocks := B.notSynchronized
  have hK := hE.1
  have hcf : CallFix p m c cX1_digitAt 2 s ([.ref h, .int p1] : List Value).toArray wsX1_digitAt RX1 := ⟨hx, hb, hml, hown, hts⟩
  have hP : va_P D vwCl [(h, .inr (1, [.ref h_signs, .int h_length])), (h_signs, .inl (cC, 80, .inl h_signs_f))] s.heap := hP
  have hl := lv_entry ([.ref h, .int p1]) (n := 2) (Nat.le_of_ble_eq_true rfl)
  rw [lg_entry_eq]
  generalize (lg_sl ([.ref h, .int p1]) ++ List.replicate (2 - (lg_sl ([.ref h, .int p1])).length) Slot.unset).toArray = ls at hl ⊢
  have hl : lv_has ls 2 [(0, .ref h), (1, .int p1)] := hl
  unfold mX1_digitAt at h0
  refine lv_aload_n hx hb dX1_digitAt_0 rfl (lv_at hl 0 rfl) ?_
  refine lv_iload_n hx hb dX1_digitAt_1 rfl (lv_at hl 1 rfl) ?_
  obtain ⟨z_1, hz, h0⟩ := bd_ok h0
  refine ro_V (As := [.int p1]) (rest := []) (wc := [(h, .inr (1, [.ref h_signs, .int h_length])), (h_signs, .inl (cC, 80, .inl h_signs_f))]) hcf (kX1_signAt l D cI cC cT h h_signs h_signs_f h_length p1 z_1 hz) (cwV 1 hts gX1_digitAt_X1_signAt rfl rfl rfl (by decide +kernel) ⟨Nat.le_of_ble_eq_true rfl, Nat.le_of_ble_eq_true rfl⟩) hE (hP.sub [0, 1] rfl) (va_recv hK hP (ci := 1) (q0 := 0) rfl rfl) rfl hl.1 rfl (Nat.le_of_ble_eq_true rfl) dX1_digitAt_2 ⟨Nat.le_of_ble_eq_true rfl, Nat.le_of_ble_eq_true rfl⟩ ?_
  refine W.eq (g2 := F0 m 5 ls [.int z_1]) rfl ?_
  refine lv_bipush (v := 48) hx hb dX1_digitAt_5 (by decide) ?_
  refine lv_isub hx hb dX1_digitAt_7 ?_
  have e0 := Option.some.inj h0
  subst e0
  exact W.iret (v := (z_1 - 48)) hx hb hr (fun t ht hW => ⟨rfl, ht⟩) (fun q hq => absurd hq List.not_mem_nil) dX1_digitAt_8
noncomputable def mX1_length (h_length : Int32) : Option (Int32) :=
  some (h_length)
set_option maxHeartbeats 8000000 in
set_option maxRecDepth 100000 in
theorem kX1_length (l : Launch) (D : va_G) (cI cC cT : ClassId) (h h_signs : Nat) (h_signs_f : Nat → Int32) (h_length : Int32) (z : Int32) (h0 : mX1_length h_length = some z) : Met l yX1_length wsX1_length ({ frames := 0, cells := 0, slots := 0, locals := 0 } : Room) (va_Pc [.ref h] (rP D cI cC cT [(h, .inr (1, [.ref h_signs, .int h_length])), (h_signs, .inl (cC, 80, .inl h_signs_f))])) (rQ (some (.int z))) 0 0 (fun _ => False) := by
  refine Met.ofW (cc := cX1_length) (maxL := 1) (ret := (some .int)) (by decide) rfl ?_
  intro p e s m args below meth c s₁ B hml hv
  obtain ⟨rfl, hP, hE⟩ := hv
  have hx := B.exec
  have hb := B.bytes
  have hr := B.returns
  have hts := atoms_spec (ws := wsX1_length) B.pre
  have hown : s.vm.findClass RX1 = some m.cls := findClass_of_methodNamed B.named
  have hlocks := B.notSynchronized
  have hK := hE.1
  have hcf : CallFix p m c cX1_length 1 s ([.ref h] : List Value).toArray wsX1_length RX1 := ⟨hx, hb, hml, hown, hts⟩
  have hP : va_P D vwCl [(h, .inr (1, [.ref h_signs, .int h_length])), (h_signs, .inl (cC, 80, .inl h_signs_f))] s.heap := hP
  have hf_13 := hts (.fieldLink RX1 13 "CrookedSums$Pad" "length" "I") (by decide +kernel)
  have hi_X1 := (show ∀ w ∈ u_ws RX1 TX1 2, w ∈ wsX1_length from by decide +kernel)
  have hl := lv_entry ([.ref h]) (n := 1) (Nat.le_of_ble_eq_true rfl)
  rw [lg_entry_eq]
  generalize (lg_sl ([.ref h]) ++ List.replicate (1 - (lg_sl ([.ref h])).length) Slot.unset).toArray = ls at hl ⊢
  have hl : lv_has ls 1 [(0, .ref h)] := hl
  unfold mX1_length at h0
  refine lv_aload_n hx hb dX1_length_0 rfl (lv_at hl 0 rfl) ?_
  refine va_get (D := D) (ci := 1) (v := .int h_length) (C := RX1) (T := TX1) (N := 2) hx hb hts hi_X1 hown hK hP 0 rfl rfl 1 (by decide) hf_13 (fun _ h9 => h9) rfl dX1_length_1 ?_
  have e0 := Option.some.inj h0
  subst e0
  exact W.iret (v := h_length) hx hb hr (fun t ht hW => ⟨rfl, ht⟩) (fun q hq => absurd hq List.not_mem_nil) dX1_length_4
noncomputable def mX1_wipe  : Option (Int32) :=
  some (0)
set_option maxHeartbeats 8000000 in
set_option maxRecDepth 100000 in
theorem kX1_wipe (l : Launch) (D : va_G) (cI cC cT : ClassId) (h h_signs : Nat) (h_signs_f : Nat → Int32) (h_length : Int32) (sz : Nat) (z : Int32) (h0 : mX1_wipe  = some z) : Met l yX1_wipe wsX1_wipe ({ frames := 0, cells := 0, slots := 0, locals := 0 } : Room) (va_Pc [.ref h] (wP D cI cC cT [(h, .inr (1, [.ref h_signs, .int h_length])), (h_signs, .inl (cC, 80, .inl h_signs_f))] sz)) (wQ D none (va_A [(h, .inr (1, [.ref h_signs, .int h_length])), (h_signs, .inl (cC, 80, .inl h_signs_f))] sz) (fun (u : Unit) => [(h, .inr (1, [.ref h_signs, .int z])), (h_signs, .inl (cC, 80, .inl h_signs_f))])) 0 0 (va_A [(h, .inr (1, [.ref h_signs, .int h_length])), (h_signs, .inl (cC, 80, .inl h_signs_f))] sz) := by
  refine Met.ofW (cc := cX1_wipe) (maxL := 1) (ret := none) (by decide) rfl ?_
  intro p e s m args below meth c s₁ B hml hv
  obtain ⟨rfl, hsz, hP, hE, hD0⟩ := hv
  have hx := B.exec
  have hb := B.bytes
  have hr := B.returns
  have hts := atoms_spec (ws := wsX1_wipe) B.pre
  have hown : s.vm.findClass RX1 = some m.cls := findClass_of_methodNamed B.named
  have hlocks := B.notSynchronized
  have hK := hE.1
  have hcf : CallFix p m c cX1_wipe 1 s ([.ref h] : List Value).toArray wsX1_wipe RX1 := ⟨hx, hb, hml, hown, hts⟩
  subst hsz
  have hD := hD0.self (sz := s.heap.size)
  generalize hAe : va_A [(h, .inr (1, [.ref h_signs, .int h_length])), (h_signs, .inl (cC, 80, .inl h_signs_f))] s.heap.size = A at hD ⊢
  have hA : ∀ q : Nat, s.heap.size ≤ q → A q := fun q h => by rw [← hAe]; exact Or.inr h
  have hS : va_S A s.heap s.heap [] := va_S.rf
  have hP : va_P D vwCl [(h, .inr (1, [.ref h_signs, .int h_length])), (h_signs, .inl (cC, 80, .inl h_signs_f))] s.heap := hP
  have hf_13 := hts (.fieldLink RX1 13 "CrookedSums$Pad" "length" "I") (by decide +kernel)
  have hi_X1 := (show ∀ w ∈ u_ws RX1 TX1 2, w ∈ wsX1_wipe from by decide +kernel)
  have hl := lv_entry ([.ref h]) (n := 1) (Nat.le_of_ble_eq_true rfl)
  rw [lg_entry_eq]
  generalize (lg_sl ([.ref h]) ++ List.replicate (1 - (lg_sl ([.ref h])).length) Slot.unset).toArray = ls at hl ⊢
  have hl : lv_has ls 1 [(0, .ref h)] := hl
  unfold mX1_wipe at h0
  refine lv_aload_n hx hb dX1_wipe_0 rfl (lv_at hl 0 rfl) ?_
  refine lv_iconst (v := 0) hx hb dX1_wipe_1 (by decide) ?_
  refine va_put (D := D) (ci := 1) (v := .int 0) (ty := .int) (C := RX1) (T := TX1) (N := 2) hx hb hts hi_X1 tyX1 tyX1_ok nmX1 hown hK hP hD hS 0 rfl rfl 1 (by decide) hf_13 (fun _ h9 => h9) rfl (by decide +kernel) rfl rfl (Nat.le_of_ble_eq_true rfl) dX1_wipe_2 (fun H locs hP hD hS => ?_)
  have hP : va_P D vwCl [(h, .inr (1, [.ref h_signs, .int 0])), (h_signs, .inl (cC, 80, .inl h_signs_f))] H := hP
  have hD : va_D A [(h, .inr (1, [.ref h_signs, .int 0])), (h_signs, .inl (cC, 80, .inl h_signs_f))] := hD
  have e0 := Option.some.inj h0
  subst e0
  exact W.vret hx hb hr (fun t ht hW => wr_end () ht hP hD hS) hS.2.2 dX1_wipe_5
noncomputable def mX9_hasBit (p1 : Int32) (p2 : Int32) : Option (Int32) :=
  if ((p1 >>> (p2 &&& 31)) &&& 1) = 1 then (some (1)) else (some (0))
set_option maxHeartbeats 8000000 in
set_option maxRecDepth 100000 in
theorem kX9_hasBit (l : Launch) (D : va_G) (cI cC cT : ClassId) (p1 : Int32) (p2 : Int32) (z : Int32) (h0 : mX9_hasBit p1 p2 = some z) : Met l yX9_hasBit wsX9_hasBit ({ frames := 0, cells := 0, slots := 0, locals := 0 } : Room) (va_Pc [.int p1, .int p2] (rP D cI cC cT [])) (rQ (some (.int z))) 0 0 (fun _ => False) := by
  refine Met.ofW (cc := cX9_hasBit) (maxL := 2) (ret := (some .boolean)) (by decide) rfl ?_
  intro p e s m args below meth c s₁ B hml hv
  obtain ⟨rfl, hP, hE⟩ := hv
  have hx := B.exec
  have hb := B.bytes
  have hr := B.returns
  have hts := atoms_spec (ws := wsX9_hasBit) B.pre
  have hown : s.vm.findClass RX9 = some m.cls := findClass_of_methodNamed B.named
  have hlocks := B.notSynchronized
  have hK := hE.1
  have hcf : CallFix p m c cX9_hasBit 2 s ([.int p1, .int p2] : List Value).toArray wsX9_hasBit RX9 := ⟨hx, hb, hml, hown, hts⟩
  have hP : va_P D vwCl [] s.heap := hP
  have hl := lv_entry ([.int p1, .int p2]) (n := 2) (Nat.le_of_ble_eq_true rfl)
  rw [lg_entry_eq]
  generalize (lg_sl ([.int p1, .int p2]) ++ List.replicate (2 - (lg_sl ([.int p1, .int p2])).length) Slot.unset).toArray = ls at hl ⊢
  have hl : lv_has ls 2 [(0, .int p1), (1, .int p2)] := hl
  unfold mX9_hasBit at h0
  refine lv_iload_n hx hb dX9_hasBit_0 rfl (lv_at hl 0 rfl) ?_
  refine lv_iload_n hx hb dX9_hasBit_1 rfl (lv_at hl 1 rfl) ?_
  refine lv_ishr hx hb dX9_hasBit_2 ?_
  refine lv_iconst (v := 1) hx hb dX9_hasBit_3 (by decide) ?_
  refine lv_iand hx hb dX9_hasBit_4 ?_
  refine lv_iconst (v := 1) hx hb dX9_hasBit_5 (by decide) ?_
  refine lv_icmp_ne (tgt := 13) hx hb dX9_hasBit_6 (by decide) (fun c9 => ?_) (fun c9 => ?_)
  · have h0 := it_f c9 h0
    refine lv_iconst (v := 0) hx hb dX9_hasBit_13 (by decide) ?_
    have e0 := Option.some.inj h0
    subst e0
    exact W.zret (ty := .boolean) (v := 0) hx hb hr rfl (fun t ht hW => ⟨rfl, ht⟩) (fun q hq => absurd hq List.not_mem_nil) dX9_hasBit_14
  · have h0 := it_t c9 h0
    refine lv_iconst (v := 1) hx hb dX9_hasBit_9 (by decide) ?_
    refine lv_goto (tgt := 14) hx hb dX9_hasBit_10 (by decide) ?_
    have e0 := Option.some.inj h0
    subst e0
    exact W.zret (ty := .boolean) (v := 1) hx hb hr rfl (fun t ht hW => ⟨rfl, ht⟩) (fun q hq => absurd hq List.not_mem_nil) dX9_hasBit_14
noncomputable def mX9_isWithin (p1 : Int32) (p2 : Int32) (p3 : Int32) : Option (Int32) :=
  if p1 < p2 then (some (0)) else (if p3 < p1 then (some (0)) else (some (1)))
set_option maxHeartbeats 8000000 in
set_option maxRecDepth 100000 in
theorem kX9_isWithin (l : Launch) (D : va_G) (cI cC cT : ClassId) (p1 : Int32) (p2 : Int32) (p3 : Int32) (z : Int32) (h0 : mX9_isWithin p1 p2 p3 = some z) : Met l yX9_isWithin wsX9_isWithin ({ frames := 0, cells := 0, slots := 0, locals := 0 } : Room) (va_Pc [.int p1, .int p2, .int p3] (rP D cI cC cT [])) (rQ (some (.int z))) 0 0 (fun _ => False) := by
  refine Met.ofW (cc := cX9_isWithin) (maxL := 3) (ret := (some .boolean)) (by decide) rfl ?_
  intro p e s m args below meth c s₁ B hml hv
  obtain ⟨rfl, hP, hE⟩ := hv
  have hx := B.exec
  have hb := B.bytes
  have hr := B.returns
  have hts := atoms_spec (ws := wsX9_isWithin) B.pre
  have hown : s.vm.findClass RX9 = some m.cls := findClass_of_methodNamed B.named
  have hlocks := B.notSynchronized
  have hK := hE.1
  have hcf : CallFix p m c cX9_isWithin 3 s ([.int p1, .int p2, .int p3] : List Value).toArray wsX9_isWithin RX9 := ⟨hx, hb, hml, hown, hts⟩
  have hP : va_P D vwCl [] s.heap := hP
  have hl := lv_entry ([.int p1, .int p2, .int p3]) (n := 3) (Nat.le_of_ble_eq_true rfl)
  rw [lg_entry_eq]
  generalize (lg_sl ([.int p1, .int p2, .int p3]) ++ List.replicate (3 - (lg_sl ([.int p1, .int p2, .int p3])).length) Slot.unset).toArray = ls at hl ⊢
  have hl : lv_has ls 3 [(0, .int p1), (1, .int p2), (2, .int p3)] := hl
  unfold mX9_isWithin at h0
  refine lv_iload_n hx hb dX9_isWithin_0 rfl (lv_at hl 0 rfl) ?_
  refine lv_iload_n hx hb dX9_isWithin_1 rfl (lv_at hl 1 rfl) ?_
  refine lv_icmp_lt (tgt := 14) hx hb dX9_isWithin_2 (by decide) (fun c9 => ?_) (fun c9 => ?_)
  · have h0 := it_t c9 h0
    refine lv_iconst (v := 0) hx hb dX9_isWithin_14 (by decide) ?_
    have e0 := Option.some.inj h0
    subst e0
    exact W.zret (ty := .boolean) (v := 0) hx hb hr rfl (fun t ht hW => ⟨rfl, ht⟩) (fun q hq => absurd hq List.not_mem_nil) dX9_isWithin_15
  · have h0 := it_f c9 h0
    refine lv_iload_n hx hb dX9_isWithin_5 rfl (lv_at hl 0 rfl) ?_
    refine lv_iload_n hx hb dX9_isWithin_6 rfl (lv_at hl 2 rfl) ?_
    refine lv_icmp_gt (tgt := 14) hx hb dX9_isWithin_7 (by decide) (fun c9 => ?_) (fun c9 => ?_)
    · have h0 := it_t c9 h0
      refine lv_iconst (v := 0) hx hb dX9_isWithin_14 (by decide) ?_
      have e0 := Option.some.inj h0
      subst e0
      exact W.zret (ty := .boolean) (v := 0) hx hb hr rfl (fun t ht hW => ⟨rfl, ht⟩) (fun q hq => absurd hq List.not_mem_nil) dX9_isWithin_15
    · have h0 := it_f c9 h0
      refine lv_iconst (v := 1) hx hb dX9_isWithin_10 (by decide) ?_
      refine lv_goto (tgt := 15) hx hb dX9_isWithin_11 (by decide) ?_
      have e0 := Option.some.inj h0
      subst e0
      exact W.zret (ty := .boolean) (v := 1) hx hb hr rfl (fun t ht hW => ⟨rfl, ht⟩) (fun q hq => absurd hq List.not_mem_nil) dX9_isWithin_15
noncomputable def mX9_haveCommonDivisor_L2 (p1 : Int32) (p2 : Int32) (k2_28 : Int32 → Option (Int32)) : Nat → Int32 → Option (Int32)
  | 0, _ => none
  | F + 1, x2_3 => if (8 : Int32) < x2_3 then (k2_28 x2_3) else (gd (nzb x2_3) (if (p1 - p1 / x2_3 * x2_3) = 0 then (gd (nzb x2_3) (if (p2 - p2 / x2_3 * x2_3) = 0 then (some (1)) else (mX9_haveCommonDivisor_L2 p1 p2 k2_28 F (x2_3 + 1)))) else (mX9_haveCommonDivisor_L2 p1 p2 k2_28 F (x2_3 + 1))))
noncomputable def mX9_haveCommonDivisor (p1 : Int32) (p2 : Int32) : Option (Int32) :=
  mX9_haveCommonDivisor_L2 p1 p2 (fun (x2_1 : Int32) => some (0)) FU 2
set_option maxHeartbeats 8000000 in
set_option maxRecDepth 100000 in
theorem kX9_haveCommonDivisor (l : Launch) (D : va_G) (cI cC cT : ClassId) (p1 : Int32) (p2 : Int32) (z : Int32) (h0 : mX9_haveCommonDivisor p1 p2 = some z) : Met l yX9_haveCommonDivisor wsX9_haveCommonDivisor ({ frames := 0, cells := 0, slots := 0, locals := 0 } : Room) (va_Pc [.int p1, .int p2] (rP D cI cC cT [])) (rQ (some (.int z))) 0 0 (fun _ => False) := by
  refine Met.ofW (cc := cX9_haveCommonDivisor) (maxL := 3) (ret := (some .boolean)) (by decide) rfl ?_
  intro p e s m args below meth c s₁ B hml hv
  obtain ⟨rfl, hP, hE⟩ := hv
  have hx := B.exec
  have hb := B.bytes
  have hr := B.returns
  have hts := atoms_spec (ws := wsX9_haveCommonDivisor) B.pre
  have hown : s.vm.findClass RX9 = some m.cls := findClass_of_methodNamed B.named
  have hlocks := B.notSynchronized
  have hK := hE.1
  have hcf : CallFix p m c cX9_haveCommonDivisor 3 s ([.int p1, .int p2] : List Value).toArray wsX9_haveCommonDivisor RX9 := ⟨hx, hb, hml, hown, hts⟩
  have hP : va_P D vwCl [] s.heap := hP
  have hl := lv_entry ([.int p1, .int p2]) (n := 3) (Nat.le_of_ble_eq_true rfl)
  rw [lg_entry_eq]
  generalize (lg_sl ([.int p1, .int p2]) ++ List.replicate (3 - (lg_sl ([.int p1, .int p2])).length) Slot.unset).toArray = ls at hl ⊢
  have hl : lv_has ls 3 [(0, .int p1), (1, .int p2)] := hl
  unfold mX9_haveCommonDivisor at h0
  refine lv_iconst (v := 2) hx hb dX9_haveCommonDivisor_0 (by decide) ?_
  refine lv_istore_n (lv' := [(2, .int 2), (0, .int p1), (1, .int p2)]) hx hb dX9_haveCommonDivisor_1 rfl hl (by decide) rfl (fun ls hl => ?_)
  have E_2_28_1 : ∀ (x2_1 : Int32) (ls : Array Slot), (some (0)) = some z → lv_has ls 3 [(2, .int x2_1), (0, .int p1), (1, .int p2)] → W p l e (headSpec wsX9_haveCommonDivisor ({ frames := 0, cells := 0, slots := 0, locals := 0 } : Room)).room s m (([.int p1, .int p2] : List Value).toArray) below meth c s.heap [] 0 0 (MQ below (rQ (some (.int z))) (([.int p1, .int p2] : List Value).toArray) s 0 0 (fun _ => False)) (F0 m 28 ls []) := by
    intro x2_1 ls h0 hl
    refine lv_iconst (v := 0) hx hb dX9_haveCommonDivisor_28 (by decide) ?_
    have e0 := Option.some.inj h0
    subst e0
    exact W.zret (ty := .boolean) (v := 0) hx hb hr rfl (fun t ht hW => ⟨rfl, ht⟩) (fun q hq => absurd hq List.not_mem_nil) dX9_haveCommonDivisor_29
  have L_2_3 : ∀ (F2 : Nat) (x2_3 : Int32) (ls : Array Slot), mX9_haveCommonDivisor_L2 p1 p2 (fun (x2_1 : Int32) => some (0)) F2 x2_3 = some z → lv_has ls 3 [(2, .int x2_3), (0, .int p1), (1, .int p2)] → W p l e (headSpec wsX9_haveCommonDivisor ({ frames := 0, cells := 0, slots := 0, locals := 0 } : Room)).room s m (([.int p1, .int p2] : List Value).toArray) below meth c s.heap [] 0 0 (MQ below (rQ (some (.int z))) (([.int p1, .int p2] : List Value).toArray) s 0 0 (fun _ => False)) (F0 m 2 ls []) := by
    intro F2
    induction F2 with
    | zero => intro x2_3 ls h0 hl; cases h0
    | succ F2 ih2 =>
      intro x2_3 ls h0 hl
      rw [mX9_haveCommonDivisor_L2] at h0
      refine lv_iload_n hx hb dX9_haveCommonDivisor_2 rfl (lv_at hl 0 rfl) ?_
      refine lv_bipush (v := 8) hx hb dX9_haveCommonDivisor_3 (by decide) ?_
      refine lv_icmp_gt (tgt := 28) hx hb dX9_haveCommonDivisor_5 (by decide) (fun c9 => ?_) (fun c9 => ?_)
      · have h0 := it_t c9 h0
        exact E_2_28_1 x2_3 ls h0 hl
      · have h0 := it_f c9 h0
        refine lv_iload_n hx hb dX9_haveCommonDivisor_8 rfl (lv_at hl 1 rfl) ?_
        refine lv_iload_n hx hb dX9_haveCommonDivisor_9 rfl (lv_at hl 0 rfl) ?_
        obtain ⟨g0, h0⟩ := gd_ok h0
        refine lv_irem hx hb dX9_haveCommonDivisor_10 (nzb_ok g0) ?_
        refine lv_if_ne (tgt := 22) hx hb dX9_haveCommonDivisor_11 (by decide) (fun c9 => ?_) (fun c9 => ?_)
        · have h0 := it_f c9 h0
          refine lv_iinc (v := (x2_3 + 1)) (lv' := [(2, .int (x2_3 + 1)), (0, .int p1), (1, .int p2)]) hx hb dX9_haveCommonDivisor_22 hl (k := 0) rfl rfl (by decide) rfl (fun ls hl => ?_)
          refine lv_goto (tgt := 2) hx hb dX9_haveCommonDivisor_25 (by decide) ?_
          exact ih2 (x2_3 + 1) ls h0 hl
        · have h0 := it_t c9 h0
          refine lv_iload_n hx hb dX9_haveCommonDivisor_14 rfl (lv_at hl 2 rfl) ?_
          refine lv_iload_n hx hb dX9_haveCommonDivisor_15 rfl (lv_at hl 0 rfl) ?_
          obtain ⟨g0, h0⟩ := gd_ok h0
          refine lv_irem hx hb dX9_haveCommonDivisor_16 (nzb_ok g0) ?_
          refine lv_if_ne (tgt := 22) hx hb dX9_haveCommonDivisor_17 (by decide) (fun c9 => ?_) (fun c9 => ?_)
          · have h0 := it_f c9 h0
            refine lv_iinc (v := (x2_3 + 1)) (lv' := [(2, .int (x2_3 + 1)), (0, .int p1), (1, .int p2)]) hx hb dX9_haveCommonDivisor_22 hl (k := 0) rfl rfl (by decide) rfl (fun ls hl => ?_)
            refine lv_goto (tgt := 2) hx hb dX9_haveCommonDivisor_25 (by decide) ?_
            exact ih2 (x2_3 + 1) ls h0 hl
          · have h0 := it_t c9 h0
            refine lv_iconst (v := 1) hx hb dX9_haveCommonDivisor_20 (by decide) ?_
            have e0 := Option.some.inj h0
            subst e0
            exact W.zret (ty := .boolean) (v := 1) hx hb hr rfl (fun t ht hW => ⟨rfl, ht⟩) (fun q hq => absurd hq List.not_mem_nil) dX9_haveCommonDivisor_21
  exact L_2_3 FU 2 ls h0 hl
