noncomputable def mX0_init  : Option ((Nat → Int32) × Int32 × (Nat → Int32) × Int32 × (Nat → Int32) × Int32 × (Nat → Int32) × Int32 × Int32) :=
  bd (mX6_init) (fun z_3 => bd (mX6_init) (fun z_6 => bd (mX6_init) (fun z_9 => bd (mX6_init) (fun z_12 => some (z_3.1, z_3.2, z_6.1, z_6.2, z_9.1, z_9.2, z_12.1, z_12.2, 0)))))
set_option maxHeartbeats 8000000 in
set_option maxRecDepth 100000 in
theorem kX0_init (l : Launch) (D : va_G) (cI cC cT : ClassId) (h : Nat) (sz : Nat) (z : (Nat → Int32) × Int32 × (Nat → Int32) × Int32 × (Nat → Int32) × Int32 × (Nat → Int32) × Int32 × Int32) (h0 : mX0_init  = some z) : Met l yX0_init wsX0_init ({ frames := 2, cells := 9, slots := 268, locals := 40 } : Room) (va_Pc [.ref h] (wP D cI cC cT [(h, .inr (0, [.null, .int 0]))] sz)) (wQ D none (va_A [(h, .inr (0, [.null, .int 0]))] sz) (fun (u : Nat × Nat × Nat × Nat × Nat × Nat × Nat × Nat × Nat) => [(h, .inr (0, [.ref u.1, .int z.2.2.2.2.2.2.2.2])), (u.1, .inl (cT, 4, .inr (.inr (.inr (.inr (kf [u.2.1, u.2.2.2.1, u.2.2.2.2.2.1, u.2.2.2.2.2.2.2.1])))))), (u.2.1, .inr (5, [.ref u.2.2.1, .int z.2.1])), (u.2.2.1, .inl (cI, 64, .inl z.1)), (u.2.2.2.1, .inr (5, [.ref u.2.2.2.2.1, .int z.2.2.2.1])), (u.2.2.2.2.1, .inl (cI, 64, .inl z.2.2.1)), (u.2.2.2.2.2.1, .inr (5, [.ref u.2.2.2.2.2.2.1, .int z.2.2.2.2.2.1])), (u.2.2.2.2.2.2.1, .inl (cI, 64, .inl z.2.2.2.2.1)), (u.2.2.2.2.2.2.2.1, .inr (5, [.ref u.2.2.2.2.2.2.2.2, .int z.2.2.2.2.2.2.2.1])), (u.2.2.2.2.2.2.2.2, .inl (cI, 64, .inl z.2.2.2.2.2.2.1))])) 9 268 (va_A [(h, .inr (0, [.null, .int 0]))] sz) := by
  refine Met.ofW (cc := cX0_init) (maxL := 2) (ret := none) (by decide) rfl ?_
  intro p e s m args below meth c s₁ B hml hv
  obtain ⟨rfl, hsz, hP, hE, hD0⟩ := hv
  have hx := B.exec
  have hb := B.bytes
  have hr := B.returns
  have hts := atoms_spec (ws := wsX0_init) B.pre
  have hown : s.vm.findClass RX0 = some m.cls := findClass_of_methodNamed B.named
  have hlocks := B.notSynchronized
  have hK := hE.1
  have hcf : CallFix p m c cX0_init 2 s ([.ref h] : List Value).toArray wsX0_init RX0 := ⟨hx, hb, hml, hown, hts⟩
  have hin : meth.name = "<init>" := (name_of_methodNamed B.named B.method).1
  subst hsz
  have hD := hD0.self (sz := s.heap.size)
  generalize hAe : va_A [(h, .inr (0, [.null, .int 0]))] s.heap.size = A at hD ⊢
  have hA : ∀ q : Nat, s.heap.size ≤ q → A q := fun q h => by rw [← hAe]; exact Or.inr h
  have hS : va_S A s.heap s.heap [] := va_S.rf
  have hP : va_P D vwCl [(h, .inr (0, [.null, .int 0]))] s.heap := hP
  have hf_11 := hts (.fieldLink RX0 11 "CrookedSums$History" "kept" "[LCrookedSums$Table;") (by decide +kernel)
  have hi_X0 := (show ∀ w ∈ u_ws RX0 TX0 2, w ∈ wsX0_init from by decide +kernel)
  have hi_X6 := (show ∀ w ∈ u_ws RX6 TX6 2, w ∈ wsX0_init from by decide +kernel)
  have hl := lv_entry ([.ref h]) (n := 2) (Nat.le_of_ble_eq_true rfl)
  rw [lg_entry_eq]
  generalize (lg_sl ([.ref h]) ++ List.replicate (2 - (lg_sl ([.ref h])).length) Slot.unset).toArray = ls at hl ⊢
  have hl : lv_has ls 2 [(0, .ref h)] := hl
  unfold mX0_init at h0
  refine lv_aload_n hx hb dX0_init_0 rfl (lv_at hl 0 rfl) ?_
  refine W.objInit hx hb hown (hts (.methodLink RX0 1 objectInit) (by decide +kernel)) (hts (.instanceMethod objectInit) (by decide +kernel)) (hts (.code objectInit ⟨#[0xb1]⟩ 1 none) (by decide +kernel)) rfl (by rw [hml]; exact hl.1) rfl dX0_init_1 (Nat.le_of_ble_eq_true rfl) (Nat.le_of_ble_eq_true rfl) ?_
  refine W.eq (g2 := F0 m 4 ls []) rfl ?_
  refine lv_aload_n hx hb dX0_init_4 rfl (lv_at hl 0 rfl) ?_
  refine lv_iconst (v := 4) hx hb dX0_init_5 (by decide) ?_
  refine va_newq (C := RX6) (N' := 4) hx hb hown (hts (.classLink RX0 9 RX6) (by decide +kernel)) hE.2.2.2.2.2.2.2.2 hK hP hD hS hA (by decide) (by decide) (Nat.le_of_ble_eq_true rfl) (Nat.le_of_ble_eq_true rfl) (Nat.le_of_ble_eq_true rfl) dX0_init_6 (fun q_1 cA H hK2 hP hD hS => ?_)
  have ecA := eK_tab hK hK2
  subst ecA
  have hP : va_P D vwCl [(h, .inr (0, [.null, .int 0])), (q_1, .inl (cT, 4, .inr (.inr (.inr (.inr (fun _ => none))))))] H := hP
  have hD : va_D A [(h, .inr (0, [.null, .int 0])), (q_1, .inl (cT, 4, .inr (.inr (.inr (.inr (fun _ => none))))))] := hD
  refine va_putF (D := D) (ci := 0) (v := .ref q_1) (ty := (.array (.object "CrookedSums$Table"))) (C := RX0) (T := TX0) (N := 2) hx hb hts hi_X0 tyX0 tyX0_ok nmX0 hown hK hP hD hS 0 rfl rfl 0 (by decide) hf_11 (fun _ h9 => h9) rfl hin rfl (by decide +kernel) rfl rfl (Nat.le_of_ble_eq_true rfl) dX0_init_9 (fun H locs hP hD hS => ?_)
  have hP : va_P D vwCl [(h, .inr (0, [.ref q_1, .int 0])), (q_1, .inl (cT, 4, .inr (.inr (.inr (.inr (fun _ => none))))))] H := hP
  have hD : va_D A [(h, .inr (0, [.ref q_1, .int 0])), (q_1, .inl (cT, 4, .inr (.inr (.inr (.inr (fun _ => none))))))] := hD
  refine lv_iconst (v := 0) hx hb dX0_init_12 (by decide) ?_
  refine lv_istore_n (lv' := [(1, .int 0), (0, .ref h)]) hx hb dX0_init_13 rfl hl (by decide) rfl (fun ls hl => ?_)
  refine lv_iload_n hx hb dX0_init_14 rfl (lv_at hl 0 rfl) ?_
  refine lv_aload_n hx hb dX0_init_15 rfl (lv_at hl 1 rfl) ?_
  refine va_get (D := D) (ci := 0) (v := .ref q_1) (C := RX0) (T := TX0) (N := 2) hx hb hts hi_X0 hown hK hP 0 rfl rfl 0 (by decide) hf_11 (fun _ h9 => h9) rfl dX0_init_16 ?_
  refine va_alen hx hb hK hP 1 2 (v := 4) rfl rfl (show Int32.ofNat 4 = 4 from by decide) dX0_init_19 ?_
  refine lv_icmp_ge (tgt := 42) hx hb dX0_init_20 (by decide) (fun c9 => absurd c9 (by decide)) (fun _ => ?_)
  refine lv_aload_n hx hb dX0_init_23 rfl (lv_at hl 1 rfl) ?_
  refine va_get (D := D) (ci := 0) (v := .ref q_1) (C := RX0) (T := TX0) (N := 2) hx hb hts hi_X0 hown hK hP 0 rfl rfl 0 (by decide) hf_11 (fun _ h9 => h9) rfl dX0_init_24 ?_
  refine lv_iload_n hx hb dX0_init_27 rfl (lv_at hl 0 rfl) ?_
  refine va_new (ci := 5) (fs := [.null, .int 0]) (C := RX6) (T := TX6) (N := 2) hx hb hts hi_X6 tyX6 tyX6_ok hown (hts (.classLink RX0 9 RX6) (by decide +kernel)) (hts (.instantiable RX6 2) (by decide +kernel)) (hts (.initialized RX6) (by decide +kernel)) hK hP hD hS hA rfl (fun j hj => by rcases (show j = 0 ∨ j = 1 by omega) with rfl | rfl <;> rfl) (Nat.le_of_ble_eq_true rfl) (Nat.le_of_ble_eq_true rfl) dX0_init_28 (fun q_2 H hP hD hS => ?_)
  have hP : va_P D vwCl [(h, .inr (0, [.ref q_1, .int 0])), (q_1, .inl (cT, 4, .inr (.inr (.inr (.inr (fun _ => none)))))), (q_2, .inr (5, [.null, .int 0]))] H := hP
  have hD : va_D A [(h, .inr (0, [.ref q_1, .int 0])), (q_1, .inl (cT, 4, .inr (.inr (.inr (.inr (fun _ => none)))))), (q_2, .inr (5, [.null, .int 0]))] := hD
  refine lv_dup hx hb dX0_init_31 rfl ?_
  obtain ⟨z_3, hz, h0⟩ := bd_ok h0
  refine wr_I (As := []) (rest := [.ref q_2, .int 0, .ref q_1]) (wc := [(q_2, .inr (5, [.null, .int 0]))]) (wr := [(h, .inr (0, [.ref q_1, .int 0])), (q_1, .inl (cT, 4, .inr (.inr (.inr (.inr (fun _ => none))))))]) hcf (kX6_init l D cI cC cT q_2 _ z_3 hz) (cwI 0 hts gX0_init_X6_init rfl rfl rfl (hts (.initialized RX6) (by decide +kernel)) (hts (.methodLink RX0 15 yX6_init) (by decide +kernel)) (hts (.instanceMethod yX6_init) (by decide +kernel)) rfl (by decide +kernel) ⟨Nat.le_of_ble_eq_true rfl, Nat.le_of_ble_eq_true rfl⟩) hE hP hD hS hA [2] [0, 1] (hP.sub [2] rfl) (hD.sub [2] (by decide) rfl) rfl rfl (by decide) (by decide) rfl hl.1 rfl (Nat.le_of_ble_eq_true rfl) dX0_init_32 ⟨Nat.le_of_ble_eq_true rfl, Nat.le_of_ble_eq_true rfl⟩ (fun u H locs hP hD hS => ?_)
  obtain ⟨r_4, rfl⟩ : ∃ x, x = u := ⟨_, rfl⟩
  have hP : va_P D vwCl [(h, .inr (0, [.ref q_1, .int 0])), (q_1, .inl (cT, 4, .inr (.inr (.inr (.inr (fun _ => none)))))), (q_2, .inr (5, [.ref r_4, .int z_3.2])), (r_4, .inl (cI, 64, .inl z_3.1))] H := hP
  have hD : va_D A [(h, .inr (0, [.ref q_1, .int 0])), (q_1, .inl (cT, 4, .inr (.inr (.inr (.inr (fun _ => none)))))), (q_2, .inr (5, [.ref r_4, .int z_3.2])), (r_4, .inl (cI, 64, .inl z_3.1))] := hD
  refine W.eq (g2 := F0 m 35 ls [.ref q_2, .int 0, .ref q_1]) rfl ?_
  refine va_astq (r := (RX6, TX6, 2)) hx hb hK hP hD hS 1 2 2 5 rfl rfl rfl rfl (by unfold vp_in; decide) dX0_init_35 (fun H locs hP hD hS => ?_)
  rw [show (0 : Int32).toNatClampNeg = 0 from by decide] at hP hD
  have hP : va_P D vwCl [(h, .inr (0, [.ref q_1, .int 0])), (q_1, .inl (cT, 4, .inr (.inr (.inr (.inr (va_up (fun _ => none) 0 (some q_2))))))), (q_2, .inr (5, [.ref r_4, .int z_3.2])), (r_4, .inl (cI, 64, .inl z_3.1))] H := hP
  have hD : va_D A [(h, .inr (0, [.ref q_1, .int 0])), (q_1, .inl (cT, 4, .inr (.inr (.inr (.inr (va_up (fun _ => none) 0 (some q_2))))))), (q_2, .inr (5, [.ref r_4, .int z_3.2])), (r_4, .inl (cI, 64, .inl z_3.1))] := hD
  refine lv_iinc (v := 1) (lv' := [(1, .int 1), (0, .ref h)]) hx hb dX0_init_36 hl (k := 0) rfl (by decide) (by decide) rfl (fun ls hl => ?_)
  refine lv_goto (tgt := 14) hx hb dX0_init_39 (by decide) ?_
  refine lv_iload_n hx hb dX0_init_14 rfl (lv_at hl 0 rfl) ?_
  refine lv_aload_n hx hb dX0_init_15 rfl (lv_at hl 1 rfl) ?_
  refine va_get (D := D) (ci := 0) (v := .ref q_1) (C := RX0) (T := TX0) (N := 2) hx hb hts hi_X0 hown hK hP 0 rfl rfl 0 (by decide) hf_11 (fun _ h9 => h9) rfl dX0_init_16 ?_
  refine va_alen hx hb hK hP 1 2 (v := 4) rfl rfl (show Int32.ofNat 4 = 4 from by decide) dX0_init_19 ?_
  refine lv_icmp_ge (tgt := 42) hx hb dX0_init_20 (by decide) (fun c9 => absurd c9 (by decide)) (fun _ => ?_)
  refine lv_aload_n hx hb dX0_init_23 rfl (lv_at hl 1 rfl) ?_
  refine va_get (D := D) (ci := 0) (v := .ref q_1) (C := RX0) (T := TX0) (N := 2) hx hb hts hi_X0 hown hK hP 0 rfl rfl 0 (by decide) hf_11 (fun _ h9 => h9) rfl dX0_init_24 ?_
  refine lv_iload_n hx hb dX0_init_27 rfl (lv_at hl 0 rfl) ?_
  refine va_new (ci := 5) (fs := [.null, .int 0]) (C := RX6) (T := TX6) (N := 2) hx hb hts hi_X6 tyX6 tyX6_ok hown (hts (.classLink RX0 9 RX6) (by decide +kernel)) (hts (.instantiable RX6 2) (by decide +kernel)) (hts (.initialized RX6) (by decide +kernel)) hK hP hD hS hA rfl (fun j hj => by rcases (show j = 0 ∨ j = 1 by omega) with rfl | rfl <;> rfl) (Nat.le_of_ble_eq_true rfl) (Nat.le_of_ble_eq_true rfl) dX0_init_28 (fun q_5 H hP hD hS => ?_)
  have hP : va_P D vwCl [(h, .inr (0, [.ref q_1, .int 0])), (q_1, .inl (cT, 4, .inr (.inr (.inr (.inr (va_up (fun _ => none) 0 (some q_2))))))), (q_2, .inr (5, [.ref r_4, .int z_3.2])), (r_4, .inl (cI, 64, .inl z_3.1)), (q_5, .inr (5, [.null, .int 0]))] H := hP
  have hD : va_D A [(h, .inr (0, [.ref q_1, .int 0])), (q_1, .inl (cT, 4, .inr (.inr (.inr (.inr (va_up (fun _ => none) 0 (some q_2))))))), (q_2, .inr (5, [.ref r_4, .int z_3.2])), (r_4, .inl (cI, 64, .inl z_3.1)), (q_5, .inr (5, [.null, .int 0]))] := hD
  refine lv_dup hx hb dX0_init_31 rfl ?_
  obtain ⟨z_6, hz, h0⟩ := bd_ok h0
  refine wr_I (As := []) (rest := [.ref q_5, .int 1, .ref q_1]) (wc := [(q_5, .inr (5, [.null, .int 0]))]) (wr := [(h, .inr (0, [.ref q_1, .int 0])), (q_1, .inl (cT, 4, .inr (.inr (.inr (.inr (va_up (fun _ => none) 0 (some q_2))))))), (q_2, .inr (5, [.ref r_4, .int z_3.2])), (r_4, .inl (cI, 64, .inl z_3.1))]) hcf (kX6_init l D cI cC cT q_5 _ z_6 hz) (cwI 0 hts gX0_init_X6_init rfl rfl rfl (hts (.initialized RX6) (by decide +kernel)) (hts (.methodLink RX0 15 yX6_init) (by decide +kernel)) (hts (.instanceMethod yX6_init) (by decide +kernel)) rfl (by decide +kernel) ⟨Nat.le_of_ble_eq_true rfl, Nat.le_of_ble_eq_true rfl⟩) hE hP hD hS hA [4] [0, 1, 2, 3] (hP.sub [4] rfl) (hD.sub [4] (by decide) rfl) rfl rfl (by decide) (by decide) rfl hl.1 rfl (Nat.le_of_ble_eq_true rfl) dX0_init_32 ⟨Nat.le_of_ble_eq_true rfl, Nat.le_of_ble_eq_true rfl⟩ (fun u H locs hP hD hS => ?_)
  obtain ⟨r_7, rfl⟩ : ∃ x, x = u := ⟨_, rfl⟩
  have hP : va_P D vwCl [(h, .inr (0, [.ref q_1, .int 0])), (q_1, .inl (cT, 4, .inr (.inr (.inr (.inr (va_up (fun _ => none) 0 (some q_2))))))), (q_2, .inr (5, [.ref r_4, .int z_3.2])), (r_4, .inl (cI, 64, .inl z_3.1)), (q_5, .inr (5, [.ref r_7, .int z_6.2])), (r_7, .inl (cI, 64, .inl z_6.1))] H := hP
  have hD : va_D A [(h, .inr (0, [.ref q_1, .int 0])), (q_1, .inl (cT, 4, .inr (.inr (.inr (.inr (va_up (fun _ => none) 0 (some q_2))))))), (q_2, .inr (5, [.ref r_4, .int z_3.2])), (r_4, .inl (cI, 64, .inl z_3.1)), (q_5, .inr (5, [.ref r_7, .int z_6.2])), (r_7, .inl (cI, 64, .inl z_6.1))] := hD
  refine W.eq (g2 := F0 m 35 ls [.ref q_5, .int 1, .ref q_1]) rfl ?_
  refine va_astq (r := (RX6, TX6, 2)) hx hb hK hP hD hS 1 2 4 5 rfl rfl rfl rfl (by unfold vp_in; decide) dX0_init_35 (fun H locs hP hD hS => ?_)
  rw [show (1 : Int32).toNatClampNeg = 1 from by decide] at hP hD
  have hP : va_P D vwCl [(h, .inr (0, [.ref q_1, .int 0])), (q_1, .inl (cT, 4, .inr (.inr (.inr (.inr (va_up (va_up (fun _ => none) 0 (some q_2)) 1 (some q_5))))))), (q_2, .inr (5, [.ref r_4, .int z_3.2])), (r_4, .inl (cI, 64, .inl z_3.1)), (q_5, .inr (5, [.ref r_7, .int z_6.2])), (r_7, .inl (cI, 64, .inl z_6.1))] H := hP
  have hD : va_D A [(h, .inr (0, [.ref q_1, .int 0])), (q_1, .inl (cT, 4, .inr (.inr (.inr (.inr (va_up (va_up (fun _ => none) 0 (some q_2)) 1 (some q_5))))))), (q_2, .inr (5, [.ref r_4, .int z_3.2])), (r_4, .inl (cI, 64, .inl z_3.1)), (q_5, .inr (5, [.ref r_7, .int z_6.2])), (r_7, .inl (cI, 64, .inl z_6.1))] := hD
  refine lv_iinc (v := 2) (lv' := [(1, .int 2), (0, .ref h)]) hx hb dX0_init_36 hl (k := 0) rfl (by decide) (by decide) rfl (fun ls hl => ?_)
  refine lv_goto (tgt := 14) hx hb dX0_init_39 (by decide) ?_
  refine lv_iload_n hx hb dX0_init_14 rfl (lv_at hl 0 rfl) ?_
  refine lv_aload_n hx hb dX0_init_15 rfl (lv_at hl 1 rfl) ?_
  refine va_get (D := D) (ci := 0) (v := .ref q_1) (C := RX0) (T := TX0) (N := 2) hx hb hts hi_X0 hown hK hP 0 rfl rfl 0 (by decide) hf_11 (fun _ h9 => h9) rfl dX0_init_16 ?_
  refine va_alen hx hb hK hP 1 2 (v := 4) rfl rfl (show Int32.ofNat 4 = 4 from by decide) dX0_init_19 ?_
  refine lv_icmp_ge (tgt := 42) hx hb dX0_init_20 (by decide) (fun c9 => absurd c9 (by decide)) (fun _ => ?_)
  refine lv_aload_n hx hb dX0_init_23 rfl (lv_at hl 1 rfl) ?_
  refine va_get (D := D) (ci := 0) (v := .ref q_1) (C := RX0) (T := TX0) (N := 2) hx hb hts hi_X0 hown hK hP 0 rfl rfl 0 (by decide) hf_11 (fun _ h9 => h9) rfl dX0_init_24 ?_
  refine lv_iload_n hx hb dX0_init_27 rfl (lv_at hl 0 rfl) ?_
  refine va_new (ci := 5) (fs := [.null, .int 0]) (C := RX6) (T := TX6) (N := 2) hx hb hts hi_X6 tyX6 tyX6_ok hown (hts (.classLink RX0 9 RX6) (by decide +kernel)) (hts (.instantiable RX6 2) (by decide +kernel)) (hts (.initialized RX6) (by decide +kernel)) hK hP hD hS hA rfl (fun j hj => by rcases (show j = 0 ∨ j = 1 by omega) with rfl | rfl <;> rfl) (Nat.le_of_ble_eq_true rfl) (Nat.le_of_ble_eq_true rfl) dX0_init_28 (fun q_8 H hP hD hS => ?_)
  have hP : va_P D vwCl [(h, .inr (0, [.ref q_1, .int 0])), (q_1, .inl (cT, 4, .inr (.inr (.inr (.inr (va_up (va_up (fun _ => none) 0 (some q_2)) 1 (some q_5))))))), (q_2, .inr (5, [.ref r_4, .int z_3.2])), (r_4, .inl (cI, 64, .inl z_3.1)), (q_5, .inr (5, [.ref r_7, .int z_6.2])), (r_7, .inl (cI, 64, .inl z_6.1)), (q_8, .inr (5, [.null, .int 0]))] H := hP
  have hD : va_D A [(h, .inr (0, [.ref q_1, .int 0])), (q_1, .inl (cT, 4, .inr (.inr (.inr (.inr (va_up (va_up (fun _ => none) 0 (some q_2)) 1 (some q_5))))))), (q_2, .inr (5, [.ref r_4, .int z_3.2])), (r_4, .inl (cI, 64, .inl z_3.1)), (q_5, .inr (5, [.ref r_7, .int z_6.2])), (r_7, .inl (cI, 64, .inl z_6.1)), (q_8, .inr (5, [.null, .int 0]))] := hD
  refine lv_dup hx hb dX0_init_31 rfl ?_
  obtain ⟨z_9, hz, h0⟩ := bd_ok h0
  refine wr_I (As := []) (rest := [.ref q_8, .int 2, .ref q_1]) (wc := [(q_8, .inr (5, [.null, .int 0]))]) (wr := [(h, .inr (0, [.ref q_1, .int 0])), (q_1, .inl (cT, 4, .inr (.inr (.inr (.inr (va_up (va_up (fun _ => none) 0 (some q_2)) 1 (some q_5))))))), (q_2, .inr (5, [.ref r_4, .int z_3.2])), (r_4, .inl (cI, 64, .inl z_3.1)), (q_5, .inr (5, [.ref r_7, .int z_6.2])), (r_7, .inl (cI, 64, .inl z_6.1))]) hcf (kX6_init l D cI cC cT q_8 _ z_9 hz) (cwI 0 hts gX0_init_X6_init rfl rfl rfl (hts (.initialized RX6) (by decide +kernel)) (hts (.methodLink RX0 15 yX6_init) (by decide +kernel)) (hts (.instanceMethod yX6_init) (by decide +kernel)) rfl (by decide +kernel) ⟨Nat.le_of_ble_eq_true rfl, Nat.le_of_ble_eq_true rfl⟩) hE hP hD hS hA [6] [0, 1, 2, 3, 4, 5] (hP.sub [6] rfl) (hD.sub [6] (by decide) rfl) rfl rfl (by decide) (by decide) rfl hl.1 rfl (Nat.le_of_ble_eq_true rfl) dX0_init_32 ⟨Nat.le_of_ble_eq_true rfl, Nat.le_of_ble_eq_true rfl⟩ (fun u H locs hP hD hS => ?_)
  obtain ⟨r_10, rfl⟩ : ∃ x, x = u := ⟨_, rfl⟩
  have hP : va_P D vwCl [(h, .inr (0, [.ref q_1, .int 0])), (q_1, .inl (cT, 4, .inr (.inr (.inr (.inr (va_up (va_up (fun _ => none) 0 (some q_2)) 1 (some q_5))))))), (q_2, .inr (5, [.ref r_4, .int z_3.2])), (r_4, .inl (cI, 64, .inl z_3.1)), (q_5, .inr (5, [.ref r_7, .int z_6.2])), (r_7, .inl (cI, 64, .inl z_6.1)), (q_8, .inr (5, [.ref r_10, .int z_9.2])), (r_10, .inl (cI, 64, .inl z_9.1))] H := hP
  have hD : va_D A [(h, .inr (0, [.ref q_1, .int 0])), (q_1, .inl (cT, 4, .inr (.inr (.inr (.inr (va_up (va_up (fun _ => none) 0 (some q_2)) 1 (some q_5))))))), (q_2, .inr (5, [.ref r_4, .int z_3.2])), (r_4, .inl (cI, 64, .inl z_3.1)), (q_5, .inr (5, [.ref r_7, .int z_6.2])), (r_7, .inl (cI, 64, .inl z_6.1)), (q_8, .inr (5, [.ref r_10, .int z_9.2])), (r_10, .inl (cI, 64, .inl z_9.1))] := hD
  refine W.eq (g2 := F0 m 35 ls [.ref q_8, .int 2, .ref q_1]) rfl ?_
  refine va_astq (r := (RX6, TX6, 2)) hx hb hK hP hD hS 1 2 6 5 rfl rfl rfl rfl (by unfold vp_in; decide) dX0_init_35 (fun H locs hP hD hS => ?_)
  rw [show (2 : Int32).toNatClampNeg = 2 from by decide] at hP hD
  have hP : va_P D vwCl [(h, .inr (0, [.ref q_1, .int 0])), (q_1, .inl (cT, 4, .inr (.inr (.inr (.inr (va_up (va_up (va_up (fun _ => none) 0 (some q_2)) 1 (some q_5)) 2 (some q_8))))))), (q_2, .inr (5, [.ref r_4, .int z_3.2])), (r_4, .inl (cI, 64, .inl z_3.1)), (q_5, .inr (5, [.ref r_7, .int z_6.2])), (r_7, .inl (cI, 64, .inl z_6.1)), (q_8, .inr (5, [.ref r_10, .int z_9.2])), (r_10, .inl (cI, 64, .inl z_9.1))] H := hP
  have hD : va_D A [(h, .inr (0, [.ref q_1, .int 0])), (q_1, .inl (cT, 4, .inr (.inr (.inr (.inr (va_up (va_up (va_up (fun _ => none) 0 (some q_2)) 1 (some q_5)) 2 (some q_8))))))), (q_2, .inr (5, [.ref r_4, .int z_3.2])), (r_4, .inl (cI, 64, .inl z_3.1)), (q_5, .inr (5, [.ref r_7, .int z_6.2])), (r_7, .inl (cI, 64, .inl z_6.1)), (q_8, .inr (5, [.ref r_10, .int z_9.2])), (r_10, .inl (cI, 64, .inl z_9.1))] := hD
  refine lv_iinc (v := 3) (lv' := [(1, .int 3), (0, .ref h)]) hx hb dX0_init_36 hl (k := 0) rfl (by decide) (by decide) rfl (fun ls hl => ?_)
  refine lv_goto (tgt := 14) hx hb dX0_init_39 (by decide) ?_
  refine lv_iload_n hx hb dX0_init_14 rfl (lv_at hl 0 rfl) ?_
  refine lv_aload_n hx hb dX0_init_15 rfl (lv_at hl 1 rfl) ?_
  refine va_get (D := D) (ci := 0) (v := .ref q_1) (C := RX0) (T := TX0) (N := 2) hx hb hts hi_X0 hown hK hP 0 rfl rfl 0 (by decide) hf_11 (fun _ h9 => h9) rfl dX0_init_16 ?_
  refine va_alen hx hb hK hP 1 2 (v := 4) rfl rfl (show Int32.ofNat 4 = 4 from by decide) dX0_init_19 ?_
  refine lv_icmp_ge (tgt := 42) hx hb dX0_init_20 (by decide) (fun c9 => absurd c9 (by decide)) (fun _ => ?_)
  refine lv_aload_n hx hb dX0_init_23 rfl (lv_at hl 1 rfl) ?_
  refine va_get (D := D) (ci := 0) (v := .ref q_1) (C := RX0) (T := TX0) (N := 2) hx hb hts hi_X0 hown hK hP 0 rfl rfl 0 (by decide) hf_11 (fun _ h9 => h9) rfl dX0_init_24 ?_
  refine lv_iload_n hx hb dX0_init_27 rfl (lv_at hl 0 rfl) ?_
  refine va_new (ci := 5) (fs := [.null, .int 0]) (C := RX6) (T := TX6) (N := 2) hx hb hts hi_X6 tyX6 tyX6_ok hown (hts (.classLink RX0 9 RX6) (by decide +kernel)) (hts (.instantiable RX6 2) (by decide +kernel)) (hts (.initialized RX6) (by decide +kernel)) hK hP hD hS hA rfl (fun j hj => by rcases (show j = 0 ∨ j = 1 by omega) with rfl | rfl <;> rfl) (Nat.le_of_ble_eq_true rfl) (Nat.le_of_ble_eq_true rfl) dX0_init_28 (fun q_11 H hP hD hS => ?_)
  have hP : va_P D vwCl [(h, .inr (0, [.ref q_1, .int 0])), (q_1, .inl (cT, 4, .inr (.inr (.inr (.inr (va_up (va_up (va_up (fun _ => none) 0 (some q_2)) 1 (some q_5)) 2 (some q_8))))))), (q_2, .inr (5, [.ref r_4, .int z_3.2])), (r_4, .inl (cI, 64, .inl z_3.1)), (q_5, .inr (5, [.ref r_7, .int z_6.2])), (r_7, .inl (cI, 64, .inl z_6.1)), (q_8, .inr (5, [.ref r_10, .int z_9.2])), (r_10, .inl (cI, 64, .inl z_9.1)), (q_11, .inr (5, [.null, .int 0]))] H := hP
  have hD : va_D A [(h, .inr (0, [.ref q_1, .int 0])), (q_1, .inl (cT, 4, .inr (.inr (.inr (.inr (va_up (va_up (va_up (fun _ => none) 0 (some q_2)) 1 (some q_5)) 2 (some q_8))))))), (q_2, .inr (5, [.ref r_4, .int z_3.2])), (r_4, .inl (cI, 64, .inl z_3.1)), (q_5, .inr (5, [.ref r_7, .int z_6.2])), (r_7, .inl (cI, 64, .inl z_6.1)), (q_8, .inr (5, [.ref r_10, .int z_9.2])), (r_10, .inl (cI, 64, .inl z_9.1)), (q_11, .inr (5, [.null, .int 0]))] := hD
  refine lv_dup hx hb dX0_init_31 rfl ?_
  obtain ⟨z_12, hz, h0⟩ := bd_ok h0
  refine wr_I (As := []) (rest := [.ref q_11, .int 3, .ref q_1]) (wc := [(q_11, .inr (5, [.null, .int 0]))]) (wr := [(h, .inr (0, [.ref q_1, .int 0])), (q_1, .inl (cT, 4, .inr (.inr (.inr (.inr (va_up (va_up (va_up (fun _ => none) 0 (some q_2)) 1 (some q_5)) 2 (some q_8))))))), (q_2, .inr (5, [.ref r_4, .int z_3.2])), (r_4, .inl (cI, 64, .inl z_3.1)), (q_5, .inr (5, [.ref r_7, .int z_6.2])), (r_7, .inl (cI, 64, .inl z_6.1)), (q_8, .inr (5, [.ref r_10, .int z_9.2])), (r_10, .inl (cI, 64, .inl z_9.1))]) hcf (kX6_init l D cI cC cT q_11 _ z_12 hz) (cwI 0 hts gX0_init_X6_init rfl rfl rfl (hts (.initialized RX6) (by decide +kernel)) (hts (.methodLink RX0 15 yX6_init) (by decide +kernel)) (hts (.instanceMethod yX6_init) (by decide +kernel)) rfl (by decide +kernel) ⟨Nat.le_of_ble_eq_true rfl, Nat.le_of_ble_eq_true rfl⟩) hE hP hD hS hA [8] [0, 1, 2, 3, 4, 5, 6, 7] (hP.sub [8] rfl) (hD.sub [8] (by decide) rfl) rfl rfl (by decide) (by decide) rfl hl.1 rfl (Nat.le_of_ble_eq_true rfl) dX0_init_32 ⟨Nat.le_of_ble_eq_true rfl, Nat.le_of_ble_eq_true rfl⟩ (fun u H locs hP hD hS => ?_)
  obtain ⟨r_13, rfl⟩ : ∃ x, x = u := ⟨_, rfl⟩
  have hP : va_P D vwCl [(h, .inr (0, [.ref q_1, .int 0])), (q_1, .inl (cT, 4, .inr (.inr (.inr (.inr (va_up (va_up (va_up (fun _ => none) 0 (some q_2)) 1 (some q_5)) 2 (some q_8))))))), (q_2, .inr (5, [.ref r_4, .int z_3.2])), (r_4, .inl (cI, 64, .inl z_3.1)), (q_5, .inr (5, [.ref r_7, .int z_6.2])), (r_7, .inl (cI, 64, .inl z_6.1)), (q_8, .inr (5, [.ref r_10, .int z_9.2])), (r_10, .inl (cI, 64, .inl z_9.1)), (q_11, .inr (5, [.ref r_13, .int z_12.2])), (r_13, .inl (cI, 64, .inl z_12.1))] H := hP
  have hD : va_D A [(h, .inr (0, [.ref q_1, .int 0])), (q_1, .inl (cT, 4, .inr (.inr (.inr (.inr (va_up (va_up (va_up (fun _ => none) 0 (some q_2)) 1 (some q_5)) 2 (some q_8))))))), (q_2, .inr (5, [.ref r_4, .int z_3.2])), (r_4, .inl (cI, 64, .inl z_3.1)), (q_5, .inr (5, [.ref r_7, .int z_6.2])), (r_7, .inl (cI, 64, .inl z_6.1)), (q_8, .inr (5, [.ref r_10, .int z_9.2])), (r_10, .inl (cI, 64, .inl z_9.1)), (q_11, .inr (5, [.ref r_13, .int z_12.2])), (r_13, .inl (cI, 64, .inl z_12.1))] := hD
  refine W.eq (g2 := F0 m 35 ls [.ref q_11, .int 3, .ref q_1]) rfl ?_
  refine va_astq (r := (RX6, TX6, 2)) hx hb hK hP hD hS 1 2 8 5 rfl rfl rfl rfl (by unfold vp_in; decide) dX0_init_35 (fun H locs hP hD hS => ?_)
  rw [show (3 : Int32).toNatClampNeg = 3 from by decide] at hP hD
  rw [kf4] at hP hD
  have hP : va_P D vwCl [(h, .inr (0, [.ref q_1, .int 0])), (q_1, .inl (cT, 4, .inr (.inr (.inr (.inr (kf [q_2, q_5, q_8, q_11])))))), (q_2, .inr (5, [.ref r_4, .int z_3.2])), (r_4, .inl (cI, 64, .inl z_3.1)), (q_5, .inr (5, [.ref r_7, .int z_6.2])), (r_7, .inl (cI, 64, .inl z_6.1)), (q_8, .inr (5, [.ref r_10, .int z_9.2])), (r_10, .inl (cI, 64, .inl z_9.1)), (q_11, .inr (5, [.ref r_13, .int z_12.2])), (r_13, .inl (cI, 64, .inl z_12.1))] H := hP
  have hD : va_D A [(h, .inr (0, [.ref q_1, .int 0])), (q_1, .inl (cT, 4, .inr (.inr (.inr (.inr (kf [q_2, q_5, q_8, q_11])))))), (q_2, .inr (5, [.ref r_4, .int z_3.2])), (r_4, .inl (cI, 64, .inl z_3.1)), (q_5, .inr (5, [.ref r_7, .int z_6.2])), (r_7, .inl (cI, 64, .inl z_6.1)), (q_8, .inr (5, [.ref r_10, .int z_9.2])), (r_10, .inl (cI, 64, .inl z_9.1)), (q_11, .inr (5, [.ref r_13, .int z_12.2])), (r_13, .inl (cI, 64, .inl z_12.1))] := hD
  refine lv_iinc (v := 4) (lv' := [(1, .int 4), (0, .ref h)]) hx hb dX0_init_36 hl (k := 0) rfl (by decide) (by decide) rfl (fun ls hl => ?_)
  refine lv_goto (tgt := 14) hx hb dX0_init_39 (by decide) ?_
  refine lv_iload_n hx hb dX0_init_14 rfl (lv_at hl 0 rfl) ?_
  refine lv_aload_n hx hb dX0_init_15 rfl (lv_at hl 1 rfl) ?_
  refine va_get (D := D) (ci := 0) (v := .ref q_1) (C := RX0) (T := TX0) (N := 2) hx hb hts hi_X0 hown hK hP 0 rfl rfl 0 (by decide) hf_11 (fun _ h9 => h9) rfl dX0_init_16 ?_
  refine va_alen hx hb hK hP 1 2 (v := 4) rfl rfl (show Int32.ofNat 4 = 4 from by decide) dX0_init_19 ?_
  refine lv_icmp_ge (tgt := 42) hx hb dX0_init_20 (by decide) (fun _ => ?_) (fun c9 => absurd (by decide) c9)
  have e0 := Option.some.inj h0
  subst e0
  refine W.widen (k := 9) (n := 268) (Nat.le_of_ble_eq_true rfl) (Nat.le_of_ble_eq_true rfl) ?_
  exact W.vret hx hb hr (fun t ht hW => wr_end (q_1, q_2, r_4, q_5, r_7, q_8, r_10, q_11, r_13) ht (hP.sub [0, 1, 2, 3, 4, 5, 6, 7, 8, 9] rfl) (hD.sub [0, 1, 2, 3, 4, 5, 6, 7, 8, 9] (by decide) rfl) hS) hS.2.2 dX0_init_42
noncomputable def mX0_stateAt_m1  : Option (Unit) :=
  some ()
set_option maxHeartbeats 8000000 in
set_option maxRecDepth 100000 in
theorem kX0_stateAt_m1 (l : Launch) (D : va_G) (cI cC cT : ClassId) (h h_kept h_k0 h_k0_cells h_k1 h_k1_cells h_k2 h_k2_cells h_k3 h_k3_cells : Nat) (h_k0_cells_f : Nat → Int32) (h_k0_size : Int32) (h_k1_cells_f : Nat → Int32) (h_k1_size : Int32) (h_k2_cells_f : Nat → Int32) (h_k2_size : Int32) (h_k3_cells_f : Nat → Int32) (h_k3_size : Int32) (h_states : Int32) (z : Unit) (h0 : mX0_stateAt_m1  = some z) : Met l yX0_stateAt wsX0_stateAt ({ frames := 0, cells := 0, slots := 0, locals := 0 } : Room) (va_Pc [.ref h, .int (-1)] (rP D cI cC cT [(h, .inr (0, [.ref h_kept, .int h_states])), (h_kept, .inl (cT, 4, .inr (.inr (.inr (.inr (kf [h_k0, h_k1, h_k2, h_k3])))))), (h_k0, .inr (5, [.ref h_k0_cells, .int h_k0_size])), (h_k0_cells, .inl (cI, 64, .inl h_k0_cells_f)), (h_k1, .inr (5, [.ref h_k1_cells, .int h_k1_size])), (h_k1_cells, .inl (cI, 64, .inl h_k1_cells_f)), (h_k2, .inr (5, [.ref h_k2_cells, .int h_k2_size])), (h_k2_cells, .inl (cI, 64, .inl h_k2_cells_f)), (h_k3, .inr (5, [.ref h_k3_cells, .int h_k3_size])), (h_k3_cells, .inl (cI, 64, .inl h_k3_cells_f))])) (rQ (some (.null))) 0 0 (fun _ => False) := by
  refine Met.ofW (cc := cX0_stateAt) (maxL := 2) (ret := (some (.object "CrookedSums$Table"))) (by decide) rfl ?_
  intro p e s m args below meth c s₁ B hml hv
  obtain ⟨rfl, hP, hE⟩ := hv
  have hx := B.exec
  have hb := B.bytes
  have hr := B.returns
  have hts := atoms_spec (ws := wsX0_stateAt) B.pre
  have hown : s.vm.findClass RX0 = some m.cls := findClass_of_methodNamed B.named
  have hlocks := B.notSynchronized
  have hK := hE.1
  have hcf : CallFix p m c cX0_stateAt 2 s ([.ref h, .int (-1)] : List Value).toArray wsX0_stateAt RX0 := ⟨hx, hb, hml, hown, hts⟩
  have hP : va_P D vwCl [(h, .inr (0, [.ref h_kept, .int h_states])), (h_kept, .inl (cT, 4, .inr (.inr (.inr (.inr (kf [h_k0, h_k1, h_k2, h_k3])))))), (h_k0, .inr (5, [.ref h_k0_cells, .int h_k0_size])), (h_k0_cells, .inl (cI, 64, .inl h_k0_cells_f)), (h_k1, .inr (5, [.ref h_k1_cells, .int h_k1_size])), (h_k1_cells, .inl (cI, 64, .inl h_k1_cells_f)), (h_k2, .inr (5, [.ref h_k2_cells, .int h_k2_size])), (h_k2_cells, .inl (cI, 64, .inl h_k2_cells_f)), (h_k3, .inr (5, [.ref h_k3_cells, .int h_k3_size])), (h_k3_cells, .inl (cI, 64, .inl h_k3_cells_f))] s.heap := hP
  have hl := lv_entry ([.ref h, .int (-1)]) (n := 2) (Nat.le_of_ble_eq_true rfl)
  rw [lg_entry_eq]
  generalize (lg_sl ([.ref h, .int (-1)]) ++ List.replicate (2 - (lg_sl ([.ref h, .int (-1)])).length) Slot.unset).toArray = ls at hl ⊢
  have hl : lv_has ls 2 [(0, .ref h), (1, .int (-1))] := hl
  unfold mX0_stateAt_m1 at h0
  refine lv_iload_n hx hb dX0_stateAt_0 rfl (lv_at hl 1 rfl) ?_
  refine lv_if_lt (tgt := 22) hx hb dX0_stateAt_1 (by decide) (fun _ => ?_) (fun c9 => absurd (by decide) c9)
  refine lv_null hx hb dX0_stateAt_22 ?_
  have e0 := Option.some.inj h0
  subst e0
  exact W.aret hx hb hr (Or.inl ⟨_, rfl⟩) (Or.inl rfl) (fun t ht hW => ⟨rfl, ht⟩) (fun q hq => absurd hq List.not_mem_nil) dX0_stateAt_23
noncomputable def mX0_stateAt_0  : Option (Unit) :=
  some ()
set_option maxHeartbeats 8000000 in
set_option maxRecDepth 100000 in
theorem kX0_stateAt_0 (l : Launch) (D : va_G) (cI cC cT : ClassId) (h h_kept h_k0 h_k0_cells h_k1 h_k1_cells h_k2 h_k2_cells h_k3 h_k3_cells : Nat) (h_k0_cells_f : Nat → Int32) (h_k0_size : Int32) (h_k1_cells_f : Nat → Int32) (h_k1_size : Int32) (h_k2_cells_f : Nat → Int32) (h_k2_size : Int32) (h_k3_cells_f : Nat → Int32) (h_k3_size : Int32) (h_states : Int32) (z : Unit) (h0 : mX0_stateAt_0  = some z) : Met l yX0_stateAt wsX0_stateAt ({ frames := 0, cells := 0, slots := 0, locals := 0 } : Room) (va_Pc [.ref h, .int 0] (rP D cI cC cT [(h, .inr (0, [.ref h_kept, .int h_states])), (h_kept, .inl (cT, 4, .inr (.inr (.inr (.inr (kf [h_k0, h_k1, h_k2, h_k3])))))), (h_k0, .inr (5, [.ref h_k0_cells, .int h_k0_size])), (h_k0_cells, .inl (cI, 64, .inl h_k0_cells_f)), (h_k1, .inr (5, [.ref h_k1_cells, .int h_k1_size])), (h_k1_cells, .inl (cI, 64, .inl h_k1_cells_f)), (h_k2, .inr (5, [.ref h_k2_cells, .int h_k2_size])), (h_k2_cells, .inl (cI, 64, .inl h_k2_cells_f)), (h_k3, .inr (5, [.ref h_k3_cells, .int h_k3_size])), (h_k3_cells, .inl (cI, 64, .inl h_k3_cells_f))])) (rQ (some (.ref h_k0))) 0 0 (fun _ => False) := by
  refine Met.ofW (cc := cX0_stateAt) (maxL := 2) (ret := (some (.object "CrookedSums$Table"))) (by decide) rfl ?_
  intro p e s m args below meth c s₁ B hml hv
  obtain ⟨rfl, hP, hE⟩ := hv
  have hx := B.exec
  have hb := B.bytes
  have hr := B.returns
  have hts := atoms_spec (ws := wsX0_stateAt) B.pre
  have hown : s.vm.findClass RX0 = some m.cls := findClass_of_methodNamed B.named
  have hlocks := B.notSynchronized
  have hK := hE.1
  have hcf : CallFix p m c cX0_stateAt 2 s ([.ref h, .int 0] : List Value).toArray wsX0_stateAt RX0 := ⟨hx, hb, hml, hown, hts⟩
  have hP : va_P D vwCl [(h, .inr (0, [.ref h_kept, .int h_states])), (h_kept, .inl (cT, 4, .inr (.inr (.inr (.inr (kf [h_k0, h_k1, h_k2, h_k3])))))), (h_k0, .inr (5, [.ref h_k0_cells, .int h_k0_size])), (h_k0_cells, .inl (cI, 64, .inl h_k0_cells_f)), (h_k1, .inr (5, [.ref h_k1_cells, .int h_k1_size])), (h_k1_cells, .inl (cI, 64, .inl h_k1_cells_f)), (h_k2, .inr (5, [.ref h_k2_cells, .int h_k2_size])), (h_k2_cells, .inl (cI, 64, .inl h_k2_cells_f)), (h_k3, .inr (5, [.ref h_k3_cells, .int h_k3_size])), (h_k3_cells, .inl (cI, 64, .inl h_k3_cells_f))] s.heap := hP
  have hf_11 := hts (.fieldLink RX0 11 "CrookedSums$History" "kept" "[LCrookedSums$Table;") (by decide +kernel)
  have hi_X0 := (show ∀ w ∈ u_ws RX0 TX0 2, w ∈ wsX0_stateAt from by decide +kernel)
  have hl := lv_entry ([.ref h, .int 0]) (n := 2) (Nat.le_of_ble_eq_true rfl)
  rw [lg_entry_eq]
  generalize (lg_sl ([.ref h, .int 0]) ++ List.replicate (2 - (lg_sl ([.ref h, .int 0])).length) Slot.unset).toArray = ls at hl ⊢
  have hl : lv_has ls 2 [(0, .ref h), (1, .int 0)] := hl
  unfold mX0_stateAt_0 at h0
  refine lv_iload_n hx hb dX0_stateAt_0 rfl (lv_at hl 1 rfl) ?_
  refine lv_if_lt (tgt := 22) hx hb dX0_stateAt_1 (by decide) (fun c9 => absurd c9 (by decide)) (fun _ => ?_)
  refine lv_iload_n hx hb dX0_stateAt_4 rfl (lv_at hl 1 rfl) ?_
  refine lv_aload_n hx hb dX0_stateAt_5 rfl (lv_at hl 0 rfl) ?_
  refine va_get (D := D) (ci := 0) (v := .ref h_kept) (C := RX0) (T := TX0) (N := 2) hx hb hts hi_X0 hown hK hP 0 rfl rfl 0 (by decide) hf_11 (fun _ h9 => h9) rfl dX0_stateAt_6 ?_
  refine va_alen hx hb hK hP 1 2 (v := 4) rfl rfl (show Int32.ofNat 4 = 4 from by decide) dX0_stateAt_9 ?_
  refine lv_icmp_ge (tgt := 22) hx hb dX0_stateAt_10 (by decide) (fun c9 => absurd c9 (by decide)) (fun _ => ?_)
  refine lv_aload_n hx hb dX0_stateAt_13 rfl (lv_at hl 0 rfl) ?_
  refine va_get (D := D) (ci := 0) (v := .ref h_kept) (C := RX0) (T := TX0) (N := 2) hx hb hts hi_X0 hown hK hP 0 rfl rfl 0 (by decide) hf_11 (fun _ h9 => h9) rfl dX0_stateAt_14 ?_
  refine lv_iload_n hx hb dX0_stateAt_17 rfl (lv_at hl 1 rfl) ?_
  refine va_aldq hx hb hK hP 1 2 rfl rfl (by unfold vp_in; decide) dX0_stateAt_18 ?_
  refine W.eq (g2 := F0 m 19 ls [.ref h_k0]) rfl ?_
  refine lv_goto (tgt := 23) hx hb dX0_stateAt_19 (by decide) ?_
  have e0 := Option.some.inj h0
  subst e0
  exact W.aret hx hb hr (Or.inl ⟨_, rfl⟩) (Or.inr ⟨_, rfl⟩) (fun t ht hW => ⟨rfl, ht⟩) (fun q hq => absurd hq List.not_mem_nil) dX0_stateAt_23
noncomputable def mX0_stateAt_1  : Option (Unit) :=
  some ()
set_option maxHeartbeats 8000000 in
set_option maxRecDepth 100000 in
theorem kX0_stateAt_1 (l : Launch) (D : va_G) (cI cC cT : ClassId) (h h_kept h_k0 h_k0_cells h_k1 h_k1_cells h_k2 h_k2_cells h_k3 h_k3_cells : Nat) (h_k0_cells_f : Nat → Int32) (h_k0_size : Int32) (h_k1_cells_f : Nat → Int32) (h_k1_size : Int32) (h_k2_cells_f : Nat → Int32) (h_k2_size : Int32) (h_k3_cells_f : Nat → Int32) (h_k3_size : Int32) (h_states : Int32) (z : Unit) (h0 : mX0_stateAt_1  = some z) : Met l yX0_stateAt wsX0_stateAt ({ frames := 0, cells := 0, slots := 0, locals := 0 } : Room) (va_Pc [.ref h, .int 1] (rP D cI cC cT [(h, .inr (0, [.ref h_kept, .int h_states])), (h_kept, .inl (cT, 4, .inr (.inr (.inr (.inr (kf [h_k0, h_k1, h_k2, h_k3])))))), (h_k0, .inr (5, [.ref h_k0_cells, .int h_k0_size])), (h_k0_cells, .inl (cI, 64, .inl h_k0_cells_f)), (h_k1, .inr (5, [.ref h_k1_cells, .int h_k1_size])), (h_k1_cells, .inl (cI, 64, .inl h_k1_cells_f)), (h_k2, .inr (5, [.ref h_k2_cells, .int h_k2_size])), (h_k2_cells, .inl (cI, 64, .inl h_k2_cells_f)), (h_k3, .inr (5, [.ref h_k3_cells, .int h_k3_size])), (h_k3_cells, .inl (cI, 64, .inl h_k3_cells_f))])) (rQ (some (.ref h_k1))) 0 0 (fun _ => False) := by
  refine Met.ofW (cc := cX0_stateAt) (maxL := 2) (ret := (some (.object "CrookedSums$Table"))) (by decide) rfl ?_
  intro p e s m args below meth c s₁ B hml hv
  obtain ⟨rfl, hP, hE⟩ := hv
  have hx := B.exec
  have hb := B.bytes
  have hr := B.returns
  have hts := atoms_spec (ws := wsX0_stateAt) B.pre
  have hown : s.vm.findClass RX0 = some m.cls := findClass_of_methodNamed B.named
  have hlocks := B.notSynchronized
  have hK := hE.1
  have hcf : CallFix p m c cX0_stateAt 2 s ([.ref h, .int 1] : List Value).toArray wsX0_stateAt RX0 := ⟨hx, hb, hml, hown, hts⟩
  have hP : va_P D vwCl [(h, .inr (0, [.ref h_kept, .int h_states])), (h_kept, .inl (cT, 4, .inr (.inr (.inr (.inr (kf [h_k0, h_k1, h_k2, h_k3])))))), (h_k0, .inr (5, [.ref h_k0_cells, .int h_k0_size])), (h_k0_cells, .inl (cI, 64, .inl h_k0_cells_f)), (h_k1, .inr (5, [.ref h_k1_cells, .int h_k1_size])), (h_k1_cells, .inl (cI, 64, .inl h_k1_cells_f)), (h_k2, .inr (5, [.ref h_k2_cells, .int h_k2_size])), (h_k2_cells, .inl (cI, 64, .inl h_k2_cells_f)), (h_k3, .inr (5, [.ref h_k3_cells, .int h_k3_size])), (h_k3_cells, .inl (cI, 64, .inl h_k3_cells_f))] s.heap := hP
  have hf_11 := hts (.fieldLink RX0 11 "CrookedSums$History" "kept" "[LCrookedSums$Table;") (by decide +kernel)
  have hi_X0 := (show ∀ w ∈ u_ws RX0 TX0 2, w ∈ wsX0_stateAt from by decide +kernel)
  have hl := lv_entry ([.ref h, .int 1]) (n := 2) (Nat.le_of_ble_eq_true rfl)
  rw [lg_entry_eq]
  generalize (lg_sl ([.ref h, .int 1]) ++ List.replicate (2 - (lg_sl ([.ref h, .int 1])).length) Slot.unset).toArray = ls at hl ⊢
  have hl : lv_has ls 2 [(0, .ref h), (1, .int 1)] := hl
  unfold mX0_stateAt_1 at h0
  refine lv_iload_n hx hb dX0_stateAt_0 rfl (lv_at hl 1 rfl) ?_
  refine lv_if_lt (tgt := 22) hx hb dX0_stateAt_1 (by decide) (fun c9 => absurd c9 (by decide)) (fun _ => ?_)
  refine lv_iload_n hx hb dX0_stateAt_4 rfl (lv_at hl 1 rfl) ?_
  refine lv_aload_n hx hb dX0_stateAt_5 rfl (lv_at hl 0 rfl) ?_
  refine va_get (D := D) (ci := 0) (v := .ref h_kept) (C := RX0) (T := TX0) (N := 2) hx hb hts hi_X0 hown hK hP 0 rfl rfl 0 (by decide) hf_11 (fun _ h9 => h9) rfl dX0_stateAt_6 ?_
  refine va_alen hx hb hK hP 1 2 (v := 4) rfl rfl (show Int32.ofNat 4 = 4 from by decide) dX0_stateAt_9 ?_
  refine lv_icmp_ge (tgt := 22) hx hb dX0_stateAt_10 (by decide) (fun c9 => absurd c9 (by decide)) (fun _ => ?_)
  refine lv_aload_n hx hb dX0_stateAt_13 rfl (lv_at hl 0 rfl) ?_
  refine va_get (D := D) (ci := 0) (v := .ref h_kept) (C := RX0) (T := TX0) (N := 2) hx hb hts hi_X0 hown hK hP 0 rfl rfl 0 (by decide) hf_11 (fun _ h9 => h9) rfl dX0_stateAt_14 ?_
  refine lv_iload_n hx hb dX0_stateAt_17 rfl (lv_at hl 1 rfl) ?_
  refine va_aldq hx hb hK hP 1 2 rfl rfl (by unfold vp_in; decide) dX0_stateAt_18 ?_
  refine W.eq (g2 := F0 m 19 ls [.ref h_k1]) rfl ?_
  refine lv_goto (tgt := 23) hx hb dX0_stateAt_19 (by decide) ?_
  have e0 := Option.some.inj h0
  subst e0
  exact W.aret hx hb hr (Or.inl ⟨_, rfl⟩) (Or.inr ⟨_, rfl⟩) (fun t ht hW => ⟨rfl, ht⟩) (fun q hq => absurd hq List.not_mem_nil) dX0_stateAt_23
noncomputable def mX0_stateAt_2  : Option (Unit) :=
  some ()
set_option maxHeartbeats 8000000 in
set_option maxRecDepth 100000 in
theorem kX0_stateAt_2 (l : Launch) (D : va_G) (cI cC cT : ClassId) (h h_kept h_k0 h_k0_cells h_k1 h_k1_cells h_k2 h_k2_cells h_k3 h_k3_cells : Nat) (h_k0_cells_f : Nat → Int32) (h_k0_size : Int32) (h_k1_cells_f : Nat → Int32) (h_k1_size : Int32) (h_k2_cells_f : Nat → Int32) (h_k2_size : Int32) (h_k3_cells_f : Nat → Int32) (h_k3_size : Int32) (h_states : Int32) (z : Unit) (h0 : mX0_stateAt_2  = some z) : Met l yX0_stateAt wsX0_stateAt ({ frames := 0, cells := 0, slots := 0, locals := 0 } : Room) (va_Pc [.ref h, .int 2] (rP D cI cC cT [(h, .inr (0, [.ref h_kept, .int h_states])), (h_kept, .inl (cT, 4, .inr (.inr (.inr (.inr (kf [h_k0, h_k1, h_k2, h_k3])))))), (h_k0, .inr (5, [.ref h_k0_cells, .int h_k0_size])), (h_k0_cells, .inl (cI, 64, .inl h_k0_cells_f)), (h_k1, .inr (5, [.ref h_k1_cells, .int h_k1_size])), (h_k1_cells, .inl (cI, 64, .inl h_k1_cells_f)), (h_k2, .inr (5, [.ref h_k2_cells, .int h_k2_size])), (h_k2_cells, .inl (cI, 64, .inl h_k2_cells_f)), (h_k3, .inr (5, [.ref h_k3_cells, .int h_k3_size])), (h_k3_cells, .inl (cI, 64, .inl h_k3_cells_f))])) (rQ (some (.ref h_k2))) 0 0 (fun _ => False) := by
  refine Met.ofW (cc := cX0_stateAt) (maxL := 2) (ret := (some (.object "CrookedSums$Table"))) (by decide) rfl ?_
  intro p e s m args below meth c s₁ B hml hv
  obtain ⟨rfl, hP, hE⟩ := hv
  have hx := B.exec
  have hb := B.bytes
  have hr := B.returns
  have hts := atoms_spec (ws := wsX0_stateAt) B.pre
  have hown : s.vm.findClass RX0 = some m.cls := findClass_of_methodNamed B.named
  have hlocks := B.notSynchronized
  have hK := hE.1
  have hcf : CallFix p m c cX0_stateAt 2 s ([.ref h, .int 2] : List Value).toArray wsX0_stateAt RX0 := ⟨hx, hb, hml, hown, hts⟩
  have hP : va_P D vwCl [(h, .inr (0, [.ref h_kept, .int h_states])), (h_kept, .inl (cT, 4, .inr (.inr (.inr (.inr (kf [h_k0, h_k1, h_k2, h_k3])))))), (h_k0, .inr (5, [.ref h_k0_cells, .int h_k0_size])), (h_k0_cells, .inl (cI, 64, .inl h_k0_cells_f)), (h_k1, .inr (5, [.ref h_k1_cells, .int h_k1_size])), (h_k1_cells, .inl (cI, 64, .inl h_k1_cells_f)), (h_k2, .inr (5, [.ref h_k2_cells, .int h_k2_size])), (h_k2_cells, .inl (cI, 64, .inl h_k2_cells_f)), (h_k3, .inr (5, [.ref h_k3_cells, .int h_k3_size])), (h_k3_cells, .inl (cI, 64, .inl h_k3_cells_f))] s.heap := hP
  have hf_11 := hts (.fieldLink RX0 11 "CrookedSums$History" "kept" "[LCrookedSums$Table;") (by decide +kernel)
  have hi_X0 := (show ∀ w ∈ u_ws RX0 TX0 2, w ∈ wsX0_stateAt from by decide +kernel)
  have hl := lv_entry ([.ref h, .int 2]) (n := 2) (Nat.le_of_ble_eq_true rfl)
  rw [lg_entry_eq]
  generalize (lg_sl ([.ref h, .int 2]) ++ List.replicate (2 - (lg_sl ([.ref h, .int 2])).length) Slot.unset).toArray = ls at hl ⊢
  have hl : lv_has ls 2 [(0, .ref h), (1, .int 2)] := hl
  unfold mX0_stateAt_2 at h0
  refine lv_iload_n hx hb dX0_stateAt_0 rfl (lv_at hl 1 rfl) ?_
  refine lv_if_lt (tgt := 22) hx hb dX0_stateAt_1 (by decide) (fun c9 => absurd c9 (by decide)) (fun _ => ?_)
  refine lv_iload_n hx hb dX0_stateAt_4 rfl (lv_at hl 1 rfl) ?_
  refine lv_aload_n hx hb dX0_stateAt_5 rfl (lv_at hl 0 rfl) ?_
  refine va_get (D := D) (ci := 0) (v := .ref h_kept) (C := RX0) (T := TX0) (N := 2) hx hb hts hi_X0 hown hK hP 0 rfl rfl 0 (by decide) hf_11 (fun _ h9 => h9) rfl dX0_stateAt_6 ?_
  refine va_alen hx hb hK hP 1 2 (v := 4) rfl rfl (show Int32.ofNat 4 = 4 from by decide) dX0_stateAt_9 ?_
  refine lv_icmp_ge (tgt := 22) hx hb dX0_stateAt_10 (by decide) (fun c9 => absurd c9 (by decide)) (fun _ => ?_)
  refine lv_aload_n hx hb dX0_stateAt_13 rfl (lv_at hl 0 rfl) ?_
  refine va_get (D := D) (ci := 0) (v := .ref h_kept) (C := RX0) (T := TX0) (N := 2) hx hb hts hi_X0 hown hK hP 0 rfl rfl 0 (by decide) hf_11 (fun _ h9 => h9) rfl dX0_stateAt_14 ?_
  refine lv_iload_n hx hb dX0_stateAt_17 rfl (lv_at hl 1 rfl) ?_
  refine va_aldq hx hb hK hP 1 2 rfl rfl (by unfold vp_in; decide) dX0_stateAt_18 ?_
  refine W.eq (g2 := F0 m 19 ls [.ref h_k2]) rfl ?_
  refine lv_goto (tgt := 23) hx hb dX0_stateAt_19 (by decide) ?_
  have e0 := Option.some.inj h0
  subst e0
  exact W.aret hx hb hr (Or.inl ⟨_, rfl⟩) (Or.inr ⟨_, rfl⟩) (fun t ht hW => ⟨rfl, ht⟩) (fun q hq => absurd hq List.not_mem_nil) dX0_stateAt_23
noncomputable def mX0_stateAt_3  : Option (Unit) :=
  some ()
set_option maxHeartbeats 8000000 in
set_option maxRecDepth 100000 in
theorem kX0_stateAt_3 (l : Launch) (D : va_G) (cI cC cT : ClassId) (h h_kept h_k0 h_k0_cells h_k1 h_k1_cells h_k2 h_k2_cells h_k3 h_k3_cells : Nat) (h_k0_cells_f : Nat → Int32) (h_k0_size : Int32) (h_k1_cells_f : Nat → Int32) (h_k1_size : Int32) (h_k2_cells_f : Nat → Int32) (h_k2_size : Int32) (h_k3_cells_f : Nat → Int32) (h_k3_size : Int32) (h_states : Int32) (z : Unit) (h0 : mX0_stateAt_3  = some z) : Met l yX0_stateAt wsX0_stateAt ({ frames := 0, cells := 0, slots := 0, locals := 0 } : Room) (va_Pc [.ref h, .int 3] (rP D cI cC cT [(h, .inr (0, [.ref h_kept, .int h_states])), (h_kept, .inl (cT, 4, .inr (.inr (.inr (.inr (kf [h_k0, h_k1, h_k2, h_k3])))))), (h_k0, .inr (5, [.ref h_k0_cells, .int h_k0_size])), (h_k0_cells, .inl (cI, 64, .inl h_k0_cells_f)), (h_k1, .inr (5, [.ref h_k1_cells, .int h_k1_size])), (h_k1_cells, .inl (cI, 64, .inl h_k1_cells_f)), (h_k2, .inr (5, [.ref h_k2_cells, .int h_k2_size])), (h_k2_cells, .inl (cI, 64, .inl h_k2_cells_f)), (h_k3, .inr (5, [.ref h_k3_cells, .int h_k3_size])), (h_k3_cells, .inl (cI, 64, .inl h_k3_cells_f))])) (rQ (some (.ref h_k3))) 0 0 (fun _ => False) := by
  refine Met.ofW (cc := cX0_stateAt) (maxL := 2) (ret := (some (.object "CrookedSums$Table"))) (by decide) rfl ?_
  intro p e s m args below meth c s₁ B hml hv
  obtain ⟨rfl, hP, hE⟩ := hv
  have hx := B.exec
  have hb := B.bytes
  have hr := B.returns
  have hts := atoms_spec (ws := wsX0_stateAt) B.pre
  have hown : s.vm.findClass RX0 = some m.cls := findClass_of_methodNamed B.named
  have hlocks := B.notSynchronized
  have hK := hE.1
  have hcf : CallFix p m c cX0_stateAt 2 s ([.ref h, .int 3] : List Value).toArray wsX0_stateAt RX0 := ⟨hx, hb, hml, hown, hts⟩
  have hP : va_P D vwCl [(h, .inr (0, [.ref h_kept, .int h_states])), (h_kept, .inl (cT, 4, .inr (.inr (.inr (.inr (kf [h_k0, h_k1, h_k2, h_k3])))))), (h_k0, .inr (5, [.ref h_k0_cells, .int h_k0_size])), (h_k0_cells, .inl (cI, 64, .inl h_k0_cells_f)), (h_k1, .inr (5, [.ref h_k1_cells, .int h_k1_size])), (h_k1_cells, .inl (cI, 64, .inl h_k1_cells_f)), (h_k2, .inr (5, [.ref h_k2_cells, .int h_k2_size])), (h_k2_cells, .inl (cI, 64, .inl h_k2_cells_f)), (h_k3, .inr (5, [.ref h_k3_cells, .int h_k3_size])), (h_k3_cells, .inl (cI, 64, .inl h_k3_cells_f))] s.heap := hP
  have hf_11 := hts (.fieldLink RX0 11 "CrookedSums$History" "kept" "[LCrookedSums$Table;") (by decide +kernel)
  have hi_X0 := (show ∀ w ∈ u_ws RX0 TX0 2, w ∈ wsX0_stateAt from by decide +kernel)
  have hl := lv_entry ([.ref h, .int 3]) (n := 2) (Nat.le_of_ble_eq_true rfl)
  rw [lg_entry_eq]
  generalize (lg_sl ([.ref h, .int 3]) ++ List.replicate (2 - (lg_sl ([.ref h, .int 3])).length) Slot.unset).toArray = ls at hl ⊢
  have hl : lv_has ls 2 [(0, .ref h), (1, .int 3)] := hl
  unfold mX0_stateAt_3 at h0
  refine lv_iload_n hx hb dX0_stateAt_0 rfl (lv_at hl 1 rfl) ?_
  refine lv_if_lt (tgt := 22) hx hb dX0_stateAt_1 (by decide) (fun c9 => absurd c9 (by decide)) (fun _ => ?_)
  refine lv_iload_n hx hb dX0_stateAt_4 rfl (lv_at hl 1 rfl) ?_
  refine lv_aload_n hx hb dX0_stateAt_5 rfl (lv_at hl 0 rfl) ?_
  refine va_get (D := D) (ci := 0) (v := .ref h_kept) (C := RX0) (T := TX0) (N := 2) hx hb hts hi_X0 hown hK hP 0 rfl rfl 0 (by decide) hf_11 (fun _ h9 => h9) rfl dX0_stateAt_6 ?_
  refine va_alen hx hb hK hP 1 2 (v := 4) rfl rfl (show Int32.ofNat 4 = 4 from by decide) dX0_stateAt_9 ?_
  refine lv_icmp_ge (tgt := 22) hx hb dX0_stateAt_10 (by decide) (fun c9 => absurd c9 (by decide)) (fun _ => ?_)
  refine lv_aload_n hx hb dX0_stateAt_13 rfl (lv_at hl 0 rfl) ?_
  refine va_get (D := D) (ci := 0) (v := .ref h_kept) (C := RX0) (T := TX0) (N := 2) hx hb hts hi_X0 hown hK hP 0 rfl rfl 0 (by decide) hf_11 (fun _ h9 => h9) rfl dX0_stateAt_14 ?_
  refine lv_iload_n hx hb dX0_stateAt_17 rfl (lv_at hl 1 rfl) ?_
  refine va_aldq hx hb hK hP 1 2 rfl rfl (by unfold vp_in; decide) dX0_stateAt_18 ?_
  refine W.eq (g2 := F0 m 19 ls [.ref h_k3]) rfl ?_
  refine lv_goto (tgt := 23) hx hb dX0_stateAt_19 (by decide) ?_
  have e0 := Option.some.inj h0
  subst e0
  exact W.aret hx hb hr (Or.inl ⟨_, rfl⟩) (Or.inr ⟨_, rfl⟩) (fun t ht hW => ⟨rfl, ht⟩) (fun q hq => absurd hq List.not_mem_nil) dX0_stateAt_23
noncomputable def mX0_dropOldest_4 (h_k0_cells_f : Nat → Int32) (h_k0_size : Int32) (h_k1_cells_f : Nat → Int32) (h_k1_size : Int32) (h_k2_cells_f : Nat → Int32) (h_k2_size : Int32) (h_k3_cells_f : Nat → Int32) (h_k3_size : Int32) : Option ((Nat → Int32) × Int32 × (Nat → Int32) × Int32 × (Nat → Int32) × Int32 × (Nat → Int32) × Int32) :=
  bd (mX0_stateAt_0) (fun z_1 => some (h_k1_cells_f, h_k1_size, h_k2_cells_f, h_k2_size, h_k3_cells_f, h_k3_size, h_k0_cells_f, h_k0_size))
set_option maxHeartbeats 8000000 in
set_option maxRecDepth 100000 in
theorem kX0_dropOldest_4 (l : Launch) (D : va_G) (cI cC cT : ClassId) (h h_kept h_k0 h_k0_cells h_k1 h_k1_cells h_k2 h_k2_cells h_k3 h_k3_cells : Nat) (h_k0_cells_f : Nat → Int32) (h_k0_size : Int32) (h_k1_cells_f : Nat → Int32) (h_k1_size : Int32) (h_k2_cells_f : Nat → Int32) (h_k2_size : Int32) (h_k3_cells_f : Nat → Int32) (h_k3_size : Int32) (sz : Nat) (z : (Nat → Int32) × Int32 × (Nat → Int32) × Int32 × (Nat → Int32) × Int32 × (Nat → Int32) × Int32) (h0 : mX0_dropOldest_4 h_k0_cells_f h_k0_size h_k1_cells_f h_k1_size h_k2_cells_f h_k2_size h_k3_cells_f h_k3_size = some z) : Met l yX0_dropOldest wsX0_dropOldest ({ frames := 1, cells := 0, slots := 0, locals := 21 } : Room) (va_Pc [.ref h] (wP D cI cC cT [(h, .inr (0, [.ref h_kept, .int 4])), (h_kept, .inl (cT, 4, .inr (.inr (.inr (.inr (kf [h_k0, h_k1, h_k2, h_k3])))))), (h_k0, .inr (5, [.ref h_k0_cells, .int h_k0_size])), (h_k0_cells, .inl (cI, 64, .inl h_k0_cells_f)), (h_k1, .inr (5, [.ref h_k1_cells, .int h_k1_size])), (h_k1_cells, .inl (cI, 64, .inl h_k1_cells_f)), (h_k2, .inr (5, [.ref h_k2_cells, .int h_k2_size])), (h_k2_cells, .inl (cI, 64, .inl h_k2_cells_f)), (h_k3, .inr (5, [.ref h_k3_cells, .int h_k3_size])), (h_k3_cells, .inl (cI, 64, .inl h_k3_cells_f))] sz)) (wQ D none (va_A [(h, .inr (0, [.ref h_kept, .int 4])), (h_kept, .inl (cT, 4, .inr (.inr (.inr (.inr (kf [h_k0, h_k1, h_k2, h_k3])))))), (h_k0, .inr (5, [.ref h_k0_cells, .int h_k0_size])), (h_k0_cells, .inl (cI, 64, .inl h_k0_cells_f)), (h_k1, .inr (5, [.ref h_k1_cells, .int h_k1_size])), (h_k1_cells, .inl (cI, 64, .inl h_k1_cells_f)), (h_k2, .inr (5, [.ref h_k2_cells, .int h_k2_size])), (h_k2_cells, .inl (cI, 64, .inl h_k2_cells_f)), (h_k3, .inr (5, [.ref h_k3_cells, .int h_k3_size])), (h_k3_cells, .inl (cI, 64, .inl h_k3_cells_f))] sz) (fun (u : Nat × Nat × Nat × Nat × Nat × Nat × Nat × Nat) => [(h, .inr (0, [.ref h_kept, .int 3])), (h_kept, .inl (cT, 4, .inr (.inr (.inr (.inr (kf [u.1, u.2.1, u.2.2.1, u.2.2.2.1])))))), (u.1, .inr (5, [.ref u.2.2.2.2.1, .int z.2.1])), (u.2.2.2.2.1, .inl (cI, 64, .inl z.1)), (u.2.1, .inr (5, [.ref u.2.2.2.2.2.1, .int z.2.2.2.1])), (u.2.2.2.2.2.1, .inl (cI, 64, .inl z.2.2.1)), (u.2.2.1, .inr (5, [.ref u.2.2.2.2.2.2.1, .int z.2.2.2.2.2.1])), (u.2.2.2.2.2.2.1, .inl (cI, 64, .inl z.2.2.2.2.1)), (u.2.2.2.1, .inr (5, [.ref u.2.2.2.2.2.2.2, .int z.2.2.2.2.2.2.2])), (u.2.2.2.2.2.2.2, .inl (cI, 64, .inl z.2.2.2.2.2.2.1))])) 0 0 (va_A [(h, .inr (0, [.ref h_kept, .int 4])), (h_kept, .inl (cT, 4, .inr (.inr (.inr (.inr (kf [h_k0, h_k1, h_k2, h_k3])))))), (h_k0, .inr (5, [.ref h_k0_cells, .int h_k0_size])), (h_k0_cells, .inl (cI, 64, .inl h_k0_cells_f)), (h_k1, .inr (5, [.ref h_k1_cells, .int h_k1_size])), (h_k1_cells, .inl (cI, 64, .inl h_k1_cells_f)), (h_k2, .inr (5, [.ref h_k2_cells, .int h_k2_size])), (h_k2_cells, .inl (cI, 64, .inl h_k2_cells_f)), (h_k3, .inr (5, [.ref h_k3_cells, .int h_k3_size])), (h_k3_cells, .inl (cI, 64, .inl h_k3_cells_f))] sz) := by
  refine Met.ofW (cc := cX0_dropOldest) (maxL := 3) (ret := none) (by decide) rfl ?_
  intro p e s m args below meth c s₁ B hml hv
  obtain ⟨rfl, hsz, hP, hE, hD0⟩ := hv
  have hx := B.exec
  have hb := B.bytes
  have hr := B.returns
  have hts := atoms_spec (ws := wsX0_dropOldest) B.pre
  have hown : s.vm.findClass RX0 = some m.cls := findClass_of_methodNamed B.named
  have hlocks := B.notSynchronized
  have hK := hE.1
  have hcf : CallFix p m c cX0_dropOldest 3 s ([.ref h] : List Value).toArray wsX0_dropOldest RX0 := ⟨hx, hb, hml, hown, hts⟩
  subst hsz
  have hD := hD0.self (sz := s.heap.size)
  generalize hAe : va_A [(h, .inr (0, [.ref h_kept, .int 4])), (h_kept, .inl (cT, 4, .inr (.inr (.inr (.inr (kf [h_k0, h_k1, h_k2, h_k3])))))), (h_k0, .inr (5, [.ref h_k0_cells, .int h_k0_size])), (h_k0_cells, .inl (cI, 64, .inl h_k0_cells_f)), (h_k1, .inr (5, [.ref h_k1_cells, .int h_k1_size])), (h_k1_cells, .inl (cI, 64, .inl h_k1_cells_f)), (h_k2, .inr (5, [.ref h_k2_cells, .int h_k2_size])), (h_k2_cells, .inl (cI, 64, .inl h_k2_cells_f)), (h_k3, .inr (5, [.ref h_k3_cells, .int h_k3_size])), (h_k3_cells, .inl (cI, 64, .inl h_k3_cells_f))] s.heap.size = A at hD ⊢
  have hA : ∀ q : Nat, s.heap.size ≤ q → A q := fun q h => by rw [← hAe]; exact Or.inr h
  have hS : va_S A s.heap s.heap [] := va_S.rf
  have hP : va_P D vwCl [(h, .inr (0, [.ref h_kept, .int 4])), (h_kept, .inl (cT, 4, .inr (.inr (.inr (.inr (kf [h_k0, h_k1, h_k2, h_k3])))))), (h_k0, .inr (5, [.ref h_k0_cells, .int h_k0_size])), (h_k0_cells, .inl (cI, 64, .inl h_k0_cells_f)), (h_k1, .inr (5, [.ref h_k1_cells, .int h_k1_size])), (h_k1_cells, .inl (cI, 64, .inl h_k1_cells_f)), (h_k2, .inr (5, [.ref h_k2_cells, .int h_k2_size])), (h_k2_cells, .inl (cI, 64, .inl h_k2_cells_f)), (h_k3, .inr (5, [.ref h_k3_cells, .int h_k3_size])), (h_k3_cells, .inl (cI, 64, .inl h_k3_cells_f))] s.heap := hP
  have hf_11 := hts (.fieldLink RX0 11 "CrookedSums$History" "kept" "[LCrookedSums$Table;") (by decide +kernel)
  have hi_X0 := (show ∀ w ∈ u_ws RX0 TX0 2, w ∈ wsX0_dropOldest from by decide +kernel)
  have hf_16 := hts (.fieldLink RX0 16 "CrookedSums$History" "states" "I") (by decide +kernel)
  have hl := lv_entry ([.ref h]) (n := 3) (Nat.le_of_ble_eq_true rfl)
  rw [lg_entry_eq]
  generalize (lg_sl ([.ref h]) ++ List.replicate (3 - (lg_sl ([.ref h])).length) Slot.unset).toArray = ls at hl ⊢
  have hl : lv_has ls 3 [(0, .ref h)] := hl
  unfold mX0_dropOldest_4 at h0
  refine lv_aload_n hx hb dX0_dropOldest_0 rfl (lv_at hl 0 rfl) ?_
  refine lv_iconst (v := 0) hx hb dX0_dropOldest_1 (by decide) ?_
  obtain ⟨z_1, hz, h0⟩ := bd_ok h0
  refine ro_V (As := [.int 0]) (rest := []) (wc := [(h, .inr (0, [.ref h_kept, .int 4])), (h_kept, .inl (cT, 4, .inr (.inr (.inr (.inr (kf [h_k0, h_k1, h_k2, h_k3])))))), (h_k0, .inr (5, [.ref h_k0_cells, .int h_k0_size])), (h_k0_cells, .inl (cI, 64, .inl h_k0_cells_f)), (h_k1, .inr (5, [.ref h_k1_cells, .int h_k1_size])), (h_k1_cells, .inl (cI, 64, .inl h_k1_cells_f)), (h_k2, .inr (5, [.ref h_k2_cells, .int h_k2_size])), (h_k2_cells, .inl (cI, 64, .inl h_k2_cells_f)), (h_k3, .inr (5, [.ref h_k3_cells, .int h_k3_size])), (h_k3_cells, .inl (cI, 64, .inl h_k3_cells_f))]) hcf (kX0_stateAt_0 l D cI cC cT h h_kept h_k0 h_k0_cells h_k1 h_k1_cells h_k2 h_k2_cells h_k3 h_k3_cells h_k0_cells_f h_k0_size h_k1_cells_f h_k1_size h_k2_cells_f h_k2_size h_k3_cells_f h_k3_size 4 z_1 hz) (cwV 1 hts gX0_dropOldest_X0_stateAt rfl rfl rfl (by decide +kernel) ⟨Nat.le_of_ble_eq_true rfl, Nat.le_of_ble_eq_true rfl⟩) hE (hP.sub [0, 1, 2, 3, 4, 5, 6, 7, 8, 9] rfl) (va_recv hK hP (ci := 0) (q0 := 0) rfl rfl) rfl hl.1 rfl (Nat.le_of_ble_eq_true rfl) dX0_dropOldest_2 ⟨Nat.le_of_ble_eq_true rfl, Nat.le_of_ble_eq_true rfl⟩ ?_
  refine W.eq (g2 := F0 m 5 ls [.ref h_k0]) rfl ?_
  refine lv_astore_n (lv' := [(1, .ref h_k0), (0, .ref h)]) hx hb dX0_dropOldest_5 rfl hl (by decide) rfl (fun ls hl => ?_)
  refine lv_iconst (v := 1) hx hb dX0_dropOldest_6 (by decide) ?_
  refine lv_istore_n (lv' := [(2, .int 1), (1, .ref h_k0), (0, .ref h)]) hx hb dX0_dropOldest_7 rfl hl (by decide) rfl (fun ls hl => ?_)
  refine lv_iload_n hx hb dX0_dropOldest_8 rfl (lv_at hl 0 rfl) ?_
  refine lv_aload_n hx hb dX0_dropOldest_9 rfl (lv_at hl 2 rfl) ?_
  refine va_get (D := D) (ci := 0) (v := .ref h_kept) (C := RX0) (T := TX0) (N := 2) hx hb hts hi_X0 hown hK hP 0 rfl rfl 0 (by decide) hf_11 (fun _ h9 => h9) rfl dX0_dropOldest_10 ?_
  refine va_alen hx hb hK hP 1 2 (v := 4) rfl rfl (show Int32.ofNat 4 = 4 from by decide) dX0_dropOldest_13 ?_
  refine lv_icmp_ge (tgt := 37) hx hb dX0_dropOldest_14 (by decide) (fun c9 => absurd c9 (by decide)) (fun _ => ?_)
  refine lv_aload_n hx hb dX0_dropOldest_17 rfl (lv_at hl 2 rfl) ?_
  refine va_get (D := D) (ci := 0) (v := .ref h_kept) (C := RX0) (T := TX0) (N := 2) hx hb hts hi_X0 hown hK hP 0 rfl rfl 0 (by decide) hf_11 (fun _ h9 => h9) rfl dX0_dropOldest_18 ?_
  refine lv_iload_n hx hb dX0_dropOldest_21 rfl (lv_at hl 0 rfl) ?_
  refine lv_iconst (v := 1) hx hb dX0_dropOldest_22 (by decide) ?_
  refine lv_isub hx hb dX0_dropOldest_23 ?_
  refine cv_top (show ((1 : Int32) - 1) = 0 from by decide) ?_
  refine lv_aload_n hx hb dX0_dropOldest_24 rfl (lv_at hl 2 rfl) ?_
  refine va_get (D := D) (ci := 0) (v := .ref h_kept) (C := RX0) (T := TX0) (N := 2) hx hb hts hi_X0 hown hK hP 0 rfl rfl 0 (by decide) hf_11 (fun _ h9 => h9) rfl dX0_dropOldest_25 ?_
  refine lv_iload_n hx hb dX0_dropOldest_28 rfl (lv_at hl 0 rfl) ?_
  refine va_aldq hx hb hK hP 1 2 rfl rfl (by unfold vp_in; decide) dX0_dropOldest_29 ?_
  refine W.eq (g2 := F0 m 30 ls [.ref h_k1, .int 0, .ref h_kept]) rfl ?_
  refine va_astq (r := (RX6, TX6, 2)) hx hb hK hP hD hS 1 2 4 5 rfl rfl rfl rfl (by unfold vp_in; decide) dX0_dropOldest_30 (fun H locs hP hD hS => ?_)
  rw [show va_up (kf [h_k0, h_k1, h_k2, h_k3]) (0 : Int32).toNatClampNeg (some h_k1) = kf [h_k1, h_k1, h_k2, h_k3] from kf_up _ 0 _ (Nat.le_of_ble_eq_true rfl)] at hP hD
  have hP : va_P D vwCl [(h, .inr (0, [.ref h_kept, .int 4])), (h_kept, .inl (cT, 4, .inr (.inr (.inr (.inr (kf [h_k1, h_k1, h_k2, h_k3])))))), (h_k0, .inr (5, [.ref h_k0_cells, .int h_k0_size])), (h_k0_cells, .inl (cI, 64, .inl h_k0_cells_f)), (h_k1, .inr (5, [.ref h_k1_cells, .int h_k1_size])), (h_k1_cells, .inl (cI, 64, .inl h_k1_cells_f)), (h_k2, .inr (5, [.ref h_k2_cells, .int h_k2_size])), (h_k2_cells, .inl (cI, 64, .inl h_k2_cells_f)), (h_k3, .inr (5, [.ref h_k3_cells, .int h_k3_size])), (h_k3_cells, .inl (cI, 64, .inl h_k3_cells_f))] H := hP
  have hD : va_D A [(h, .inr (0, [.ref h_kept, .int 4])), (h_kept, .inl (cT, 4, .inr (.inr (.inr (.inr (kf [h_k1, h_k1, h_k2, h_k3])))))), (h_k0, .inr (5, [.ref h_k0_cells, .int h_k0_size])), (h_k0_cells, .inl (cI, 64, .inl h_k0_cells_f)), (h_k1, .inr (5, [.ref h_k1_cells, .int h_k1_size])), (h_k1_cells, .inl (cI, 64, .inl h_k1_cells_f)), (h_k2, .inr (5, [.ref h_k2_cells, .int h_k2_size])), (h_k2_cells, .inl (cI, 64, .inl h_k2_cells_f)), (h_k3, .inr (5, [.ref h_k3_cells, .int h_k3_size])), (h_k3_cells, .inl (cI, 64, .inl h_k3_cells_f))] := hD
  refine lv_iinc (v := 2) (lv' := [(2, .int 2), (1, .ref h_k0), (0, .ref h)]) hx hb dX0_dropOldest_31 hl (k := 0) rfl (by decide) (by decide) rfl (fun ls hl => ?_)
  refine lv_goto (tgt := 8) hx hb dX0_dropOldest_34 (by decide) ?_
  refine lv_iload_n hx hb dX0_dropOldest_8 rfl (lv_at hl 0 rfl) ?_
  refine lv_aload_n hx hb dX0_dropOldest_9 rfl (lv_at hl 2 rfl) ?_
  refine va_get (D := D) (ci := 0) (v := .ref h_kept) (C := RX0) (T := TX0) (N := 2) hx hb hts hi_X0 hown hK hP 0 rfl rfl 0 (by decide) hf_11 (fun _ h9 => h9) rfl dX0_dropOldest_10 ?_
  refine va_alen hx hb hK hP 1 2 (v := 4) rfl rfl (show Int32.ofNat 4 = 4 from by decide) dX0_dropOldest_13 ?_
  refine lv_icmp_ge (tgt := 37) hx hb dX0_dropOldest_14 (by decide) (fun c9 => absurd c9 (by decide)) (fun _ => ?_)
  refine lv_aload_n hx hb dX0_dropOldest_17 rfl (lv_at hl 2 rfl) ?_
  refine va_get (D := D) (ci := 0) (v := .ref h_kept) (C := RX0) (T := TX0) (N := 2) hx hb hts hi_X0 hown hK hP 0 rfl rfl 0 (by decide) hf_11 (fun _ h9 => h9) rfl dX0_dropOldest_18 ?_
  refine lv_iload_n hx hb dX0_dropOldest_21 rfl (lv_at hl 0 rfl) ?_
  refine lv_iconst (v := 1) hx hb dX0_dropOldest_22 (by decide) ?_
  refine lv_isub hx hb dX0_dropOldest_23 ?_
  refine cv_top (show ((2 : Int32) - 1) = 1 from by decide) ?_
  refine lv_aload_n hx hb dX0_dropOldest_24 rfl (lv_at hl 2 rfl) ?_
  refine va_get (D := D) (ci := 0) (v := .ref h_kept) (C := RX0) (T := TX0) (N := 2) hx hb hts hi_X0 hown hK hP 0 rfl rfl 0 (by decide) hf_11 (fun _ h9 => h9) rfl dX0_dropOldest_25 ?_
  refine lv_iload_n hx hb dX0_dropOldest_28 rfl (lv_at hl 0 rfl) ?_
  refine va_aldq hx hb hK hP 1 2 rfl rfl (by unfold vp_in; decide) dX0_dropOldest_29 ?_
  refine W.eq (g2 := F0 m 30 ls [.ref h_k2, .int 1, .ref h_kept]) rfl ?_
  refine va_astq (r := (RX6, TX6, 2)) hx hb hK hP hD hS 1 2 6 5 rfl rfl rfl rfl (by unfold vp_in; decide) dX0_dropOldest_30 (fun H locs hP hD hS => ?_)
  rw [show va_up (kf [h_k1, h_k1, h_k2, h_k3]) (1 : Int32).toNatClampNeg (some h_k2) = kf [h_k1, h_k2, h_k2, h_k3] from kf_up _ 1 _ (Nat.le_of_ble_eq_true rfl)] at hP hD
  have hP : va_P D vwCl [(h, .inr (0, [.ref h_kept, .int 4])), (h_kept, .inl (cT, 4, .inr (.inr (.inr (.inr (kf [h_k1, h_k2, h_k2, h_k3])))))), (h_k0, .inr (5, [.ref h_k0_cells, .int h_k0_size])), (h_k0_cells, .inl (cI, 64, .inl h_k0_cells_f)), (h_k1, .inr (5, [.ref h_k1_cells, .int h_k1_size])), (h_k1_cells, .inl (cI, 64, .inl h_k1_cells_f)), (h_k2, .inr (5, [.ref h_k2_cells, .int h_k2_size])), (h_k2_cells, .inl (cI, 64, .inl h_k2_cells_f)), (h_k3, .inr (5, [.ref h_k3_cells, .int h_k3_size])), (h_k3_cells, .inl (cI, 64, .inl h_k3_cells_f))] H := hP
  have hD : va_D A [(h, .inr (0, [.ref h_kept, .int 4])), (h_kept, .inl (cT, 4, .inr (.inr (.inr (.inr (kf [h_k1, h_k2, h_k2, h_k3])))))), (h_k0, .inr (5, [.ref h_k0_cells, .int h_k0_size])), (h_k0_cells, .inl (cI, 64, .inl h_k0_cells_f)), (h_k1, .inr (5, [.ref h_k1_cells, .int h_k1_size])), (h_k1_cells, .inl (cI, 64, .inl h_k1_cells_f)), (h_k2, .inr (5, [.ref h_k2_cells, .int h_k2_size])), (h_k2_cells, .inl (cI, 64, .inl h_k2_cells_f)), (h_k3, .inr (5, [.ref h_k3_cells, .int h_k3_size])), (h_k3_cells, .inl (cI, 64, .inl h_k3_cells_f))] := hD
  refine lv_iinc (v := 3) (lv' := [(2, .int 3), (1, .ref h_k0), (0, .ref h)]) hx hb dX0_dropOldest_31 hl (k := 0) rfl (by decide) (by decide) rfl (fun ls hl => ?_)
  refine lv_goto (tgt := 8) hx hb dX0_dropOldest_34 (by decide) ?_
  refine lv_iload_n hx hb dX0_dropOldest_8 rfl (lv_at hl 0 rfl) ?_
  refine lv_aload_n hx hb dX0_dropOldest_9 rfl (lv_at hl 2 rfl) ?_
  refine va_get (D := D) (ci := 0) (v := .ref h_kept) (C := RX0) (T := TX0) (N := 2) hx hb hts hi_X0 hown hK hP 0 rfl rfl 0 (by decide) hf_11 (fun _ h9 => h9) rfl dX0_dropOldest_10 ?_
  refine va_alen hx hb hK hP 1 2 (v := 4) rfl rfl (show Int32.ofNat 4 = 4 from by decide) dX0_dropOldest_13 ?_
  refine lv_icmp_ge (tgt := 37) hx hb dX0_dropOldest_14 (by decide) (fun c9 => absurd c9 (by decide)) (fun _ => ?_)
  refine lv_aload_n hx hb dX0_dropOldest_17 rfl (lv_at hl 2 rfl) ?_
  refine va_get (D := D) (ci := 0) (v := .ref h_kept) (C := RX0) (T := TX0) (N := 2) hx hb hts hi_X0 hown hK hP 0 rfl rfl 0 (by decide) hf_11 (fun _ h9 => h9) rfl dX0_dropOldest_18 ?_
  refine lv_iload_n hx hb dX0_dropOldest_21 rfl (lv_at hl 0 rfl) ?_
  refine lv_iconst (v := 1) hx hb dX0_dropOldest_22 (by decide) ?_
  refine lv_isub hx hb dX0_dropOldest_23 ?_
  refine cv_top (show ((3 : Int32) - 1) = 2 from by decide) ?_
  refine lv_aload_n hx hb dX0_dropOldest_24 rfl (lv_at hl 2 rfl) ?_
  refine va_get (D := D) (ci := 0) (v := .ref h_kept) (C := RX0) (T := TX0) (N := 2) hx hb hts hi_X0 hown hK hP 0 rfl rfl 0 (by decide) hf_11 (fun _ h9 => h9) rfl dX0_dropOldest_25 ?_
  refine lv_iload_n hx hb dX0_dropOldest_28 rfl (lv_at hl 0 rfl) ?_
  refine va_aldq hx hb hK hP 1 2 rfl rfl (by unfold vp_in; decide) dX0_dropOldest_29 ?_
  refine W.eq (g2 := F0 m 30 ls [.ref h_k3, .int 2, .ref h_kept]) rfl ?_
  refine va_astq (r := (RX6, TX6, 2)) hx hb hK hP hD hS 1 2 8 5 rfl rfl rfl rfl (by unfold vp_in; decide) dX0_dropOldest_30 (fun H locs hP hD hS => ?_)
  rw [show va_up (kf [h_k1, h_k2, h_k2, h_k3]) (2 : Int32).toNatClampNeg (some h_k3) = kf [h_k1, h_k2, h_k3, h_k3] from kf_up _ 2 _ (Nat.le_of_ble_eq_true rfl)] at hP hD
  have hP : va_P D vwCl [(h, .inr (0, [.ref h_kept, .int 4])), (h_kept, .inl (cT, 4, .inr (.inr (.inr (.inr (kf [h_k1, h_k2, h_k3, h_k3])))))), (h_k0, .inr (5, [.ref h_k0_cells, .int h_k0_size])), (h_k0_cells, .inl (cI, 64, .inl h_k0_cells_f)), (h_k1, .inr (5, [.ref h_k1_cells, .int h_k1_size])), (h_k1_cells, .inl (cI, 64, .inl h_k1_cells_f)), (h_k2, .inr (5, [.ref h_k2_cells, .int h_k2_size])), (h_k2_cells, .inl (cI, 64, .inl h_k2_cells_f)), (h_k3, .inr (5, [.ref h_k3_cells, .int h_k3_size])), (h_k3_cells, .inl (cI, 64, .inl h_k3_cells_f))] H := hP
  have hD : va_D A [(h, .inr (0, [.ref h_kept, .int 4])), (h_kept, .inl (cT, 4, .inr (.inr (.inr (.inr (kf [h_k1, h_k2, h_k3, h_k3])))))), (h_k0, .inr (5, [.ref h_k0_cells, .int h_k0_size])), (h_k0_cells, .inl (cI, 64, .inl h_k0_cells_f)), (h_k1, .inr (5, [.ref h_k1_cells, .int h_k1_size])), (h_k1_cells, .inl (cI, 64, .inl h_k1_cells_f)), (h_k2, .inr (5, [.ref h_k2_cells, .int h_k2_size])), (h_k2_cells, .inl (cI, 64, .inl h_k2_cells_f)), (h_k3, .inr (5, [.ref h_k3_cells, .int h_k3_size])), (h_k3_cells, .inl (cI, 64, .inl h_k3_cells_f))] := hD
  refine lv_iinc (v := 4) (lv' := [(2, .int 4), (1, .ref h_k0), (0, .ref h)]) hx hb dX0_dropOldest_31 hl (k := 0) rfl (by decide) (by decide) rfl (fun ls hl => ?_)
  refine lv_goto (tgt := 8) hx hb dX0_dropOldest_34 (by decide) ?_
  refine lv_iload_n hx hb dX0_dropOldest_8 rfl (lv_at hl 0 rfl) ?_
  refine lv_aload_n hx hb dX0_dropOldest_9 rfl (lv_at hl 2 rfl) ?_
  refine va_get (D := D) (ci := 0) (v := .ref h_kept) (C := RX0) (T := TX0) (N := 2) hx hb hts hi_X0 hown hK hP 0 rfl rfl 0 (by decide) hf_11 (fun _ h9 => h9) rfl dX0_dropOldest_10 ?_
  refine va_alen hx hb hK hP 1 2 (v := 4) rfl rfl (show Int32.ofNat 4 = 4 from by decide) dX0_dropOldest_13 ?_
  refine lv_icmp_ge (tgt := 37) hx hb dX0_dropOldest_14 (by decide) (fun _ => ?_) (fun c9 => absurd (by decide) c9)
  refine lv_aload_n hx hb dX0_dropOldest_37 rfl (lv_at hl 2 rfl) ?_
  refine va_get (D := D) (ci := 0) (v := .ref h_kept) (C := RX0) (T := TX0) (N := 2) hx hb hts hi_X0 hown hK hP 0 rfl rfl 0 (by decide) hf_11 (fun _ h9 => h9) rfl dX0_dropOldest_38 ?_
  refine va_alen hx hb hK hP 1 2 (v := 4) rfl rfl (show Int32.ofNat 4 = 4 from by decide) dX0_dropOldest_41 ?_
  refine lv_if_le (tgt := 58) hx hb dX0_dropOldest_42 (by decide) (fun c9 => absurd c9 (by decide)) (fun _ => ?_)
  refine lv_aload_n hx hb dX0_dropOldest_45 rfl (lv_at hl 2 rfl) ?_
  refine va_get (D := D) (ci := 0) (v := .ref h_kept) (C := RX0) (T := TX0) (N := 2) hx hb hts hi_X0 hown hK hP 0 rfl rfl 0 (by decide) hf_11 (fun _ h9 => h9) rfl dX0_dropOldest_46 ?_
  refine lv_aload_n hx hb dX0_dropOldest_49 rfl (lv_at hl 2 rfl) ?_
  refine va_get (D := D) (ci := 0) (v := .ref h_kept) (C := RX0) (T := TX0) (N := 2) hx hb hts hi_X0 hown hK hP 0 rfl rfl 0 (by decide) hf_11 (fun _ h9 => h9) rfl dX0_dropOldest_50 ?_
  refine va_alen hx hb hK hP 1 2 (v := 4) rfl rfl (show Int32.ofNat 4 = 4 from by decide) dX0_dropOldest_53 ?_
  refine lv_iconst (v := 1) hx hb dX0_dropOldest_54 (by decide) ?_
  refine lv_isub hx hb dX0_dropOldest_55 ?_
  refine cv_top (show ((4 : Int32) - 1) = 3 from by decide) ?_
  refine lv_aload_n hx hb dX0_dropOldest_56 rfl (lv_at hl 1 rfl) ?_
  refine va_astq (r := (RX6, TX6, 2)) hx hb hK hP hD hS 1 2 2 5 rfl rfl rfl rfl (by unfold vp_in; decide) dX0_dropOldest_57 (fun H locs hP hD hS => ?_)
  rw [show va_up (kf [h_k1, h_k2, h_k3, h_k3]) (3 : Int32).toNatClampNeg (some h_k0) = kf [h_k1, h_k2, h_k3, h_k0] from kf_up _ 3 _ (Nat.le_of_ble_eq_true rfl)] at hP hD
  have hP : va_P D vwCl [(h, .inr (0, [.ref h_kept, .int 4])), (h_kept, .inl (cT, 4, .inr (.inr (.inr (.inr (kf [h_k1, h_k2, h_k3, h_k0])))))), (h_k0, .inr (5, [.ref h_k0_cells, .int h_k0_size])), (h_k0_cells, .inl (cI, 64, .inl h_k0_cells_f)), (h_k1, .inr (5, [.ref h_k1_cells, .int h_k1_size])), (h_k1_cells, .inl (cI, 64, .inl h_k1_cells_f)), (h_k2, .inr (5, [.ref h_k2_cells, .int h_k2_size])), (h_k2_cells, .inl (cI, 64, .inl h_k2_cells_f)), (h_k3, .inr (5, [.ref h_k3_cells, .int h_k3_size])), (h_k3_cells, .inl (cI, 64, .inl h_k3_cells_f))] H := hP
  have hD : va_D A [(h, .inr (0, [.ref h_kept, .int 4])), (h_kept, .inl (cT, 4, .inr (.inr (.inr (.inr (kf [h_k1, h_k2, h_k3, h_k0])))))), (h_k0, .inr (5, [.ref h_k0_cells, .int h_k0_size])), (h_k0_cells, .inl (cI, 64, .inl h_k0_cells_f)), (h_k1, .inr (5, [.ref h_k1_cells, .int h_k1_size])), (h_k1_cells, .inl (cI, 64, .inl h_k1_cells_f)), (h_k2, .inr (5, [.ref h_k2_cells, .int h_k2_size])), (h_k2_cells, .inl (cI, 64, .inl h_k2_cells_f)), (h_k3, .inr (5, [.ref h_k3_cells, .int h_k3_size])), (h_k3_cells, .inl (cI, 64, .inl h_k3_cells_f))] := hD
  refine lv_aload_n hx hb dX0_dropOldest_58 rfl (lv_at hl 2 rfl) ?_
  refine lv_dup hx hb dX0_dropOldest_59 rfl ?_
  refine va_get (D := D) (ci := 0) (v := .int 4) (C := RX0) (T := TX0) (N := 2) hx hb hts hi_X0 hown hK hP 0 rfl rfl 1 (by decide) hf_16 (fun _ h9 => h9) rfl dX0_dropOldest_60 ?_
  refine lv_iconst (v := 1) hx hb dX0_dropOldest_63 (by decide) ?_
  refine lv_isub hx hb dX0_dropOldest_64 ?_
  refine cv_top (show ((4 : Int32) - 1) = 3 from by decide) ?_
  refine va_put (D := D) (ci := 0) (v := .int 3) (ty := .int) (C := RX0) (T := TX0) (N := 2) hx hb hts hi_X0 tyX0 tyX0_ok nmX0 hown hK hP hD hS 0 rfl rfl 1 (by decide) hf_16 (fun _ h9 => h9) rfl (by decide +kernel) rfl rfl (Nat.le_of_ble_eq_true rfl) dX0_dropOldest_65 (fun H locs hP hD hS => ?_)
  have hP : va_P D vwCl [(h, .inr (0, [.ref h_kept, .int 3])), (h_kept, .inl (cT, 4, .inr (.inr (.inr (.inr (kf [h_k1, h_k2, h_k3, h_k0])))))), (h_k0, .inr (5, [.ref h_k0_cells, .int h_k0_size])), (h_k0_cells, .inl (cI, 64, .inl h_k0_cells_f)), (h_k1, .inr (5, [.ref h_k1_cells, .int h_k1_size])), (h_k1_cells, .inl (cI, 64, .inl h_k1_cells_f)), (h_k2, .inr (5, [.ref h_k2_cells, .int h_k2_size])), (h_k2_cells, .inl (cI, 64, .inl h_k2_cells_f)), (h_k3, .inr (5, [.ref h_k3_cells, .int h_k3_size])), (h_k3_cells, .inl (cI, 64, .inl h_k3_cells_f))] H := hP
  have hD : va_D A [(h, .inr (0, [.ref h_kept, .int 3])), (h_kept, .inl (cT, 4, .inr (.inr (.inr (.inr (kf [h_k1, h_k2, h_k3, h_k0])))))), (h_k0, .inr (5, [.ref h_k0_cells, .int h_k0_size])), (h_k0_cells, .inl (cI, 64, .inl h_k0_cells_f)), (h_k1, .inr (5, [.ref h_k1_cells, .int h_k1_size])), (h_k1_cells, .inl (cI, 64, .inl h_k1_cells_f)), (h_k2, .inr (5, [.ref h_k2_cells, .int h_k2_size])), (h_k2_cells, .inl (cI, 64, .inl h_k2_cells_f)), (h_k3, .inr (5, [.ref h_k3_cells, .int h_k3_size])), (h_k3_cells, .inl (cI, 64, .inl h_k3_cells_f))] := hD
  have e0 := Option.some.inj h0
  subst e0
  exact W.vret hx hb hr (fun t ht hW => wr_end (h_k1, h_k2, h_k3, h_k0, h_k1_cells, h_k2_cells, h_k3_cells, h_k0_cells) ht (hP.sub [0, 1, 4, 5, 6, 7, 8, 9, 2, 3] rfl) (hD.sub [0, 1, 4, 5, 6, 7, 8, 9, 2, 3] (by decide) rfl) hS) hS.2.2 dX0_dropOldest_68
noncomputable def mX0_record_0 (h_k0_cells_f : Nat → Int32) (p1_cells_f : Nat → Int32) (p1_size : Int32) : Option ((Nat → Int32) × Int32) :=
  bd (mX0_stateAt_0) (fun z_1 => bd (mX6_copyFrom h_k0_cells_f p1_cells_f p1_size) (fun z_2 => some (z_2.1, z_2.2)))
set_option maxHeartbeats 8000000 in
set_option maxRecDepth 100000 in
theorem kX0_record_0 (l : Launch) (D : va_G) (cI cC cT : ClassId) (h h_kept h_k0 h_k0_cells h_k1 h_k1_cells h_k2 h_k2_cells h_k3 h_k3_cells p1 p1_cells : Nat) (h_k0_cells_f : Nat → Int32) (h_k0_size : Int32) (h_k1_cells_f : Nat → Int32) (h_k1_size : Int32) (h_k2_cells_f : Nat → Int32) (h_k2_size : Int32) (h_k3_cells_f : Nat → Int32) (h_k3_size : Int32) (p1_cells_f : Nat → Int32) (p1_size : Int32) (sz : Nat) (z : (Nat → Int32) × Int32) (h0 : mX0_record_0 h_k0_cells_f p1_cells_f p1_size = some z) : Met l yX0_record wsX0_record ({ frames := 2, cells := 0, slots := 0, locals := 44 } : Room) (va_Pc [.ref h, .ref p1] (wP D cI cC cT [(h, .inr (0, [.ref h_kept, .int 0])), (h_kept, .inl (cT, 4, .inr (.inr (.inr (.inr (kf [h_k0, h_k1, h_k2, h_k3])))))), (h_k0, .inr (5, [.ref h_k0_cells, .int h_k0_size])), (h_k0_cells, .inl (cI, 64, .inl h_k0_cells_f)), (h_k1, .inr (5, [.ref h_k1_cells, .int h_k1_size])), (h_k1_cells, .inl (cI, 64, .inl h_k1_cells_f)), (h_k2, .inr (5, [.ref h_k2_cells, .int h_k2_size])), (h_k2_cells, .inl (cI, 64, .inl h_k2_cells_f)), (h_k3, .inr (5, [.ref h_k3_cells, .int h_k3_size])), (h_k3_cells, .inl (cI, 64, .inl h_k3_cells_f)), (p1, .inr (5, [.ref p1_cells, .int p1_size])), (p1_cells, .inl (cI, 64, .inl p1_cells_f))] sz)) (wQ D none (va_A [(h, .inr (0, [.ref h_kept, .int 0])), (h_kept, .inl (cT, 4, .inr (.inr (.inr (.inr (kf [h_k0, h_k1, h_k2, h_k3])))))), (h_k0, .inr (5, [.ref h_k0_cells, .int h_k0_size])), (h_k0_cells, .inl (cI, 64, .inl h_k0_cells_f)), (h_k1, .inr (5, [.ref h_k1_cells, .int h_k1_size])), (h_k1_cells, .inl (cI, 64, .inl h_k1_cells_f)), (h_k2, .inr (5, [.ref h_k2_cells, .int h_k2_size])), (h_k2_cells, .inl (cI, 64, .inl h_k2_cells_f)), (h_k3, .inr (5, [.ref h_k3_cells, .int h_k3_size])), (h_k3_cells, .inl (cI, 64, .inl h_k3_cells_f)), (p1, .inr (5, [.ref p1_cells, .int p1_size])), (p1_cells, .inl (cI, 64, .inl p1_cells_f))] sz) (fun (u : Unit) => [(h, .inr (0, [.ref h_kept, .int 1])), (h_kept, .inl (cT, 4, .inr (.inr (.inr (.inr (kf [h_k0, h_k1, h_k2, h_k3])))))), (h_k0, .inr (5, [.ref h_k0_cells, .int z.2])), (h_k0_cells, .inl (cI, 64, .inl z.1)), (h_k1, .inr (5, [.ref h_k1_cells, .int h_k1_size])), (h_k1_cells, .inl (cI, 64, .inl h_k1_cells_f)), (h_k2, .inr (5, [.ref h_k2_cells, .int h_k2_size])), (h_k2_cells, .inl (cI, 64, .inl h_k2_cells_f)), (h_k3, .inr (5, [.ref h_k3_cells, .int h_k3_size])), (h_k3_cells, .inl (cI, 64, .inl h_k3_cells_f)), (p1, .inr (5, [.ref p1_cells, .int p1_size])), (p1_cells, .inl (cI, 64, .inl p1_cells_f))])) 0 0 (va_A [(h, .inr (0, [.ref h_kept, .int 0])), (h_kept, .inl (cT, 4, .inr (.inr (.inr (.inr (kf [h_k0, h_k1, h_k2, h_k3])))))), (h_k0, .inr (5, [.ref h_k0_cells, .int h_k0_size])), (h_k0_cells, .inl (cI, 64, .inl h_k0_cells_f)), (h_k1, .inr (5, [.ref h_k1_cells, .int h_k1_size])), (h_k1_cells, .inl (cI, 64, .inl h_k1_cells_f)), (h_k2, .inr (5, [.ref h_k2_cells, .int h_k2_size])), (h_k2_cells, .inl (cI, 64, .inl h_k2_cells_f)), (h_k3, .inr (5, [.ref h_k3_cells, .int h_k3_size])), (h_k3_cells, .inl (cI, 64, .inl h_k3_cells_f)), (p1, .inr (5, [.ref p1_cells, .int p1_size])), (p1_cells, .inl (cI, 64, .inl p1_cells_f))] sz) := by
  refine Met.ofW (cc := cX0_record) (maxL := 3) (ret := none) (by decide) rfl ?_
  intro p e s m args below meth c s₁ B hml hv
  obtain ⟨rfl, hsz, hP, hE, hD0⟩ := hv
  have hx := B.exec
  have hb := B.bytes
  have hr := B.returns
  have hts := atoms_spec (ws := wsX0_record) B.pre
  have hown : s.vm.findClass RX0 = some m.cls := findClass_of_methodNamed B.named
  have hlocks := B.notSynchronized
  have hK := hE.1
  have hcf : CallFix p m c cX0_record 3 s ([.ref h, .ref p1] : List Value).toArray wsX0_record RX0 := ⟨hx, hb, hml, hown, hts⟩
  subst hsz
  have hD := hD0.self (sz := s.heap.size)
  generalize hAe : va_A [(h, .inr (0, [.ref h_kept, .int 0])), (h_kept, .inl (cT, 4, .inr (.inr (.inr (.inr (kf [h_k0, h_k1, h_k2, h_k3])))))), (h_k0, .inr (5, [.ref h_k0_cells, .int h_k0_size])), (h_k0_cells, .inl (cI, 64, .inl h_k0_cells_f)), (h_k1, .inr (5, [.ref h_k1_cells, .int h_k1_size])), (h_k1_cells, .inl (cI, 64, .inl h_k1_cells_f)), (h_k2, .inr (5, [.ref h_k2_cells, .int h_k2_size])), (h_k2_cells, .inl (cI, 64, .inl h_k2_cells_f)), (h_k3, .inr (5, [.ref h_k3_cells, .int h_k3_size])), (h_k3_cells, .inl (cI, 64, .inl h_k3_cells_f)), (p1, .inr (5, [.ref p1_cells, .int p1_size])), (p1_cells, .inl (cI, 64, .inl p1_cells_f))] s.heap.size = A at hD ⊢
  have hA : ∀ q : Nat, s.heap.size ≤ q → A q := fun q h => by rw [← hAe]; exact Or.inr h
  have hS : va_S A s.heap s.heap [] := va_S.rf
  have hP : va_P D vwCl [(h, .inr (0, [.ref h_kept, .int 0])), (h_kept, .inl (cT, 4, .inr (.inr (.inr (.inr (kf [h_k0, h_k1, h_k2, h_k3])))))), (h_k0, .inr (5, [.ref h_k0_cells, .int h_k0_size])), (h_k0_cells, .inl (cI, 64, .inl h_k0_cells_f)), (h_k1, .inr (5, [.ref h_k1_cells, .int h_k1_size])), (h_k1_cells, .inl (cI, 64, .inl h_k1_cells_f)), (h_k2, .inr (5, [.ref h_k2_cells, .int h_k2_size])), (h_k2_cells, .inl (cI, 64, .inl h_k2_cells_f)), (h_k3, .inr (5, [.ref h_k3_cells, .int h_k3_size])), (h_k3_cells, .inl (cI, 64, .inl h_k3_cells_f)), (p1, .inr (5, [.ref p1_cells, .int p1_size])), (p1_cells, .inl (cI, 64, .inl p1_cells_f))] s.heap := hP
  have hf_16 := hts (.fieldLink RX0 16 "CrookedSums$History" "states" "I") (by decide +kernel)
  have hi_X0 := (show ∀ w ∈ u_ws RX0 TX0 2, w ∈ wsX0_record from by decide +kernel)
  have hl := lv_entry ([.ref h, .ref p1]) (n := 3) (Nat.le_of_ble_eq_true rfl)
  rw [lg_entry_eq]
  generalize (lg_sl ([.ref h, .ref p1]) ++ List.replicate (3 - (lg_sl ([.ref h, .ref p1])).length) Slot.unset).toArray = ls at hl ⊢
  have hl : lv_has ls 3 [(0, .ref h), (1, .ref p1)] := hl
  unfold mX0_record_0 at h0
  refine lv_aload_n hx hb dX0_record_0 rfl (lv_at hl 0 rfl) ?_
  refine va_get (D := D) (ci := 0) (v := .int 0) (C := RX0) (T := TX0) (N := 2) hx hb hts hi_X0 hown hK hP 0 rfl rfl 1 (by decide) hf_16 (fun _ h9 => h9) rfl dX0_record_1 ?_
  refine lv_iconst (v := 4) hx hb dX0_record_4 (by decide) ?_
  refine lv_icmp_lt (tgt := 12) hx hb dX0_record_5 (by decide) (fun _ => ?_) (fun c9 => absurd (by decide) c9)
  refine lv_aload_n hx hb dX0_record_12 rfl (lv_at hl 0 rfl) ?_
  refine lv_aload_n hx hb dX0_record_13 rfl (lv_at hl 0 rfl) ?_
  refine va_get (D := D) (ci := 0) (v := .int 0) (C := RX0) (T := TX0) (N := 2) hx hb hts hi_X0 hown hK hP 0 rfl rfl 1 (by decide) hf_16 (fun _ h9 => h9) rfl dX0_record_14 ?_
  obtain ⟨z_1, hz, h0⟩ := bd_ok h0
  refine ro_V (As := [.int 0]) (rest := []) (wc := [(h, .inr (0, [.ref h_kept, .int 0])), (h_kept, .inl (cT, 4, .inr (.inr (.inr (.inr (kf [h_k0, h_k1, h_k2, h_k3])))))), (h_k0, .inr (5, [.ref h_k0_cells, .int h_k0_size])), (h_k0_cells, .inl (cI, 64, .inl h_k0_cells_f)), (h_k1, .inr (5, [.ref h_k1_cells, .int h_k1_size])), (h_k1_cells, .inl (cI, 64, .inl h_k1_cells_f)), (h_k2, .inr (5, [.ref h_k2_cells, .int h_k2_size])), (h_k2_cells, .inl (cI, 64, .inl h_k2_cells_f)), (h_k3, .inr (5, [.ref h_k3_cells, .int h_k3_size])), (h_k3_cells, .inl (cI, 64, .inl h_k3_cells_f))]) hcf (kX0_stateAt_0 l D cI cC cT h h_kept h_k0 h_k0_cells h_k1 h_k1_cells h_k2 h_k2_cells h_k3 h_k3_cells h_k0_cells_f h_k0_size h_k1_cells_f h_k1_size h_k2_cells_f h_k2_size h_k3_cells_f h_k3_size 0 z_1 hz) (cwV 1 hts gX0_record_X0_stateAt rfl rfl rfl (by decide +kernel) ⟨Nat.le_of_ble_eq_true rfl, Nat.le_of_ble_eq_true rfl⟩) hE (hP.sub [0, 1, 2, 3, 4, 5, 6, 7, 8, 9] rfl) (va_recv hK hP (ci := 0) (q0 := 0) rfl rfl) rfl hl.1 rfl (Nat.le_of_ble_eq_true rfl) dX0_record_17 ⟨Nat.le_of_ble_eq_true rfl, Nat.le_of_ble_eq_true rfl⟩ ?_
  refine W.eq (g2 := F0 m 20 ls [.ref h_k0]) rfl ?_
  refine lv_astore_n (lv' := [(2, .ref h_k0), (0, .ref h), (1, .ref p1)]) hx hb dX0_record_20 rfl hl (by decide) rfl (fun ls hl => ?_)
  refine lv_aload_n hx hb dX0_record_21 rfl (lv_at hl 0 rfl) ?_
  refine lv_ifnull hx hb dX0_record_22 ?_
  refine lv_aload_n hx hb dX0_record_25 rfl (lv_at hl 0 rfl) ?_
  refine lv_aload_n hx hb dX0_record_26 rfl (lv_at hl 2 rfl) ?_
  obtain ⟨z_2, hz, h0⟩ := bd_ok h0
  refine wr_V (As := [.ref p1]) (rest := []) (wc := [(h_k0, .inr (5, [.ref h_k0_cells, .int h_k0_size])), (h_k0_cells, .inl (cI, 64, .inl h_k0_cells_f)), (p1, .inr (5, [.ref p1_cells, .int p1_size])), (p1_cells, .inl (cI, 64, .inl p1_cells_f))]) (wr := [(h, .inr (0, [.ref h_kept, .int 0])), (h_kept, .inl (cT, 4, .inr (.inr (.inr (.inr (kf [h_k0, h_k1, h_k2, h_k3])))))), (h_k1, .inr (5, [.ref h_k1_cells, .int h_k1_size])), (h_k1_cells, .inl (cI, 64, .inl h_k1_cells_f)), (h_k2, .inr (5, [.ref h_k2_cells, .int h_k2_size])), (h_k2_cells, .inl (cI, 64, .inl h_k2_cells_f)), (h_k3, .inr (5, [.ref h_k3_cells, .int h_k3_size])), (h_k3_cells, .inl (cI, 64, .inl h_k3_cells_f))]) hcf (kX6_copyFrom l D cI cC cT h_k0 h_k0_cells p1 p1_cells h_k0_cells_f h_k0_size p1_cells_f p1_size _ z_2 hz) (cwV 1 hts gX0_record_X6_copyFrom rfl rfl rfl (by decide +kernel) ⟨Nat.le_of_ble_eq_true rfl, Nat.le_of_ble_eq_true rfl⟩) hE hP hD hS hA [2, 3, 10, 11] [0, 1, 4, 5, 6, 7, 8, 9] (hP.sub [2, 3, 10, 11] rfl) (hD.sub [2, 3, 10, 11] (by decide) rfl) (va_recv hK hP (ci := 5) (q0 := 2) rfl rfl) rfl rfl (by decide) (by decide) rfl hl.1 rfl (Nat.le_of_ble_eq_true rfl) dX0_record_27 ⟨Nat.le_of_ble_eq_true rfl, Nat.le_of_ble_eq_true rfl⟩ (fun u H locs hP hD hS => ?_)
  have hP : va_P D vwCl [(h, .inr (0, [.ref h_kept, .int 0])), (h_kept, .inl (cT, 4, .inr (.inr (.inr (.inr (kf [h_k0, h_k1, h_k2, h_k3])))))), (h_k1, .inr (5, [.ref h_k1_cells, .int h_k1_size])), (h_k1_cells, .inl (cI, 64, .inl h_k1_cells_f)), (h_k2, .inr (5, [.ref h_k2_cells, .int h_k2_size])), (h_k2_cells, .inl (cI, 64, .inl h_k2_cells_f)), (h_k3, .inr (5, [.ref h_k3_cells, .int h_k3_size])), (h_k3_cells, .inl (cI, 64, .inl h_k3_cells_f)), (h_k0, .inr (5, [.ref h_k0_cells, .int z_2.2])), (h_k0_cells, .inl (cI, 64, .inl z_2.1)), (p1, .inr (5, [.ref p1_cells, .int p1_size])), (p1_cells, .inl (cI, 64, .inl p1_cells_f))] H := hP
  have hD : va_D A [(h, .inr (0, [.ref h_kept, .int 0])), (h_kept, .inl (cT, 4, .inr (.inr (.inr (.inr (kf [h_k0, h_k1, h_k2, h_k3])))))), (h_k1, .inr (5, [.ref h_k1_cells, .int h_k1_size])), (h_k1_cells, .inl (cI, 64, .inl h_k1_cells_f)), (h_k2, .inr (5, [.ref h_k2_cells, .int h_k2_size])), (h_k2_cells, .inl (cI, 64, .inl h_k2_cells_f)), (h_k3, .inr (5, [.ref h_k3_cells, .int h_k3_size])), (h_k3_cells, .inl (cI, 64, .inl h_k3_cells_f)), (h_k0, .inr (5, [.ref h_k0_cells, .int z_2.2])), (h_k0_cells, .inl (cI, 64, .inl z_2.1)), (p1, .inr (5, [.ref p1_cells, .int p1_size])), (p1_cells, .inl (cI, 64, .inl p1_cells_f))] := hD
  refine W.eq (g2 := F0 m 30 ls []) rfl ?_
  refine lv_aload_n hx hb dX0_record_30 rfl (lv_at hl 1 rfl) ?_
  refine lv_dup hx hb dX0_record_31 rfl ?_
  refine va_get (D := D) (ci := 0) (v := .int 0) (C := RX0) (T := TX0) (N := 2) hx hb hts hi_X0 hown hK hP 0 rfl rfl 1 (by decide) hf_16 (fun _ h9 => h9) rfl dX0_record_32 ?_
  refine lv_iconst (v := 1) hx hb dX0_record_35 (by decide) ?_
  refine lv_iadd hx hb dX0_record_36 ?_
  refine cv_top (show ((0 : Int32) + 1) = 1 from by decide) ?_
  refine va_put (D := D) (ci := 0) (v := .int 1) (ty := .int) (C := RX0) (T := TX0) (N := 2) hx hb hts hi_X0 tyX0 tyX0_ok nmX0 hown hK hP hD hS 0 rfl rfl 1 (by decide) hf_16 (fun _ h9 => h9) rfl (by decide +kernel) rfl rfl (Nat.le_of_ble_eq_true rfl) dX0_record_37 (fun H locs hP hD hS => ?_)
  have hP : va_P D vwCl [(h, .inr (0, [.ref h_kept, .int 1])), (h_kept, .inl (cT, 4, .inr (.inr (.inr (.inr (kf [h_k0, h_k1, h_k2, h_k3])))))), (h_k1, .inr (5, [.ref h_k1_cells, .int h_k1_size])), (h_k1_cells, .inl (cI, 64, .inl h_k1_cells_f)), (h_k2, .inr (5, [.ref h_k2_cells, .int h_k2_size])), (h_k2_cells, .inl (cI, 64, .inl h_k2_cells_f)), (h_k3, .inr (5, [.ref h_k3_cells, .int h_k3_size])), (h_k3_cells, .inl (cI, 64, .inl h_k3_cells_f)), (h_k0, .inr (5, [.ref h_k0_cells, .int z_2.2])), (h_k0_cells, .inl (cI, 64, .inl z_2.1)), (p1, .inr (5, [.ref p1_cells, .int p1_size])), (p1_cells, .inl (cI, 64, .inl p1_cells_f))] H := hP
  have hD : va_D A [(h, .inr (0, [.ref h_kept, .int 1])), (h_kept, .inl (cT, 4, .inr (.inr (.inr (.inr (kf [h_k0, h_k1, h_k2, h_k3])))))), (h_k1, .inr (5, [.ref h_k1_cells, .int h_k1_size])), (h_k1_cells, .inl (cI, 64, .inl h_k1_cells_f)), (h_k2, .inr (5, [.ref h_k2_cells, .int h_k2_size])), (h_k2_cells, .inl (cI, 64, .inl h_k2_cells_f)), (h_k3, .inr (5, [.ref h_k3_cells, .int h_k3_size])), (h_k3_cells, .inl (cI, 64, .inl h_k3_cells_f)), (h_k0, .inr (5, [.ref h_k0_cells, .int z_2.2])), (h_k0_cells, .inl (cI, 64, .inl z_2.1)), (p1, .inr (5, [.ref p1_cells, .int p1_size])), (p1_cells, .inl (cI, 64, .inl p1_cells_f))] := hD
  have e0 := Option.some.inj h0
  subst e0
  exact W.vret hx hb hr (fun t ht hW => wr_end () ht (hP.sub [0, 1, 8, 9, 2, 3, 4, 5, 6, 7, 10, 11] rfl) (hD.sub [0, 1, 8, 9, 2, 3, 4, 5, 6, 7, 10, 11] (by decide) rfl) hS) hS.2.2 dX0_record_40
noncomputable def mX0_record_1 (h_k1_cells_f : Nat → Int32) (p1_cells_f : Nat → Int32) (p1_size : Int32) : Option ((Nat → Int32) × Int32) :=
  bd (mX0_stateAt_1) (fun z_1 => bd (mX6_copyFrom h_k1_cells_f p1_cells_f p1_size) (fun z_2 => some (z_2.1, z_2.2)))
set_option maxHeartbeats 8000000 in
set_option maxRecDepth 100000 in
theorem kX0_record_1 (l : Launch) (D : va_G) (cI cC cT : ClassId) (h h_kept h_k0 h_k0_cells h_k1 h_k1_cells h_k2 h_k2_cells h_k3 h_k3_cells p1 p1_cells : Nat) (h_k0_cells_f : Nat → Int32) (h_k0_size : Int32) (h_k1_cells_f : Nat → Int32) (h_k1_size : Int32) (h_k2_cells_f : Nat → Int32) (h_k2_size : Int32) (h_k3_cells_f : Nat → Int32) (h_k3_size : Int32) (p1_cells_f : Nat → Int32) (p1_size : Int32) (sz : Nat) (z : (Nat → Int32) × Int32) (h0 : mX0_record_1 h_k1_cells_f p1_cells_f p1_size = some z) : Met l yX0_record wsX0_record ({ frames := 2, cells := 0, slots := 0, locals := 44 } : Room) (va_Pc [.ref h, .ref p1] (wP D cI cC cT [(h, .inr (0, [.ref h_kept, .int 1])), (h_kept, .inl (cT, 4, .inr (.inr (.inr (.inr (kf [h_k0, h_k1, h_k2, h_k3])))))), (h_k0, .inr (5, [.ref h_k0_cells, .int h_k0_size])), (h_k0_cells, .inl (cI, 64, .inl h_k0_cells_f)), (h_k1, .inr (5, [.ref h_k1_cells, .int h_k1_size])), (h_k1_cells, .inl (cI, 64, .inl h_k1_cells_f)), (h_k2, .inr (5, [.ref h_k2_cells, .int h_k2_size])), (h_k2_cells, .inl (cI, 64, .inl h_k2_cells_f)), (h_k3, .inr (5, [.ref h_k3_cells, .int h_k3_size])), (h_k3_cells, .inl (cI, 64, .inl h_k3_cells_f)), (p1, .inr (5, [.ref p1_cells, .int p1_size])), (p1_cells, .inl (cI, 64, .inl p1_cells_f))] sz)) (wQ D none (va_A [(h, .inr (0, [.ref h_kept, .int 1])), (h_kept, .inl (cT, 4, .inr (.inr (.inr (.inr (kf [h_k0, h_k1, h_k2, h_k3])))))), (h_k0, .inr (5, [.ref h_k0_cells, .int h_k0_size])), (h_k0_cells, .inl (cI, 64, .inl h_k0_cells_f)), (h_k1, .inr (5, [.ref h_k1_cells, .int h_k1_size])), (h_k1_cells, .inl (cI, 64, .inl h_k1_cells_f)), (h_k2, .inr (5, [.ref h_k2_cells, .int h_k2_size])), (h_k2_cells, .inl (cI, 64, .inl h_k2_cells_f)), (h_k3, .inr (5, [.ref h_k3_cells, .int h_k3_size])), (h_k3_cells, .inl (cI, 64, .inl h_k3_cells_f)), (p1, .inr (5, [.ref p1_cells, .int p1_size])), (p1_cells, .inl (cI, 64, .inl p1_cells_f))] sz) (fun (u : Unit) => [(h, .inr (0, [.ref h_kept, .int 2])), (h_kept, .inl (cT, 4, .inr (.inr (.inr (.inr (kf [h_k0, h_k1, h_k2, h_k3])))))), (h_k0, .inr (5, [.ref h_k0_cells, .int h_k0_size])), (h_k0_cells, .inl (cI, 64, .inl h_k0_cells_f)), (h_k1, .inr (5, [.ref h_k1_cells, .int z.2])), (h_k1_cells, .inl (cI, 64, .inl z.1)), (h_k2, .inr (5, [.ref h_k2_cells, .int h_k2_size])), (h_k2_cells, .inl (cI, 64, .inl h_k2_cells_f)), (h_k3, .inr (5, [.ref h_k3_cells, .int h_k3_size])), (h_k3_cells, .inl (cI, 64, .inl h_k3_cells_f)), (p1, .inr (5, [.ref p1_cells, .int p1_size])), (p1_cells, .inl (cI, 64, .inl p1_cells_f))])) 0 0 (va_A [(h, .inr (0, [.ref h_kept, .int 1])), (h_kept, .inl (cT, 4, .inr (.inr (.inr (.inr (kf [h_k0, h_k1, h_k2, h_k3])))))), (h_k0, .inr (5, [.ref h_k0_cells, .int h_k0_size])), (h_k0_cells, .inl (cI, 64, .inl h_k0_cells_f)), (h_k1, .inr (5, [.ref h_k1_cells, .int h_k1_size])), (h_k1_cells, .inl (cI, 64, .inl h_k1_cells_f)), (h_k2, .inr (5, [.ref h_k2_cells, .int h_k2_size])), (h_k2_cells, .inl (cI, 64, .inl h_k2_cells_f)), (h_k3, .inr (5, [.ref h_k3_cells, .int h_k3_size])), (h_k3_cells, .inl (cI, 64, .inl h_k3_cells_f)), (p1, .inr (5, [.ref p1_cells, .int p1_size])), (p1_cells, .inl (cI, 64, .inl p1_cells_f))] sz) := by
  refine Met.ofW (cc := cX0_record) (maxL := 3) (ret := none) (by decide) rfl ?_
  intro p e s m args below meth c s₁ B hml hv
  obtain ⟨rfl, hsz, hP, hE, hD0⟩ := hv
  have hx := B.exec
  have hb := B.bytes
  have hr := B.returns
  have hts := atoms_spec (ws := wsX0_record) B.pre
  have hown : s.vm.findClass RX0 = some m.cls := findClass_of_methodNamed B.named
  have hlocks := B.notSynchronized
  have hK := hE.1
  have hcf : CallFix p m c cX0_record 3 s ([.ref h, .ref p1] : List Value).toArray wsX0_record RX0 := ⟨hx, hb, hml, hown, hts⟩
  subst hsz
  have hD := hD0.self (sz := s.heap.size)
  generalize hAe : va_A [(h, .inr (0, [.ref h_kept, .int 1])), (h_kept, .inl (cT, 4, .inr (.inr (.inr (.inr (kf [h_k0, h_k1, h_k2, h_k3])))))), (h_k0, .inr (5, [.ref h_k0_cells, .int h_k0_size])), (h_k0_cells, .inl (cI, 64, .inl h_k0_cells_f)), (h_k1, .inr (5, [.ref h_k1_cells, .int h_k1_size])), (h_k1_cells, .inl (cI, 64, .inl h_k1_cells_f)), (h_k2, .inr (5, [.ref h_k2_cells, .int h_k2_size])), (h_k2_cells, .inl (cI, 64, .inl h_k2_cells_f)), (h_k3, .inr (5, [.ref h_k3_cells, .int h_k3_size])), (h_k3_cells, .inl (cI, 64, .inl h_k3_cells_f)), (p1, .inr (5, [.ref p1_cells, .int p1_size])), (p1_cells, .inl (cI, 64, .inl p1_cells_f))] s.heap.size = A at hD ⊢
  have hA : ∀ q : Nat, s.heap.size ≤ q → A q := fun q h => by rw [← hAe]; exact Or.inr h
  have hS : va_S A s.heap s.heap [] := va_S.rf
  have hP : va_P D vwCl [(h, .inr (0, [.ref h_kept, .int 1])), (h_kept, .inl (cT, 4, .inr (.inr (.inr (.inr (kf [h_k0, h_k1, h_k2, h_k3])))))), (h_k0, .inr (5, [.ref h_k0_cells, .int h_k0_size])), (h_k0_cells, .inl (cI, 64, .inl h_k0_cells_f)), (h_k1, .inr (5, [.ref h_k1_cells, .int h_k1_size])), (h_k1_cells, .inl (cI, 64, .inl h_k1_cells_f)), (h_k2, .inr (5, [.ref h_k2_cells, .int h_k2_size])), (h_k2_cells, .inl (cI, 64, .inl h_k2_cells_f)), (h_k3, .inr (5, [.ref h_k3_cells, .int h_k3_size])), (h_k3_cells, .inl (cI, 64, .inl h_k3_cells_f)), (p1, .inr (5, [.ref p1_cells, .int p1_size])), (p1_cells, .inl (cI, 64, .inl p1_cells_f))] s.heap := hP
  have hf_16 := hts (.fieldLink RX0 16 "CrookedSums$History" "states" "I") (by decide +kernel)
  have hi_X0 := (show ∀ w ∈ u_ws RX0 TX0 2, w ∈ wsX0_record from by decide +kernel)
  have hl := lv_entry ([.ref h, .ref p1]) (n := 3) (Nat.le_of_ble_eq_true rfl)
  rw [lg_entry_eq]
  generalize (lg_sl ([.ref h, .ref p1]) ++ List.replicate (3 - (lg_sl ([.ref h, .ref p1])).length) Slot.unset).toArray = ls at hl ⊢
  have hl : lv_has ls 3 [(0, .ref h), (1, .ref p1)] := hl
  unfold mX0_record_1 at h0
  refine lv_aload_n hx hb dX0_record_0 rfl (lv_at hl 0 rfl) ?_
  refine va_get (D := D) (ci := 0) (v := .int 1) (C := RX0) (T := TX0) (N := 2) hx hb hts hi_X0 hown hK hP 0 rfl rfl 1 (by decide) hf_16 (fun _ h9 => h9) rfl dX0_record_1 ?_
  refine lv_iconst (v := 4) hx hb dX0_record_4 (by decide) ?_
  refine lv_icmp_lt (tgt := 12) hx hb dX0_record_5 (by decide) (fun _ => ?_) (fun c9 => absurd (by decide) c9)
  refine lv_aload_n hx hb dX0_record_12 rfl (lv_at hl 0 rfl) ?_
  refine lv_aload_n hx hb dX0_record_13 rfl (lv_at hl 0 rfl) ?_
  refine va_get (D := D) (ci := 0) (v := .int 1) (C := RX0) (T := TX0) (N := 2) hx hb hts hi_X0 hown hK hP 0 rfl rfl 1 (by decide) hf_16 (fun _ h9 => h9) rfl dX0_record_14 ?_
  obtain ⟨z_1, hz, h0⟩ := bd_ok h0
  refine ro_V (As := [.int 1]) (rest := []) (wc := [(h, .inr (0, [.ref h_kept, .int 1])), (h_kept, .inl (cT, 4, .inr (.inr (.inr (.inr (kf [h_k0, h_k1, h_k2, h_k3])))))), (h_k0, .inr (5, [.ref h_k0_cells, .int h_k0_size])), (h_k0_cells, .inl (cI, 64, .inl h_k0_cells_f)), (h_k1, .inr (5, [.ref h_k1_cells, .int h_k1_size])), (h_k1_cells, .inl (cI, 64, .inl h_k1_cells_f)), (h_k2, .inr (5, [.ref h_k2_cells, .int h_k2_size])), (h_k2_cells, .inl (cI, 64, .inl h_k2_cells_f)), (h_k3, .inr (5, [.ref h_k3_cells, .int h_k3_size])), (h_k3_cells, .inl (cI, 64, .inl h_k3_cells_f))]) hcf (kX0_stateAt_1 l D cI cC cT h h_kept h_k0 h_k0_cells h_k1 h_k1_cells h_k2 h_k2_cells h_k3 h_k3_cells h_k0_cells_f h_k0_size h_k1_cells_f h_k1_size h_k2_cells_f h_k2_size h_k3_cells_f h_k3_size 1 z_1 hz) (cwV 1 hts gX0_record_X0_stateAt rfl rfl rfl (by decide +kernel) ⟨Nat.le_of_ble_eq_true rfl, Nat.le_of_ble_eq_true rfl⟩) hE (hP.sub [0, 1, 2, 3, 4, 5, 6, 7, 8, 9] rfl) (va_recv hK hP (ci := 0) (q0 := 0) rfl rfl) rfl hl.1 rfl (Nat.le_of_ble_eq_true rfl) dX0_record_17 ⟨Nat.le_of_ble_eq_true rfl, Nat.le_of_ble_eq_true rfl⟩ ?_
  refine W.eq (g2 := F0 m 20 ls [.ref h_k1]) rfl ?_
  refine lv_astore_n (lv' := [(2, .ref h_k1), (0, .ref h), (1, .ref p1)]) hx hb dX0_record_20 rfl hl (by decide) rfl (fun ls hl => ?_)
  refine lv_aload_n hx hb dX0_record_21 rfl (lv_at hl 0 rfl) ?_
  refine lv_ifnull hx hb dX0_record_22 ?_
  refine lv_aload_n hx hb dX0_record_25 rfl (lv_at hl 0 rfl) ?_
  refine lv_aload_n hx hb dX0_record_26 rfl (lv_at hl 2 rfl) ?_
  obtain ⟨z_2, hz, h0⟩ := bd_ok h0
  refine wr_V (As := [.ref p1]) (rest := []) (wc := [(h_k1, .inr (5, [.ref h_k1_cells, .int h_k1_size])), (h_k1_cells, .inl (cI, 64, .inl h_k1_cells_f)), (p1, .inr (5, [.ref p1_cells, .int p1_size])), (p1_cells, .inl (cI, 64, .inl p1_cells_f))]) (wr := [(h, .inr (0, [.ref h_kept, .int 1])), (h_kept, .inl (cT, 4, .inr (.inr (.inr (.inr (kf [h_k0, h_k1, h_k2, h_k3])))))), (h_k0, .inr (5, [.ref h_k0_cells, .int h_k0_size])), (h_k0_cells, .inl (cI, 64, .inl h_k0_cells_f)), (h_k2, .inr (5, [.ref h_k2_cells, .int h_k2_size])), (h_k2_cells, .inl (cI, 64, .inl h_k2_cells_f)), (h_k3, .inr (5, [.ref h_k3_cells, .int h_k3_size])), (h_k3_cells, .inl (cI, 64, .inl h_k3_cells_f))]) hcf (kX6_copyFrom l D cI cC cT h_k1 h_k1_cells p1 p1_cells h_k1_cells_f h_k1_size p1_cells_f p1_size _ z_2 hz) (cwV 1 hts gX0_record_X6_copyFrom rfl rfl rfl (by decide +kernel) ⟨Nat.le_of_ble_eq_true rfl, Nat.le_of_ble_eq_true rfl⟩) hE hP hD hS hA [4, 5, 10, 11] [0, 1, 2, 3, 6, 7, 8, 9] (hP.sub [4, 5, 10, 11] rfl) (hD.sub [4, 5, 10, 11] (by decide) rfl) (va_recv hK hP (ci := 5) (q0 := 4) rfl rfl) rfl rfl (by decide) (by decide) rfl hl.1 rfl (Nat.le_of_ble_eq_true rfl) dX0_record_27 ⟨Nat.le_of_ble_eq_true rfl, Nat.le_of_ble_eq_true rfl⟩ (fun u H locs hP hD hS => ?_)
  have hP : va_P D vwCl [(h, .inr (0, [.ref h_kept, .int 1])), (h_kept, .inl (cT, 4, .inr (.inr (.inr (.inr (kf [h_k0, h_k1, h_k2, h_k3])))))), (h_k0, .inr (5, [.ref h_k0_cells, .int h_k0_size])), (h_k0_cells, .inl (cI, 64, .inl h_k0_cells_f)), (h_k2, .inr (5, [.ref h_k2_cells, .int h_k2_size])), (h_k2_cells, .inl (cI, 64, .inl h_k2_cells_f)), (h_k3, .inr (5, [.ref h_k3_cells, .int h_k3_size])), (h_k3_cells, .inl (cI, 64, .inl h_k3_cells_f)), (h_k1, .inr (5, [.ref h_k1_cells, .int z_2.2])), (h_k1_cells, .inl (cI, 64, .inl z_2.1)), (p1, .inr (5, [.ref p1_cells, .int p1_size])), (p1_cells, .inl (cI, 64, .inl p1_cells_f))] H := hP
  have hD : va_D A [(h, .inr (0, [.ref h_kept, .int 1])), (h_kept, .inl (cT, 4, .inr (.inr (.inr (.inr (kf [h_k0, h_k1, h_k2, h_k3])))))), (h_k0, .inr (5, [.ref h_k0_cells, .int h_k0_size])), (h_k0_cells, .inl (cI, 64, .inl h_k0_cells_f)), (h_k2, .inr (5, [.ref h_k2_cells, .int h_k2_size])), (h_k2_cells, .inl (cI, 64, .inl h_k2_cells_f)), (h_k3, .inr (5, [.ref h_k3_cells, .int h_k3_size])), (h_k3_cells, .inl (cI, 64, .inl h_k3_cells_f)), (h_k1, .inr (5, [.ref h_k1_cells, .int z_2.2])), (h_k1_cells, .inl (cI, 64, .inl z_2.1)), (p1, .inr (5, [.ref p1_cells, .int p1_size])), (p1_cells, .inl (cI, 64, .inl p1_cells_f))] := hD
  refine W.eq (g2 := F0 m 30 ls []) rfl ?_
  refine lv_aload_n hx hb dX0_record_30 rfl (lv_at hl 1 rfl) ?_
  refine lv_dup hx hb dX0_record_31 rfl ?_
  refine va_get (D := D) (ci := 0) (v := .int 1) (C := RX0) (T := TX0) (N := 2) hx hb hts hi_X0 hown hK hP 0 rfl rfl 1 (by decide) hf_16 (fun _ h9 => h9) rfl dX0_record_32 ?_
  refine lv_iconst (v := 1) hx hb dX0_record_35 (by decide) ?_
  refine lv_iadd hx hb dX0_record_36 ?_
  refine cv_top (show ((1 : Int32) + 1) = 2 from by decide) ?_
  refine va_put (D := D) (ci := 0) (v := .int 2) (ty := .int) (C := RX0) (T := TX0) (N := 2) hx hb hts hi_X0 tyX0 tyX0_ok nmX0 hown hK hP hD hS 0 rfl rfl 1 (by decide) hf_16 (fun _ h9 => h9) rfl (by decide +kernel) rfl rfl (Nat.le_of_ble_eq_true rfl) dX0_record_37 (fun H locs hP hD hS => ?_)
  have hP : va_P D vwCl [(h, .inr (0, [.ref h_kept, .int 2])), (h_kept, .inl (cT, 4, .inr (.inr (.inr (.inr (kf [h_k0, h_k1, h_k2, h_k3])))))), (h_k0, .inr (5, [.ref h_k0_cells, .int h_k0_size])), (h_k0_cells, .inl (cI, 64, .inl h_k0_cells_f)), (h_k2, .inr (5, [.ref h_k2_cells, .int h_k2_size])), (h_k2_cells, .inl (cI, 64, .inl h_k2_cells_f)), (h_k3, .inr (5, [.ref h_k3_cells, .int h_k3_size])), (h_k3_cells, .inl (cI, 64, .inl h_k3_cells_f)), (h_k1, .inr (5, [.ref h_k1_cells, .int z_2.2])), (h_k1_cells, .inl (cI, 64, .inl z_2.1)), (p1, .inr (5, [.ref p1_cells, .int p1_size])), (p1_cells, .inl (cI, 64, .inl p1_cells_f))] H := hP
  have hD : va_D A [(h, .inr (0, [.ref h_kept, .int 2])), (h_kept, .inl (cT, 4, .inr (.inr (.inr (.inr (kf [h_k0, h_k1, h_k2, h_k3])))))), (h_k0, .inr (5, [.ref h_k0_cells, .int h_k0_size])), (h_k0_cells, .inl (cI, 64, .inl h_k0_cells_f)), (h_k2, .inr (5, [.ref h_k2_cells, .int h_k2_size])), (h_k2_cells, .inl (cI, 64, .inl h_k2_cells_f)), (h_k3, .inr (5, [.ref h_k3_cells, .int h_k3_size])), (h_k3_cells, .inl (cI, 64, .inl h_k3_cells_f)), (h_k1, .inr (5, [.ref h_k1_cells, .int z_2.2])), (h_k1_cells, .inl (cI, 64, .inl z_2.1)), (p1, .inr (5, [.ref p1_cells, .int p1_size])), (p1_cells, .inl (cI, 64, .inl p1_cells_f))] := hD
  have e0 := Option.some.inj h0
  subst e0
  exact W.vret hx hb hr (fun t ht hW => wr_end () ht (hP.sub [0, 1, 2, 3, 8, 9, 4, 5, 6, 7, 10, 11] rfl) (hD.sub [0, 1, 2, 3, 8, 9, 4, 5, 6, 7, 10, 11] (by decide) rfl) hS) hS.2.2 dX0_record_40
noncomputable def mX0_record_2 (h_k2_cells_f : Nat → Int32) (p1_cells_f : Nat → Int32) (p1_size : Int32) : Option ((Nat → Int32) × Int32) :=
  bd (mX0_stateAt_2) (fun z_1 => bd (mX6_copyFrom h_k2_cells_f p1_cells_f p1_size) (fun z_2 => some (z_2.1, z_2.2)))
set_option maxHeartbeats 8000000 in
set_option maxRecDepth 100000 in
theorem kX0_record_2 (l : Launch) (D : va_G) (cI cC cT : ClassId) (h h_kept h_k0 h_k0_cells h_k1 h_k1_cells h_k2 h_k2_cells h_k3 h_k3_cells p1 p1_cells : Nat) (h_k0_cells_f : Nat → Int32) (h_k0_size : Int32) (h_k1_cells_f : Nat → Int32) (h_k1_size : Int32) (h_k2_cells_f : Nat → Int32) (h_k2_size : Int32) (h_k3_cells_f : Nat → Int32) (h_k3_size : Int32) (p1_cells_f : Nat → Int32) (p1_size : Int32) (sz : Nat) (z : (Nat → Int32) × Int32) (h0 : mX0_record_2 h_k2_cells_f p1_cells_f p1_size = some z) : Met l yX0_record wsX0_record ({ frames := 2, cells := 0, slots := 0, locals := 44 } : Room) (va_Pc [.ref h, .ref p1] (wP D cI cC cT [(h, .inr (0, [.ref h_kept, .int 2])), (h_kept, .inl (cT, 4, .inr (.inr (.inr (.inr (kf [h_k0, h_k1, h_k2, h_k3])))))), (h_k0, .inr (5, [.ref h_k0_cells, .int h_k0_size])), (h_k0_cells, .inl (cI, 64, .inl h_k0_cells_f)), (h_k1, .inr (5, [.ref h_k1_cells, .int h_k1_size])), (h_k1_cells, .inl (cI, 64, .inl h_k1_cells_f)), (h_k2, .inr (5, [.ref h_k2_cells, .int h_k2_size])), (h_k2_cells, .inl (cI, 64, .inl h_k2_cells_f)), (h_k3, .inr (5, [.ref h_k3_cells, .int h_k3_size])), (h_k3_cells, .inl (cI, 64, .inl h_k3_cells_f)), (p1, .inr (5, [.ref p1_cells, .int p1_size])), (p1_cells, .inl (cI, 64, .inl p1_cells_f))] sz)) (wQ D none (va_A [(h, .inr (0, [.ref h_kept, .int 2])), (h_kept, .inl (cT, 4, .inr (.inr (.inr (.inr (kf [h_k0, h_k1, h_k2, h_k3])))))), (h_k0, .inr (5, [.ref h_k0_cells, .int h_k0_size])), (h_k0_cells, .inl (cI, 64, .inl h_k0_cells_f)), (h_k1, .inr (5, [.ref h_k1_cells, .int h_k1_size])), (h_k1_cells, .inl (cI, 64, .inl h_k1_cells_f)), (h_k2, .inr (5, [.ref h_k2_cells, .int h_k2_size])), (h_k2_cells, .inl (cI, 64, .inl h_k2_cells_f)), (h_k3, .inr (5, [.ref h_k3_cells, .int h_k3_size])), (h_k3_cells, .inl (cI, 64, .inl h_k3_cells_f)), (p1, .inr (5, [.ref p1_cells, .int p1_size])), (p1_cells, .inl (cI, 64, .inl p1_cells_f))] sz) (fun (u : Unit) => [(h, .inr (0, [.ref h_kept, .int 3])), (h_kept, .inl (cT, 4, .inr (.inr (.inr (.inr (kf [h_k0, h_k1, h_k2, h_k3])))))), (h_k0, .inr (5, [.ref h_k0_cells, .int h_k0_size])), (h_k0_cells, .inl (cI, 64, .inl h_k0_cells_f)), (h_k1, .inr (5, [.ref h_k1_cells, .int h_k1_size])), (h_k1_cells, .inl (cI, 64, .inl h_k1_cells_f)), (h_k2, .inr (5, [.ref h_k2_cells, .int z.2])), (h_k2_cells, .inl (cI, 64, .inl z.1)), (h_k3, .inr (5, [.ref h_k3_cells, .int h_k3_size])), (h_k3_cells, .inl (cI, 64, .inl h_k3_cells_f)), (p1, .inr (5, [.ref p1_cells, .int p1_size])), (p1_cells, .inl (cI, 64, .inl p1_cells_f))])) 0 0 (va_A [(h, .inr (0, [.ref h_kept, .int 2])), (h_kept, .inl (cT, 4, .inr (.inr (.inr (.inr (kf [h_k0, h_k1, h_k2, h_k3])))))), (h_k0, .inr (5, [.ref h_k0_cells, .int h_k0_size])), (h_k0_cells, .inl (cI, 64, .inl h_k0_cells_f)), (h_k1, .inr (5, [.ref h_k1_cells, .int h_k1_size])), (h_k1_cells, .inl (cI, 64, .inl h_k1_cells_f)), (h_k2, .inr (5, [.ref h_k2_cells, .int h_k2_size])), (h_k2_cells, .inl (cI, 64, .inl h_k2_cells_f)), (h_k3, .inr (5, [.ref h_k3_cells, .int h_k3_size])), (h_k3_cells, .inl (cI, 64, .inl h_k3_cells_f)), (p1, .inr (5, [.ref p1_cells, .int p1_size])), (p1_cells, .inl (cI, 64, .inl p1_cells_f))] sz) := by
  refine Met.ofW (cc := cX0_record) (maxL := 3) (ret := none) (by decide) rfl ?_
  intro p e s m args below meth c s₁ B hml hv
  obtain ⟨rfl, hsz, hP, hE, hD0⟩ := hv
  have hx := B.exec
  have hb := B.bytes
  have hr := B.returns
  have hts := atoms_spec (ws := wsX0_record) B.pre
  have hown : s.vm.findClass RX0 = some m.cls := findClass_of_methodNamed B.named
  have hlocks := B.notSynchronized
  have hK := hE.1
  have hcf : CallFix p m c cX0_record 3 s ([.ref h, .ref p1] : List Value).toArray wsX0_record RX0 := ⟨hx, hb, hml, hown, hts⟩
  subst hsz
  have hD := hD0.self (sz := s.heap.size)
  generalize hAe : va_A [(h, .inr (0, [.ref h_kept, .int 2])), (h_kept, .inl (cT, 4, .inr (.inr (.inr (.inr (kf [h_k0, h_k1, h_k2, h_k3])))))), (h_k0, .inr (5, [.ref h_k0_cells, .int h_k0_size])), (h_k0_cells, .inl (cI, 64, .inl h_k0_cells_f)), (h_k1, .inr (5, [.ref h_k1_cells, .int h_k1_size])), (h_k1_cells, .inl (cI, 64, .inl h_k1_cells_f)), (h_k2, .inr (5, [.ref h_k2_cells, .int h_k2_size])), (h_k2_cells, .inl (cI, 64, .inl h_k2_cells_f)), (h_k3, .inr (5, [.ref h_k3_cells, .int h_k3_size])), (h_k3_cells, .inl (cI, 64, .inl h_k3_cells_f)), (p1, .inr (5, [.ref p1_cells, .int p1_size])), (p1_cells, .inl (cI, 64, .inl p1_cells_f))] s.heap.size = A at hD ⊢
  have hA : ∀ q : Nat, s.heap.size ≤ q → A q := fun q h => by rw [← hAe]; exact Or.inr h
  have hS : va_S A s.heap s.heap [] := va_S.rf
  have hP : va_P D vwCl [(h, .inr (0, [.ref h_kept, .int 2])), (h_kept, .inl (cT, 4, .inr (.inr (.inr (.inr (kf [h_k0, h_k1, h_k2, h_k3])))))), (h_k0, .inr (5, [.ref h_k0_cells, .int h_k0_size])), (h_k0_cells, .inl (cI, 64, .inl h_k0_cells_f)), (h_k1, .inr (5, [.ref h_k1_cells, .int h_k1_size])), (h_k1_cells, .inl (cI, 64, .inl h_k1_cells_f)), (h_k2, .inr (5, [.ref h_k2_cells, .int h_k2_size])), (h_k2_cells, .inl (cI, 64, .inl h_k2_cells_f)), (h_k3, .inr (5, [.ref h_k3_cells, .int h_k3_size])), (h_k3_cells, .inl (cI, 64, .inl h_k3_cells_f)), (p1, .inr (5, [.ref p1_cells, .int p1_size])), (p1_cells, .inl (cI, 64, .inl p1_cells_f))] s.heap := hP
  have hf_16 := hts (.fieldLink RX0 16 "CrookedSums$History" "states" "I") (by decide +kernel)
  have hi_X0 := (show ∀ w ∈ u_ws RX0 TX0 2, w ∈ wsX0_record from by decide +kernel)
  have hl := lv_entry ([.ref h, .ref p1]) (n := 3) (Nat.le_of_ble_eq_true rfl)
  rw [lg_entry_eq]
  generalize (lg_sl ([.ref h, .ref p1]) ++ List.replicate (3 - (lg_sl ([.ref h, .ref p1])).length) Slot.unset).toArray = ls at hl ⊢
  have hl : lv_has ls 3 [(0, .ref h), (1, .ref p1)] := hl
  unfold mX0_record_2 at h0
  refine lv_aload_n hx hb dX0_record_0 rfl (lv_at hl 0 rfl) ?_
  refine va_get (D := D) (ci := 0) (v := .int 2) (C := RX0) (T := TX0) (N := 2) hx hb hts hi_X0 hown hK hP 0 rfl rfl 1 (by decide) hf_16 (fun _ h9 => h9) rfl dX0_record_1 ?_
  refine lv_iconst (v := 4) hx hb dX0_record_4 (by decide) ?_
  refine lv_icmp_lt (tgt := 12) hx hb dX0_record_5 (by decide) (fun _ => ?_) (fun c9 => absurd (by decide) c9)
  refine lv_aload_n hx hb dX0_record_12 rfl (lv_at hl 0 rfl) ?_
  refine lv_aload_n hx hb dX0_record_13 rfl (lv_at hl 0 rfl) ?_
  refine va_get (D := D) (ci := 0) (v := .int 2) (C := RX0) (T := TX0) (N := 2) hx hb hts hi_X0 hown hK hP 0 rfl rfl 1 (by decide) hf_16 (fun _ h9 => h9) rfl dX0_record_14 ?_
  obtain ⟨z_1, hz, h0⟩ := bd_ok h0
  refine ro_V (As := [.int 2]) (rest := []) (wc := [(h, .inr (0, [.ref h_kept, .int 2])), (h_kept, .inl (cT, 4, .inr (.inr (.inr (.inr (kf [h_k0, h_k1, h_k2, h_k3])))))), (h_k0, .inr (5, [.ref h_k0_cells, .int h_k0_size])), (h_k0_cells, .inl (cI, 64, .inl h_k0_cells_f)), (h_k1, .inr (5, [.ref h_k1_cells, .int h_k1_size])), (h_k1_cells, .inl (cI, 64, .inl h_k1_cells_f)), (h_k2, .inr (5, [.ref h_k2_cells, .int h_k2_size])), (h_k2_cells, .inl (cI, 64, .inl h_k2_cells_f)), (h_k3, .inr (5, [.ref h_k3_cells, .int h_k3_size])), (h_k3_cells, .inl (cI, 64, .inl h_k3_cells_f))]) hcf (kX0_stateAt_2 l D cI cC cT h h_kept h_k0 h_k0_cells h_k1 h_k1_cells h_k2 h_k2_cells h_k3 h_k3_cells h_k0_cells_f h_k0_size h_k1_cells_f h_k1_size h_k2_cells_f h_k2_size h_k3_cells_f h_k3_size 2 z_1 hz) (cwV 1 hts gX0_record_X0_stateAt rfl rfl rfl (by decide +kernel) ⟨Nat.le_of_ble_eq_true rfl, Nat.le_of_ble_eq_true rfl⟩) hE (hP.sub [0, 1, 2, 3, 4, 5, 6, 7, 8, 9] rfl) (va_recv hK hP (ci := 0) (q0 := 0) rfl rfl) rfl hl.1 rfl (Nat.le_of_ble_eq_true rfl) dX0_record_17 ⟨Nat.le_of_ble_eq_true rfl, Nat.le_of_ble_eq_true rfl⟩ ?_
  refine W.eq (g2 := F0 m 20 ls [.ref h_k2]) rfl ?_
  refine lv_astore_n (lv' := [(2, .ref h_k2), (0, .ref h), (1, .ref p1)]) hx hb dX0_record_20 rfl hl (by decide) rfl (fun ls hl => ?_)
  refine lv_aload_n hx hb dX0_record_21 rfl (lv_at hl 0 rfl) ?_
  refine lv_ifnull hx hb dX0_record_22 ?_
  refine lv_aload_n hx hb dX0_record_25 rfl (lv_at hl 0 rfl) ?_
  refine lv_aload_n hx hb dX0_record_26 rfl (lv_at hl 2 rfl) ?_
  obtain ⟨z_2, hz, h0⟩ := bd_ok h0
  refine wr_V (As := [.ref p1]) (rest := []) (wc := [(h_k2, .inr (5, [.ref h_k2_cells, .int h_k2_size])), (h_k2_cells, .inl (cI, 64, .inl h_k2_cells_f)), (p1, .inr (5, [.ref p1_cells, .int p1_size])), (p1_cells, .inl (cI, 64, .inl p1_cells_f))]) (wr := [(h, .inr (0, [.ref h_kept, .int 2])), (h_kept, .inl (cT, 4, .inr (.inr (.inr (.inr (kf [h_k0, h_k1, h_k2, h_k3])))))), (h_k0, .inr (5, [.ref h_k0_cells, .int h_k0_size])), (h_k0_cells, .inl (cI, 64, .inl h_k0_cells_f)), (h_k1, .inr (5, [.ref h_k1_cells, .int h_k1_size])), (h_k1_cells, .inl (cI, 64, .inl h_k1_cells_f)), (h_k3, .inr (5, [.ref h_k3_cells, .int h_k3_size])), (h_k3_cells, .inl (cI, 64, .inl h_k3_cells_f))]) hcf (kX6_copyFrom l D cI cC cT h_k2 h_k2_cells p1 p1_cells h_k2_cells_f h_k2_size p1_cells_f p1_size _ z_2 hz) (cwV 1 hts gX0_record_X6_copyFrom rfl rfl rfl (by decide +kernel) ⟨Nat.le_of_ble_eq_true rfl, Nat.le_of_ble_eq_true rfl⟩) hE hP hD hS hA [6, 7, 10, 11] [0, 1, 2, 3, 4, 5, 8, 9] (hP.sub [6, 7, 10, 11] rfl) (hD.sub [6, 7, 10, 11] (by decide) rfl) (va_recv hK hP (ci := 5) (q0 := 6) rfl rfl) rfl rfl (by decide) (by decide) rfl hl.1 rfl (Nat.le_of_ble_eq_true rfl) dX0_record_27 ⟨Nat.le_of_ble_eq_true rfl, Nat.le_of_ble_eq_true rfl⟩ (fun u H locs hP hD hS => ?_)
  have hP : va_P D vwCl [(h, .inr (0, [.ref h_kept, .int 2])), (h_kept, .inl (cT, 4, .inr (.inr (.inr (.inr (kf [h_k0, h_k1, h_k2, h_k3])))))), (h_k0, .inr (5, [.ref h_k0_cells, .int h_k0_size])), (h_k0_cells, .inl (cI, 64, .inl h_k0_cells_f)), (h_k1, .inr (5, [.ref h_k1_cells, .int h_k1_size])), (h_k1_cells, .inl (cI, 64, .inl h_k1_cells_f)), (h_k3, .inr (5, [.ref h_k3_cells, .int h_k3_size])), (h_k3_cells, .inl (cI, 64, .inl h_k3_cells_f)), (h_k2, .inr (5, [.ref h_k2_cells, .int z_2.2])), (h_k2_cells, .inl (cI, 64, .inl z_2.1)), (p1, .inr (5, [.ref p1_cells, .int p1_size])), (p1_cells, .inl (cI, 64, .inl p1_cells_f))] H := hP
  have hD : va_D A [(h, .inr (0, [.ref h_kept, .int 2])), (h_kept, .inl (cT, 4, .inr (.inr (.inr (.inr (kf [h_k0, h_k1, h_k2, h_k3])))))), (h_k0, .inr (5, [.ref h_k0_cells, .int h_k0_size])), (h_k0_cells, .inl (cI, 64, .inl h_k0_cells_f)), (h_k1, .inr (5, [.ref h_k1_cells, .int h_k1_size])), (h_k1_cells, .inl (cI, 64, .inl h_k1_cells_f)), (h_k3, .inr (5, [.ref h_k3_cells, .int h_k3_size])), (h_k3_cells, .inl (cI, 64, .inl h_k3_cells_f)), (h_k2, .inr (5, [.ref h_k2_cells, .int z_2.2])), (h_k2_cells, .inl (cI, 64, .inl z_2.1)), (p1, .inr (5, [.ref p1_cells, .int p1_size])), (p1_cells, .inl (cI, 64, .inl p1_cells_f))] := hD
  refine W.eq (g2 := F0 m 30 ls []) rfl ?_
  refine lv_aload_n hx hb dX0_record_30 rfl (lv_at hl 1 rfl) ?_
  refine lv_dup hx hb dX0_record_31 rfl ?_
  refine va_get (D := D) (ci := 0) (v := .int 2) (C := RX0) (T := TX0) (N := 2) hx hb hts hi_X0 hown hK hP 0 rfl rfl 1 (by decide) hf_16 (fun _ h9 => h9) rfl dX0_record_32 ?_
  refine lv_iconst (v := 1) hx hb dX0_record_35 (by decide) ?_
  refine lv_iadd hx hb dX0_record_36 ?_
  refine cv_top (show ((2 : Int32) + 1) = 3 from by decide) ?_
  refine va_put (D := D) (ci := 0) (v := .int 3) (ty := .int) (C := RX0) (T := TX0) (N := 2) hx hb hts hi_X0 tyX0 tyX0_ok nmX0 hown hK hP hD hS 0 rfl rfl 1 (by decide) hf_16 (fun _ h9 => h9) rfl (by decide +kernel) rfl rfl (Nat.le_of_ble_eq_true rfl) dX0_record_37 (fun H locs hP hD hS => ?_)
  have hP : va_P D vwCl [(h, .inr (0, [.ref h_kept, .int 3])), (h_kept, .inl (cT, 4, .inr (.inr (.inr (.inr (kf [h_k0, h_k1, h_k2, h_k3])))))), (h_k0, .inr (5, [.ref h_k0_cells, .int h_k0_size])), (h_k0_cells, .inl (cI, 64, .inl h_k0_cells_f)), (h_k1, .inr (5, [.ref h_k1_cells, .int h_k1_size])), (h_k1_cells, .inl (cI, 64, .inl h_k1_cells_f)), (h_k3, .inr (5, [.ref h_k3_cells, .int h_k3_size])), (h_k3_cells, .inl (cI, 64, .inl h_k3_cells_f)), (h_k2, .inr (5, [.ref h_k2_cells, .int z_2.2])), (h_k2_cells, .inl (cI, 64, .inl z_2.1)), (p1, .inr (5, [.ref p1_cells, .int p1_size])), (p1_cells, .inl (cI, 64, .inl p1_cells_f))] H := hP
  have hD : va_D A [(h, .inr (0, [.ref h_kept, .int 3])), (h_kept, .inl (cT, 4, .inr (.inr (.inr (.inr (kf [h_k0, h_k1, h_k2, h_k3])))))), (h_k0, .inr (5, [.ref h_k0_cells, .int h_k0_size])), (h_k0_cells, .inl (cI, 64, .inl h_k0_cells_f)), (h_k1, .inr (5, [.ref h_k1_cells, .int h_k1_size])), (h_k1_cells, .inl (cI, 64, .inl h_k1_cells_f)), (h_k3, .inr (5, [.ref h_k3_cells, .int h_k3_size])), (h_k3_cells, .inl (cI, 64, .inl h_k3_cells_f)), (h_k2, .inr (5, [.ref h_k2_cells, .int z_2.2])), (h_k2_cells, .inl (cI, 64, .inl z_2.1)), (p1, .inr (5, [.ref p1_cells, .int p1_size])), (p1_cells, .inl (cI, 64, .inl p1_cells_f))] := hD
  have e0 := Option.some.inj h0
  subst e0
  exact W.vret hx hb hr (fun t ht hW => wr_end () ht (hP.sub [0, 1, 2, 3, 4, 5, 8, 9, 6, 7, 10, 11] rfl) (hD.sub [0, 1, 2, 3, 4, 5, 8, 9, 6, 7, 10, 11] (by decide) rfl) hS) hS.2.2 dX0_record_40
noncomputable def mX0_record_3 (h_k3_cells_f : Nat → Int32) (p1_cells_f : Nat → Int32) (p1_size : Int32) : Option ((Nat → Int32) × Int32) :=
  bd (mX0_stateAt_3) (fun z_1 => bd (mX6_copyFrom h_k3_cells_f p1_cells_f p1_size) (fun z_2 => some (z_2.1, z_2.2)))
set_option maxHeartbeats 8000000 in
set_option maxRecDepth 100000 in
theorem kX0_record_3 (l : Launch) (D : va_G) (cI cC cT : ClassId) (h h_kept h_k0 h_k0_cells h_k1 h_k1_cells h_k2 h_k2_cells h_k3 h_k3_cells p1 p1_cells : Nat) (h_k0_cells_f : Nat → Int32) (h_k0_size : Int32) (h_k1_cells_f : Nat → Int32) (h_k1_size : Int32) (h_k2_cells_f : Nat → Int32) (h_k2_size : Int32) (h_k3_cells_f : Nat → Int32) (h_k3_size : Int32) (p1_cells_f : Nat → Int32) (p1_size : Int32) (sz : Nat) (z : (Nat → Int32) × Int32) (h0 : mX0_record_3 h_k3_cells_f p1_cells_f p1_size = some z) : Met l yX0_record wsX0_record ({ frames := 2, cells := 0, slots := 0, locals := 44 } : Room) (va_Pc [.ref h, .ref p1] (wP D cI cC cT [(h, .inr (0, [.ref h_kept, .int 3])), (h_kept, .inl (cT, 4, .inr (.inr (.inr (.inr (kf [h_k0, h_k1, h_k2, h_k3])))))), (h_k0, .inr (5, [.ref h_k0_cells, .int h_k0_size])), (h_k0_cells, .inl (cI, 64, .inl h_k0_cells_f)), (h_k1, .inr (5, [.ref h_k1_cells, .int h_k1_size])), (h_k1_cells, .inl (cI, 64, .inl h_k1_cells_f)), (h_k2, .inr (5, [.ref h_k2_cells, .int h_k2_size])), (h_k2_cells, .inl (cI, 64, .inl h_k2_cells_f)), (h_k3, .inr (5, [.ref h_k3_cells, .int h_k3_size])), (h_k3_cells, .inl (cI, 64, .inl h_k3_cells_f)), (p1, .inr (5, [.ref p1_cells, .int p1_size])), (p1_cells, .inl (cI, 64, .inl p1_cells_f))] sz)) (wQ D none (va_A [(h, .inr (0, [.ref h_kept, .int 3])), (h_kept, .inl (cT, 4, .inr (.inr (.inr (.inr (kf [h_k0, h_k1, h_k2, h_k3])))))), (h_k0, .inr (5, [.ref h_k0_cells, .int h_k0_size])), (h_k0_cells, .inl (cI, 64, .inl h_k0_cells_f)), (h_k1, .inr (5, [.ref h_k1_cells, .int h_k1_size])), (h_k1_cells, .inl (cI, 64, .inl h_k1_cells_f)), (h_k2, .inr (5, [.ref h_k2_cells, .int h_k2_size])), (h_k2_cells, .inl (cI, 64, .inl h_k2_cells_f)), (h_k3, .inr (5, [.ref h_k3_cells, .int h_k3_size])), (h_k3_cells, .inl (cI, 64, .inl h_k3_cells_f)), (p1, .inr (5, [.ref p1_cells, .int p1_size])), (p1_cells, .inl (cI, 64, .inl p1_cells_f))] sz) (fun (u : Unit) => [(h, .inr (0, [.ref h_kept, .int 4])), (h_kept, .inl (cT, 4, .inr (.inr (.inr (.inr (kf [h_k0, h_k1, h_k2, h_k3])))))), (h_k0, .inr (5, [.ref h_k0_cells, .int h_k0_size])), (h_k0_cells, .inl (cI, 64, .inl h_k0_cells_f)), (h_k1, .inr (5, [.ref h_k1_cells, .int h_k1_size])), (h_k1_cells, .inl (cI, 64, .inl h_k1_cells_f)), (h_k2, .inr (5, [.ref h_k2_cells, .int h_k2_size])), (h_k2_cells, .inl (cI, 64, .inl h_k2_cells_f)), (h_k3, .inr (5, [.ref h_k3_cells, .int z.2])), (h_k3_cells, .inl (cI, 64, .inl z.1)), (p1, .inr (5, [.ref p1_cells, .int p1_size])), (p1_cells, .inl (cI, 64, .inl p1_cells_f))])) 0 0 (va_A [(h, .inr (0, [.ref h_kept, .int 3])), (h_kept, .inl (cT, 4, .inr (.inr (.inr (.inr (kf [h_k0, h_k1, h_k2, h_k3])))))), (h_k0, .inr (5, [.ref h_k0_cells, .int h_k0_size])), (h_k0_cells, .inl (cI, 64, .inl h_k0_cells_f)), (h_k1, .inr (5, [.ref h_k1_cells, .int h_k1_size])), (h_k1_cells, .inl (cI, 64, .inl h_k1_cells_f)), (h_k2, .inr (5, [.ref h_k2_cells, .int h_k2_size])), (h_k2_cells, .inl (cI, 64, .inl h_k2_cells_f)), (h_k3, .inr (5, [.ref h_k3_cells, .int h_k3_size])), (h_k3_cells, .inl (cI, 64, .inl h_k3_cells_f)), (p1, .inr (5, [.ref p1_cells, .int p1_size])), (p1_cells, .inl (cI, 64, .inl p1_cells_f))] sz) := by
  refine Met.ofW (cc := cX0_record) (maxL := 3) (ret := none) (by decide) rfl ?_
  intro p e s m args below meth c s₁ B hml hv
  obtain ⟨rfl, hsz, hP, hE, hD0⟩ := hv
  have hx := B.exec
  have hb := B.bytes
  have hr := B.returns
  have hts := atoms_spec (ws := wsX0_record) B.pre
  have hown : s.vm.findClass RX0 = some m.cls := findClass_of_methodNamed B.named
  have hlocks := B.notSynchronized
  have hK := hE.1
  have hcf : CallFix p m c cX0_record 3 s ([.ref h, .ref p1] : List Value).toArray wsX0_record RX0 := ⟨hx, hb, hml, hown, hts⟩
  subst hsz
  have hD := hD0.self (sz := s.heap.size)
  generalize hAe : va_A [(h, .inr (0, [.ref h_kept, .int 3])), (h_kept, .inl (cT, 4, .inr (.inr (.inr (.inr (kf [h_k0, h_k1, h_k2, h_k3])))))), (h_k0, .inr (5, [.ref h_k0_cells, .int h_k0_size])), (h_k0_cells, .inl (cI, 64, .inl h_k0_cells_f)), (h_k1, .inr (5, [.ref h_k1_cells, .int h_k1_size])), (h_k1_cells, .inl (cI, 64, .inl h_k1_cells_f)), (h_k2, .inr (5, [.ref h_k2_cells, .int h_k2_size])), (h_k2_cells, .inl (cI, 64, .inl h_k2_cells_f)), (h_k3, .inr (5, [.ref h_k3_cells, .int h_k3_size])), (h_k3_cells, .inl (cI, 64, .inl h_k3_cells_f)), (p1, .inr (5, [.ref p1_cells, .int p1_size])), (p1_cells, .inl (cI, 64, .inl p1_cells_f))] s.heap.size = A at hD ⊢
  have hA : ∀ q : Nat, s.heap.size ≤ q → A q := fun q h => by rw [← hAe]; exact Or.inr h
  have hS : va_S A s.heap s.heap [] := va_S.rf
  have hP : va_P D vwCl [(h, .inr (0, [.ref h_kept, .int 3])), (h_kept, .inl (cT, 4, .inr (.inr (.inr (.inr (kf [h_k0, h_k1, h_k2, h_k3])))))), (h_k0, .inr (5, [.ref h_k0_cells, .int h_k0_size])), (h_k0_cells, .inl (cI, 64, .inl h_k0_cells_f)), (h_k1, .inr (5, [.ref h_k1_cells, .int h_k1_size])), (h_k1_cells, .inl (cI, 64, .inl h_k1_cells_f)), (h_k2, .inr (5, [.ref h_k2_cells, .int h_k2_size])), (h_k2_cells, .inl (cI, 64, .inl h_k2_cells_f)), (h_k3, .inr (5, [.ref h_k3_cells, .int h_k3_size])), (h_k3_cells, .inl (cI, 64, .inl h_k3_cells_f)), (p1, .inr (5, [.ref p1_cells, .int p1_size])), (p1_cells, .inl (cI, 64, .inl p1_cells_f))] s.heap := hP
  have hf_16 := hts (.fieldLink RX0 16 "CrookedSums$History" "states" "I") (by decide +kernel)
  have hi_X0 := (show ∀ w ∈ u_ws RX0 TX0 2, w ∈ wsX0_record from by decide +kernel)
  have hl := lv_entry ([.ref h, .ref p1]) (n := 3) (Nat.le_of_ble_eq_true rfl)
  rw [lg_entry_eq]
  generalize (lg_sl ([.ref h, .ref p1]) ++ List.replicate (3 - (lg_sl ([.ref h, .ref p1])).length) Slot.unset).toArray = ls at hl ⊢
  have hl : lv_has ls 3 [(0, .ref h), (1, .ref p1)] := hl
  unfold mX0_record_3 at h0
  refine lv_aload_n hx hb dX0_record_0 rfl (lv_at hl 0 rfl) ?_
  refine va_get (D := D) (ci := 0) (v := .int 3) (C := RX0) (T := TX0) (N := 2) hx hb hts hi_X0 hown hK hP 0 rfl rfl 1 (by decide) hf_16 (fun _ h9 => h9) rfl dX0_record_1 ?_
  refine lv_iconst (v := 4) hx hb dX0_record_4 (by decide) ?_
  refine lv_icmp_lt (tgt := 12) hx hb dX0_record_5 (by decide) (fun _ => ?_) (fun c9 => absurd (by decide) c9)
  refine lv_aload_n hx hb dX0_record_12 rfl (lv_at hl 0 rfl) ?_
  refine lv_aload_n hx hb dX0_record_13 rfl (lv_at hl 0 rfl) ?_
  refine va_get (D := D) (ci := 0) (v := .int 3) (C := RX0) (T := TX0) (N := 2) hx hb hts hi_X0 hown hK hP 0 rfl rfl 1 (by decide) hf_16 (fun _ h9 => h9) rfl dX0_record_14 ?_
  obtain ⟨z_1, hz, h0⟩ := bd_ok h0
  refine ro_V (As := [.int 3]) (rest := []) (wc := [(h, .inr (0, [.ref h_kept, .int 3])), (h_kept, .inl (cT, 4, .inr (.inr (.inr (.inr (kf [h_k0, h_k1, h_k2, h_k3])))))), (h_k0, .inr (5, [.ref h_k0_cells, .int h_k0_size])), (h_k0_cells, .inl (cI, 64, .inl h_k0_cells_f)), (h_k1, .inr (5, [.ref h_k1_cells, .int h_k1_size])), (h_k1_cells, .inl (cI, 64, .inl h_k1_cells_f)), (h_k2, .inr (5, [.ref h_k2_cells, .int h_k2_size])), (h_k2_cells, .inl (cI, 64, .inl h_k2_cells_f)), (h_k3, .inr (5, [.ref h_k3_cells, .int h_k3_size])), (h_k3_cells, .inl (cI, 64, .inl h_k3_cells_f))]) hcf (kX0_stateAt_3 l D cI cC cT h h_kept h_k0 h_k0_cells h_k1 h_k1_cells h_k2 h_k2_cells h_k3 h_k3_cells h_k0_cells_f h_k0_size h_k1_cells_f h_k1_size h_k2_cells_f h_k2_size h_k3_cells_f h_k3_size 3 z_1 hz) (cwV 1 hts gX0_record_X0_stateAt rfl rfl rfl (by decide +kernel) ⟨Nat.le_of_ble_eq_true rfl, Nat.le_of_ble_eq_true rfl⟩) hE (hP.sub [0, 1, 2, 3, 4, 5, 6, 7, 8, 9] rfl) (va_recv hK hP (ci := 0) (q0 := 0) rfl rfl) rfl hl.1 rfl (Nat.le_of_ble_eq_true rfl) dX0_record_17 ⟨Nat.le_of_ble_eq_true rfl, Nat.le_of_ble_eq_true rfl⟩ ?_
  refine W.eq (g2 := F0 m 20 ls [.ref h_k3]) rfl ?_
  refine lv_astore_n (lv' := [(2, .ref h_k3), (0, .ref h), (1, .ref p1)]) hx hb dX0_record_20 rfl hl (by decide) rfl (fun ls hl => ?_)
  refine lv_aload_n hx hb dX0_record_21 rfl (lv_at hl 0 rfl) ?_
  refine lv_ifnull hx hb dX0_record_22 ?_
  refine lv_aload_n hx hb dX0_record_25 rfl (lv_at hl 0 rfl) ?_
  refine lv_aload_n hx hb dX0_record_26 rfl (lv_at hl 2 rfl) ?_
  obtain ⟨z_2, hz, h0⟩ := bd_ok h0
  refine wr_V (As := [.ref p1]) (rest := []) (wc := [(h_k3, .inr (5, [.ref h_k3_cells, .int h_k3_size])), (h_k3_cells, .inl (cI, 64, .inl h_k3_cells_f)), (p1, .inr (5, [.ref p1_cells, .int p1_size])), (p1_cells, .inl (cI, 64, .inl p1_cells_f))]) (wr := [(h, .inr (0, [.ref h_kept, .int 3])), (h_kept, .inl (cT, 4, .inr (.inr (.inr (.inr (kf [h_k0, h_k1, h_k2, h_k3])))))), (h_k0, .inr (5, [.ref h_k0_cells, .int h_k0_size])), (h_k0_cells, .inl (cI, 64, .inl h_k0_cells_f)), (h_k1, .inr (5, [.ref h_k1_cells, .int h_k1_size])), (h_k1_cells, .inl (cI, 64, .inl h_k1_cells_f)), (h_k2, .inr (5, [.ref h_k2_cells, .int h_k2_size])), (h_k2_cells, .inl (cI, 64, .inl h_k2_cells_f))]) hcf (kX6_copyFrom l D cI cC cT h_k3 h_k3_cells p1 p1_cells h_k3_cells_f h_k3_size p1_cells_f p1_size _ z_2 hz) (cwV 1 hts gX0_record_X6_copyFrom rfl rfl rfl (by decide +kernel) ⟨Nat.le_of_ble_eq_true rfl, Nat.le_of_ble_eq_true rfl⟩) hE hP hD hS hA [8, 9, 10, 11] [0, 1, 2, 3, 4, 5, 6, 7] (hP.sub [8, 9, 10, 11] rfl) (hD.sub [8, 9, 10, 11] (by decide) rfl) (va_recv hK hP (ci := 5) (q0 := 8) rfl rfl) rfl rfl (by decide) (by decide) rfl hl.1 rfl (Nat.le_of_ble_eq_true rfl) dX0_record_27 ⟨Nat.le_of_ble_eq_true rfl, Nat.le_of_ble_eq_true rfl⟩ (fun u H locs hP hD hS => ?_)
  have hP : va_P D vwCl [(h, .inr (0, [.ref h_kept, .int 3])), (h_kept, .inl (cT, 4, .inr (.inr (.inr (.inr (kf [h_k0, h_k1, h_k2, h_k3])))))), (h_k0, .inr (5, [.ref h_k0_cells, .int h_k0_size])), (h_k0_cells, .inl (cI, 64, .inl h_k0_cells_f)), (h_k1, .inr (5, [.ref h_k1_cells, .int h_k1_size])), (h_k1_cells, .inl (cI, 64, .inl h_k1_cells_f)), (h_k2, .inr (5, [.ref h_k2_cells, .int h_k2_size])), (h_k2_cells, .inl (cI, 64, .inl h_k2_cells_f)), (h_k3, .inr (5, [.ref h_k3_cells, .int z_2.2])), (h_k3_cells, .inl (cI, 64, .inl z_2.1)), (p1, .inr (5, [.ref p1_cells, .int p1_size])), (p1_cells, .inl (cI, 64, .inl p1_cells_f))] H := hP
  have hD : va_D A [(h, .inr (0, [.ref h_kept, .int 3])), (h_kept, .inl (cT, 4, .inr (.inr (.inr (.inr (kf [h_k0, h_k1, h_k2, h_k3])))))), (h_k0, .inr (5, [.ref h_k0_cells, .int h_k0_size])), (h_k0_cells, .inl (cI, 64, .inl h_k0_cells_f)), (h_k1, .inr (5, [.ref h_k1_cells, .int h_k1_size])), (h_k1_cells, .inl (cI, 64, .inl h_k1_cells_f)), (h_k2, .inr (5, [.ref h_k2_cells, .int h_k2_size])), (h_k2_cells, .inl (cI, 64, .inl h_k2_cells_f)), (h_k3, .inr (5, [.ref h_k3_cells, .int z_2.2])), (h_k3_cells, .inl (cI, 64, .inl z_2.1)), (p1, .inr (5, [.ref p1_cells, .int p1_size])), (p1_cells, .inl (cI, 64, .inl p1_cells_f))] := hD
  refine W.eq (g2 := F0 m 30 ls []) rfl ?_
  refine lv_aload_n hx hb dX0_record_30 rfl (lv_at hl 1 rfl) ?_
  refine lv_dup hx hb dX0_record_31 rfl ?_
  refine va_get (D := D) (ci := 0) (v := .int 3) (C := RX0) (T := TX0) (N := 2) hx hb hts hi_X0 hown hK hP 0 rfl rfl 1 (by decide) hf_16 (fun _ h9 => h9) rfl dX0_record_32 ?_
  refine lv_iconst (v := 1) hx hb dX0_record_35 (by decide) ?_
  refine lv_iadd hx hb dX0_record_36 ?_
  refine cv_top (show ((3 : Int32) + 1) = 4 from by decide) ?_
  refine va_put (D := D) (ci := 0) (v := .int 4) (ty := .int) (C := RX0) (T := TX0) (N := 2) hx hb hts hi_X0 tyX0 tyX0_ok nmX0 hown hK hP hD hS 0 rfl rfl 1 (by decide) hf_16 (fun _ h9 => h9) rfl (by decide +kernel) rfl rfl (Nat.le_of_ble_eq_true rfl) dX0_record_37 (fun H locs hP hD hS => ?_)
  have hP : va_P D vwCl [(h, .inr (0, [.ref h_kept, .int 4])), (h_kept, .inl (cT, 4, .inr (.inr (.inr (.inr (kf [h_k0, h_k1, h_k2, h_k3])))))), (h_k0, .inr (5, [.ref h_k0_cells, .int h_k0_size])), (h_k0_cells, .inl (cI, 64, .inl h_k0_cells_f)), (h_k1, .inr (5, [.ref h_k1_cells, .int h_k1_size])), (h_k1_cells, .inl (cI, 64, .inl h_k1_cells_f)), (h_k2, .inr (5, [.ref h_k2_cells, .int h_k2_size])), (h_k2_cells, .inl (cI, 64, .inl h_k2_cells_f)), (h_k3, .inr (5, [.ref h_k3_cells, .int z_2.2])), (h_k3_cells, .inl (cI, 64, .inl z_2.1)), (p1, .inr (5, [.ref p1_cells, .int p1_size])), (p1_cells, .inl (cI, 64, .inl p1_cells_f))] H := hP
  have hD : va_D A [(h, .inr (0, [.ref h_kept, .int 4])), (h_kept, .inl (cT, 4, .inr (.inr (.inr (.inr (kf [h_k0, h_k1, h_k2, h_k3])))))), (h_k0, .inr (5, [.ref h_k0_cells, .int h_k0_size])), (h_k0_cells, .inl (cI, 64, .inl h_k0_cells_f)), (h_k1, .inr (5, [.ref h_k1_cells, .int h_k1_size])), (h_k1_cells, .inl (cI, 64, .inl h_k1_cells_f)), (h_k2, .inr (5, [.ref h_k2_cells, .int h_k2_size])), (h_k2_cells, .inl (cI, 64, .inl h_k2_cells_f)), (h_k3, .inr (5, [.ref h_k3_cells, .int z_2.2])), (h_k3_cells, .inl (cI, 64, .inl z_2.1)), (p1, .inr (5, [.ref p1_cells, .int p1_size])), (p1_cells, .inl (cI, 64, .inl p1_cells_f))] := hD
  have e0 := Option.some.inj h0
  subst e0
  exact W.vret hx hb hr (fun t ht hW => wr_end () ht hP hD hS) hS.2.2 dX0_record_40
noncomputable def mX0_record_4 (h_k0_cells_f : Nat → Int32) (h_k0_size : Int32) (h_k1_cells_f : Nat → Int32) (h_k1_size : Int32) (h_k2_cells_f : Nat → Int32) (h_k2_size : Int32) (h_k3_cells_f : Nat → Int32) (h_k3_size : Int32) (p1_cells_f : Nat → Int32) (p1_size : Int32) : Option ((Nat → Int32) × Int32 × (Nat → Int32) × Int32 × (Nat → Int32) × Int32 × (Nat → Int32) × Int32) :=
  bd (mX0_dropOldest_4 h_k0_cells_f h_k0_size h_k1_cells_f h_k1_size h_k2_cells_f h_k2_size h_k3_cells_f h_k3_size) (fun z_1 => bd (mX0_stateAt_3) (fun z_10 => bd (mX6_copyFrom z_1.2.2.2.2.2.2.1 p1_cells_f p1_size) (fun z_11 => some (z_1.1, z_1.2.1, z_1.2.2.1, z_1.2.2.2.1, z_1.2.2.2.2.1, z_1.2.2.2.2.2.1, z_11.1, z_11.2))))
set_option maxHeartbeats 8000000 in
set_option maxRecDepth 100000 in
theorem kX0_record_4 (l : Launch) (D : va_G) (cI cC cT : ClassId) (h h_kept h_k0 h_k0_cells h_k1 h_k1_cells h_k2 h_k2_cells h_k3 h_k3_cells p1 p1_cells : Nat) (h_k0_cells_f : Nat → Int32) (h_k0_size : Int32) (h_k1_cells_f : Nat → Int32) (h_k1_size : Int32) (h_k2_cells_f : Nat → Int32) (h_k2_size : Int32) (h_k3_cells_f : Nat → Int32) (h_k3_size : Int32) (p1_cells_f : Nat → Int32) (p1_size : Int32) (sz : Nat) (z : (Nat → Int32) × Int32 × (Nat → Int32) × Int32 × (Nat → Int32) × Int32 × (Nat → Int32) × Int32) (h0 : mX0_record_4 h_k0_cells_f h_k0_size h_k1_cells_f h_k1_size h_k2_cells_f h_k2_size h_k3_cells_f h_k3_size p1_cells_f p1_size = some z) : Met l yX0_record wsX0_record ({ frames := 2, cells := 0, slots := 0, locals := 44 } : Room) (va_Pc [.ref h, .ref p1] (wP D cI cC cT [(h, .inr (0, [.ref h_kept, .int 4])), (h_kept, .inl (cT, 4, .inr (.inr (.inr (.inr (kf [h_k0, h_k1, h_k2, h_k3])))))), (h_k0, .inr (5, [.ref h_k0_cells, .int h_k0_size])), (h_k0_cells, .inl (cI, 64, .inl h_k0_cells_f)), (h_k1, .inr (5, [.ref h_k1_cells, .int h_k1_size])), (h_k1_cells, .inl (cI, 64, .inl h_k1_cells_f)), (h_k2, .inr (5, [.ref h_k2_cells, .int h_k2_size])), (h_k2_cells, .inl (cI, 64, .inl h_k2_cells_f)), (h_k3, .inr (5, [.ref h_k3_cells, .int h_k3_size])), (h_k3_cells, .inl (cI, 64, .inl h_k3_cells_f)), (p1, .inr (5, [.ref p1_cells, .int p1_size])), (p1_cells, .inl (cI, 64, .inl p1_cells_f))] sz)) (wQ D none (va_A [(h, .inr (0, [.ref h_kept, .int 4])), (h_kept, .inl (cT, 4, .inr (.inr (.inr (.inr (kf [h_k0, h_k1, h_k2, h_k3])))))), (h_k0, .inr (5, [.ref h_k0_cells, .int h_k0_size])), (h_k0_cells, .inl (cI, 64, .inl h_k0_cells_f)), (h_k1, .inr (5, [.ref h_k1_cells, .int h_k1_size])), (h_k1_cells, .inl (cI, 64, .inl h_k1_cells_f)), (h_k2, .inr (5, [.ref h_k2_cells, .int h_k2_size])), (h_k2_cells, .inl (cI, 64, .inl h_k2_cells_f)), (h_k3, .inr (5, [.ref h_k3_cells, .int h_k3_size])), (h_k3_cells, .inl (cI, 64, .inl h_k3_cells_f)), (p1, .inr (5, [.ref p1_cells, .int p1_size])), (p1_cells, .inl (cI, 64, .inl p1_cells_f))] sz) (fun (u : Nat × Nat × Nat × Nat × Nat × Nat × Nat × Nat) => [(h, .inr (0, [.ref h_kept, .int 4])), (h_kept, .inl (cT, 4, .inr (.inr (.inr (.inr (kf [u.1, u.2.1, u.2.2.1, u.2.2.2.1])))))), (u.1, .inr (5, [.ref u.2.2.2.2.1, .int z.2.1])), (u.2.2.2.2.1, .inl (cI, 64, .inl z.1)), (u.2.1, .inr (5, [.ref u.2.2.2.2.2.1, .int z.2.2.2.1])), (u.2.2.2.2.2.1, .inl (cI, 64, .inl z.2.2.1)), (u.2.2.1, .inr (5, [.ref u.2.2.2.2.2.2.1, .int z.2.2.2.2.2.1])), (u.2.2.2.2.2.2.1, .inl (cI, 64, .inl z.2.2.2.2.1)), (u.2.2.2.1, .inr (5, [.ref u.2.2.2.2.2.2.2, .int z.2.2.2.2.2.2.2])), (u.2.2.2.2.2.2.2, .inl (cI, 64, .inl z.2.2.2.2.2.2.1)), (p1, .inr (5, [.ref p1_cells, .int p1_size])), (p1_cells, .inl (cI, 64, .inl p1_cells_f))])) 0 0 (va_A [(h, .inr (0, [.ref h_kept, .int 4])), (h_kept, .inl (cT, 4, .inr (.inr (.inr (.inr (kf [h_k0, h_k1, h_k2, h_k3])))))), (h_k0, .inr (5, [.ref h_k0_cells, .int h_k0_size])), (h_k0_cells, .inl (cI, 64, .inl h_k0_cells_f)), (h_k1, .inr (5, [.ref h_k1_cells, .int h_k1_size])), (h_k1_cells, .inl (cI, 64, .inl h_k1_cells_f)), (h_k2, .inr (5, [.ref h_k2_cells, .int h_k2_size])), (h_k2_cells, .inl (cI, 64, .inl h_k2_cells_f)), (h_k3, .inr (5, [.ref h_k3_cells, .int h_k3_size])), (h_k3_cells, .inl (cI, 64, .inl h_k3_cells_f)), (p1, .inr (5, [.ref p1_cells, .int p1_size])), (p1_cells, .inl (cI, 64, .inl p1_cells_f))] sz) := by
  refine Met.ofW (cc := cX0_record) (maxL := 3) (ret := none) (by decide) rfl ?_
  intro p e s m args below meth c s₁ B hml hv
  obtain ⟨rfl, hsz, hP, hE, hD0⟩ := hv
  have hx := B.exec
  have hb := B.bytes
  have hr := B.returns
  have hts := atoms_spec (ws := wsX0_record) B.pre
  have hown : s.vm.findClass RX0 = some m.cls := findClass_of_methodNamed B.named
  have hlocks := B.notSynchronized
  have hK := hE.1
  have hcf : CallFix p m c cX0_record 3 s ([.ref h, .ref p1] : List Value).toArray wsX0_record RX0 := ⟨hx, hb, hml, hown, hts⟩
  subst hsz
  have hD := hD0.self (sz := s.heap.size)
  generalize hAe : va_A [(h, .inr (0, [.ref h_kept, .int 4])), (h_kept, .inl (cT, 4, .inr (.inr (.inr (.inr (kf [h_k0, h_k1, h_k2, h_k3])))))), (h_k0, .inr (5, [.ref h_k0_cells, .int h_k0_size])), (h_k0_cells, .inl (cI, 64, .inl h_k0_cells_f)), (h_k1, .inr (5, [.ref h_k1_cells, .int h_k1_size])), (h_k1_cells, .inl (cI, 64, .inl h_k1_cells_f)), (h_k2, .inr (5, [.ref h_k2_cells, .int h_k2_size])), (h_k2_cells, .inl (cI, 64, .inl h_k2_cells_f)), (h_k3, .inr (5, [.ref h_k3_cells, .int h_k3_size])), (h_k3_cells, .inl (cI, 64, .inl h_k3_cells_f)), (p1, .inr (5, [.ref p1_cells, .int p1_size])), (p1_cells, .inl (cI, 64, .inl p1_cells_f))] s.heap.size = A at hD ⊢
  have hA : ∀ q : Nat, s.heap.size ≤ q → A q := fun q h => by rw [← hAe]; exact Or.inr h
  have hS : va_S A s.heap s.heap [] := va_S.rf
  have hP : va_P D vwCl [(h, .inr (0, [.ref h_kept, .int 4])), (h_kept, .inl (cT, 4, .inr (.inr (.inr (.inr (kf [h_k0, h_k1, h_k2, h_k3])))))), (h_k0, .inr (5, [.ref h_k0_cells, .int h_k0_size])), (h_k0_cells, .inl (cI, 64, .inl h_k0_cells_f)), (h_k1, .inr (5, [.ref h_k1_cells, .int h_k1_size])), (h_k1_cells, .inl (cI, 64, .inl h_k1_cells_f)), (h_k2, .inr (5, [.ref h_k2_cells, .int h_k2_size])), (h_k2_cells, .inl (cI, 64, .inl h_k2_cells_f)), (h_k3, .inr (5, [.ref h_k3_cells, .int h_k3_size])), (h_k3_cells, .inl (cI, 64, .inl h_k3_cells_f)), (p1, .inr (5, [.ref p1_cells, .int p1_size])), (p1_cells, .inl (cI, 64, .inl p1_cells_f))] s.heap := hP
  have hf_16 := hts (.fieldLink RX0 16 "CrookedSums$History" "states" "I") (by decide +kernel)
  have hi_X0 := (show ∀ w ∈ u_ws RX0 TX0 2, w ∈ wsX0_record from by decide +kernel)
  have hl := lv_entry ([.ref h, .ref p1]) (n := 3) (Nat.le_of_ble_eq_true rfl)
  rw [lg_entry_eq]
  generalize (lg_sl ([.ref h, .ref p1]) ++ List.replicate (3 - (lg_sl ([.ref h, .ref p1])).length) Slot.unset).toArray = ls at hl ⊢
  have hl : lv_has ls 3 [(0, .ref h), (1, .ref p1)] := hl
  unfold mX0_record_4 at h0
  refine lv_aload_n hx hb dX0_record_0 rfl (lv_at hl 0 rfl) ?_
  refine va_get (D := D) (ci := 0) (v := .int 4) (C := RX0) (T := TX0) (N := 2) hx hb hts hi_X0 hown hK hP 0 rfl rfl 1 (by decide) hf_16 (fun _ h9 => h9) rfl dX0_record_1 ?_
  refine lv_iconst (v := 4) hx hb dX0_record_4 (by decide) ?_
  refine lv_icmp_lt (tgt := 12) hx hb dX0_record_5 (by decide) (fun c9 => absurd c9 (by decide)) (fun _ => ?_)
  refine lv_aload_n hx hb dX0_record_8 rfl (lv_at hl 0 rfl) ?_
  obtain ⟨z_1, hz, h0⟩ := bd_ok h0
  refine wr_V (As := []) (rest := []) (wc := [(h, .inr (0, [.ref h_kept, .int 4])), (h_kept, .inl (cT, 4, .inr (.inr (.inr (.inr (kf [h_k0, h_k1, h_k2, h_k3])))))), (h_k0, .inr (5, [.ref h_k0_cells, .int h_k0_size])), (h_k0_cells, .inl (cI, 64, .inl h_k0_cells_f)), (h_k1, .inr (5, [.ref h_k1_cells, .int h_k1_size])), (h_k1_cells, .inl (cI, 64, .inl h_k1_cells_f)), (h_k2, .inr (5, [.ref h_k2_cells, .int h_k2_size])), (h_k2_cells, .inl (cI, 64, .inl h_k2_cells_f)), (h_k3, .inr (5, [.ref h_k3_cells, .int h_k3_size])), (h_k3_cells, .inl (cI, 64, .inl h_k3_cells_f))]) (wr := [(p1, .inr (5, [.ref p1_cells, .int p1_size])), (p1_cells, .inl (cI, 64, .inl p1_cells_f))]) hcf (kX0_dropOldest_4 l D cI cC cT h h_kept h_k0 h_k0_cells h_k1 h_k1_cells h_k2 h_k2_cells h_k3 h_k3_cells h_k0_cells_f h_k0_size h_k1_cells_f h_k1_size h_k2_cells_f h_k2_size h_k3_cells_f h_k3_size _ z_1 hz) (cwV 0 hts gX0_record_X0_dropOldest rfl rfl rfl (by decide +kernel) ⟨Nat.le_of_ble_eq_true rfl, Nat.le_of_ble_eq_true rfl⟩) hE hP hD hS hA [0, 1, 2, 3, 4, 5, 6, 7, 8, 9] [10, 11] (hP.sub [0, 1, 2, 3, 4, 5, 6, 7, 8, 9] rfl) (hD.sub [0, 1, 2, 3, 4, 5, 6, 7, 8, 9] (by decide) rfl) (va_recv hK hP (ci := 0) (q0 := 0) rfl rfl) rfl rfl (by decide) (by decide) rfl hl.1 rfl (Nat.le_of_ble_eq_true rfl) dX0_record_9 ⟨Nat.le_of_ble_eq_true rfl, Nat.le_of_ble_eq_true rfl⟩ (fun u H locs hP hD hS => ?_)
  obtain ⟨r_2, r_3, r_4, r_5, r_6, r_7, r_8, r_9⟩ := u
  have hP : va_P D vwCl [(p1, .inr (5, [.ref p1_cells, .int p1_size])), (p1_cells, .inl (cI, 64, .inl p1_cells_f)), (h, .inr (0, [.ref h_kept, .int 3])), (h_kept, .inl (cT, 4, .inr (.inr (.inr (.inr (kf [r_2, r_3, r_4, r_5])))))), (r_2, .inr (5, [.ref r_6, .int z_1.2.1])), (r_6, .inl (cI, 64, .inl z_1.1)), (r_3, .inr (5, [.ref r_7, .int z_1.2.2.2.1])), (r_7, .inl (cI, 64, .inl z_1.2.2.1)), (r_4, .inr (5, [.ref r_8, .int z_1.2.2.2.2.2.1])), (r_8, .inl (cI, 64, .inl z_1.2.2.2.2.1)), (r_5, .inr (5, [.ref r_9, .int z_1.2.2.2.2.2.2.2])), (r_9, .inl (cI, 64, .inl z_1.2.2.2.2.2.2.1))] H := hP
  have hD : va_D A [(p1, .inr (5, [.ref p1_cells, .int p1_size])), (p1_cells, .inl (cI, 64, .inl p1_cells_f)), (h, .inr (0, [.ref h_kept, .int 3])), (h_kept, .inl (cT, 4, .inr (.inr (.inr (.inr (kf [r_2, r_3, r_4, r_5])))))), (r_2, .inr (5, [.ref r_6, .int z_1.2.1])), (r_6, .inl (cI, 64, .inl z_1.1)), (r_3, .inr (5, [.ref r_7, .int z_1.2.2.2.1])), (r_7, .inl (cI, 64, .inl z_1.2.2.1)), (r_4, .inr (5, [.ref r_8, .int z_1.2.2.2.2.2.1])), (r_8, .inl (cI, 64, .inl z_1.2.2.2.2.1)), (r_5, .inr (5, [.ref r_9, .int z_1.2.2.2.2.2.2.2])), (r_9, .inl (cI, 64, .inl z_1.2.2.2.2.2.2.1))] := hD
  refine W.eq (g2 := F0 m 12 ls []) rfl ?_
  refine lv_aload_n hx hb dX0_record_12 rfl (lv_at hl 0 rfl) ?_
  refine lv_aload_n hx hb dX0_record_13 rfl (lv_at hl 0 rfl) ?_
  refine va_get (D := D) (ci := 0) (v := .int 3) (C := RX0) (T := TX0) (N := 2) hx hb hts hi_X0 hown hK hP 2 rfl rfl 1 (by decide) hf_16 (fun _ h9 => h9) rfl dX0_record_14 ?_
  obtain ⟨z_10, hz, h0⟩ := bd_ok h0
  refine ro_V (As := [.int 3]) (rest := []) (wc := [(h, .inr (0, [.ref h_kept, .int 3])), (h_kept, .inl (cT, 4, .inr (.inr (.inr (.inr (kf [r_2, r_3, r_4, r_5])))))), (r_2, .inr (5, [.ref r_6, .int z_1.2.1])), (r_6, .inl (cI, 64, .inl z_1.1)), (r_3, .inr (5, [.ref r_7, .int z_1.2.2.2.1])), (r_7, .inl (cI, 64, .inl z_1.2.2.1)), (r_4, .inr (5, [.ref r_8, .int z_1.2.2.2.2.2.1])), (r_8, .inl (cI, 64, .inl z_1.2.2.2.2.1)), (r_5, .inr (5, [.ref r_9, .int z_1.2.2.2.2.2.2.2])), (r_9, .inl (cI, 64, .inl z_1.2.2.2.2.2.2.1))]) hcf (kX0_stateAt_3 l D cI cC cT h h_kept r_2 r_6 r_3 r_7 r_4 r_8 r_5 r_9 z_1.1 z_1.2.1 z_1.2.2.1 z_1.2.2.2.1 z_1.2.2.2.2.1 z_1.2.2.2.2.2.1 z_1.2.2.2.2.2.2.1 z_1.2.2.2.2.2.2.2 3 z_10 hz) (cwV 1 hts gX0_record_X0_stateAt rfl rfl rfl (by decide +kernel) ⟨Nat.le_of_ble_eq_true rfl, Nat.le_of_ble_eq_true rfl⟩) hE (hP.sub [2, 3, 4, 5, 6, 7, 8, 9, 10, 11] rfl) (va_recv hK hP (ci := 0) (q0 := 2) rfl rfl) rfl hl.1 rfl (Nat.le_of_ble_eq_true rfl) dX0_record_17 ⟨Nat.le_of_ble_eq_true rfl, Nat.le_of_ble_eq_true rfl⟩ ?_
  refine W.eq (g2 := F0 m 20 ls [.ref r_5]) rfl ?_
  refine lv_astore_n (lv' := [(2, .ref r_5), (0, .ref h), (1, .ref p1)]) hx hb dX0_record_20 rfl hl (by decide) rfl (fun ls hl => ?_)
  refine lv_aload_n hx hb dX0_record_21 rfl (lv_at hl 0 rfl) ?_
  refine lv_ifnull hx hb dX0_record_22 ?_
  refine lv_aload_n hx hb dX0_record_25 rfl (lv_at hl 0 rfl) ?_
  refine lv_aload_n hx hb dX0_record_26 rfl (lv_at hl 2 rfl) ?_
  obtain ⟨z_11, hz, h0⟩ := bd_ok h0
  refine wr_V (As := [.ref p1]) (rest := []) (wc := [(r_5, .inr (5, [.ref r_9, .int z_1.2.2.2.2.2.2.2])), (r_9, .inl (cI, 64, .inl z_1.2.2.2.2.2.2.1)), (p1, .inr (5, [.ref p1_cells, .int p1_size])), (p1_cells, .inl (cI, 64, .inl p1_cells_f))]) (wr := [(h, .inr (0, [.ref h_kept, .int 3])), (h_kept, .inl (cT, 4, .inr (.inr (.inr (.inr (kf [r_2, r_3, r_4, r_5])))))), (r_2, .inr (5, [.ref r_6, .int z_1.2.1])), (r_6, .inl (cI, 64, .inl z_1.1)), (r_3, .inr (5, [.ref r_7, .int z_1.2.2.2.1])), (r_7, .inl (cI, 64, .inl z_1.2.2.1)), (r_4, .inr (5, [.ref r_8, .int z_1.2.2.2.2.2.1])), (r_8, .inl (cI, 64, .inl z_1.2.2.2.2.1))]) hcf (kX6_copyFrom l D cI cC cT r_5 r_9 p1 p1_cells z_1.2.2.2.2.2.2.1 z_1.2.2.2.2.2.2.2 p1_cells_f p1_size _ z_11 hz) (cwV 1 hts gX0_record_X6_copyFrom rfl rfl rfl (by decide +kernel) ⟨Nat.le_of_ble_eq_true rfl, Nat.le_of_ble_eq_true rfl⟩) hE hP hD hS hA [10, 11, 0, 1] [2, 3, 4, 5, 6, 7, 8, 9] (hP.sub [10, 11, 0, 1] rfl) (hD.sub [10, 11, 0, 1] (by decide) rfl) (va_recv hK hP (ci := 5) (q0 := 10) rfl rfl) rfl rfl (by decide) (by decide) rfl hl.1 rfl (Nat.le_of_ble_eq_true rfl) dX0_record_27 ⟨Nat.le_of_ble_eq_true rfl, Nat.le_of_ble_eq_true rfl⟩ (fun u H locs hP hD hS => ?_)
  have hP : va_P D vwCl [(h, .inr (0, [.ref h_kept, .int 3])), (h_kept, .inl (cT, 4, .inr (.inr (.inr (.inr (kf [r_2, r_3, r_4, r_5])))))), (r_2, .inr (5, [.ref r_6, .int z_1.2.1])), (r_6, .inl (cI, 64, .inl z_1.1)), (r_3, .inr (5, [.ref r_7, .int z_1.2.2.2.1])), (r_7, .inl (cI, 64, .inl z_1.2.2.1)), (r_4, .inr (5, [.ref r_8, .int z_1.2.2.2.2.2.1])), (r_8, .inl (cI, 64, .inl z_1.2.2.2.2.1)), (r_5, .inr (5, [.ref r_9, .int z_11.2])), (r_9, .inl (cI, 64, .inl z_11.1)), (p1, .inr (5, [.ref p1_cells, .int p1_size])), (p1_cells, .inl (cI, 64, .inl p1_cells_f))] H := hP
  have hD : va_D A [(h, .inr (0, [.ref h_kept, .int 3])), (h_kept, .inl (cT, 4, .inr (.inr (.inr (.inr (kf [r_2, r_3, r_4, r_5])))))), (r_2, .inr (5, [.ref r_6, .int z_1.2.1])), (r_6, .inl (cI, 64, .inl z_1.1)), (r_3, .inr (5, [.ref r_7, .int z_1.2.2.2.1])), (r_7, .inl (cI, 64, .inl z_1.2.2.1)), (r_4, .inr (5, [.ref r_8, .int z_1.2.2.2.2.2.1])), (r_8, .inl (cI, 64, .inl z_1.2.2.2.2.1)), (r_5, .inr (5, [.ref r_9, .int z_11.2])), (r_9, .inl (cI, 64, .inl z_11.1)), (p1, .inr (5, [.ref p1_cells, .int p1_size])), (p1_cells, .inl (cI, 64, .inl p1_cells_f))] := hD
  refine W.eq (g2 := F0 m 30 ls []) rfl ?_
  refine lv_aload_n hx hb dX0_record_30 rfl (lv_at hl 1 rfl) ?_
  refine lv_dup hx hb dX0_record_31 rfl ?_
  refine va_get (D := D) (ci := 0) (v := .int 3) (C := RX0) (T := TX0) (N := 2) hx hb hts hi_X0 hown hK hP 0 rfl rfl 1 (by decide) hf_16 (fun _ h9 => h9) rfl dX0_record_32 ?_
  refine lv_iconst (v := 1) hx hb dX0_record_35 (by decide) ?_
  refine lv_iadd hx hb dX0_record_36 ?_
  refine cv_top (show ((3 : Int32) + 1) = 4 from by decide) ?_
  refine va_put (D := D) (ci := 0) (v := .int 4) (ty := .int) (C := RX0) (T := TX0) (N := 2) hx hb hts hi_X0 tyX0 tyX0_ok nmX0 hown hK hP hD hS 0 rfl rfl 1 (by decide) hf_16 (fun _ h9 => h9) rfl (by decide +kernel) rfl rfl (Nat.le_of_ble_eq_true rfl) dX0_record_37 (fun H locs hP hD hS => ?_)
  have hP : va_P D vwCl [(h, .inr (0, [.ref h_kept, .int 4])), (h_kept, .inl (cT, 4, .inr (.inr (.inr (.inr (kf [r_2, r_3, r_4, r_5])))))), (r_2, .inr (5, [.ref r_6, .int z_1.2.1])), (r_6, .inl (cI, 64, .inl z_1.1)), (r_3, .inr (5, [.ref r_7, .int z_1.2.2.2.1])), (r_7, .inl (cI, 64, .inl z_1.2.2.1)), (r_4, .inr (5, [.ref r_8, .int z_1.2.2.2.2.2.1])), (r_8, .inl (cI, 64, .inl z_1.2.2.2.2.1)), (r_5, .inr (5, [.ref r_9, .int z_11.2])), (r_9, .inl (cI, 64, .inl z_11.1)), (p1, .inr (5, [.ref p1_cells, .int p1_size])), (p1_cells, .inl (cI, 64, .inl p1_cells_f))] H := hP
  have hD : va_D A [(h, .inr (0, [.ref h_kept, .int 4])), (h_kept, .inl (cT, 4, .inr (.inr (.inr (.inr (kf [r_2, r_3, r_4, r_5])))))), (r_2, .inr (5, [.ref r_6, .int z_1.2.1])), (r_6, .inl (cI, 64, .inl z_1.1)), (r_3, .inr (5, [.ref r_7, .int z_1.2.2.2.1])), (r_7, .inl (cI, 64, .inl z_1.2.2.1)), (r_4, .inr (5, [.ref r_8, .int z_1.2.2.2.2.2.1])), (r_8, .inl (cI, 64, .inl z_1.2.2.2.2.1)), (r_5, .inr (5, [.ref r_9, .int z_11.2])), (r_9, .inl (cI, 64, .inl z_11.1)), (p1, .inr (5, [.ref p1_cells, .int p1_size])), (p1_cells, .inl (cI, 64, .inl p1_cells_f))] := hD
  have e0 := Option.some.inj h0
  subst e0
  exact W.vret hx hb hr (fun t ht hW => wr_end (r_2, r_3, r_4, r_5, r_6, r_7, r_8, r_9) ht hP hD hS) hS.2.2 dX0_record_40
noncomputable def mX0_record (h_k0_cells_f : Nat → Int32) (h_k0_size : Int32) (h_k1_cells_f : Nat → Int32) (h_k1_size : Int32) (h_k2_cells_f : Nat → Int32) (h_k2_size : Int32) (h_k3_cells_f : Nat → Int32) (h_k3_size : Int32) (h_states : Int32) (p1_cells_f : Nat → Int32) (p1_size : Int32) : Option ((Nat → Int32) × Int32 × (Nat → Int32) × Int32 × (Nat → Int32) × Int32 × (Nat → Int32) × Int32 × Int32) :=
  if h_states = 0 then (bd (mX0_record_0 h_k0_cells_f p1_cells_f p1_size) (fun (q : (Nat → Int32) × Int32) => some (q.1, q.2, h_k1_cells_f, h_k1_size, h_k2_cells_f, h_k2_size, h_k3_cells_f, h_k3_size, 1))) else (if h_states = 1 then (bd (mX0_record_1 h_k1_cells_f p1_cells_f p1_size) (fun (q : (Nat → Int32) × Int32) => some (h_k0_cells_f, h_k0_size, q.1, q.2, h_k2_cells_f, h_k2_size, h_k3_cells_f, h_k3_size, 2))) else (if h_states = 2 then (bd (mX0_record_2 h_k2_cells_f p1_cells_f p1_size) (fun (q : (Nat → Int32) × Int32) => some (h_k0_cells_f, h_k0_size, h_k1_cells_f, h_k1_size, q.1, q.2, h_k3_cells_f, h_k3_size, 3))) else (if h_states = 3 then (bd (mX0_record_3 h_k3_cells_f p1_cells_f p1_size) (fun (q : (Nat → Int32) × Int32) => some (h_k0_cells_f, h_k0_size, h_k1_cells_f, h_k1_size, h_k2_cells_f, h_k2_size, q.1, q.2, 4))) else (if h_states = 4 then (bd (mX0_record_4 h_k0_cells_f h_k0_size h_k1_cells_f h_k1_size h_k2_cells_f h_k2_size h_k3_cells_f h_k3_size p1_cells_f p1_size) (fun (q : (Nat → Int32) × Int32 × (Nat → Int32) × Int32 × (Nat → Int32) × Int32 × (Nat → Int32) × Int32) => some (q.1, q.2.1, q.2.2.1, q.2.2.2.1, q.2.2.2.2.1, q.2.2.2.2.2.1, q.2.2.2.2.2.2.1, q.2.2.2.2.2.2.2, 4))) else (none)))))
set_option maxHeartbeats 8000000 in
set_option maxRecDepth 100000 in
theorem kX0_record (l : Launch) (D : va_G) (cI cC cT : ClassId) (h h_kept h_k0 h_k0_cells h_k1 h_k1_cells h_k2 h_k2_cells h_k3 h_k3_cells p1 p1_cells : Nat) (h_k0_cells_f : Nat → Int32) (h_k0_size : Int32) (h_k1_cells_f : Nat → Int32) (h_k1_size : Int32) (h_k2_cells_f : Nat → Int32) (h_k2_size : Int32) (h_k3_cells_f : Nat → Int32) (h_k3_size : Int32) (h_states : Int32) (p1_cells_f : Nat → Int32) (p1_size : Int32) (sz : Nat) (z : (Nat → Int32) × Int32 × (Nat → Int32) × Int32 × (Nat → Int32) × Int32 × (Nat → Int32) × Int32 × Int32) (h0 : mX0_record h_k0_cells_f h_k0_size h_k1_cells_f h_k1_size h_k2_cells_f h_k2_size h_k3_cells_f h_k3_size h_states p1_cells_f p1_size = some z) : Met l yX0_record wsX0_record ({ frames := 2, cells := 0, slots := 0, locals := 44 } : Room) (va_Pc [.ref h, .ref p1] (wP D cI cC cT [(h, .inr (0, [.ref h_kept, .int h_states])), (h_kept, .inl (cT, 4, .inr (.inr (.inr (.inr (kf [h_k0, h_k1, h_k2, h_k3])))))), (h_k0, .inr (5, [.ref h_k0_cells, .int h_k0_size])), (h_k0_cells, .inl (cI, 64, .inl h_k0_cells_f)), (h_k1, .inr (5, [.ref h_k1_cells, .int h_k1_size])), (h_k1_cells, .inl (cI, 64, .inl h_k1_cells_f)), (h_k2, .inr (5, [.ref h_k2_cells, .int h_k2_size])), (h_k2_cells, .inl (cI, 64, .inl h_k2_cells_f)), (h_k3, .inr (5, [.ref h_k3_cells, .int h_k3_size])), (h_k3_cells, .inl (cI, 64, .inl h_k3_cells_f)), (p1, .inr (5, [.ref p1_cells, .int p1_size])), (p1_cells, .inl (cI, 64, .inl p1_cells_f))] sz)) (wQ D none (va_A [(h, .inr (0, [.ref h_kept, .int h_states])), (h_kept, .inl (cT, 4, .inr (.inr (.inr (.inr (kf [h_k0, h_k1, h_k2, h_k3])))))), (h_k0, .inr (5, [.ref h_k0_cells, .int h_k0_size])), (h_k0_cells, .inl (cI, 64, .inl h_k0_cells_f)), (h_k1, .inr (5, [.ref h_k1_cells, .int h_k1_size])), (h_k1_cells, .inl (cI, 64, .inl h_k1_cells_f)), (h_k2, .inr (5, [.ref h_k2_cells, .int h_k2_size])), (h_k2_cells, .inl (cI, 64, .inl h_k2_cells_f)), (h_k3, .inr (5, [.ref h_k3_cells, .int h_k3_size])), (h_k3_cells, .inl (cI, 64, .inl h_k3_cells_f)), (p1, .inr (5, [.ref p1_cells, .int p1_size])), (p1_cells, .inl (cI, 64, .inl p1_cells_f))] sz) (fun (u : Nat × Nat × Nat × Nat × Nat × Nat × Nat × Nat) => [(h, .inr (0, [.ref h_kept, .int z.2.2.2.2.2.2.2.2])), (h_kept, .inl (cT, 4, .inr (.inr (.inr (.inr (kf [u.1, u.2.1, u.2.2.1, u.2.2.2.1])))))), (u.1, .inr (5, [.ref u.2.2.2.2.1, .int z.2.1])), (u.2.2.2.2.1, .inl (cI, 64, .inl z.1)), (u.2.1, .inr (5, [.ref u.2.2.2.2.2.1, .int z.2.2.2.1])), (u.2.2.2.2.2.1, .inl (cI, 64, .inl z.2.2.1)), (u.2.2.1, .inr (5, [.ref u.2.2.2.2.2.2.1, .int z.2.2.2.2.2.1])), (u.2.2.2.2.2.2.1, .inl (cI, 64, .inl z.2.2.2.2.1)), (u.2.2.2.1, .inr (5, [.ref u.2.2.2.2.2.2.2, .int z.2.2.2.2.2.2.2.1])), (u.2.2.2.2.2.2.2, .inl (cI, 64, .inl z.2.2.2.2.2.2.1)), (p1, .inr (5, [.ref p1_cells, .int p1_size])), (p1_cells, .inl (cI, 64, .inl p1_cells_f))])) 0 0 (va_A [(h, .inr (0, [.ref h_kept, .int h_states])), (h_kept, .inl (cT, 4, .inr (.inr (.inr (.inr (kf [h_k0, h_k1, h_k2, h_k3])))))), (h_k0, .inr (5, [.ref h_k0_cells, .int h_k0_size])), (h_k0_cells, .inl (cI, 64, .inl h_k0_cells_f)), (h_k1, .inr (5, [.ref h_k1_cells, .int h_k1_size])), (h_k1_cells, .inl (cI, 64, .inl h_k1_cells_f)), (h_k2, .inr (5, [.ref h_k2_cells, .int h_k2_size])), (h_k2_cells, .inl (cI, 64, .inl h_k2_cells_f)), (h_k3, .inr (5, [.ref h_k3_cells, .int h_k3_size])), (h_k3_cells, .inl (cI, 64, .inl h_k3_cells_f)), (p1, .inr (5, [.ref p1_cells, .int p1_size])), (p1_cells, .inl (cI, 64, .inl p1_cells_f))] sz) := by
  unfold mX0_record at h0
  by_cases c0 : h_states = 0
  · subst c0
    have h0 := it_t rfl h0
    obtain ⟨q, hq, h0⟩ := bd_ok h0
    have e0 := Option.some.inj h0
    subst e0
    exact Met.wimp (kX0_record_0 l D cI cC cT h h_kept h_k0 h_k0_cells h_k1 h_k1_cells h_k2 h_k2_cells h_k3 h_k3_cells p1 p1_cells h_k0_cells_f h_k0_size h_k1_cells_f h_k1_size h_k2_cells_f h_k2_size h_k3_cells_f h_k3_size p1_cells_f p1_size _ q hq) (fun a st o t hh => wQ_imp (h_k0, h_k1, h_k2, h_k3, h_k0_cells, h_k1_cells, h_k2_cells, h_k3_cells) rfl hh)
  have h0 := it_f c0 h0
  by_cases c1 : h_states = 1
  · subst c1
    have h0 := it_t rfl h0
    obtain ⟨q, hq, h0⟩ := bd_ok h0
    have e0 := Option.some.inj h0
    subst e0
    exact Met.wimp (kX0_record_1 l D cI cC cT h h_kept h_k0 h_k0_cells h_k1 h_k1_cells h_k2 h_k2_cells h_k3 h_k3_cells p1 p1_cells h_k0_cells_f h_k0_size h_k1_cells_f h_k1_size h_k2_cells_f h_k2_size h_k3_cells_f h_k3_size p1_cells_f p1_size _ q hq) (fun a st o t hh => wQ_imp (h_k0, h_k1, h_k2, h_k3, h_k0_cells, h_k1_cells, h_k2_cells, h_k3_cells) rfl hh)
  have h0 := it_f c1 h0
  by_cases c2 : h_states = 2
  · subst c2
    have h0 := it_t rfl h0
    obtain ⟨q, hq, h0⟩ := bd_ok h0
    have e0 := Option.some.inj h0
    subst e0
    exact Met.wimp (kX0_record_2 l D cI cC cT h h_kept h_k0 h_k0_cells h_k1 h_k1_cells h_k2 h_k2_cells h_k3 h_k3_cells p1 p1_cells h_k0_cells_f h_k0_size h_k1_cells_f h_k1_size h_k2_cells_f h_k2_size h_k3_cells_f h_k3_size p1_cells_f p1_size _ q hq) (fun a st o t hh => wQ_imp (h_k0, h_k1, h_k2, h_k3, h_k0_cells, h_k1_cells, h_k2_cells, h_k3_cells) rfl hh)
  have h0 := it_f c2 h0
  by_cases c3 : h_states = 3
  · subst c3
    have h0 := it_t rfl h0
    obtain ⟨q, hq, h0⟩ := bd_ok h0
    have e0 := Option.some.inj h0
    subst e0
    exact Met.wimp (kX0_record_3 l D cI cC cT h h_kept h_k0 h_k0_cells h_k1 h_k1_cells h_k2 h_k2_cells h_k3 h_k3_cells p1 p1_cells h_k0_cells_f h_k0_size h_k1_cells_f h_k1_size h_k2_cells_f h_k2_size h_k3_cells_f h_k3_size p1_cells_f p1_size _ q hq) (fun a st o t hh => wQ_imp (h_k0, h_k1, h_k2, h_k3, h_k0_cells, h_k1_cells, h_k2_cells, h_k3_cells) rfl hh)
  have h0 := it_f c3 h0
  by_cases c4 : h_states = 4
  · subst c4
    have h0 := it_t rfl h0
    obtain ⟨q, hq, h0⟩ := bd_ok h0
    have e0 := Option.some.inj h0
    subst e0
    exact kX0_record_4 l D cI cC cT h h_kept h_k0 h_k0_cells h_k1 h_k1_cells h_k2 h_k2_cells h_k3 h_k3_cells p1 p1_cells h_k0_cells_f h_k0_size h_k1_cells_f h_k1_size h_k2_cells_f h_k2_size h_k3_cells_f h_k3_size p1_cells_f p1_size _ q hq
  have h0 := it_f c4 h0
  cases h0
noncomputable def mX0_takeBack_0  : Option (Int32) :=
  bd (mX0_stateAt_m1) (fun z_1 => some (0))
set_option maxHeartbeats 8000000 in
set_option maxRecDepth 100000 in
theorem kX0_takeBack_0 (l : Launch) (D : va_G) (cI cC cT : ClassId) (h h_kept h_k0 h_k0_cells h_k1 h_k1_cells h_k2 h_k2_cells h_k3 h_k3_cells p1 p1_cells : Nat) (h_k0_cells_f : Nat → Int32) (h_k0_size : Int32) (h_k1_cells_f : Nat → Int32) (h_k1_size : Int32) (h_k2_cells_f : Nat → Int32) (h_k2_size : Int32) (h_k3_cells_f : Nat → Int32) (h_k3_size : Int32) (p1_cells_f : Nat → Int32) (p1_size : Int32) (sz : Nat) (z : Int32) (h0 : mX0_takeBack_0  = some z) : Met l yX0_takeBack wsX0_takeBack ({ frames := 2, cells := 0, slots := 0, locals := 44 } : Room) (va_Pc [.ref h, .ref p1] (wP D cI cC cT [(h, .inr (0, [.ref h_kept, .int 0])), (h_kept, .inl (cT, 4, .inr (.inr (.inr (.inr (kf [h_k0, h_k1, h_k2, h_k3])))))), (h_k0, .inr (5, [.ref h_k0_cells, .int h_k0_size])), (h_k0_cells, .inl (cI, 64, .inl h_k0_cells_f)), (h_k1, .inr (5, [.ref h_k1_cells, .int h_k1_size])), (h_k1_cells, .inl (cI, 64, .inl h_k1_cells_f)), (h_k2, .inr (5, [.ref h_k2_cells, .int h_k2_size])), (h_k2_cells, .inl (cI, 64, .inl h_k2_cells_f)), (h_k3, .inr (5, [.ref h_k3_cells, .int h_k3_size])), (h_k3_cells, .inl (cI, 64, .inl h_k3_cells_f)), (p1, .inr (5, [.ref p1_cells, .int p1_size])), (p1_cells, .inl (cI, 64, .inl p1_cells_f))] sz)) (wQ D (some (.int z)) (va_A [(h, .inr (0, [.ref h_kept, .int 0])), (h_kept, .inl (cT, 4, .inr (.inr (.inr (.inr (kf [h_k0, h_k1, h_k2, h_k3])))))), (h_k0, .inr (5, [.ref h_k0_cells, .int h_k0_size])), (h_k0_cells, .inl (cI, 64, .inl h_k0_cells_f)), (h_k1, .inr (5, [.ref h_k1_cells, .int h_k1_size])), (h_k1_cells, .inl (cI, 64, .inl h_k1_cells_f)), (h_k2, .inr (5, [.ref h_k2_cells, .int h_k2_size])), (h_k2_cells, .inl (cI, 64, .inl h_k2_cells_f)), (h_k3, .inr (5, [.ref h_k3_cells, .int h_k3_size])), (h_k3_cells, .inl (cI, 64, .inl h_k3_cells_f)), (p1, .inr (5, [.ref p1_cells, .int p1_size])), (p1_cells, .inl (cI, 64, .inl p1_cells_f))] sz) (fun (u : Unit) => [(h, .inr (0, [.ref h_kept, .int 0])), (h_kept, .inl (cT, 4, .inr (.inr (.inr (.inr (kf [h_k0, h_k1, h_k2, h_k3])))))), (h_k0, .inr (5, [.ref h_k0_cells, .int h_k0_size])), (h_k0_cells, .inl (cI, 64, .inl h_k0_cells_f)), (h_k1, .inr (5, [.ref h_k1_cells, .int h_k1_size])), (h_k1_cells, .inl (cI, 64, .inl h_k1_cells_f)), (h_k2, .inr (5, [.ref h_k2_cells, .int h_k2_size])), (h_k2_cells, .inl (cI, 64, .inl h_k2_cells_f)), (h_k3, .inr (5, [.ref h_k3_cells, .int h_k3_size])), (h_k3_cells, .inl (cI, 64, .inl h_k3_cells_f)), (p1, .inr (5, [.ref p1_cells, .int p1_size])), (p1_cells, .inl (cI, 64, .inl p1_cells_f))])) 0 0 (va_A [(h, .inr (0, [.ref h_kept, .int 0])), (h_kept, .inl (cT, 4, .inr (.inr (.inr (.inr (kf [h_k0, h_k1, h_k2, h_k3])))))), (h_k0, .inr (5, [.ref h_k0_cells, .int h_k0_size])), (h_k0_cells, .inl (cI, 64, .inl h_k0_cells_f)), (h_k1, .inr (5, [.ref h_k1_cells, .int h_k1_size])), (h_k1_cells, .inl (cI, 64, .inl h_k1_cells_f)), (h_k2, .inr (5, [.ref h_k2_cells, .int h_k2_size])), (h_k2_cells, .inl (cI, 64, .inl h_k2_cells_f)), (h_k3, .inr (5, [.ref h_k3_cells, .int h_k3_size])), (h_k3_cells, .inl (cI, 64, .inl h_k3_cells_f)), (p1, .inr (5, [.ref p1_cells, .int p1_size])), (p1_cells, .inl (cI, 64, .inl p1_cells_f))] sz) := by
  refine Met.ofW (cc := cX0_takeBack) (maxL := 3) (ret := (some .boolean)) (by decide) rfl ?_
  intro p e s m args below meth c s₁ B hml hv
  obtain ⟨rfl, hsz, hP, hE, hD0⟩ := hv
  have hx := B.exec
  have hb := B.bytes
  have hr := B.returns
  have hts := atoms_spec (ws := wsX0_takeBack) B.pre
  have hown : s.vm.findClass RX0 = some m.cls := findClass_of_methodNamed B.named
  have hlocks := B.notSynchronized
  have hK := hE.1
  have hcf : CallFix p m c cX0_takeBack 3 s ([.ref h, .ref p1] : List Value).toArray wsX0_takeBack RX0 := ⟨hx, hb, hml, hown, hts⟩
  subst hsz
  have hD := hD0.self (sz := s.heap.size)
  generalize hAe : va_A [(h, .inr (0, [.ref h_kept, .int 0])), (h_kept, .inl (cT, 4, .inr (.inr (.inr (.inr (kf [h_k0, h_k1, h_k2, h_k3])))))), (h_k0, .inr (5, [.ref h_k0_cells, .int h_k0_size])), (h_k0_cells, .inl (cI, 64, .inl h_k0_cells_f)), (h_k1, .inr (5, [.ref h_k1_cells, .int h_k1_size])), (h_k1_cells, .inl (cI, 64, .inl h_k1_cells_f)), (h_k2, .inr (5, [.ref h_k2_cells, .int h_k2_size])), (h_k2_cells, .inl (cI, 64, .inl h_k2_cells_f)), (h_k3, .inr (5, [.ref h_k3_cells, .int h_k3_size])), (h_k3_cells, .inl (cI, 64, .inl h_k3_cells_f)), (p1, .inr (5, [.ref p1_cells, .int p1_size])), (p1_cells, .inl (cI, 64, .inl p1_cells_f))] s.heap.size = A at hD ⊢
  have hA : ∀ q : Nat, s.heap.size ≤ q → A q := fun q h => by rw [← hAe]; exact Or.inr h
  have hS : va_S A s.heap s.heap [] := va_S.rf
  have hP : va_P D vwCl [(h, .inr (0, [.ref h_kept, .int 0])), (h_kept, .inl (cT, 4, .inr (.inr (.inr (.inr (kf [h_k0, h_k1, h_k2, h_k3])))))), (h_k0, .inr (5, [.ref h_k0_cells, .int h_k0_size])), (h_k0_cells, .inl (cI, 64, .inl h_k0_cells_f)), (h_k1, .inr (5, [.ref h_k1_cells, .int h_k1_size])), (h_k1_cells, .inl (cI, 64, .inl h_k1_cells_f)), (h_k2, .inr (5, [.ref h_k2_cells, .int h_k2_size])), (h_k2_cells, .inl (cI, 64, .inl h_k2_cells_f)), (h_k3, .inr (5, [.ref h_k3_cells, .int h_k3_size])), (h_k3_cells, .inl (cI, 64, .inl h_k3_cells_f)), (p1, .inr (5, [.ref p1_cells, .int p1_size])), (p1_cells, .inl (cI, 64, .inl p1_cells_f))] s.heap := hP
  have hf_16 := hts (.fieldLink RX0 16 "CrookedSums$History" "states" "I") (by decide +kernel)
  have hi_X0 := (show ∀ w ∈ u_ws RX0 TX0 2, w ∈ wsX0_takeBack from by decide +kernel)
  have hl := lv_entry ([.ref h, .ref p1]) (n := 3) (Nat.le_of_ble_eq_true rfl)
  rw [lg_entry_eq]
  generalize (lg_sl ([.ref h, .ref p1]) ++ List.replicate (3 - (lg_sl ([.ref h, .ref p1])).length) Slot.unset).toArray = ls at hl ⊢
  have hl : lv_has ls 3 [(0, .ref h), (1, .ref p1)] := hl
  unfold mX0_takeBack_0 at h0
  refine lv_aload_n hx hb dX0_takeBack_0 rfl (lv_at hl 0 rfl) ?_
  refine lv_aload_n hx hb dX0_takeBack_1 rfl (lv_at hl 0 rfl) ?_
  refine va_get (D := D) (ci := 0) (v := .int 0) (C := RX0) (T := TX0) (N := 2) hx hb hts hi_X0 hown hK hP 0 rfl rfl 1 (by decide) hf_16 (fun _ h9 => h9) rfl dX0_takeBack_2 ?_
  refine lv_iconst (v := 1) hx hb dX0_takeBack_5 (by decide) ?_
  refine lv_isub hx hb dX0_takeBack_6 ?_
  refine cv_top (show ((0 : Int32) - 1) = (-1) from by decide) ?_
  obtain ⟨z_1, hz, h0⟩ := bd_ok h0
  refine ro_V (As := [.int (-1)]) (rest := []) (wc := [(h, .inr (0, [.ref h_kept, .int 0])), (h_kept, .inl (cT, 4, .inr (.inr (.inr (.inr (kf [h_k0, h_k1, h_k2, h_k3])))))), (h_k0, .inr (5, [.ref h_k0_cells, .int h_k0_size])), (h_k0_cells, .inl (cI, 64, .inl h_k0_cells_f)), (h_k1, .inr (5, [.ref h_k1_cells, .int h_k1_size])), (h_k1_cells, .inl (cI, 64, .inl h_k1_cells_f)), (h_k2, .inr (5, [.ref h_k2_cells, .int h_k2_size])), (h_k2_cells, .inl (cI, 64, .inl h_k2_cells_f)), (h_k3, .inr (5, [.ref h_k3_cells, .int h_k3_size])), (h_k3_cells, .inl (cI, 64, .inl h_k3_cells_f))]) hcf (kX0_stateAt_m1 l D cI cC cT h h_kept h_k0 h_k0_cells h_k1 h_k1_cells h_k2 h_k2_cells h_k3 h_k3_cells h_k0_cells_f h_k0_size h_k1_cells_f h_k1_size h_k2_cells_f h_k2_size h_k3_cells_f h_k3_size 0 z_1 hz) (cwV 1 hts gX0_takeBack_X0_stateAt rfl rfl rfl (by decide +kernel) ⟨Nat.le_of_ble_eq_true rfl, Nat.le_of_ble_eq_true rfl⟩) hE (hP.sub [0, 1, 2, 3, 4, 5, 6, 7, 8, 9] rfl) (va_recv hK hP (ci := 0) (q0 := 0) rfl rfl) rfl hl.1 rfl (Nat.le_of_ble_eq_true rfl) dX0_takeBack_7 ⟨Nat.le_of_ble_eq_true rfl, Nat.le_of_ble_eq_true rfl⟩ ?_
  refine W.eq (g2 := F0 m 10 ls [.null]) rfl ?_
  refine lv_astore_nN (lv' := [(2, .null), (0, .ref h), (1, .ref p1)]) hx hb dX0_takeBack_10 rfl hl (by decide) rfl (fun ls hl => ?_)
  refine lv_aload_nN hx hb dX0_takeBack_11 rfl (lv_at hl 0 rfl) ?_
  refine lv_ifnonnullN hx hb dX0_takeBack_12 ?_
  refine lv_iconst (v := 0) hx hb dX0_takeBack_15 (by decide) ?_
  have e0 := Option.some.inj h0
  subst e0
  exact W.zret (ty := .boolean) (v := 0) hx hb hr rfl (fun t ht hW => wr_end () ht hP hD hS) hS.2.2 dX0_takeBack_16
noncomputable def mX0_takeBack_1 (h_k0_cells_f : Nat → Int32) (h_k0_size : Int32) (p1_cells_f : Nat → Int32) : Option (Int32 × (Nat → Int32) × Int32) :=
  bd (mX0_stateAt_0) (fun z_1 => bd (mX6_copyFrom p1_cells_f h_k0_cells_f h_k0_size) (fun z_2 => some (1, z_2.1, z_2.2)))
set_option maxHeartbeats 8000000 in
set_option maxRecDepth 100000 in
theorem kX0_takeBack_1 (l : Launch) (D : va_G) (cI cC cT : ClassId) (h h_kept h_k0 h_k0_cells h_k1 h_k1_cells h_k2 h_k2_cells h_k3 h_k3_cells p1 p1_cells : Nat) (h_k0_cells_f : Nat → Int32) (h_k0_size : Int32) (h_k1_cells_f : Nat → Int32) (h_k1_size : Int32) (h_k2_cells_f : Nat → Int32) (h_k2_size : Int32) (h_k3_cells_f : Nat → Int32) (h_k3_size : Int32) (p1_cells_f : Nat → Int32) (p1_size : Int32) (sz : Nat) (z : Int32 × (Nat → Int32) × Int32) (h0 : mX0_takeBack_1 h_k0_cells_f h_k0_size p1_cells_f = some z) : Met l yX0_takeBack wsX0_takeBack ({ frames := 2, cells := 0, slots := 0, locals := 44 } : Room) (va_Pc [.ref h, .ref p1] (wP D cI cC cT [(h, .inr (0, [.ref h_kept, .int 1])), (h_kept, .inl (cT, 4, .inr (.inr (.inr (.inr (kf [h_k0, h_k1, h_k2, h_k3])))))), (h_k0, .inr (5, [.ref h_k0_cells, .int h_k0_size])), (h_k0_cells, .inl (cI, 64, .inl h_k0_cells_f)), (h_k1, .inr (5, [.ref h_k1_cells, .int h_k1_size])), (h_k1_cells, .inl (cI, 64, .inl h_k1_cells_f)), (h_k2, .inr (5, [.ref h_k2_cells, .int h_k2_size])), (h_k2_cells, .inl (cI, 64, .inl h_k2_cells_f)), (h_k3, .inr (5, [.ref h_k3_cells, .int h_k3_size])), (h_k3_cells, .inl (cI, 64, .inl h_k3_cells_f)), (p1, .inr (5, [.ref p1_cells, .int p1_size])), (p1_cells, .inl (cI, 64, .inl p1_cells_f))] sz)) (wQ D (some (.int z.1)) (va_A [(h, .inr (0, [.ref h_kept, .int 1])), (h_kept, .inl (cT, 4, .inr (.inr (.inr (.inr (kf [h_k0, h_k1, h_k2, h_k3])))))), (h_k0, .inr (5, [.ref h_k0_cells, .int h_k0_size])), (h_k0_cells, .inl (cI, 64, .inl h_k0_cells_f)), (h_k1, .inr (5, [.ref h_k1_cells, .int h_k1_size])), (h_k1_cells, .inl (cI, 64, .inl h_k1_cells_f)), (h_k2, .inr (5, [.ref h_k2_cells, .int h_k2_size])), (h_k2_cells, .inl (cI, 64, .inl h_k2_cells_f)), (h_k3, .inr (5, [.ref h_k3_cells, .int h_k3_size])), (h_k3_cells, .inl (cI, 64, .inl h_k3_cells_f)), (p1, .inr (5, [.ref p1_cells, .int p1_size])), (p1_cells, .inl (cI, 64, .inl p1_cells_f))] sz) (fun (u : Unit) => [(h, .inr (0, [.ref h_kept, .int 0])), (h_kept, .inl (cT, 4, .inr (.inr (.inr (.inr (kf [h_k0, h_k1, h_k2, h_k3])))))), (h_k0, .inr (5, [.ref h_k0_cells, .int h_k0_size])), (h_k0_cells, .inl (cI, 64, .inl h_k0_cells_f)), (h_k1, .inr (5, [.ref h_k1_cells, .int h_k1_size])), (h_k1_cells, .inl (cI, 64, .inl h_k1_cells_f)), (h_k2, .inr (5, [.ref h_k2_cells, .int h_k2_size])), (h_k2_cells, .inl (cI, 64, .inl h_k2_cells_f)), (h_k3, .inr (5, [.ref h_k3_cells, .int h_k3_size])), (h_k3_cells, .inl (cI, 64, .inl h_k3_cells_f)), (p1, .inr (5, [.ref p1_cells, .int z.2.2])), (p1_cells, .inl (cI, 64, .inl z.2.1))])) 0 0 (va_A [(h, .inr (0, [.ref h_kept, .int 1])), (h_kept, .inl (cT, 4, .inr (.inr (.inr (.inr (kf [h_k0, h_k1, h_k2, h_k3])))))), (h_k0, .inr (5, [.ref h_k0_cells, .int h_k0_size])), (h_k0_cells, .inl (cI, 64, .inl h_k0_cells_f)), (h_k1, .inr (5, [.ref h_k1_cells, .int h_k1_size])), (h_k1_cells, .inl (cI, 64, .inl h_k1_cells_f)), (h_k2, .inr (5, [.ref h_k2_cells, .int h_k2_size])), (h_k2_cells, .inl (cI, 64, .inl h_k2_cells_f)), (h_k3, .inr (5, [.ref h_k3_cells, .int h_k3_size])), (h_k3_cells, .inl (cI, 64, .inl h_k3_cells_f)), (p1, .inr (5, [.ref p1_cells, .int p1_size])), (p1_cells, .inl (cI, 64, .inl p1_cells_f))] sz) := by
  refine Met.ofW (cc := cX0_takeBack) (maxL := 3) (ret := (some .boolean)) (by decide) rfl ?_
  intro p e s m args below meth c s₁ B hml hv
  obtain ⟨rfl, hsz, hP, hE, hD0⟩ := hv
  have hx := B.exec
  have hb := B.bytes
  have hr := B.returns
  have hts := atoms_spec (ws := wsX0_takeBack) B.pre
  have hown : s.vm.findClass RX0 = some m.cls := findClass_of_methodNamed B.named
  have hlocks := B.notSynchronized
  have hK := hE.1
  have hcf : CallFix p m c cX0_takeBack 3 s ([.ref h, .ref p1] : List Value).toArray wsX0_takeBack RX0 := ⟨hx, hb, hml, hown, hts⟩
  subst hsz
  have hD := hD0.self (sz := s.heap.size)
  generalize hAe : va_A [(h, .inr (0, [.ref h_kept, .int 1])), (h_kept, .inl (cT, 4, .inr (.inr (.inr (.inr (kf [h_k0, h_k1, h_k2, h_k3])))))), (h_k0, .inr (5, [.ref h_k0_cells, .int h_k0_size])), (h_k0_cells, .inl (cI, 64, .inl h_k0_cells_f)), (h_k1, .inr (5, [.ref h_k1_cells, .int h_k1_size])), (h_k1_cells, .inl (cI, 64, .inl h_k1_cells_f)), (h_k2, .inr (5, [.ref h_k2_cells, .int h_k2_size])), (h_k2_cells, .inl (cI, 64, .inl h_k2_cells_f)), (h_k3, .inr (5, [.ref h_k3_cells, .int h_k3_size])), (h_k3_cells, .inl (cI, 64, .inl h_k3_cells_f)), (p1, .inr (5, [.ref p1_cells, .int p1_size])), (p1_cells, .inl (cI, 64, .inl p1_cells_f))] s.heap.size = A at hD ⊢
  have hA : ∀ q : Nat, s.heap.size ≤ q → A q := fun q h => by rw [← hAe]; exact Or.inr h
  have hS : va_S A s.heap s.heap [] := va_S.rf
  have hP : va_P D vwCl [(h, .inr (0, [.ref h_kept, .int 1])), (h_kept, .inl (cT, 4, .inr (.inr (.inr (.inr (kf [h_k0, h_k1, h_k2, h_k3])))))), (h_k0, .inr (5, [.ref h_k0_cells, .int h_k0_size])), (h_k0_cells, .inl (cI, 64, .inl h_k0_cells_f)), (h_k1, .inr (5, [.ref h_k1_cells, .int h_k1_size])), (h_k1_cells, .inl (cI, 64, .inl h_k1_cells_f)), (h_k2, .inr (5, [.ref h_k2_cells, .int h_k2_size])), (h_k2_cells, .inl (cI, 64, .inl h_k2_cells_f)), (h_k3, .inr (5, [.ref h_k3_cells, .int h_k3_size])), (h_k3_cells, .inl (cI, 64, .inl h_k3_cells_f)), (p1, .inr (5, [.ref p1_cells, .int p1_size])), (p1_cells, .inl (cI, 64, .inl p1_cells_f))] s.heap := hP
  have hf_16 := hts (.fieldLink RX0 16 "CrookedSums$History" "states" "I") (by decide +kernel)
  have hi_X0 := (show ∀ w ∈ u_ws RX0 TX0 2, w ∈ wsX0_takeBack from by decide +kernel)
  have hl := lv_entry ([.ref h, .ref p1]) (n := 3) (Nat.le_of_ble_eq_true rfl)
  rw [lg_entry_eq]
  generalize (lg_sl ([.ref h, .ref p1]) ++ List.replicate (3 - (lg_sl ([.ref h, .ref p1])).length) Slot.unset).toArray = ls at hl ⊢
  have hl : lv_has ls 3 [(0, .ref h), (1, .ref p1)] := hl
  unfold mX0_takeBack_1 at h0
  refine lv_aload_n hx hb dX0_takeBack_0 rfl (lv_at hl 0 rfl) ?_
  refine lv_aload_n hx hb dX0_takeBack_1 rfl (lv_at hl 0 rfl) ?_
  refine va_get (D := D) (ci := 0) (v := .int 1) (C := RX0) (T := TX0) (N := 2) hx hb hts hi_X0 hown hK hP 0 rfl rfl 1 (by decide) hf_16 (fun _ h9 => h9) rfl dX0_takeBack_2 ?_
  refine lv_iconst (v := 1) hx hb dX0_takeBack_5 (by decide) ?_
  refine lv_isub hx hb dX0_takeBack_6 ?_
  refine cv_top (show ((1 : Int32) - 1) = 0 from by decide) ?_
  obtain ⟨z_1, hz, h0⟩ := bd_ok h0
  refine ro_V (As := [.int 0]) (rest := []) (wc := [(h, .inr (0, [.ref h_kept, .int 1])), (h_kept, .inl (cT, 4, .inr (.inr (.inr (.inr (kf [h_k0, h_k1, h_k2, h_k3])))))), (h_k0, .inr (5, [.ref h_k0_cells, .int h_k0_size])), (h_k0_cells, .inl (cI, 64, .inl h_k0_cells_f)), (h_k1, .inr (5, [.ref h_k1_cells, .int h_k1_size])), (h_k1_cells, .inl (cI, 64, .inl h_k1_cells_f)), (h_k2, .inr (5, [.ref h_k2_cells, .int h_k2_size])), (h_k2_cells, .inl (cI, 64, .inl h_k2_cells_f)), (h_k3, .inr (5, [.ref h_k3_cells, .int h_k3_size])), (h_k3_cells, .inl (cI, 64, .inl h_k3_cells_f))]) hcf (kX0_stateAt_0 l D cI cC cT h h_kept h_k0 h_k0_cells h_k1 h_k1_cells h_k2 h_k2_cells h_k3 h_k3_cells h_k0_cells_f h_k0_size h_k1_cells_f h_k1_size h_k2_cells_f h_k2_size h_k3_cells_f h_k3_size 1 z_1 hz) (cwV 1 hts gX0_takeBack_X0_stateAt rfl rfl rfl (by decide +kernel) ⟨Nat.le_of_ble_eq_true rfl, Nat.le_of_ble_eq_true rfl⟩) hE (hP.sub [0, 1, 2, 3, 4, 5, 6, 7, 8, 9] rfl) (va_recv hK hP (ci := 0) (q0 := 0) rfl rfl) rfl hl.1 rfl (Nat.le_of_ble_eq_true rfl) dX0_takeBack_7 ⟨Nat.le_of_ble_eq_true rfl, Nat.le_of_ble_eq_true rfl⟩ ?_
  refine W.eq (g2 := F0 m 10 ls [.ref h_k0]) rfl ?_
  refine lv_astore_n (lv' := [(2, .ref h_k0), (0, .ref h), (1, .ref p1)]) hx hb dX0_takeBack_10 rfl hl (by decide) rfl (fun ls hl => ?_)
  refine lv_aload_n hx hb dX0_takeBack_11 rfl (lv_at hl 0 rfl) ?_
  refine lv_ifnonnull (tgt := 17) hx hb dX0_takeBack_12 (by decide) ?_
  refine lv_aload_n hx hb dX0_takeBack_17 rfl (lv_at hl 2 rfl) ?_
  refine lv_aload_n hx hb dX0_takeBack_18 rfl (lv_at hl 0 rfl) ?_
  obtain ⟨z_2, hz, h0⟩ := bd_ok h0
  refine wr_V (As := [.ref h_k0]) (rest := []) (wc := [(p1, .inr (5, [.ref p1_cells, .int p1_size])), (p1_cells, .inl (cI, 64, .inl p1_cells_f)), (h_k0, .inr (5, [.ref h_k0_cells, .int h_k0_size])), (h_k0_cells, .inl (cI, 64, .inl h_k0_cells_f))]) (wr := [(h, .inr (0, [.ref h_kept, .int 1])), (h_kept, .inl (cT, 4, .inr (.inr (.inr (.inr (kf [h_k0, h_k1, h_k2, h_k3])))))), (h_k1, .inr (5, [.ref h_k1_cells, .int h_k1_size])), (h_k1_cells, .inl (cI, 64, .inl h_k1_cells_f)), (h_k2, .inr (5, [.ref h_k2_cells, .int h_k2_size])), (h_k2_cells, .inl (cI, 64, .inl h_k2_cells_f)), (h_k3, .inr (5, [.ref h_k3_cells, .int h_k3_size])), (h_k3_cells, .inl (cI, 64, .inl h_k3_cells_f))]) hcf (kX6_copyFrom l D cI cC cT p1 p1_cells h_k0 h_k0_cells p1_cells_f p1_size h_k0_cells_f h_k0_size _ z_2 hz) (cwV 1 hts gX0_takeBack_X6_copyFrom rfl rfl rfl (by decide +kernel) ⟨Nat.le_of_ble_eq_true rfl, Nat.le_of_ble_eq_true rfl⟩) hE hP hD hS hA [10, 11, 2, 3] [0, 1, 4, 5, 6, 7, 8, 9] (hP.sub [10, 11, 2, 3] rfl) (hD.sub [10, 11, 2, 3] (by decide) rfl) (va_recv hK hP (ci := 5) (q0 := 10) rfl rfl) rfl rfl (by decide) (by decide) rfl hl.1 rfl (Nat.le_of_ble_eq_true rfl) dX0_takeBack_19 ⟨Nat.le_of_ble_eq_true rfl, Nat.le_of_ble_eq_true rfl⟩ (fun u H locs hP hD hS => ?_)
  have hP : va_P D vwCl [(h, .inr (0, [.ref h_kept, .int 1])), (h_kept, .inl (cT, 4, .inr (.inr (.inr (.inr (kf [h_k0, h_k1, h_k2, h_k3])))))), (h_k1, .inr (5, [.ref h_k1_cells, .int h_k1_size])), (h_k1_cells, .inl (cI, 64, .inl h_k1_cells_f)), (h_k2, .inr (5, [.ref h_k2_cells, .int h_k2_size])), (h_k2_cells, .inl (cI, 64, .inl h_k2_cells_f)), (h_k3, .inr (5, [.ref h_k3_cells, .int h_k3_size])), (h_k3_cells, .inl (cI, 64, .inl h_k3_cells_f)), (p1, .inr (5, [.ref p1_cells, .int z_2.2])), (p1_cells, .inl (cI, 64, .inl z_2.1)), (h_k0, .inr (5, [.ref h_k0_cells, .int h_k0_size])), (h_k0_cells, .inl (cI, 64, .inl h_k0_cells_f))] H := hP
  have hD : va_D A [(h, .inr (0, [.ref h_kept, .int 1])), (h_kept, .inl (cT, 4, .inr (.inr (.inr (.inr (kf [h_k0, h_k1, h_k2, h_k3])))))), (h_k1, .inr (5, [.ref h_k1_cells, .int h_k1_size])), (h_k1_cells, .inl (cI, 64, .inl h_k1_cells_f)), (h_k2, .inr (5, [.ref h_k2_cells, .int h_k2_size])), (h_k2_cells, .inl (cI, 64, .inl h_k2_cells_f)), (h_k3, .inr (5, [.ref h_k3_cells, .int h_k3_size])), (h_k3_cells, .inl (cI, 64, .inl h_k3_cells_f)), (p1, .inr (5, [.ref p1_cells, .int z_2.2])), (p1_cells, .inl (cI, 64, .inl z_2.1)), (h_k0, .inr (5, [.ref h_k0_cells, .int h_k0_size])), (h_k0_cells, .inl (cI, 64, .inl h_k0_cells_f))] := hD
  refine W.eq (g2 := F0 m 22 ls []) rfl ?_
  refine lv_aload_n hx hb dX0_takeBack_22 rfl (lv_at hl 1 rfl) ?_
  refine lv_dup hx hb dX0_takeBack_23 rfl ?_
  refine va_get (D := D) (ci := 0) (v := .int 1) (C := RX0) (T := TX0) (N := 2) hx hb hts hi_X0 hown hK hP 0 rfl rfl 1 (by decide) hf_16 (fun _ h9 => h9) rfl dX0_takeBack_24 ?_
  refine lv_iconst (v := 1) hx hb dX0_takeBack_27 (by decide) ?_
  refine lv_isub hx hb dX0_takeBack_28 ?_
  refine cv_top (show ((1 : Int32) - 1) = 0 from by decide) ?_
  refine va_put (D := D) (ci := 0) (v := .int 0) (ty := .int) (C := RX0) (T := TX0) (N := 2) hx hb hts hi_X0 tyX0 tyX0_ok nmX0 hown hK hP hD hS 0 rfl rfl 1 (by decide) hf_16 (fun _ h9 => h9) rfl (by decide +kernel) rfl rfl (Nat.le_of_ble_eq_true rfl) dX0_takeBack_29 (fun H locs hP hD hS => ?_)
  have hP : va_P D vwCl [(h, .inr (0, [.ref h_kept, .int 0])), (h_kept, .inl (cT, 4, .inr (.inr (.inr (.inr (kf [h_k0, h_k1, h_k2, h_k3])))))), (h_k1, .inr (5, [.ref h_k1_cells, .int h_k1_size])), (h_k1_cells, .inl (cI, 64, .inl h_k1_cells_f)), (h_k2, .inr (5, [.ref h_k2_cells, .int h_k2_size])), (h_k2_cells, .inl (cI, 64, .inl h_k2_cells_f)), (h_k3, .inr (5, [.ref h_k3_cells, .int h_k3_size])), (h_k3_cells, .inl (cI, 64, .inl h_k3_cells_f)), (p1, .inr (5, [.ref p1_cells, .int z_2.2])), (p1_cells, .inl (cI, 64, .inl z_2.1)), (h_k0, .inr (5, [.ref h_k0_cells, .int h_k0_size])), (h_k0_cells, .inl (cI, 64, .inl h_k0_cells_f))] H := hP
  have hD : va_D A [(h, .inr (0, [.ref h_kept, .int 0])), (h_kept, .inl (cT, 4, .inr (.inr (.inr (.inr (kf [h_k0, h_k1, h_k2, h_k3])))))), (h_k1, .inr (5, [.ref h_k1_cells, .int h_k1_size])), (h_k1_cells, .inl (cI, 64, .inl h_k1_cells_f)), (h_k2, .inr (5, [.ref h_k2_cells, .int h_k2_size])), (h_k2_cells, .inl (cI, 64, .inl h_k2_cells_f)), (h_k3, .inr (5, [.ref h_k3_cells, .int h_k3_size])), (h_k3_cells, .inl (cI, 64, .inl h_k3_cells_f)), (p1, .inr (5, [.ref p1_cells, .int z_2.2])), (p1_cells, .inl (cI, 64, .inl z_2.1)), (h_k0, .inr (5, [.ref h_k0_cells, .int h_k0_size])), (h_k0_cells, .inl (cI, 64, .inl h_k0_cells_f))] := hD
  refine lv_iconst (v := 1) hx hb dX0_takeBack_32 (by decide) ?_
  have e0 := Option.some.inj h0
  subst e0
  exact W.zret (ty := .boolean) (v := 1) hx hb hr rfl (fun t ht hW => wr_end () ht (hP.sub [0, 1, 10, 11, 2, 3, 4, 5, 6, 7, 8, 9] rfl) (hD.sub [0, 1, 10, 11, 2, 3, 4, 5, 6, 7, 8, 9] (by decide) rfl) hS) hS.2.2 dX0_takeBack_33
noncomputable def mX0_takeBack_2 (h_k1_cells_f : Nat → Int32) (h_k1_size : Int32) (p1_cells_f : Nat → Int32) : Option (Int32 × (Nat → Int32) × Int32) :=
  bd (mX0_stateAt_1) (fun z_1 => bd (mX6_copyFrom p1_cells_f h_k1_cells_f h_k1_size) (fun z_2 => some (1, z_2.1, z_2.2)))
set_option maxHeartbeats 8000000 in
set_option maxRecDepth 100000 in
theorem kX0_takeBack_2 (l : Launch) (D : va_G) (cI cC cT : ClassId) (h h_kept h_k0 h_k0_cells h_k1 h_k1_cells h_k2 h_k2_cells h_k3 h_k3_cells p1 p1_cells : Nat) (h_k0_cells_f : Nat → Int32) (h_k0_size : Int32) (h_k1_cells_f : Nat → Int32) (h_k1_size : Int32) (h_k2_cells_f : Nat → Int32) (h_k2_size : Int32) (h_k3_cells_f : Nat → Int32) (h_k3_size : Int32) (p1_cells_f : Nat → Int32) (p1_size : Int32) (sz : Nat) (z : Int32 × (Nat → Int32) × Int32) (h0 : mX0_takeBack_2 h_k1_cells_f h_k1_size p1_cells_f = some z) : Met l yX0_takeBack wsX0_takeBack ({ frames := 2, cells := 0, slots := 0, locals := 44 } : Room) (va_Pc [.ref h, .ref p1] (wP D cI cC cT [(h, .inr (0, [.ref h_kept, .int 2])), (h_kept, .inl (cT, 4, .inr (.inr (.inr (.inr (kf [h_k0, h_k1, h_k2, h_k3])))))), (h_k0, .inr (5, [.ref h_k0_cells, .int h_k0_size])), (h_k0_cells, .inl (cI, 64, .inl h_k0_cells_f)), (h_k1, .inr (5, [.ref h_k1_cells, .int h_k1_size])), (h_k1_cells, .inl (cI, 64, .inl h_k1_cells_f)), (h_k2, .inr (5, [.ref h_k2_cells, .int h_k2_size])), (h_k2_cells, .inl (cI, 64, .inl h_k2_cells_f)), (h_k3, .inr (5, [.ref h_k3_cells, .int h_k3_size])), (h_k3_cells, .inl (cI, 64, .inl h_k3_cells_f)), (p1, .inr (5, [.ref p1_cells, .int p1_size])), (p1_cells, .inl (cI, 64, .inl p1_cells_f))] sz)) (wQ D (some (.int z.1)) (va_A [(h, .inr (0, [.ref h_kept, .int 2])), (h_kept, .inl (cT, 4, .inr (.inr (.inr (.inr (kf [h_k0, h_k1, h_k2, h_k3])))))), (h_k0, .inr (5, [.ref h_k0_cells, .int h_k0_size])), (h_k0_cells, .inl (cI, 64, .inl h_k0_cells_f)), (h_k1, .inr (5, [.ref h_k1_cells, .int h_k1_size])), (h_k1_cells, .inl (cI, 64, .inl h_k1_cells_f)), (h_k2, .inr (5, [.ref h_k2_cells, .int h_k2_size])), (h_k2_cells, .inl (cI, 64, .inl h_k2_cells_f)), (h_k3, .inr (5, [.ref h_k3_cells, .int h_k3_size])), (h_k3_cells, .inl (cI, 64, .inl h_k3_cells_f)), (p1, .inr (5, [.ref p1_cells, .int p1_size])), (p1_cells, .inl (cI, 64, .inl p1_cells_f))] sz) (fun (u : Unit) => [(h, .inr (0, [.ref h_kept, .int 1])), (h_kept, .inl (cT, 4, .inr (.inr (.inr (.inr (kf [h_k0, h_k1, h_k2, h_k3])))))), (h_k0, .inr (5, [.ref h_k0_cells, .int h_k0_size])), (h_k0_cells, .inl (cI, 64, .inl h_k0_cells_f)), (h_k1, .inr (5, [.ref h_k1_cells, .int h_k1_size])), (h_k1_cells, .inl (cI, 64, .inl h_k1_cells_f)), (h_k2, .inr (5, [.ref h_k2_cells, .int h_k2_size])), (h_k2_cells, .inl (cI, 64, .inl h_k2_cells_f)), (h_k3, .inr (5, [.ref h_k3_cells, .int h_k3_size])), (h_k3_cells, .inl (cI, 64, .inl h_k3_cells_f)), (p1, .inr (5, [.ref p1_cells, .int z.2.2])), (p1_cells, .inl (cI, 64, .inl z.2.1))])) 0 0 (va_A [(h, .inr (0, [.ref h_kept, .int 2])), (h_kept, .inl (cT, 4, .inr (.inr (.inr (.inr (kf [h_k0, h_k1, h_k2, h_k3])))))), (h_k0, .inr (5, [.ref h_k0_cells, .int h_k0_size])), (h_k0_cells, .inl (cI, 64, .inl h_k0_cells_f)), (h_k1, .inr (5, [.ref h_k1_cells, .int h_k1_size])), (h_k1_cells, .inl (cI, 64, .inl h_k1_cells_f)), (h_k2, .inr (5, [.ref h_k2_cells, .int h_k2_size])), (h_k2_cells, .inl (cI, 64, .inl h_k2_cells_f)), (h_k3, .inr (5, [.ref h_k3_cells, .int h_k3_size])), (h_k3_cells, .inl (cI, 64, .inl h_k3_cells_f)), (p1, .inr (5, [.ref p1_cells, .int p1_size])), (p1_cells, .inl (cI, 64, .inl p1_cells_f))] sz) := by
  refine Met.ofW (cc := cX0_takeBack) (maxL := 3) (ret := (some .boolean)) (by decide) rfl ?_
  intro p e s m args below meth c s₁ B hml hv
  obtain ⟨rfl, hsz, hP, hE, hD0⟩ := hv
  have hx := B.exec
  have hb := B.bytes
  have hr := B.returns
  have hts := atoms_spec (ws := wsX0_takeBack) B.pre
  have hown : s.vm.findClass RX0 = some m.cls := findClass_of_methodNamed B.named
  have hlocks := B.notSynchronized
  have hK := hE.1
  have hcf : CallFix p m c cX0_takeBack 3 s ([.ref h, .ref p1] : List Value).toArray wsX0_takeBack RX0 := ⟨hx, hb, hml, hown, hts⟩
  subst hsz
  have hD := hD0.self (sz := s.heap.size)
  generalize hAe : va_A [(h, .inr (0, [.ref h_kept, .int 2])), (h_kept, .inl (cT, 4, .inr (.inr (.inr (.inr (kf [h_k0, h_k1, h_k2, h_k3])))))), (h_k0, .inr (5, [.ref h_k0_cells, .int h_k0_size])), (h_k0_cells, .inl (cI, 64, .inl h_k0_cells_f)), (h_k1, .inr (5, [.ref h_k1_cells, .int h_k1_size])), (h_k1_cells, .inl (cI, 64, .inl h_k1_cells_f)), (h_k2, .inr (5, [.ref h_k2_cells, .int h_k2_size])), (h_k2_cells, .inl (cI, 64, .inl h_k2_cells_f)), (h_k3, .inr (5, [.ref h_k3_cells, .int h_k3_size])), (h_k3_cells, .inl (cI, 64, .inl h_k3_cells_f)), (p1, .inr (5, [.ref p1_cells, .int p1_size])), (p1_cells, .inl (cI, 64, .inl p1_cells_f))] s.heap.size = A at hD ⊢
  have hA : ∀ q : Nat, s.heap.size ≤ q → A q := fun q h => by rw [← hAe]; exact Or.inr h
  have hS : va_S A s.heap s.heap [] := va_S.rf
  have hP : va_P D vwCl [(h, .inr (0, [.ref h_kept, .int 2])), (h_kept, .inl (cT, 4, .inr (.inr (.inr (.inr (kf [h_k0, h_k1, h_k2, h_k3])))))), (h_k0, .inr (5, [.ref h_k0_cells, .int h_k0_size])), (h_k0_cells, .inl (cI, 64, .inl h_k0_cells_f)), (h_k1, .inr (5, [.ref h_k1_cells, .int h_k1_size])), (h_k1_cells, .inl (cI, 64, .inl h_k1_cells_f)), (h_k2, .inr (5, [.ref h_k2_cells, .int h_k2_size])), (h_k2_cells, .inl (cI, 64, .inl h_k2_cells_f)), (h_k3, .inr (5, [.ref h_k3_cells, .int h_k3_size])), (h_k3_cells, .inl (cI, 64, .inl h_k3_cells_f)), (p1, .inr (5, [.ref p1_cells, .int p1_size])), (p1_cells, .inl (cI, 64, .inl p1_cells_f))] s.heap := hP
  have hf_16 := hts (.fieldLink RX0 16 "CrookedSums$History" "states" "I") (by decide +kernel)
  have hi_X0 := (show ∀ w ∈ u_ws RX0 TX0 2, w ∈ wsX0_takeBack from by decide +kernel)
  have hl := lv_entry ([.ref h, .ref p1]) (n := 3) (Nat.le_of_ble_eq_true rfl)
  rw [lg_entry_eq]
  generalize (lg_sl ([.ref h, .ref p1]) ++ List.replicate (3 - (lg_sl ([.ref h, .ref p1])).length) Slot.unset).toArray = ls at hl ⊢
  have hl : lv_has ls 3 [(0, .ref h), (1, .ref p1)] := hl
  unfold mX0_takeBack_2 at h0
  refine lv_aload_n hx hb dX0_takeBack_0 rfl (lv_at hl 0 rfl) ?_
  refine lv_aload_n hx hb dX0_takeBack_1 rfl (lv_at hl 0 rfl) ?_
  refine va_get (D := D) (ci := 0) (v := .int 2) (C := RX0) (T := TX0) (N := 2) hx hb hts hi_X0 hown hK hP 0 rfl rfl 1 (by decide) hf_16 (fun _ h9 => h9) rfl dX0_takeBack_2 ?_
  refine lv_iconst (v := 1) hx hb dX0_takeBack_5 (by decide) ?_
  refine lv_isub hx hb dX0_takeBack_6 ?_
  refine cv_top (show ((2 : Int32) - 1) = 1 from by decide) ?_
  obtain ⟨z_1, hz, h0⟩ := bd_ok h0
  refine ro_V (As := [.int 1]) (rest := []) (wc := [(h, .inr (0, [.ref h_kept, .int 2])), (h_kept, .inl (cT, 4, .inr (.inr (.inr (.inr (kf [h_k0, h_k1, h_k2, h_k3])))))), (h_k0, .inr (5, [.ref h_k0_cells, .int h_k0_size])), (h_k0_cells, .inl (cI, 64, .inl h_k0_cells_f)), (h_k1, .inr (5, [.ref h_k1_cells, .int h_k1_size])), (h_k1_cells, .inl (cI, 64, .inl h_k1_cells_f)), (h_k2, .inr (5, [.ref h_k2_cells, .int h_k2_size])), (h_k2_cells, .inl (cI, 64, .inl h_k2_cells_f)), (h_k3, .inr (5, [.ref h_k3_cells, .int h_k3_size])), (h_k3_cells, .inl (cI, 64, .inl h_k3_cells_f))]) hcf (kX0_stateAt_1 l D cI cC cT h h_kept h_k0 h_k0_cells h_k1 h_k1_cells h_k2 h_k2_cells h_k3 h_k3_cells h_k0_cells_f h_k0_size h_k1_cells_f h_k1_size h_k2_cells_f h_k2_size h_k3_cells_f h_k3_size 2 z_1 hz) (cwV 1 hts gX0_takeBack_X0_stateAt rfl rfl rfl (by decide +kernel) ⟨Nat.le_of_ble_eq_true rfl, Nat.le_of_ble_eq_true rfl⟩) hE (hP.sub [0, 1, 2, 3, 4, 5, 6, 7, 8, 9] rfl) (va_recv hK hP (ci := 0) (q0 := 0) rfl rfl) rfl hl.1 rfl (Nat.le_of_ble_eq_true rfl) dX0_takeBack_7 ⟨Nat.le_of_ble_eq_true rfl, Nat.le_of_ble_eq_true rfl⟩ ?_
  refine W.eq (g2 := F0 m 10 ls [.ref h_k1]) rfl ?_
  refine lv_astore_n (lv' := [(2, .ref h_k1), (0, .ref h), (1, .ref p1)]) hx hb dX0_takeBack_10 rfl hl (by decide) rfl (fun ls hl => ?_)
  refine lv_aload_n hx hb dX0_takeBack_11 rfl (lv_at hl 0 rfl) ?_
  refine lv_ifnonnull (tgt := 17) hx hb dX0_takeBack_12 (by decide) ?_
  refine lv_aload_n hx hb dX0_takeBack_17 rfl (lv_at hl 2 rfl) ?_
  refine lv_aload_n hx hb dX0_takeBack_18 rfl (lv_at hl 0 rfl) ?_
  obtain ⟨z_2, hz, h0⟩ := bd_ok h0
  refine wr_V (As := [.ref h_k1]) (rest := []) (wc := [(p1, .inr (5, [.ref p1_cells, .int p1_size])), (p1_cells, .inl (cI, 64, .inl p1_cells_f)), (h_k1, .inr (5, [.ref h_k1_cells, .int h_k1_size])), (h_k1_cells, .inl (cI, 64, .inl h_k1_cells_f))]) (wr := [(h, .inr (0, [.ref h_kept, .int 2])), (h_kept, .inl (cT, 4, .inr (.inr (.inr (.inr (kf [h_k0, h_k1, h_k2, h_k3])))))), (h_k0, .inr (5, [.ref h_k0_cells, .int h_k0_size])), (h_k0_cells, .inl (cI, 64, .inl h_k0_cells_f)), (h_k2, .inr (5, [.ref h_k2_cells, .int h_k2_size])), (h_k2_cells, .inl (cI, 64, .inl h_k2_cells_f)), (h_k3, .inr (5, [.ref h_k3_cells, .int h_k3_size])), (h_k3_cells, .inl (cI, 64, .inl h_k3_cells_f))]) hcf (kX6_copyFrom l D cI cC cT p1 p1_cells h_k1 h_k1_cells p1_cells_f p1_size h_k1_cells_f h_k1_size _ z_2 hz) (cwV 1 hts gX0_takeBack_X6_copyFrom rfl rfl rfl (by decide +kernel) ⟨Nat.le_of_ble_eq_true rfl, Nat.le_of_ble_eq_true rfl⟩) hE hP hD hS hA [10, 11, 4, 5] [0, 1, 2, 3, 6, 7, 8, 9] (hP.sub [10, 11, 4, 5] rfl) (hD.sub [10, 11, 4, 5] (by decide) rfl) (va_recv hK hP (ci := 5) (q0 := 10) rfl rfl) rfl rfl (by decide) (by decide) rfl hl.1 rfl (Nat.le_of_ble_eq_true rfl) dX0_takeBack_19 ⟨Nat.le_of_ble_eq_true rfl, Nat.le_of_ble_eq_true rfl⟩ (fun u H locs hP hD hS => ?_)
  have hP : va_P D vwCl [(h, .inr (0, [.ref h_kept, .int 2])), (h_kept, .inl (cT, 4, .inr (.inr (.inr (.inr (kf [h_k0, h_k1, h_k2, h_k3])))))), (h_k0, .inr (5, [.ref h_k0_cells, .int h_k0_size])), (h_k0_cells, .inl (cI, 64, .inl h_k0_cells_f)), (h_k2, .inr (5, [.ref h_k2_cells, .int h_k2_size])), (h_k2_cells, .inl (cI, 64, .inl h_k2_cells_f)), (h_k3, .inr (5, [.ref h_k3_cells, .int h_k3_size])), (h_k3_cells, .inl (cI, 64, .inl h_k3_cells_f)), (p1, .inr (5, [.ref p1_cells, .int z_2.2])), (p1_cells, .inl (cI, 64, .inl z_2.1)), (h_k1, .inr (5, [.ref h_k1_cells, .int h_k1_size])), (h_k1_cells, .inl (cI, 64, .inl h_k1_cells_f))] H := hP
  have hD : va_D A [(h, .inr (0, [.ref h_kept, .int 2])), (h_kept, .inl (cT, 4, .inr (.inr (.inr (.inr (kf [h_k0, h_k1, h_k2, h_k3])))))), (h_k0, .inr (5, [.ref h_k0_cells, .int h_k0_size])), (h_k0_cells, .inl (cI, 64, .inl h_k0_cells_f)), (h_k2, .inr (5, [.ref h_k2_cells, .int h_k2_size])), (h_k2_cells, .inl (cI, 64, .inl h_k2_cells_f)), (h_k3, .inr (5, [.ref h_k3_cells, .int h_k3_size])), (h_k3_cells, .inl (cI, 64, .inl h_k3_cells_f)), (p1, .inr (5, [.ref p1_cells, .int z_2.2])), (p1_cells, .inl (cI, 64, .inl z_2.1)), (h_k1, .inr (5, [.ref h_k1_cells, .int h_k1_size])), (h_k1_cells, .inl (cI, 64, .inl h_k1_cells_f))] := hD
  refine W.eq (g2 := F0 m 22 ls []) rfl ?_
  refine lv_aload_n hx hb dX0_takeBack_22 rfl (lv_at hl 1 rfl) ?_
  refine lv_dup hx hb dX0_takeBack_23 rfl ?_
  refine va_get (D := D) (ci := 0) (v := .int 2) (C := RX0) (T := TX0) (N := 2) hx hb hts hi_X0 hown hK hP 0 rfl rfl 1 (by decide) hf_16 (fun _ h9 => h9) rfl dX0_takeBack_24 ?_
  refine lv_iconst (v := 1) hx hb dX0_takeBack_27 (by decide) ?_
  refine lv_isub hx hb dX0_takeBack_28 ?_
  refine cv_top (show ((2 : Int32) - 1) = 1 from by decide) ?_
  refine va_put (D := D) (ci := 0) (v := .int 1) (ty := .int) (C := RX0) (T := TX0) (N := 2) hx hb hts hi_X0 tyX0 tyX0_ok nmX0 hown hK hP hD hS 0 rfl rfl 1 (by decide) hf_16 (fun _ h9 => h9) rfl (by decide +kernel) rfl rfl (Nat.le_of_ble_eq_true rfl) dX0_takeBack_29 (fun H locs hP hD hS => ?_)
  have hP : va_P D vwCl [(h, .inr (0, [.ref h_kept, .int 1])), (h_kept, .inl (cT, 4, .inr (.inr (.inr (.inr (kf [h_k0, h_k1, h_k2, h_k3])))))), (h_k0, .inr (5, [.ref h_k0_cells, .int h_k0_size])), (h_k0_cells, .inl (cI, 64, .inl h_k0_cells_f)), (h_k2, .inr (5, [.ref h_k2_cells, .int h_k2_size])), (h_k2_cells, .inl (cI, 64, .inl h_k2_cells_f)), (h_k3, .inr (5, [.ref h_k3_cells, .int h_k3_size])), (h_k3_cells, .inl (cI, 64, .inl h_k3_cells_f)), (p1, .inr (5, [.ref p1_cells, .int z_2.2])), (p1_cells, .inl (cI, 64, .inl z_2.1)), (h_k1, .inr (5, [.ref h_k1_cells, .int h_k1_size])), (h_k1_cells, .inl (cI, 64, .inl h_k1_cells_f))] H := hP
  have hD : va_D A [(h, .inr (0, [.ref h_kept, .int 1])), (h_kept, .inl (cT, 4, .inr (.inr (.inr (.inr (kf [h_k0, h_k1, h_k2, h_k3])))))), (h_k0, .inr (5, [.ref h_k0_cells, .int h_k0_size])), (h_k0_cells, .inl (cI, 64, .inl h_k0_cells_f)), (h_k2, .inr (5, [.ref h_k2_cells, .int h_k2_size])), (h_k2_cells, .inl (cI, 64, .inl h_k2_cells_f)), (h_k3, .inr (5, [.ref h_k3_cells, .int h_k3_size])), (h_k3_cells, .inl (cI, 64, .inl h_k3_cells_f)), (p1, .inr (5, [.ref p1_cells, .int z_2.2])), (p1_cells, .inl (cI, 64, .inl z_2.1)), (h_k1, .inr (5, [.ref h_k1_cells, .int h_k1_size])), (h_k1_cells, .inl (cI, 64, .inl h_k1_cells_f))] := hD
  refine lv_iconst (v := 1) hx hb dX0_takeBack_32 (by decide) ?_
  have e0 := Option.some.inj h0
  subst e0
  exact W.zret (ty := .boolean) (v := 1) hx hb hr rfl (fun t ht hW => wr_end () ht (hP.sub [0, 1, 2, 3, 10, 11, 4, 5, 6, 7, 8, 9] rfl) (hD.sub [0, 1, 2, 3, 10, 11, 4, 5, 6, 7, 8, 9] (by decide) rfl) hS) hS.2.2 dX0_takeBack_33
noncomputable def mX0_takeBack_3 (h_k2_cells_f : Nat → Int32) (h_k2_size : Int32) (p1_cells_f : Nat → Int32) : Option (Int32 × (Nat → Int32) × Int32) :=
  bd (mX0_stateAt_2) (fun z_1 => bd (mX6_copyFrom p1_cells_f h_k2_cells_f h_k2_size) (fun z_2 => some (1, z_2.1, z_2.2)))
set_option maxHeartbeats 8000000 in
set_option maxRecDepth 100000 in
theorem kX0_takeBack_3 (l : Launch) (D : va_G) (cI cC cT : ClassId) (h h_kept h_k0 h_k0_cells h_k1 h_k1_cells h_k2 h_k2_cells h_k3 h_k3_cells p1 p1_cells : Nat) (h_k0_cells_f : Nat → Int32) (h_k0_size : Int32) (h_k1_cells_f : Nat → Int32) (h_k1_size : Int32) (h_k2_cells_f : Nat → Int32) (h_k2_size : Int32) (h_k3_cells_f : Nat → Int32) (h_k3_size : Int32) (p1_cells_f : Nat → Int32) (p1_size : Int32) (sz : Nat) (z : Int32 × (Nat → Int32) × Int32) (h0 : mX0_takeBack_3 h_k2_cells_f h_k2_size p1_cells_f = some z) : Met l yX0_takeBack wsX0_takeBack ({ frames := 2, cells := 0, slots := 0, locals := 44 } : Room) (va_Pc [.ref h, .ref p1] (wP D cI cC cT [(h, .inr (0, [.ref h_kept, .int 3])), (h_kept, .inl (cT, 4, .inr (.inr (.inr (.inr (kf [h_k0, h_k1, h_k2, h_k3])))))), (h_k0, .inr (5, [.ref h_k0_cells, .int h_k0_size])), (h_k0_cells, .inl (cI, 64, .inl h_k0_cells_f)), (h_k1, .inr (5, [.ref h_k1_cells, .int h_k1_size])), (h_k1_cells, .inl (cI, 64, .inl h_k1_cells_f)), (h_k2, .inr (5, [.ref h_k2_cells, .int h_k2_size])), (h_k2_cells, .inl (cI, 64, .inl h_k2_cells_f)), (h_k3, .inr (5, [.ref h_k3_cells, .int h_k3_size])), (h_k3_cells, .inl (cI, 64, .inl h_k3_cells_f)), (p1, .inr (5, [.ref p1_cells, .int p1_size])), (p1_cells, .inl (cI, 64, .inl p1_cells_f))] sz)) (wQ D (some (.int z.1)) (va_A [(h, .inr (0, [.ref h_kept, .int 3])), (h_kept, .inl (cT, 4, .inr (.inr (.inr (.inr (kf [h_k0, h_k1, h_k2, h_k3])))))), (h_k0, .inr (5, [.ref h_k0_cells, .int h_k0_size])), (h_k0_cells, .inl (cI, 64, .inl h_k0_cells_f)), (h_k1, .inr (5, [.ref h_k1_cells, .int h_k1_size])), (h_k1_cells, .inl (cI, 64, .inl h_k1_cells_f)), (h_k2, .inr (5, [.ref h_k2_cells, .int h_k2_size])), (h_k2_cells, .inl (cI, 64, .inl h_k2_cells_f)), (h_k3, .inr (5, [.ref h_k3_cells, .int h_k3_size])), (h_k3_cells, .inl (cI, 64, .inl h_k3_cells_f)), (p1, .inr (5, [.ref p1_cells, .int p1_size])), (p1_cells, .inl (cI, 64, .inl p1_cells_f))] sz) (fun (u : Unit) => [(h, .inr (0, [.ref h_kept, .int 2])), (h_kept, .inl (cT, 4, .inr (.inr (.inr (.inr (kf [h_k0, h_k1, h_k2, h_k3])))))), (h_k0, .inr (5, [.ref h_k0_cells, .int h_k0_size])), (h_k0_cells, .inl (cI, 64, .inl h_k0_cells_f)), (h_k1, .inr (5, [.ref h_k1_cells, .int h_k1_size])), (h_k1_cells, .inl (cI, 64, .inl h_k1_cells_f)), (h_k2, .inr (5, [.ref h_k2_cells, .int h_k2_size])), (h_k2_cells, .inl (cI, 64, .inl h_k2_cells_f)), (h_k3, .inr (5, [.ref h_k3_cells, .int h_k3_size])), (h_k3_cells, .inl (cI, 64, .inl h_k3_cells_f)), (p1, .inr (5, [.ref p1_cells, .int z.2.2])), (p1_cells, .inl (cI, 64, .inl z.2.1))])) 0 0 (va_A [(h, .inr (0, [.ref h_kept, .int 3])), (h_kept, .inl (cT, 4, .inr (.inr (.inr (.inr (kf [h_k0, h_k1, h_k2, h_k3])))))), (h_k0, .inr (5, [.ref h_k0_cells, .int h_k0_size])), (h_k0_cells, .inl (cI, 64, .inl h_k0_cells_f)), (h_k1, .inr (5, [.ref h_k1_cells, .int h_k1_size])), (h_k1_cells, .inl (cI, 64, .inl h_k1_cells_f)), (h_k2, .inr (5, [.ref h_k2_cells, .int h_k2_size])), (h_k2_cells, .inl (cI, 64, .inl h_k2_cells_f)), (h_k3, .inr (5, [.ref h_k3_cells, .int h_k3_size])), (h_k3_cells, .inl (cI, 64, .inl h_k3_cells_f)), (p1, .inr (5, [.ref p1_cells, .int p1_size])), (p1_cells, .inl (cI, 64, .inl p1_cells_f))] sz) := by
  refine Met.ofW (cc := cX0_takeBack) (maxL := 3) (ret := (some .boolean)) (by decide) rfl ?_
  intro p e s m args below meth c s₁ B hml hv
  obtain ⟨rfl, hsz, hP, hE, hD0⟩ := hv
  have hx := B.exec
  have hb := B.bytes
  have hr := B.returns
  have hts := atoms_spec (ws := wsX0_takeBack) B.pre
  have hown : s.vm.findClass RX0 = some m.cls := findClass_of_methodNamed B.named
  have hlocks := B.notSynchronized
  have hK := hE.1
  have hcf : CallFix p m c cX0_takeBack 3 s ([.ref h, .ref p1] : List Value).toArray wsX0_takeBack RX0 := ⟨hx, hb, hml, hown, hts⟩
  subst hsz
  have hD := hD0.self (sz := s.heap.size)
  generalize hAe : va_A [(h, .inr (0, [.ref h_kept, .int 3])), (h_kept, .inl (cT, 4, .inr (.inr (.inr (.inr (kf [h_k0, h_k1, h_k2, h_k3])))))), (h_k0, .inr (5, [.ref h_k0_cells, .int h_k0_size])), (h_k0_cells, .inl (cI, 64, .inl h_k0_cells_f)), (h_k1, .inr (5, [.ref h_k1_cells, .int h_k1_size])), (h_k1_cells, .inl (cI, 64, .inl h_k1_cells_f)), (h_k2, .inr (5, [.ref h_k2_cells, .int h_k2_size])), (h_k2_cells, .inl (cI, 64, .inl h_k2_cells_f)), (h_k3, .inr (5, [.ref h_k3_cells, .int h_k3_size])), (h_k3_cells, .inl (cI, 64, .inl h_k3_cells_f)), (p1, .inr (5, [.ref p1_cells, .int p1_size])), (p1_cells, .inl (cI, 64, .inl p1_cells_f))] s.heap.size = A at hD ⊢
  have hA : ∀ q : Nat, s.heap.size ≤ q → A q := fun q h => by rw [← hAe]; exact Or.inr h
  have hS : va_S A s.heap s.heap [] := va_S.rf
  have hP : va_P D vwCl [(h, .inr (0, [.ref h_kept, .int 3])), (h_kept, .inl (cT, 4, .inr (.inr (.inr (.inr (kf [h_k0, h_k1, h_k2, h_k3])))))), (h_k0, .inr (5, [.ref h_k0_cells, .int h_k0_size])), (h_k0_cells, .inl (cI, 64, .inl h_k0_cells_f)), (h_k1, .inr (5, [.ref h_k1_cells, .int h_k1_size])), (h_k1_cells, .inl (cI, 64, .inl h_k1_cells_f)), (h_k2, .inr (5, [.ref h_k2_cells, .int h_k2_size])), (h_k2_cells, .inl (cI, 64, .inl h_k2_cells_f)), (h_k3, .inr (5, [.ref h_k3_cells, .int h_k3_size])), (h_k3_cells, .inl (cI, 64, .inl h_k3_cells_f)), (p1, .inr (5, [.ref p1_cells, .int p1_size])), (p1_cells, .inl (cI, 64, .inl p1_cells_f))] s.heap := hP
  have hf_16 := hts (.fieldLink RX0 16 "CrookedSums$History" "states" "I") (by decide +kernel)
  have hi_X0 := (show ∀ w ∈ u_ws RX0 TX0 2, w ∈ wsX0_takeBack from by decide +kernel)
  have hl := lv_entry ([.ref h, .ref p1]) (n := 3) (Nat.le_of_ble_eq_true rfl)
  rw [lg_entry_eq]
  generalize (lg_sl ([.ref h, .ref p1]) ++ List.replicate (3 - (lg_sl ([.ref h, .ref p1])).length) Slot.unset).toArray = ls at hl ⊢
  have hl : lv_has ls 3 [(0, .ref h), (1, .ref p1)] := hl
  unfold mX0_takeBack_3 at h0
  refine lv_aload_n hx hb dX0_takeBack_0 rfl (lv_at hl 0 rfl) ?_
  refine lv_aload_n hx hb dX0_takeBack_1 rfl (lv_at hl 0 rfl) ?_
  refine va_get (D := D) (ci := 0) (v := .int 3) (C := RX0) (T := TX0) (N := 2) hx hb hts hi_X0 hown hK hP 0 rfl rfl 1 (by decide) hf_16 (fun _ h9 => h9) rfl dX0_takeBack_2 ?_
  refine lv_iconst (v := 1) hx hb dX0_takeBack_5 (by decide) ?_
  refine lv_isub hx hb dX0_takeBack_6 ?_
  refine cv_top (show ((3 : Int32) - 1) = 2 from by decide) ?_
  obtain ⟨z_1, hz, h0⟩ := bd_ok h0
  refine ro_V (As := [.int 2]) (rest := []) (wc := [(h, .inr (0, [.ref h_kept, .int 3])), (h_kept, .inl (cT, 4, .inr (.inr (.inr (.inr (kf [h_k0, h_k1, h_k2, h_k3])))))), (h_k0, .inr (5, [.ref h_k0_cells, .int h_k0_size])), (h_k0_cells, .inl (cI, 64, .inl h_k0_cells_f)), (h_k1, .inr (5, [.ref h_k1_cells, .int h_k1_size])), (h_k1_cells, .inl (cI, 64, .inl h_k1_cells_f)), (h_k2, .inr (5, [.ref h_k2_cells, .int h_k2_size])), (h_k2_cells, .inl (cI, 64, .inl h_k2_cells_f)), (h_k3, .inr (5, [.ref h_k3_cells, .int h_k3_size])), (h_k3_cells, .inl (cI, 64, .inl h_k3_cells_f))]) hcf (kX0_stateAt_2 l D cI cC cT h h_kept h_k0 h_k0_cells h_k1 h_k1_cells h_k2 h_k2_cells h_k3 h_k3_cells h_k0_cells_f h_k0_size h_k1_cells_f h_k1_size h_k2_cells_f h_k2_size h_k3_cells_f h_k3_size 3 z_1 hz) (cwV 1 hts gX0_takeBack_X0_stateAt rfl rfl rfl (by decide +kernel) ⟨Nat.le_of_ble_eq_true rfl, Nat.le_of_ble_eq_true rfl⟩) hE (hP.sub [0, 1, 2, 3, 4, 5, 6, 7, 8, 9] rfl) (va_recv hK hP (ci := 0) (q0 := 0) rfl rfl) rfl hl.1 rfl (Nat.le_of_ble_eq_true rfl) dX0_takeBack_7 ⟨Nat.le_of_ble_eq_true rfl, Nat.le_of_ble_eq_true rfl⟩ ?_
  refine W.eq (g2 := F0 m 10 ls [.ref h_k2]) rfl ?_
  refine lv_astore_n (lv' := [(2, .ref h_k2), (0, .ref h), (1, .ref p1)]) hx hb dX0_takeBack_10 rfl hl (by decide) rfl (fun ls hl => ?_)
  refine lv_aload_n hx hb dX0_takeBack_11 rfl (lv_at hl 0 rfl) ?_
  refine lv_ifnonnull (tgt := 17) hx hb dX0_takeBack_12 (by decide) ?_
  refine lv_aload_n hx hb dX0_takeBack_17 rfl (lv_at hl 2 rfl) ?_
  refine lv_aload_n hx hb dX0_takeBack_18 rfl (lv_at hl 0 rfl) ?_
  obtain ⟨z_2, hz, h0⟩ := bd_ok h0
  refine wr_V (As := [.ref h_k2]) (rest := []) (wc := [(p1, .inr (5, [.ref p1_cells, .int p1_size])), (p1_cells, .inl (cI, 64, .inl p1_cells_f)), (h_k2, .inr (5, [.ref h_k2_cells, .int h_k2_size])), (h_k2_cells, .inl (cI, 64, .inl h_k2_cells_f))]) (wr := [(h, .inr (0, [.ref h_kept, .int 3])), (h_kept, .inl (cT, 4, .inr (.inr (.inr (.inr (kf [h_k0, h_k1, h_k2, h_k3])))))), (h_k0, .inr (5, [.ref h_k0_cells, .int h_k0_size])), (h_k0_cells, .inl (cI, 64, .inl h_k0_cells_f)), (h_k1, .inr (5, [.ref h_k1_cells, .int h_k1_size])), (h_k1_cells, .inl (cI, 64, .inl h_k1_cells_f)), (h_k3, .inr (5, [.ref h_k3_cells, .int h_k3_size])), (h_k3_cells, .inl (cI, 64, .inl h_k3_cells_f))]) hcf (kX6_copyFrom l D cI cC cT p1 p1_cells h_k2 h_k2_cells p1_cells_f p1_size h_k2_cells_f h_k2_size _ z_2 hz) (cwV 1 hts gX0_takeBack_X6_copyFrom rfl rfl rfl (by decide +kernel) ⟨Nat.le_of_ble_eq_true rfl, Nat.le_of_ble_eq_true rfl⟩) hE hP hD hS hA [10, 11, 6, 7] [0, 1, 2, 3, 4, 5, 8, 9] (hP.sub [10, 11, 6, 7] rfl) (hD.sub [10, 11, 6, 7] (by decide) rfl) (va_recv hK hP (ci := 5) (q0 := 10) rfl rfl) rfl rfl (by decide) (by decide) rfl hl.1 rfl (Nat.le_of_ble_eq_true rfl) dX0_takeBack_19 ⟨Nat.le_of_ble_eq_true rfl, Nat.le_of_ble_eq_true rfl⟩ (fun u H locs hP hD hS => ?_)
  have hP : va_P D vwCl [(h, .inr (0, [.ref h_kept, .int 3])), (h_kept, .inl (cT, 4, .inr (.inr (.inr (.inr (kf [h_k0, h_k1, h_k2, h_k3])))))), (h_k0, .inr (5, [.ref h_k0_cells, .int h_k0_size])), (h_k0_cells, .inl (cI, 64, .inl h_k0_cells_f)), (h_k1, .inr (5, [.ref h_k1_cells, .int h_k1_size])), (h_k1_cells, .inl (cI, 64, .inl h_k1_cells_f)), (h_k3, .inr (5, [.ref h_k3_cells, .int h_k3_size])), (h_k3_cells, .inl (cI, 64, .inl h_k3_cells_f)), (p1, .inr (5, [.ref p1_cells, .int z_2.2])), (p1_cells, .inl (cI, 64, .inl z_2.1)), (h_k2, .inr (5, [.ref h_k2_cells, .int h_k2_size])), (h_k2_cells, .inl (cI, 64, .inl h_k2_cells_f))] H := hP
  have hD : va_D A [(h, .inr (0, [.ref h_kept, .int 3])), (h_kept, .inl (cT, 4, .inr (.inr (.inr (.inr (kf [h_k0, h_k1, h_k2, h_k3])))))), (h_k0, .inr (5, [.ref h_k0_cells, .int h_k0_size])), (h_k0_cells, .inl (cI, 64, .inl h_k0_cells_f)), (h_k1, .inr (5, [.ref h_k1_cells, .int h_k1_size])), (h_k1_cells, .inl (cI, 64, .inl h_k1_cells_f)), (h_k3, .inr (5, [.ref h_k3_cells, .int h_k3_size])), (h_k3_cells, .inl (cI, 64, .inl h_k3_cells_f)), (p1, .inr (5, [.ref p1_cells, .int z_2.2])), (p1_cells, .inl (cI, 64, .inl z_2.1)), (h_k2, .inr (5, [.ref h_k2_cells, .int h_k2_size])), (h_k2_cells, .inl (cI, 64, .inl h_k2_cells_f))] := hD
  refine W.eq (g2 := F0 m 22 ls []) rfl ?_
  refine lv_aload_n hx hb dX0_takeBack_22 rfl (lv_at hl 1 rfl) ?_
  refine lv_dup hx hb dX0_takeBack_23 rfl ?_
  refine va_get (D := D) (ci := 0) (v := .int 3) (C := RX0) (T := TX0) (N := 2) hx hb hts hi_X0 hown hK hP 0 rfl rfl 1 (by decide) hf_16 (fun _ h9 => h9) rfl dX0_takeBack_24 ?_
  refine lv_iconst (v := 1) hx hb dX0_takeBack_27 (by decide) ?_
  refine lv_isub hx hb dX0_takeBack_28 ?_
  refine cv_top (show ((3 : Int32) - 1) = 2 from by decide) ?_
  refine va_put (D := D) (ci := 0) (v := .int 2) (ty := .int) (C := RX0) (T := TX0) (N := 2) hx hb hts hi_X0 tyX0 tyX0_ok nmX0 hown hK hP hD hS 0 rfl rfl 1 (by decide) hf_16 (fun _ h9 => h9) rfl (by decide +kernel) rfl rfl (Nat.le_of_ble_eq_true rfl) dX0_takeBack_29 (fun H locs hP hD hS => ?_)
  have hP : va_P D vwCl [(h, .inr (0, [.ref h_kept, .int 2])), (h_kept, .inl (cT, 4, .inr (.inr (.inr (.inr (kf [h_k0, h_k1, h_k2, h_k3])))))), (h_k0, .inr (5, [.ref h_k0_cells, .int h_k0_size])), (h_k0_cells, .inl (cI, 64, .inl h_k0_cells_f)), (h_k1, .inr (5, [.ref h_k1_cells, .int h_k1_size])), (h_k1_cells, .inl (cI, 64, .inl h_k1_cells_f)), (h_k3, .inr (5, [.ref h_k3_cells, .int h_k3_size])), (h_k3_cells, .inl (cI, 64, .inl h_k3_cells_f)), (p1, .inr (5, [.ref p1_cells, .int z_2.2])), (p1_cells, .inl (cI, 64, .inl z_2.1)), (h_k2, .inr (5, [.ref h_k2_cells, .int h_k2_size])), (h_k2_cells, .inl (cI, 64, .inl h_k2_cells_f))] H := hP
  have hD : va_D A [(h, .inr (0, [.ref h_kept, .int 2])), (h_kept, .inl (cT, 4, .inr (.inr (.inr (.inr (kf [h_k0, h_k1, h_k2, h_k3])))))), (h_k0, .inr (5, [.ref h_k0_cells, .int h_k0_size])), (h_k0_cells, .inl (cI, 64, .inl h_k0_cells_f)), (h_k1, .inr (5, [.ref h_k1_cells, .int h_k1_size])), (h_k1_cells, .inl (cI, 64, .inl h_k1_cells_f)), (h_k3, .inr (5, [.ref h_k3_cells, .int h_k3_size])), (h_k3_cells, .inl (cI, 64, .inl h_k3_cells_f)), (p1, .inr (5, [.ref p1_cells, .int z_2.2])), (p1_cells, .inl (cI, 64, .inl z_2.1)), (h_k2, .inr (5, [.ref h_k2_cells, .int h_k2_size])), (h_k2_cells, .inl (cI, 64, .inl h_k2_cells_f))] := hD
  refine lv_iconst (v := 1) hx hb dX0_takeBack_32 (by decide) ?_
  have e0 := Option.some.inj h0
  subst e0
  exact W.zret (ty := .boolean) (v := 1) hx hb hr rfl (fun t ht hW => wr_end () ht (hP.sub [0, 1, 2, 3, 4, 5, 10, 11, 6, 7, 8, 9] rfl) (hD.sub [0, 1, 2, 3, 4, 5, 10, 11, 6, 7, 8, 9] (by decide) rfl) hS) hS.2.2 dX0_takeBack_33
noncomputable def mX0_takeBack_4 (h_k3_cells_f : Nat → Int32) (h_k3_size : Int32) (p1_cells_f : Nat → Int32) : Option (Int32 × (Nat → Int32) × Int32) :=
  bd (mX0_stateAt_3) (fun z_1 => bd (mX6_copyFrom p1_cells_f h_k3_cells_f h_k3_size) (fun z_2 => some (1, z_2.1, z_2.2)))
set_option maxHeartbeats 8000000 in
set_option maxRecDepth 100000 in
theorem kX0_takeBack_4 (l : Launch) (D : va_G) (cI cC cT : ClassId) (h h_kept h_k0 h_k0_cells h_k1 h_k1_cells h_k2 h_k2_cells h_k3 h_k3_cells p1 p1_cells : Nat) (h_k0_cells_f : Nat → Int32) (h_k0_size : Int32) (h_k1_cells_f : Nat → Int32) (h_k1_size : Int32) (h_k2_cells_f : Nat → Int32) (h_k2_size : Int32) (h_k3_cells_f : Nat → Int32) (h_k3_size : Int32) (p1_cells_f : Nat → Int32) (p1_size : Int32) (sz : Nat) (z : Int32 × (Nat → Int32) × Int32) (h0 : mX0_takeBack_4 h_k3_cells_f h_k3_size p1_cells_f = some z) : Met l yX0_takeBack wsX0_takeBack ({ frames := 2, cells := 0, slots := 0, locals := 44 } : Room) (va_Pc [.ref h, .ref p1] (wP D cI cC cT [(h, .inr (0, [.ref h_kept, .int 4])), (h_kept, .inl (cT, 4, .inr (.inr (.inr (.inr (kf [h_k0, h_k1, h_k2, h_k3])))))), (h_k0, .inr (5, [.ref h_k0_cells, .int h_k0_size])), (h_k0_cells, .inl (cI, 64, .inl h_k0_cells_f)), (h_k1, .inr (5, [.ref h_k1_cells, .int h_k1_size])), (h_k1_cells, .inl (cI, 64, .inl h_k1_cells_f)), (h_k2, .inr (5, [.ref h_k2_cells, .int h_k2_size])), (h_k2_cells, .inl (cI, 64, .inl h_k2_cells_f)), (h_k3, .inr (5, [.ref h_k3_cells, .int h_k3_size])), (h_k3_cells, .inl (cI, 64, .inl h_k3_cells_f)), (p1, .inr (5, [.ref p1_cells, .int p1_size])), (p1_cells, .inl (cI, 64, .inl p1_cells_f))] sz)) (wQ D (some (.int z.1)) (va_A [(h, .inr (0, [.ref h_kept, .int 4])), (h_kept, .inl (cT, 4, .inr (.inr (.inr (.inr (kf [h_k0, h_k1, h_k2, h_k3])))))), (h_k0, .inr (5, [.ref h_k0_cells, .int h_k0_size])), (h_k0_cells, .inl (cI, 64, .inl h_k0_cells_f)), (h_k1, .inr (5, [.ref h_k1_cells, .int h_k1_size])), (h_k1_cells, .inl (cI, 64, .inl h_k1_cells_f)), (h_k2, .inr (5, [.ref h_k2_cells, .int h_k2_size])), (h_k2_cells, .inl (cI, 64, .inl h_k2_cells_f)), (h_k3, .inr (5, [.ref h_k3_cells, .int h_k3_size])), (h_k3_cells, .inl (cI, 64, .inl h_k3_cells_f)), (p1, .inr (5, [.ref p1_cells, .int p1_size])), (p1_cells, .inl (cI, 64, .inl p1_cells_f))] sz) (fun (u : Unit) => [(h, .inr (0, [.ref h_kept, .int 3])), (h_kept, .inl (cT, 4, .inr (.inr (.inr (.inr (kf [h_k0, h_k1, h_k2, h_k3])))))), (h_k0, .inr (5, [.ref h_k0_cells, .int h_k0_size])), (h_k0_cells, .inl (cI, 64, .inl h_k0_cells_f)), (h_k1, .inr (5, [.ref h_k1_cells, .int h_k1_size])), (h_k1_cells, .inl (cI, 64, .inl h_k1_cells_f)), (h_k2, .inr (5, [.ref h_k2_cells, .int h_k2_size])), (h_k2_cells, .inl (cI, 64, .inl h_k2_cells_f)), (h_k3, .inr (5, [.ref h_k3_cells, .int h_k3_size])), (h_k3_cells, .inl (cI, 64, .inl h_k3_cells_f)), (p1, .inr (5, [.ref p1_cells, .int z.2.2])), (p1_cells, .inl (cI, 64, .inl z.2.1))])) 0 0 (va_A [(h, .inr (0, [.ref h_kept, .int 4])), (h_kept, .inl (cT, 4, .inr (.inr (.inr (.inr (kf [h_k0, h_k1, h_k2, h_k3])))))), (h_k0, .inr (5, [.ref h_k0_cells, .int h_k0_size])), (h_k0_cells, .inl (cI, 64, .inl h_k0_cells_f)), (h_k1, .inr (5, [.ref h_k1_cells, .int h_k1_size])), (h_k1_cells, .inl (cI, 64, .inl h_k1_cells_f)), (h_k2, .inr (5, [.ref h_k2_cells, .int h_k2_size])), (h_k2_cells, .inl (cI, 64, .inl h_k2_cells_f)), (h_k3, .inr (5, [.ref h_k3_cells, .int h_k3_size])), (h_k3_cells, .inl (cI, 64, .inl h_k3_cells_f)), (p1, .inr (5, [.ref p1_cells, .int p1_size])), (p1_cells, .inl (cI, 64, .inl p1_cells_f))] sz) := by
  refine Met.ofW (cc := cX0_takeBack) (maxL := 3) (ret := (some .boolean)) (by decide) rfl ?_
  intro p e s m args below meth c s₁ B hml hv
  obtain ⟨rfl, hsz, hP, hE, hD0⟩ := hv
  have hx := B.exec
  have hb := B.bytes
  have hr := B.returns
  have hts := atoms_spec (ws := wsX0_takeBack) B.pre
  have hown : s.vm.findClass RX0 = some m.cls := findClass_of_methodNamed B.named
  have hlocks := B.notSynchronized
  have hK := hE.1
  have hcf : CallFix p m c cX0_takeBack 3 s ([.ref h, .ref p1] : List Value).toArray wsX0_takeBack RX0 := ⟨hx, hb, hml, hown, hts⟩
  subst hsz
  have hD := hD0.self (sz := s.heap.size)
  generalize hAe : va_A [(h, .inr (0, [.ref h_kept, .int 4])), (h_kept, .inl (cT, 4, .inr (.inr (.inr (.inr (kf [h_k0, h_k1, h_k2, h_k3])))))), (h_k0, .inr (5, [.ref h_k0_cells, .int h_k0_size])), (h_k0_cells, .inl (cI, 64, .inl h_k0_cells_f)), (h_k1, .inr (5, [.ref h_k1_cells, .int h_k1_size])), (h_k1_cells, .inl (cI, 64, .inl h_k1_cells_f)), (h_k2, .inr (5, [.ref h_k2_cells, .int h_k2_size])), (h_k2_cells, .inl (cI, 64, .inl h_k2_cells_f)), (h_k3, .inr (5, [.ref h_k3_cells, .int h_k3_size])), (h_k3_cells, .inl (cI, 64, .inl h_k3_cells_f)), (p1, .inr (5, [.ref p1_cells, .int p1_size])), (p1_cells, .inl (cI, 64, .inl p1_cells_f))] s.heap.size = A at hD ⊢
  have hA : ∀ q : Nat, s.heap.size ≤ q → A q := fun q h => by rw [← hAe]; exact Or.inr h
  have hS : va_S A s.heap s.heap [] := va_S.rf
  have hP : va_P D vwCl [(h, .inr (0, [.ref h_kept, .int 4])), (h_kept, .inl (cT, 4, .inr (.inr (.inr (.inr (kf [h_k0, h_k1, h_k2, h_k3])))))), (h_k0, .inr (5, [.ref h_k0_cells, .int h_k0_size])), (h_k0_cells, .inl (cI, 64, .inl h_k0_cells_f)), (h_k1, .inr (5, [.ref h_k1_cells, .int h_k1_size])), (h_k1_cells, .inl (cI, 64, .inl h_k1_cells_f)), (h_k2, .inr (5, [.ref h_k2_cells, .int h_k2_size])), (h_k2_cells, .inl (cI, 64, .inl h_k2_cells_f)), (h_k3, .inr (5, [.ref h_k3_cells, .int h_k3_size])), (h_k3_cells, .inl (cI, 64, .inl h_k3_cells_f)), (p1, .inr (5, [.ref p1_cells, .int p1_size])), (p1_cells, .inl (cI, 64, .inl p1_cells_f))] s.heap := hP
  have hf_16 := hts (.fieldLink RX0 16 "CrookedSums$History" "states" "I") (by decide +kernel)
  have hi_X0 := (show ∀ w ∈ u_ws RX0 TX0 2, w ∈ wsX0_takeBack from by decide +kernel)
  have hl := lv_entry ([.ref h, .ref p1]) (n := 3) (Nat.le_of_ble_eq_true rfl)
  rw [lg_entry_eq]
  generalize (lg_sl ([.ref h, .ref p1]) ++ List.replicate (3 - (lg_sl ([.ref h, .ref p1])).length) Slot.unset).toArray = ls at hl ⊢
  have hl : lv_has ls 3 [(0, .ref h), (1, .ref p1)] := hl
  unfold mX0_takeBack_4 at h0
  refine lv_aload_n hx hb dX0_takeBack_0 rfl (lv_at hl 0 rfl) ?_
  refine lv_aload_n hx hb dX0_takeBack_1 rfl (lv_at hl 0 rfl) ?_
  refine va_get (D := D) (ci := 0) (v := .int 4) (C := RX0) (T := TX0) (N := 2) hx hb hts hi_X0 hown hK hP 0 rfl rfl 1 (by decide) hf_16 (fun _ h9 => h9) rfl dX0_takeBack_2 ?_
  refine lv_iconst (v := 1) hx hb dX0_takeBack_5 (by decide) ?_
  refine lv_isub hx hb dX0_takeBack_6 ?_
  refine cv_top (show ((4 : Int32) - 1) = 3 from by decide) ?_
  obtain ⟨z_1, hz, h0⟩ := bd_ok h0
  refine ro_V (As := [.int 3]) (rest := []) (wc := [(h, .inr (0, [.ref h_kept, .int 4])), (h_kept, .inl (cT, 4, .inr (.inr (.inr (.inr (kf [h_k0, h_k1, h_k2, h_k3])))))), (h_k0, .inr (5, [.ref h_k0_cells, .int h_k0_size])), (h_k0_cells, .inl (cI, 64, .inl h_k0_cells_f)), (h_k1, .inr (5, [.ref h_k1_cells, .int h_k1_size])), (h_k1_cells, .inl (cI, 64, .inl h_k1_cells_f)), (h_k2, .inr (5, [.ref h_k2_cells, .int h_k2_size])), (h_k2_cells, .inl (cI, 64, .inl h_k2_cells_f)), (h_k3, .inr (5, [.ref h_k3_cells, .int h_k3_size])), (h_k3_cells, .inl (cI, 64, .inl h_k3_cells_f))]) hcf (kX0_stateAt_3 l D cI cC cT h h_kept h_k0 h_k0_cells h_k1 h_k1_cells h_k2 h_k2_cells h_k3 h_k3_cells h_k0_cells_f h_k0_size h_k1_cells_f h_k1_size h_k2_cells_f h_k2_size h_k3_cells_f h_k3_size 4 z_1 hz) (cwV 1 hts gX0_takeBack_X0_stateAt rfl rfl rfl (by decide +kernel) ⟨Nat.le_of_ble_eq_true rfl, Nat.le_of_ble_eq_true rfl⟩) hE (hP.sub [0, 1, 2, 3, 4, 5, 6, 7, 8, 9] rfl) (va_recv hK hP (ci := 0) (q0 := 0) rfl rfl) rfl hl.1 rfl (Nat.le_of_ble_eq_true rfl) dX0_takeBack_7 ⟨Nat.le_of_ble_eq_true rfl, Nat.le_of_ble_eq_true rfl⟩ ?_
  refine W.eq (g2 := F0 m 10 ls [.ref h_k3]) rfl ?_
  refine lv_astore_n (lv' := [(2, .ref h_k3), (0, .ref h), (1, .ref p1)]) hx hb dX0_takeBack_10 rfl hl (by decide) rfl (fun ls hl => ?_)
  refine lv_aload_n hx hb dX0_takeBack_11 rfl (lv_at hl 0 rfl) ?_
  refine lv_ifnonnull (tgt := 17) hx hb dX0_takeBack_12 (by decide) ?_
  refine lv_aload_n hx hb dX0_takeBack_17 rfl (lv_at hl 2 rfl) ?_
  refine lv_aload_n hx hb dX0_takeBack_18 rfl (lv_at hl 0 rfl) ?_
  obtain ⟨z_2, hz, h0⟩ := bd_ok h0
  refine wr_V (As := [.ref h_k3]) (rest := []) (wc := [(p1, .inr (5, [.ref p1_cells, .int p1_size])), (p1_cells, .inl (cI, 64, .inl p1_cells_f)), (h_k3, .inr (5, [.ref h_k3_cells, .int h_k3_size])), (h_k3_cells, .inl (cI, 64, .inl h_k3_cells_f))]) (wr := [(h, .inr (0, [.ref h_kept, .int 4])), (h_kept, .inl (cT, 4, .inr (.inr (.inr (.inr (kf [h_k0, h_k1, h_k2, h_k3])))))), (h_k0, .inr (5, [.ref h_k0_cells, .int h_k0_size])), (h_k0_cells, .inl (cI, 64, .inl h_k0_cells_f)), (h_k1, .inr (5, [.ref h_k1_cells, .int h_k1_size])), (h_k1_cells, .inl (cI, 64, .inl h_k1_cells_f)), (h_k2, .inr (5, [.ref h_k2_cells, .int h_k2_size])), (h_k2_cells, .inl (cI, 64, .inl h_k2_cells_f))]) hcf (kX6_copyFrom l D cI cC cT p1 p1_cells h_k3 h_k3_cells p1_cells_f p1_size h_k3_cells_f h_k3_size _ z_2 hz) (cwV 1 hts gX0_takeBack_X6_copyFrom rfl rfl rfl (by decide +kernel) ⟨Nat.le_of_ble_eq_true rfl, Nat.le_of_ble_eq_true rfl⟩) hE hP hD hS hA [10, 11, 8, 9] [0, 1, 2, 3, 4, 5, 6, 7] (hP.sub [10, 11, 8, 9] rfl) (hD.sub [10, 11, 8, 9] (by decide) rfl) (va_recv hK hP (ci := 5) (q0 := 10) rfl rfl) rfl rfl (by decide) (by decide) rfl hl.1 rfl (Nat.le_of_ble_eq_true rfl) dX0_takeBack_19 ⟨Nat.le_of_ble_eq_true rfl, Nat.le_of_ble_eq_true rfl⟩ (fun u H locs hP hD hS => ?_)
  have hP : va_P D vwCl [(h, .inr (0, [.ref h_kept, .int 4])), (h_kept, .inl (cT, 4, .inr (.inr (.inr (.inr (kf [h_k0, h_k1, h_k2, h_k3])))))), (h_k0, .inr (5, [.ref h_k0_cells, .int h_k0_size])), (h_k0_cells, .inl (cI, 64, .inl h_k0_cells_f)), (h_k1, .inr (5, [.ref h_k1_cells, .int h_k1_size])), (h_k1_cells, .inl (cI, 64, .inl h_k1_cells_f)), (h_k2, .inr (5, [.ref h_k2_cells, .int h_k2_size])), (h_k2_cells, .inl (cI, 64, .inl h_k2_cells_f)), (p1, .inr (5, [.ref p1_cells, .int z_2.2])), (p1_cells, .inl (cI, 64, .inl z_2.1)), (h_k3, .inr (5, [.ref h_k3_cells, .int h_k3_size])), (h_k3_cells, .inl (cI, 64, .inl h_k3_cells_f))] H := hP
  have hD : va_D A [(h, .inr (0, [.ref h_kept, .int 4])), (h_kept, .inl (cT, 4, .inr (.inr (.inr (.inr (kf [h_k0, h_k1, h_k2, h_k3])))))), (h_k0, .inr (5, [.ref h_k0_cells, .int h_k0_size])), (h_k0_cells, .inl (cI, 64, .inl h_k0_cells_f)), (h_k1, .inr (5, [.ref h_k1_cells, .int h_k1_size])), (h_k1_cells, .inl (cI, 64, .inl h_k1_cells_f)), (h_k2, .inr (5, [.ref h_k2_cells, .int h_k2_size])), (h_k2_cells, .inl (cI, 64, .inl h_k2_cells_f)), (p1, .inr (5, [.ref p1_cells, .int z_2.2])), (p1_cells, .inl (cI, 64, .inl z_2.1)), (h_k3, .inr (5, [.ref h_k3_cells, .int h_k3_size])), (h_k3_cells, .inl (cI, 64, .inl h_k3_cells_f))] := hD
  refine W.eq (g2 := F0 m 22 ls []) rfl ?_
  refine lv_aload_n hx hb dX0_takeBack_22 rfl (lv_at hl 1 rfl) ?_
  refine lv_dup hx hb dX0_takeBack_23 rfl ?_
  refine va_get (D := D) (ci := 0) (v := .int 4) (C := RX0) (T := TX0) (N := 2) hx hb hts hi_X0 hown hK hP 0 rfl rfl 1 (by decide) hf_16 (fun _ h9 => h9) rfl dX0_takeBack_24 ?_
  refine lv_iconst (v := 1) hx hb dX0_takeBack_27 (by decide) ?_
  refine lv_isub hx hb dX0_takeBack_28 ?_
  refine cv_top (show ((4 : Int32) - 1) = 3 from by decide) ?_
  refine va_put (D := D) (ci := 0) (v := .int 3) (ty := .int) (C := RX0) (T := TX0) (N := 2) hx hb hts hi_X0 tyX0 tyX0_ok nmX0 hown hK hP hD hS 0 rfl rfl 1 (by decide) hf_16 (fun _ h9 => h9) rfl (by decide +kernel) rfl rfl (Nat.le_of_ble_eq_true rfl) dX0_takeBack_29 (fun H locs hP hD hS => ?_)
  have hP : va_P D vwCl [(h, .inr (0, [.ref h_kept, .int 3])), (h_kept, .inl (cT, 4, .inr (.inr (.inr (.inr (kf [h_k0, h_k1, h_k2, h_k3])))))), (h_k0, .inr (5, [.ref h_k0_cells, .int h_k0_size])), (h_k0_cells, .inl (cI, 64, .inl h_k0_cells_f)), (h_k1, .inr (5, [.ref h_k1_cells, .int h_k1_size])), (h_k1_cells, .inl (cI, 64, .inl h_k1_cells_f)), (h_k2, .inr (5, [.ref h_k2_cells, .int h_k2_size])), (h_k2_cells, .inl (cI, 64, .inl h_k2_cells_f)), (p1, .inr (5, [.ref p1_cells, .int z_2.2])), (p1_cells, .inl (cI, 64, .inl z_2.1)), (h_k3, .inr (5, [.ref h_k3_cells, .int h_k3_size])), (h_k3_cells, .inl (cI, 64, .inl h_k3_cells_f))] H := hP
  have hD : va_D A [(h, .inr (0, [.ref h_kept, .int 3])), (h_kept, .inl (cT, 4, .inr (.inr (.inr (.inr (kf [h_k0, h_k1, h_k2, h_k3])))))), (h_k0, .inr (5, [.ref h_k0_cells, .int h_k0_size])), (h_k0_cells, .inl (cI, 64, .inl h_k0_cells_f)), (h_k1, .inr (5, [.ref h_k1_cells, .int h_k1_size])), (h_k1_cells, .inl (cI, 64, .inl h_k1_cells_f)), (h_k2, .inr (5, [.ref h_k2_cells, .int h_k2_size])), (h_k2_cells, .inl (cI, 64, .inl h_k2_cells_f)), (p1, .inr (5, [.ref p1_cells, .int z_2.2])), (p1_cells, .inl (cI, 64, .inl z_2.1)), (h_k3, .inr (5, [.ref h_k3_cells, .int h_k3_size])), (h_k3_cells, .inl (cI, 64, .inl h_k3_cells_f))] := hD
  refine lv_iconst (v := 1) hx hb dX0_takeBack_32 (by decide) ?_
  have e0 := Option.some.inj h0
  subst e0
  exact W.zret (ty := .boolean) (v := 1) hx hb hr rfl (fun t ht hW => wr_end () ht (hP.sub [0, 1, 2, 3, 4, 5, 6, 7, 10, 11, 8, 9] rfl) (hD.sub [0, 1, 2, 3, 4, 5, 6, 7, 10, 11, 8, 9] (by decide) rfl) hS) hS.2.2 dX0_takeBack_33
noncomputable def mX0_takeBack (h_k0_cells_f : Nat → Int32) (h_k0_size : Int32) (h_k1_cells_f : Nat → Int32) (h_k1_size : Int32) (h_k2_cells_f : Nat → Int32) (h_k2_size : Int32) (h_k3_cells_f : Nat → Int32) (h_k3_size : Int32) (h_states : Int32) (p1_cells_f : Nat → Int32) (p1_size : Int32) : Option (Int32 × Int32 × (Nat → Int32) × Int32) :=
  if h_states = 0 then (bd (mX0_takeBack_0) (fun (q : Int32) => some (q, 0, p1_cells_f, p1_size))) else (if h_states = 1 then (bd (mX0_takeBack_1 h_k0_cells_f h_k0_size p1_cells_f) (fun (q : Int32 × (Nat → Int32) × Int32) => some (q.1, 0, q.2.1, q.2.2))) else (if h_states = 2 then (bd (mX0_takeBack_2 h_k1_cells_f h_k1_size p1_cells_f) (fun (q : Int32 × (Nat → Int32) × Int32) => some (q.1, 1, q.2.1, q.2.2))) else (if h_states = 3 then (bd (mX0_takeBack_3 h_k2_cells_f h_k2_size p1_cells_f) (fun (q : Int32 × (Nat → Int32) × Int32) => some (q.1, 2, q.2.1, q.2.2))) else (if h_states = 4 then (bd (mX0_takeBack_4 h_k3_cells_f h_k3_size p1_cells_f) (fun (q : Int32 × (Nat → Int32) × Int32) => some (q.1, 3, q.2.1, q.2.2))) else (none)))))
set_option maxHeartbeats 8000000 in
set_option maxRecDepth 100000 in
theorem kX0_takeBack (l : Launch) (D : va_G) (cI cC cT : ClassId) (h h_kept h_k0 h_k0_cells h_k1 h_k1_cells h_k2 h_k2_cells h_k3 h_k3_cells p1 p1_cells : Nat) (h_k0_cells_f : Nat → Int32) (h_k0_size : Int32) (h_k1_cells_f : Nat → Int32) (h_k1_size : Int32) (h_k2_cells_f : Nat → Int32) (h_k2_size : Int32) (h_k3_cells_f : Nat → Int32) (h_k3_size : Int32) (h_states : Int32) (p1_cells_f : Nat → Int32) (p1_size : Int32) (sz : Nat) (z : Int32 × Int32 × (Nat → Int32) × Int32) (h0 : mX0_takeBack h_k0_cells_f h_k0_size h_k1_cells_f h_k1_size h_k2_cells_f h_k2_size h_k3_cells_f h_k3_size h_states p1_cells_f p1_size = some z) : Met l yX0_takeBack wsX0_takeBack ({ frames := 2, cells := 0, slots := 0, locals := 44 } : Room) (va_Pc [.ref h, .ref p1] (wP D cI cC cT [(h, .inr (0, [.ref h_kept, .int h_states])), (h_kept, .inl (cT, 4, .inr (.inr (.inr (.inr (kf [h_k0, h_k1, h_k2, h_k3])))))), (h_k0, .inr (5, [.ref h_k0_cells, .int h_k0_size])), (h_k0_cells, .inl (cI, 64, .inl h_k0_cells_f)), (h_k1, .inr (5, [.ref h_k1_cells, .int h_k1_size])), (h_k1_cells, .inl (cI, 64, .inl h_k1_cells_f)), (h_k2, .inr (5, [.ref h_k2_cells, .int h_k2_size])), (h_k2_cells, .inl (cI, 64, .inl h_k2_cells_f)), (h_k3, .inr (5, [.ref h_k3_cells, .int h_k3_size])), (h_k3_cells, .inl (cI, 64, .inl h_k3_cells_f)), (p1, .inr (5, [.ref p1_cells, .int p1_size])), (p1_cells, .inl (cI, 64, .inl p1_cells_f))] sz)) (wQ D (some (.int z.1)) (va_A [(h, .inr (0, [.ref h_kept, .int h_states])), (h_kept, .inl (cT, 4, .inr (.inr (.inr (.inr (kf [h_k0, h_k1, h_k2, h_k3])))))), (h_k0, .inr (5, [.ref h_k0_cells, .int h_k0_size])), (h_k0_cells, .inl (cI, 64, .inl h_k0_cells_f)), (h_k1, .inr (5, [.ref h_k1_cells, .int h_k1_size])), (h_k1_cells, .inl (cI, 64, .inl h_k1_cells_f)), (h_k2, .inr (5, [.ref h_k2_cells, .int h_k2_size])), (h_k2_cells, .inl (cI, 64, .inl h_k2_cells_f)), (h_k3, .inr (5, [.ref h_k3_cells, .int h_k3_size])), (h_k3_cells, .inl (cI, 64, .inl h_k3_cells_f)), (p1, .inr (5, [.ref p1_cells, .int p1_size])), (p1_cells, .inl (cI, 64, .inl p1_cells_f))] sz) (fun (u : Unit) => [(h, .inr (0, [.ref h_kept, .int z.2.1])), (h_kept, .inl (cT, 4, .inr (.inr (.inr (.inr (kf [h_k0, h_k1, h_k2, h_k3])))))), (h_k0, .inr (5, [.ref h_k0_cells, .int h_k0_size])), (h_k0_cells, .inl (cI, 64, .inl h_k0_cells_f)), (h_k1, .inr (5, [.ref h_k1_cells, .int h_k1_size])), (h_k1_cells, .inl (cI, 64, .inl h_k1_cells_f)), (h_k2, .inr (5, [.ref h_k2_cells, .int h_k2_size])), (h_k2_cells, .inl (cI, 64, .inl h_k2_cells_f)), (h_k3, .inr (5, [.ref h_k3_cells, .int h_k3_size])), (h_k3_cells, .inl (cI, 64, .inl h_k3_cells_f)), (p1, .inr (5, [.ref p1_cells, .int z.2.2.2])), (p1_cells, .inl (cI, 64, .inl z.2.2.1))])) 0 0 (va_A [(h, .inr (0, [.ref h_kept, .int h_states])), (h_kept, .inl (cT, 4, .inr (.inr (.inr (.inr (kf [h_k0, h_k1, h_k2, h_k3])))))), (h_k0, .inr (5, [.ref h_k0_cells, .int h_k0_size])), (h_k0_cells, .inl (cI, 64, .inl h_k0_cells_f)), (h_k1, .inr (5, [.ref h_k1_cells, .int h_k1_size])), (h_k1_cells, .inl (cI, 64, .inl h_k1_cells_f)), (h_k2, .inr (5, [.ref h_k2_cells, .int h_k2_size])), (h_k2_cells, .inl (cI, 64, .inl h_k2_cells_f)), (h_k3, .inr (5, [.ref h_k3_cells, .int h_k3_size])), (h_k3_cells, .inl (cI, 64, .inl h_k3_cells_f)), (p1, .inr (5, [.ref p1_cells, .int p1_size])), (p1_cells, .inl (cI, 64, .inl p1_cells_f))] sz) := by
  unfold mX0_takeBack at h0
  by_cases c0 : h_states = 0
  · subst c0
    have h0 := it_t rfl h0
    obtain ⟨q, hq, h0⟩ := bd_ok h0
    have e0 := Option.some.inj h0
    subst e0
    exact Met.wimp (kX0_takeBack_0 l D cI cC cT h h_kept h_k0 h_k0_cells h_k1 h_k1_cells h_k2 h_k2_cells h_k3 h_k3_cells p1 p1_cells h_k0_cells_f h_k0_size h_k1_cells_f h_k1_size h_k2_cells_f h_k2_size h_k3_cells_f h_k3_size p1_cells_f p1_size _ q hq) (fun a st o t hh => wQ_imp () rfl hh)
  have h0 := it_f c0 h0
  by_cases c1 : h_states = 1
  · subst c1
    have h0 := it_t rfl h0
    obtain ⟨q, hq, h0⟩ := bd_ok h0
    have e0 := Option.some.inj h0
    subst e0
    exact Met.wimp (kX0_takeBack_1 l D cI cC cT h h_kept h_k0 h_k0_cells h_k1 h_k1_cells h_k2 h_k2_cells h_k3 h_k3_cells p1 p1_cells h_k0_cells_f h_k0_size h_k1_cells_f h_k1_size h_k2_cells_f h_k2_size h_k3_cells_f h_k3_size p1_cells_f p1_size _ q hq) (fun a st o t hh => wQ_imp () rfl hh)
  have h0 := it_f c1 h0
  by_cases c2 : h_states = 2
  · subst c2
    have h0 := it_t rfl h0
    obtain ⟨q, hq, h0⟩ := bd_ok h0
    have e0 := Option.some.inj h0
    subst e0
    exact Met.wimp (kX0_takeBack_2 l D cI cC cT h h_kept h_k0 h_k0_cells h_k1 h_k1_cells h_k2 h_k2_cells h_k3 h_k3_cells p1 p1_cells h_k0_cells_f h_k0_size h_k1_cells_f h_k1_size h_k2_cells_f h_k2_size h_k3_cells_f h_k3_size p1_cells_f p1_size _ q hq) (fun a st o t hh => wQ_imp () rfl hh)
  have h0 := it_f c2 h0
  by_cases c3 : h_states = 3
  · subst c3
    have h0 := it_t rfl h0
    obtain ⟨q, hq, h0⟩ := bd_ok h0
    have e0 := Option.some.inj h0
    subst e0
    exact Met.wimp (kX0_takeBack_3 l D cI cC cT h h_kept h_k0 h_k0_cells h_k1 h_k1_cells h_k2 h_k2_cells h_k3 h_k3_cells p1 p1_cells h_k0_cells_f h_k0_size h_k1_cells_f h_k1_size h_k2_cells_f h_k2_size h_k3_cells_f h_k3_size p1_cells_f p1_size _ q hq) (fun a st o t hh => wQ_imp () rfl hh)
  have h0 := it_f c3 h0
  by_cases c4 : h_states = 4
  · subst c4
    have h0 := it_t rfl h0
    obtain ⟨q, hq, h0⟩ := bd_ok h0
    have e0 := Option.some.inj h0
    subst e0
    exact Met.wimp (kX0_takeBack_4 l D cI cC cT h h_kept h_k0 h_k0_cells h_k1 h_k1_cells h_k2 h_k2_cells h_k3 h_k3_cells p1 p1_cells h_k0_cells_f h_k0_size h_k1_cells_f h_k1_size h_k2_cells_f h_k2_size h_k3_cells_f h_k3_size p1_cells_f p1_size _ q hq) (fun a st o t hh => wQ_imp () rfl hh)
  have h0 := it_f c4 h0
  cases h0
noncomputable def mX0_states (h_states : Int32) : Option (Int32) :=
  some (h_states)
set_option maxHeartbeats 8000000 in
set_option maxRecDepth 100000 in
theorem kX0_states (l : Launch) (D : va_G) (cI cC cT : ClassId) (h h_kept h_k0 h_k0_cells h_k1 h_k1_cells h_k2 h_k2_cells h_k3 h_k3_cells : Nat) (h_k0_cells_f : Nat → Int32) (h_k0_size : Int32) (h_k1_cells_f : Nat → Int32) (h_k1_size : Int32) (h_k2_cells_f : Nat → Int32) (h_k2_size : Int32) (h_k3_cells_f : Nat → Int32) (h_k3_size : Int32) (h_states : Int32) (z : Int32) (h0 : mX0_states h_states = some z) : Met l yX0_states wsX0_states ({ frames := 0, cells := 0, slots := 0, locals := 0 } : Room) (va_Pc [.ref h] (rP D cI cC cT [(h, .inr (0, [.ref h_kept, .int h_states])), (h_kept, .inl (cT, 4, .inr (.inr (.inr (.inr (kf [h_k0, h_k1, h_k2, h_k3])))))), (h_k0, .inr (5, [.ref h_k0_cells, .int h_k0_size])), (h_k0_cells, .inl (cI, 64, .inl h_k0_cells_f)), (h_k1, .inr (5, [.ref h_k1_cells, .int h_k1_size])), (h_k1_cells, .inl (cI, 64, .inl h_k1_cells_f)), (h_k2, .inr (5, [.ref h_k2_cells, .int h_k2_size])), (h_k2_cells, .inl (cI, 64, .inl h_k2_cells_f)), (h_k3, .inr (5, [.ref h_k3_cells, .int h_k3_size])), (h_k3_cells, .inl (cI, 64, .inl h_k3_cells_f))])) (rQ (some (.int z))) 0 0 (fun _ => False) := by
  refine Met.ofW (cc := cX0_states) (maxL := 1) (ret := (some .int)) (by decide) rfl ?_
  intro p e s m args below meth c s₁ B hml hv
  obtain ⟨rfl, hP, hE⟩ := hv
  have hx := B.exec
  have hb := B.bytes
  have hr := B.returns
  have hts := atoms_spec (ws := wsX0_states) B.pre
  have hown : s.vm.findClass RX0 = some m.cls := findClass_of_methodNamed B.named
  have hlocks := B.notSynchronized
  have hK := hE.1
  have hcf : CallFix p m c cX0_states 1 s ([.ref h] : List Value).toArray wsX0_states RX0 := ⟨hx, hb, hml, hown, hts⟩
  have hP : va_P D vwCl [(h, .inr (0, [.ref h_kept, .int h_states])), (h_kept, .inl (cT, 4, .inr (.inr (.inr (.inr (kf [h_k0, h_k1, h_k2, h_k3])))))), (h_k0, .inr (5, [.ref h_k0_cells, .int h_k0_size])), (h_k0_cells, .inl (cI, 64, .inl h_k0_cells_f)), (h_k1, .inr (5, [.ref h_k1_cells, .int h_k1_size])), (h_k1_cells, .inl (cI, 64, .inl h_k1_cells_f)), (h_k2, .inr (5, [.ref h_k2_cells, .int h_k2_size])), (h_k2_cells, .inl (cI, 64, .inl h_k2_cells_f)), (h_k3, .inr (5, [.ref h_k3_cells, .int h_k3_size])), (h_k3_cells, .inl (cI, 64, .inl h_k3_cells_f))] s.heap := hP
  have hf_16 := hts (.fieldLink RX0 16 "CrookedSums$History" "states" "I") (by decide +kernel)
  have hi_X0 := (show ∀ w ∈ u_ws RX0 TX0 2, w ∈ wsX0_states from by decide +kernel)
  have hl := lv_entry ([.ref h]) (n := 1) (Nat.le_of_ble_eq_true rfl)
  rw [lg_entry_eq]
  generalize (lg_sl ([.ref h]) ++ List.replicate (1 - (lg_sl ([.ref h])).length) Slot.unset).toArray = ls at hl ⊢
  have hl : lv_has ls 1 [(0, .ref h)] := hl
  unfold mX0_states at h0
  refine lv_aload_n hx hb dX0_states_0 rfl (lv_at hl 0 rfl) ?_
  refine va_get (D := D) (ci := 0) (v := .int h_states) (C := RX0) (T := TX0) (N := 2) hx hb hts hi_X0 hown hK hP 0 rfl rfl 1 (by decide) hf_16 (fun _ h9 => h9) rfl dX0_states_1 ?_
  have e0 := Option.some.inj h0
  subst e0
  exact W.iret (v := h_states) hx hb hr (fun t ht hW => ⟨rfl, ht⟩) (fun q hq => absurd hq List.not_mem_nil) dX0_states_4
