/-! what holds at the law's entry: the classes, the array classes, the links, the static row -/
theorem eArr {ty : FieldType} {args : Array Value} {s : State} (h : (Cond.arrayClass ty).before args s = true) (hra : ∀ cA : ClassId, s.vm.findClass ("[" ++ ty.toString) = some cA → va_RA s cA ty) : ∃ cA : ClassId, ArrOfT s cA ty ∧ va_RA s cA ty := by
  obtain ⟨cA, kA, comp, hf, hk, hkind⟩ := Cond.arrayClass_spec h
  exact ⟨cA, fun N z => ⟨(fun k h => by cases h), kA, hk, comp, hkind⟩, hra cA hf⟩
theorem eArrQ {C : String} {s : State} (h : va_AO C s) : ∃ cA : ClassId, ArrOfT s cA (.object C) ∧ va_RA s cA (.object C) := by
  obtain ⟨comp, cA, kA, h1, h2, h3, h4, h5⟩ := Cond.arrayOver_spec h
  exact ⟨cA, fun N z => ⟨(fun k h => by cases h), kA, h3, comp, h4⟩, kA, comp, h3, h4, h1, h5⟩
set_option maxHeartbeats 8000000 in
set_option maxRecDepth 100000 in
theorem law_env {p : Program} {s : State} {m : MethodId} {meth : Method} {c : Code} {b L : Nat} {xs : Nat → Int32} (C0 : lw_At p s m meth c b L xs) : ∃ (D : va_G) (cI cC cT : ClassId), eK D cI cC cT s := by
  obtain ⟨-, -, -, -, -, hts0, -, -, -, -⟩ := id C0
  have hts : ∀ w ∈ wsL_law, w.before #[Value.ref b] s = true := fun w h => hts0 w (wsL_law_in w h)
  obtain ⟨c0, i0, k0⟩ := u_known (C := RX0) (T := TX0) (N := 2) (n := 2) hts inlX0 (hts (.instantiable RX0 2) (by decide +kernel))
  obtain ⟨c1, i1, k1⟩ := u_known (C := RX1) (T := TX1) (N := 2) (n := 2) hts inlX1 (hts (.instantiable RX1 2) (by decide +kernel))
  obtain ⟨c2, i2, k2⟩ := u_known (C := RX3) (T := TX3) (N := 3) (n := 3) hts inlX3 (hts (.instantiable RX3 3) (by decide +kernel))
  obtain ⟨c3, i3, k3⟩ := u_known (C := RX4) (T := TX4) (N := 6) (n := 6) hts inlX4 (hts (.instantiable RX4 6) (by decide +kernel))
  obtain ⟨c4, i4, k4⟩ := u_known (C := RX5) (T := TX5) (N := 9) (n := 9) hts inlX5 (hts (.instantiable RX5 9) (by decide +kernel))
  obtain ⟨c5, i5, k5⟩ := u_known (C := RX6) (T := TX6) (N := 2) (n := 2) hts inlX6 (hts (.instantiable RX6 2) (by decide +kernel))
  obtain ⟨c6, i6, k6⟩ := u_known (C := RX9) (T := TX9) (N := 9) (n := 9) hts inlX9 (hts (.instantiable RX9 9) (by decide +kernel))
  have hAO : va_AO "CrookedSums$Table" s := va_AO.of (hts0 (.arrayOver (.object "CrookedSums$Table")) (by decide +kernel))
  obtain ⟨cI, hI1, hI2⟩ := eArr (ty := .int) (hts (.arrayClass .int) (by decide +kernel)) (fun _ h => h)
  obtain ⟨cC, hC1, hC2⟩ := eArr (ty := .char) (hts (.arrayClass .char) (by decide +kernel)) (fun _ h => h)
  obtain ⟨cT, hT1, hT2⟩ := eArrQ hAO
  refine ⟨(fun k => match k with | 0 => c0 | 1 => c1 | 2 => c2 | 3 => c3 | 4 => c4 | 5 => c5 | _ => c6, fun k => match k with | 0 => i0 | 1 => i1 | 2 => i2 | 3 => i3 | 4 => i4 | 5 => i5 | _ => i6), cI, cC, cT, ⟨?_, ?_⟩, ?_⟩
  · intro k q hq
    match k, hq with
    | 0, hq => cases hq; exact k0
    | 1, hq => cases hq; exact k1
    | 2, hq => cases hq; exact k2
    | 3, hq => cases hq; exact k3
    | 4, hq => cases hq; exact k4
    | 5, hq => cases hq; exact k5
    | 6, hq => cases hq; exact k6
    | n + 7, hq => simp at hq
  · intro k q hq
    match k, hq with
    | 0, hq => cases hq; exact ⟨hI1, hI2⟩
    | 1, hq => cases hq; exact ⟨hC1, hC2⟩
    | 2, hq => cases hq; exact ⟨hT1, hT2⟩
    | n + 3, hq => simp at hq
  · exact ⟨va_Nw.of rfl (hts0 (.methodLinkNest RX2 21 yX9_hasBit RX9) (by decide +kernel)), va_Nw.of rfl (hts0 (.methodLinkNest RX3 37 yX9_put RX9) (by decide +kernel)), va_Nw.of rfl (hts0 (.methodLinkNest RX3 52 yX9_get RX9) (by decide +kernel)), va_Nw.of rfl (hts0 (.methodLinkNest RX5 41 yX9_put RX9) (by decide +kernel)), va_Nw.of rfl (hts0 (.methodLinkNest RX5 58 yX9_get RX9) (by decide +kernel)), va_Nw.of rfl (hts0 (.methodLinkNest RX6 19 yX9_put RX9) (by decide +kernel)), va_Nw.of rfl (hts0 (.methodLinkNest RX6 27 yX9_get RX9) (by decide +kernel)), hAO⟩
set_option maxHeartbeats 8000000 in
set_option maxRecDepth 100000 in
theorem law_ways {p : Program} {s : State} {m : MethodId} {meth : Method} {c : Code} {b L : Nat} {xs : Nat → Int32} (C0 : lw_At p s m meth c b L xs) : ∃ wq : Nat, eW wq (fun q => s.heap.size ≤ q) s s.heap := by
  obtain ⟨-, -, -, -, -, hts0, -, -, -, hgv⟩ := id C0
  have hs := flat_of_before _ hgv
  have hA : ∀ a : Nat, a < s.heap.size → ¬ (fun q => s.heap.size ≤ q) a := fun a h => Nat.not_le.mpr h
  have harr : (Cond.arrayOf (.static "CrookedSums$RowText" "WAYS" "[I") .int).before #[Value.ref b] s = true := hs _ (by decide +kernel)
  have hlen := va_eqt (hs (.eq (.length (.static "CrookedSums$RowText" "WAYS" "[I")) (.int 8)) (by decide +kernel))
  have e0 := va_eqt (hs (.eq (.elem (.static "CrookedSums$RowText" "WAYS" "[I") (.int 0)) (.int 0)) (by decide +kernel))
  have e1 := va_eqt (hs (.eq (.elem (.static "CrookedSums$RowText" "WAYS" "[I") (.int 1)) (.int 1)) (by decide +kernel))
  have e2 := va_eqt (hs (.eq (.elem (.static "CrookedSums$RowText" "WAYS" "[I") (.int 2)) (.int 1)) (by decide +kernel))
  have e3 := va_eqt (hs (.eq (.elem (.static "CrookedSums$RowText" "WAYS" "[I") (.int 3)) (.int 2)) (by decide +kernel))
  have e4 := va_eqt (hs (.eq (.elem (.static "CrookedSums$RowText" "WAYS" "[I") (.int 4)) (.int 5)) (by decide +kernel))
  have e5 := va_eqt (hs (.eq (.elem (.static "CrookedSums$RowText" "WAYS" "[I") (.int 5)) (.int 14)) (by decide +kernel))
  have e6 := va_eqt (hs (.eq (.elem (.static "CrookedSums$RowText" "WAYS" "[I") (.int 6)) (.int 42)) (by decide +kernel))
  have e7 := va_eqt (hs (.eq (.elem (.static "CrookedSums$RowText" "WAYS" "[I") (.int 7)) (.int 132)) (by decide +kernel))
  obtain ⟨wq, hv, hT⟩ := va_Tof (tm := .static "CrookedSums$RowText" "WAYS" "[I") (ty := .int) (N := 8) (f := fun j => .int (wA j)) (A := fun q => s.heap.size ≤ q) (by decide) harr hlen (fun j hj => by
    match j, hj with
    | 0, _ => exact e0
    | 1, _ => exact e1
    | 2, _ => exact e2
    | 3, _ => exact e3
    | 4, _ => exact e4
    | 5, _ => exact e5
    | 6, _ => exact e6
    | 7, _ => exact e7
    | n + 8, h => exact absurd h (by omega)) hA
  exact ⟨wq, va_Zref (hts0 (.laysStatic "CrookedSums$RowText" "WAYS" "[I") (by decide +kernel)) (hts0 (.initialized "CrookedSums$RowText") (by decide +kernel)) hv hA, hT⟩
/-! the script, as the law's method 'cell' reads it -/
def cP (b L : Nat) (xs : Nat → Int32) : State → Prop := fun U => va_X b L xs U U.heap
theorem cP_call {b L : Nat} {xs : Nat → Int32} {U : State} {g : JFrame} {mk : MethodId} {a : Array Value} (h : va_X b L xs U U.heap) : va_X b L xs (U.calling g mk a) (U.calling g mk a).heap := va_X.moved (u := U) (U := U.calling g mk a) (Vm.Alike.refl U.vm) h
theorem cP_blind {b L : Nat} {xs : Nat → Int32} {av : List Value} : FrameBlind (va_Pc av (cP b L xs)) := fun _ _ _ _ q => ⟨q.1, cP_call q.2⟩
theorem ro_SC {p : Program} {l : Launch} {e : Env} {R : Room} {s : State} {m : MethodId} {args : Array Value} {below : List Frame} {meth : Method} {c : Code} {H : Heap} {locs : List Loc} {cells slots : Nat} {Q : State → Prop} {pc : Nat} {ls : Array Slot} {rest st0 As : List Value} {Ts wM : List Cond} {own : String} {index n maxL nL : Nat} {y : MethodName} {bytes cc : ByteArray} {ret : Option FieldType} {rm : Room} {b0 L0 : Nat} {xs : Nat → Int32} {v0 : Option Value} (S : CallFix p m c cc nL s args Ts own) (hM : Met l y wM rm (va_Pc As (cP b0 L0 xs)) (rQ v0) 0 0 (fun _ => False)) (cw : CallB R s args own index y bytes maxL ret wM rm 0 0 n ∧ (Cond.static y).before args s = true) (hX : va_X b0 L0 xs s H) (hn : As.length = n) (hsize : ls.size = nL) (hst : st0 = As.reverse ++ rest) (hW : (rest.map fun v => v.category).sum ≤ 8) (hdg : decode cc pc = .ok (.invokestatic index, 3)) (hf : cells ≤ R.cells ∧ slots ≤ R.slots) (kk : W p l e R s m args below meth c H locs cells slots Q (F0 m (pc + 3) ls (v0.toList ++ rest))) : W p l e R s m args below meth c H locs cells slots Q (F0 m pc ls st0) :=
  ro_go (a := As.toArray) (va_runS (g := F0 m pc ls st0) S hM cw ⟨cP_blind, fun U hU hW => ⟨rfl, by show va_X b0 L0 xs U U.heap; rw [hU]; exact va_X.moved hW.alike hX⟩⟩ rfl hn hsize hst (lv_room hW) hdg hf) kk
