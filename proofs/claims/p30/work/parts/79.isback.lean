/-! isBack: exchanged twice, swapped twice, undone: all is as before -/
section IsBack
variable {n m : Nat} {T : Nat → Nat → Nat} {s f g k0 k1 k2 k3 t q : Nat → Int32} {z zg zt z0 z1 z2 z3 pl zq l1 l2 l3 l4 l5 : Int32}
theorem isBack_L250 (u : Int32 × (Nat → Int32) × Int32 × Int32) (h1 : Sm u.2.1 u.2.2.1 s) (h2 : Sm g zg s) (k : Int32 → Option _) : mL_isBack_L250 g zg u k FU 0 = k (nI 64) := by
  obtain ⟨r, e⟩ := lpU0 (fun F x => mL_isBack_L250 g zg u k F x) 64 0 (by omega) (by omega) (fun F i _ hi => by
    obtain ⟨v, v1, v2⟩ := sum_two h1 h2 (nI i / 8) (nI i - nI i / 8 * 8)
    show mL_isBack_L250 _ _ _ _ (F + 1) _ = _
    rw [mL_isBack_L250]
    refine iq (show ¬ (64 : Int32) ≤ nI i from nI_ge (b := 64) hi (by omega)) (bd_z v1 (bd_z v2 (ip rfl ?_)))
    show mL_isBack_L250 _ _ _ _ F (nI i + 1) = _
    rw [nI_1])
  refine Eq.trans e ?_
  show mL_isBack_L250 _ _ _ _ (r + 1) _ = _
  rw [mL_isBack_L250]
  exact ip (show (64 : Int32) ≤ nI 64 from nI_le (a := 64) (Nat.le_refl _) (by omega)) rfl
theorem ab_ne {n v : Nat} (h2 : 2 ≤ n) : v % n ≠ (v % n + 1 + v / 8 % (n - 1)) % n := by
  have ha : v % n < n := Nat.mod_lt _ (by omega)
  have hd : v / 8 % (n - 1) < n - 1 := Nat.mod_lt _ (by omega)
  generalize v % n = r at *
  generalize v / 8 % (n - 1) = e at *
  rcases Nat.lt_or_ge (r + 1 + e) n with w | w
  · rw [Nat.mod_eq_of_lt w]; omega
  · rw [Nat.mod_eq_sub_mod w, Nat.mod_eq_of_lt (by omega)]; omega
set_option maxHeartbeats 4000000 in
theorem isBack_ok (hS : Sm f z s) (hS2 : Sm g zg s) (hm : m ≤ 4) {v : Nat} (hv : v < 2 ^ 31) : ∃ y, mL_isBack f z t zt k0 z0 k1 z1 k2 z2 k3 z3 (nI m) pl q zq l1 l2 l3 l4 l5 g zg (nI v) = some (1, y) := by
  obtain ⟨n, T, hL, rfl, ht, hs⟩ := id hS
  have h2 := hL.1
  have h8 := hL.2.1
  have hnn := nn_le h8
  have ha : v % n < n := Nat.mod_lt _ (by omega)
  have hb : (v % n + 1 + v / 8 % (n - 1)) % n < n := Nat.mod_lt _ (by omega)
  have hd : v / 8 % (n - 1) < n - 1 := Nat.mod_lt _ (by omega)
  have hab := ab_ne (v := v) h2
  have hv8 : v / 8 < 2 ^ 31 := by omega
  have eX : nI v - nI v / nI n * nI n = nI (v % n) := pk_rem hv (by omega) (by omega)
  have en : nI n - 1 = nI (n - 1) := by
    rw [show n = n - 1 + 1 by omega, nI_pred, Nat.add_sub_cancel]
  have e8 : nI v / 8 = nI (v / 8) := pk_div (d := 8) hv (by omega) (by omega)
  have er : nI (v / 8) - nI (v / 8) / nI (n - 1) * nI (n - 1) = nI (v / 8 % (n - 1)) := pk_rem hv8 (by omega) (by omega)
  have eY : (((nI v - nI v / nI n * nI n) + 1) + ((nI v / 8) - (nI v / 8) / (nI n - 1) * (nI n - 1))) - (((nI v - nI v / nI n * nI n) + 1) + ((nI v / 8) - (nI v / 8) / (nI n - 1) * (nI n - 1))) / nI n * nI n = nI ((v % n + 1 + v / 8 % (n - 1)) % n) := by
    rw [eX, e8, en, er, nI_1, nI_add, pk_rem (by omega) (by omega) (by omega)]
  have g1 : nzb (nI n) = true := nzb_nI (by omega) (by omega)
  have g2 : nzb (nI n - 1) = true := by rw [en]; exact nzb_nI (by omega) (by omega)
  generalize (v % n + 1 + v / 8 % (n - 1)) % n = b at *
  generalize v % n = a at *
  have LR := Lat_row hL ha hb
  have LC := Lat_col hL ha hb
  obtain ⟨f1, t1, a0, y0, a1, y1, a2, y2, a3, y3, m1, e1, hf1, hm1, tp1, -⟩ := rows_ok (k0 := k0) (z0 := z0) (k1 := k1) (z1 := z1) (k2 := k2) (z2 := z2) (k3 := k3) (z3 := z3) hL ht hm t zt ha hb hab
  obtain ⟨f2, t2, b0, w0, b1, w1, b2, w2, b3, w3, m2, e2, hf2, hm2, tp2, up2⟩ := rows_ok (k0 := a0) (z0 := y0) (k1 := a1) (z1 := y1) (k2 := a2) (z2 := y2) (k3 := a3) (z3 := y3) LR hf1 hm1 t1 (nI n) hb ha hab.symm
  have c1 : nI (dif n T (rowX T a b)) = (2 : Int32) * nI n := by rw [dif_row hL ha hb hab]; exact (pk_mul 2 n).symm
  have c2 : nI (dif n (rowX T a b) (rowX (rowX T a b) b a)) = (2 : Int32) * nI n := by rw [dif_row LR hb ha hab.symm]; exact (pk_mul 2 n).symm
  obtain ⟨f3, e3, hf3⟩ := undo_ok (f := f2) (z := nI n) h8 hm2 tp2
  obtain ⟨f4, e4, hf4⟩ := undo_ok (m := m2 - 1) (f := f3) (z := nI n) h8 (by omega) (Tp_down (up2 _ _ tp1))
  obtain ⟨f5, t5, c0, x0, c1', x1, c2', x2, c3, x3, m5, e5, hf5, hm5, tp5, -⟩ := columns_ok (m := m2 - 1 - 1) (k0 := b0) (z0 := w0) (k1 := b1) (z1 := w1) (k2 := b2) (z2 := w2) (k3 := b3) (z3 := w3) hL hf4 (by omega) t2 (nI n) ha hb hab
  obtain ⟨f6, t6, d0, u0, d1, u1, d2, u2, d3, u3, m6, e6, hf6, hm6, tp6, up6⟩ := names_ok (k0 := c0) (z0 := x0) (k1 := c1') (z1 := x1) (k2 := c2') (z2 := x2) (k3 := c3) (z3 := x3) LC hf5 hm5 t5 (nI n) ha hb hab
  have c5 : nI (dif n T (colX T a b)) = (2 : Int32) * nI n := by rw [dif_col hL ha hb hab]; exact (pk_mul 2 n).symm
  have c6 : ¬ nI (dif n (colX T a b) (namX (colX T a b) a b)) ≤ 0 := nI_ge (a := 0) (dif_nam LC ha hab) (by have := dif_le n (colX T a b) (namX (colX T a b) a b); omega)
  obtain ⟨f7, e7, hf7⟩ := undo_ok (f := f6) (z := nI n) h8 hm6 tp6
  obtain ⟨f8, e8', hf8⟩ := undo_ok (m := m6 - 1) (f := f7) (z := nI n) h8 (by omega) (Tp_down (up6 _ _ tp5))
  have hS8 : Sm f8 (nI n) s := ⟨n, T, hL, rfl, hf8, hs⟩
  rw [← eX, ← eY] at e1 e5 e6
  rw [← eX, ← eY] at e2
  unfold mL_isBack
  cases hj : bst n T (n * n * n * n) with
  | none =>
    obtain ⟨y, eb⟩ := best_no hL hf8 hj q zq l1 l2 l3 l4 l5 (v := 0) (by omega)
    exact ⟨_, bd_z (cnt0_is _ _ _ _) (gd_z g1 (gd_z g2 (gd_z g1 (bd_z e1 (ip c1 (bd_z e2 (ip c2 (bd_z e3 (iq (nI_pos (by omega)) (bd_z e4 (iq (nI_pos (by omega)) (bd_z e5 (ip c5 (bd_z e6 (iq c6 (bd_z e7 (iq (nI_pos (by omega)) (bd_z e8' (iq (nI_pos (by omega)) (bd_z (show mX9_best f8 (nI n) q zq l1 l2 l3 l4 l5 0 = _ from eb) (ip (show (-4 : Int32) < 0 by decide) ((isBack_L250 (nI (m6 - 1 - 1), f8, nI n, nI (m6 - 1 - 1)) hS8 hS2 _).trans rfl))))))))))))))))))))))⟩
  | some j =>
    obtain ⟨p1, p2, p3⟩ := cnd_iff.mp (bst_cnd hj)
    obtain ⟨q1, q2, q3, q4⟩ := q_lt (bst_in hj)
    have hsq := sqB_iff.mp p3
    have LS := Lat_sq hL q1 q2 q3 q4 (by omega) hsq
    obtain ⟨Y0, B0⟩ := best_yes hL hf8 hj q zq l1 l2 l3 l4 l5 (v := 0) (by omega)
    obtain ⟨Y1, B1⟩ := best_yes hL hf8 hj Y0.1 Y0.2.1 Y0.2.2.1 Y0.2.2.2.1 Y0.2.2.2.2.1 Y0.2.2.2.2.2.1 Y0.2.2.2.2.2.2 (v := 1) (by omega)
    obtain ⟨Y2, B2⟩ := best_yes hL hf8 hj Y1.1 Y1.2.1 Y1.2.2.1 Y1.2.2.2.1 Y1.2.2.2.2.1 Y1.2.2.2.2.2.1 Y1.2.2.2.2.2.2 (v := 2) (by omega)
    obtain ⟨Y3, B3⟩ := best_yes hL hf8 hj Y2.1 Y2.2.1 Y2.2.2.1 Y2.2.2.2.1 Y2.2.2.2.2.1 Y2.2.2.2.2.2.1 Y2.2.2.2.2.2.2 (v := 3) (by omega)
    obtain ⟨Y4, B4⟩ := best_yes hL hf8 hj Y3.1 Y3.2.1 Y3.2.2.1 Y3.2.2.2.1 Y3.2.2.2.2.1 Y3.2.2.2.2.2.1 Y3.2.2.2.2.2.2 (v := 4) (by omega)
    obtain ⟨f9, i0, v0, i1, v1, i2, v2, i3, v3, m9, e9, hf9, hm9, tp9, -⟩ := swap_ok (m := m6 - 1 - 1) (k0 := d0) (z0 := u0) (k1 := d1) (z1 := u1) (k2 := d2) (z2 := u2) (k3 := d3) (z3 := u3) hL hf8 (by omega) q1 q2 q3 q4 (by omega) (by omega) hsq
    obtain ⟨fA, j0, r0, j1, r1, j2, r2, j3, r3, mA, eA, hfA, hmA, tpA, upA⟩ := swap_ok (k0 := i0) (z0 := v0) (k1 := i1) (z1 := v1) (k2 := i2) (z2 := v2) (k3 := i3) (z3 := v3) LS hf9 hm9 q2 q1 q4 q3 (by omega) (by omega) (sq_turn (sqX_sq hsq (by omega)))
    rw [sq_back] at eA
    obtain ⟨fB, eB, hfB⟩ := undo_ok (f := fA) (z := nI n) h8 hmA tpA
    obtain ⟨fC, eC, hfC⟩ := undo_ok (m := mA - 1) (f := fB) (z := nI n) h8 (by omega) (Tp_down (upA _ _ tp9))
    have hSC : Sm fC (nI n) s := ⟨n, T, hL, rfl, hfC, hs⟩
    have cc := a_cnt2 hL hf8 (nI (m6 - 1 - 1)) pl
    have cd := a_cnt2 LS hf9 (nI m9) pl
    have hq0 : ¬ nI (bv n T j 0) < 0 := nI_pos (show qa n j < 2 ^ 31 by omega)
    exact ⟨_, bd_z (cnt0_is _ _ _ _) (gd_z g1 (gd_z g2 (gd_z g1 (bd_z e1 (ip c1 (bd_z e2 (ip c2 (bd_z e3 (iq (nI_pos (by omega)) (bd_z e4 (iq (nI_pos (by omega)) (bd_z e5 (ip c5 (bd_z e6 (iq c6 (bd_z e7 (iq (nI_pos (by omega)) (bd_z e8' (iq (nI_pos (by omega)) (bd_z (show mX9_best f8 (nI n) q zq l1 l2 l3 l4 l5 0 = _ from B0) (iq hq0 (bd_z (show mX9_best f8 (nI n) Y0.1 Y0.2.1 Y0.2.2.1 Y0.2.2.2.1 Y0.2.2.2.2.1 Y0.2.2.2.2.2.1 Y0.2.2.2.2.2.2 1 = _ from B1) (bd_z (show mX9_best f8 (nI n) Y1.1 Y1.2.1 Y1.2.2.1 Y1.2.2.2.1 Y1.2.2.2.2.1 Y1.2.2.2.2.2.1 Y1.2.2.2.2.2.2 2 = _ from B2) (bd_z (show mX9_best f8 (nI n) Y2.1 Y2.2.1 Y2.2.2.1 Y2.2.2.2.1 Y2.2.2.2.2.1 Y2.2.2.2.2.2.1 Y2.2.2.2.2.2.2 3 = _ from B3) (bd_z (show mX9_best f8 (nI n) Y3.1 Y3.2.1 Y3.2.2.1 Y3.2.2.2.1 Y3.2.2.2.2.1 Y3.2.2.2.2.2.1 Y3.2.2.2.2.2.2 4 = _ from B4) (bd_z cc (bd_z e9 (ip rfl (bd_z cd (ip rfl (bd_z eA (ip rfl (bd_z eB (iq (nI_pos (by omega)) (bd_z eC (iq (nI_pos (by omega)) ((isBack_L250 (nI (mA - 1 - 1), fC, nI n, nI (mA - 1 - 1)) hSC hS2 _).trans rfl)))))))))))))))))))))))))))))))))))))⟩
end IsBack
