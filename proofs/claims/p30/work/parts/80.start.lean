/-! the start of the law: what a new object answers; the script's numbers; same -/
theorem FU_s : ∃ F, FU = F + 1 := ⟨FU - 1, by have := FU_ge; omega⟩
theorem and31 (x : Int32) : ∃ v, v < 2 ^ 31 ∧ x &&& 2147483647 = nI v := by
  refine ⟨(x.toBitVec &&& (2147483647 : Int32).toBitVec).toNat, ?_, ?_⟩
  · rw [BitVec.toNat_and]
    have h : x.toBitVec.toNat &&& (2147483647 : Int32).toBitVec.toNat ≤ (2147483647 : Int32).toBitVec.toNat := Nat.and_le_right
    have e : (2147483647 : Int32).toBitVec.toNat = 2147483647 := by decide
    omega
  · refine Int32.toBitVec_inj.mp (BitVec.eq_of_toNat_eq ?_)
    show (x.toBitVec &&& (2147483647 : Int32).toBitVec).toNat = (BitVec.ofNat 32 (x.toBitVec &&& (2147483647 : Int32).toBitVec).toNat).toNat
    rw [BitVec.toNat_ofNat, Nat.mod_eq_of_lt (x.toBitVec &&& (2147483647 : Int32).toBitVec).isLt]
theorem cell_ok {L : Nat} (hL : L ≤ 260) (xs : Nat → Int32) {j : Nat} (hj : j ≤ 24) : ∃ v, v < 2 ^ 31 ∧ mL_cell L xs (nI j) = some (nI v) := by
  unfold mL_cell
  by_cases q : j < L
  · obtain ⟨v, hv, e⟩ := and31 (xs (nI j : Int32).toNatClampNeg)
    exact ⟨v, hv, iq (show ¬ nI L ≤ nI j from nI_ge q (by omega)) (gd_z (inb_nI q (by omega)) (congrArg some e))⟩
  · obtain ⟨v, hv, e⟩ := and31 (((40503 : Int32) * (nI j + 11)) + 17)
    exact ⟨v, hv, ip (show nI L ≤ nI j from nI_le (by omega) (by omega)) (congrArg some e)⟩
section Start
variable {n : Nat} {T : Nat → Nat → Nat} {f : Nat → Int32}
theorem X8_neutral_is (hL : Lat n T) (ht : tF n T f) (lf : Bool) {d : Nat} (hd : d < n) (hdn : neu T n d lf = true) : mX8_neutralToken f (nI n) (bI lf) = some (nI d) := by
  have h8 := hL.2.1
  have hk : ∀ F i, i < n → mX8_neutralToken_L2 f (nI n) (bI lf) (fun (x2_1 : Int32) => some ((-4))) (F + 1) (nI i) = if neu T n i lf = true then some (nI i) else mX8_neutralToken_L2 f (nI n) (bI lf) (fun (x2_1 : Int32) => some ((-4))) F (nI (i + 1)) := by
    intro F i hi
    rw [mX8_neutralToken_L2, X6_size_ok, bd_some, if_neg (nI_ge hi (by omega)), X8_isNeutral_ok hL ht hi lf, bd_some, nI_1]
    cases hb : neu T n i lf with
    | false => rw [if_pos (show bI false = 0 from rfl)]; rfl
    | true => rw [if_neg (show ¬ bI true = 0 by decide)]; rfl
  rcases lpF (fun F x => mX8_neutralToken_L2 f (nI n) (bI lf) (fun (x2_1 : Int32) => some ((-4))) F x) n 0 (fun i => neu T n i lf) (fun i => some (nI i)) (by omega) (by omega) (fun F i _ hi hp => by
      show mX8_neutralToken_L2 _ _ _ _ (F + 1) _ = _
      rw [hk F i hi, if_neg (by rw [hp]; decide)]) (fun F i _ hi hp => by
      show mX8_neutralToken_L2 _ _ _ _ (F + 1) _ = _
      rw [hk F i hi, if_pos hp]) with ⟨t, _, hi, hp, _, e⟩ | ⟨h0, _⟩
  · have := neu_one hL hi hd hp hdn
    subst this
    exact e
  · have := h0 d (by omega) hd
    rw [hdn] at this
    cases this
theorem read6_0 (h1 : 0 < n) (h8 : n ≤ 8) (t pd : Nat → Int32) : mX6_readFrom t pd 0 (nI n) = some (0, t, nI n) := by
  obtain ⟨F, hF⟩ := FU_s
  have ed : mX1_digitAt pd 0 0 = some (-48) := X1_digitAt_out (g := pd) (L := 0) (i := 0) (by omega) (by omega) (by omega)
  unfold mX6_readFrom
  rw [hF, mX6_readFrom_L10]
  refine iq (nI_ge (a := 0) h1 (by omega)) (ip (by decide) ?_)
  rw [hF, mX6_readFrom_L42]
  exact iq (nI_ge (a := 0) h1 (by omega)) (bd_z ed (bd_z has_no (ip rfl rfl)))
theorem read5_0 (z : Int32) (s1 s2 s3 s4 s5 s6 pd : Nat → Int32) : mX5_readFrom s1 s2 s3 s4 s5 s6 pd 0 f z = some (0, upd s1 0 (-1), s2, s3, s4, s5, s6, 0, 0, 1) := by
  obtain ⟨F, hF⟩ := FU_s
  unfold mX5_readFrom
  refine bd_z (X9_put_ok (N := 81) (i := 0) (by omega) (by omega)) ?_
  rw [hF, mX5_readFrom_L26]
  exact bd_z (show mX1_length 0 = some 0 from rfl) (ip (by decide) (iq (show ¬ (1 : Int32) = 0 by decide) rfl))
theorem read3_0 (z : Int32) (rx pd : Nat → Int32) : mX3_readFrom rx pd 0 z = some (0, rx, 0) := by
  obtain ⟨F, hF⟩ := FU_s
  unfold mX3_readFrom
  rw [hF, mX3_readFrom_L7]
  exact bd_z (show mX1_length 0 = some 0 from rfl) (ip (by decide) (ip rfl rfl))
theorem fault0_0 (h1 : 0 < n) (h8 : n ≤ 8) (t : Nat → Int32) (zt : Int32) (pd s1 s2 s3 s4 s5 s6 : Nat → Int32) (d1 d2 d3 : Int32) (rx : Nat → Int32) (rl : Int32) : ∃ y, mX9_fault f (nI n) t zt pd 0 s1 s2 s3 s4 s5 s6 d1 d2 d3 rx rl 0 = some (0, y) := by
  unfold mX9_fault
  exact ⟨_, ip rfl (bd_z X6_size_ok (bd_z (read6_0 h1 h8 t pd) rfl))⟩
theorem fault0_1 (t : Nat → Int32) (z zt : Int32) (pd s1 s2 s3 s4 s5 s6 : Nat → Int32) (d1 d2 d3 : Int32) (rx : Nat → Int32) (rl : Int32) : ∃ y, mX9_fault f z t zt pd 0 s1 s2 s3 s4 s5 s6 d1 d2 d3 rx rl 1 = some (0, y) := by
  unfold mX9_fault
  exact ⟨_, iq (by decide) (ip rfl (bd_z (read5_0 z s1 s2 s3 s4 s5 s6 pd) rfl))⟩
theorem fault0_2 (t : Nat → Int32) (z zt : Int32) (pd s1 s2 s3 s4 s5 s6 : Nat → Int32) (d1 d2 d3 : Int32) (rx : Nat → Int32) (rl : Int32) : ∃ y, mX9_fault f z t zt pd 0 s1 s2 s3 s4 s5 s6 d1 d2 d3 rx rl 2 = some (0, y) := by
  unfold mX9_fault
  exact ⟨_, iq (by decide) (iq (by decide) (ip rfl (bd_z (read3_0 z rx pd) rfl)))⟩
theorem load_0 (h1 : 0 < n) (h8 : n ≤ 8) (t k0 : Nat → Int32) (z0 : Int32) (k1 : Nat → Int32) (z1 : Int32) (k2 : Nat → Int32) (z2 : Int32) (k3 : Nat → Int32) (z3 st : Int32) (pd : Nat → Int32) : mX9_load f (nI n) t k0 z0 k1 z1 k2 z2 k3 z3 st pd 0 = some (-2, f, nI n, t, nI n, k0, z0, k1, z1, k2, z2, k3, z3, st, 0) := by
  unfold mX9_load
  exact bd_z X6_size_ok (bd_z (read6_0 h1 h8 t pd) (iq (show ¬ (0 : Int32) = -4 by decide) rfl))
theorem value_0 (z : Int32) (pd s1 s2 s3 s4 s5 s6 : Nat → Int32) : ∃ y, mX9_value f z pd 0 s1 s2 s3 s4 s5 s6 = some (-2, y) := by
  unfold mX9_value
  exact ⟨_, bd_z (read5_0 z s1 s2 s3 s4 s5 s6 pd) (iq (show ¬ (0 : Int32) = -4 by decide) rfl)⟩
theorem ways_0 (h1 : 0 < n) (h8 : n ≤ 8) (pd rx rp : Nat → Int32) (rl : Int32) : ∃ y, mX9_ways f (nI n) pd 0 rx rp rl 0 0 = some (-2, y) := by
  have e : mX6_has (nI n) (nI 0) = some 1 := by rw [X6_has_ok h8 (by omega), if_pos (by omega)]
  unfold mX9_ways
  exact ⟨_, bd_z (show mX6_has (nI n) 0 = some 1 from e) (iq qn10 (bd_z (show mX9_isWithin 0 0 1 = some 1 from win1 (x := 0) (a := 0) (b := 1) (by omega) (by omega) (by omega)) (iq qn10 (bd_z (read3_0 (nI n) rx pd) (iq (show ¬ (0 : Int32) = -4 by decide) rfl)))))⟩
theorem undo_0 (z : Int32) (k0 : Nat → Int32) (z0 : Int32) (k1 : Nat → Int32) (z1 : Int32) (k2 : Nat → Int32) (z2 : Int32) (k3 : Nat → Int32) (z3 : Int32) : mX9_undo f z k0 z0 k1 z1 k2 z2 k3 z3 0 = some (-2, f, z, 0) := by
  unfold mX9_undo mX0_takeBack mX0_takeBack_0 mX0_stateAt_m1
  rw [if_pos rfl]; rfl
theorem restore_0 (z : Int32) (g : Nat → Int32) (zg : Int32) (k0 : Nat → Int32) (z0 : Int32) (k1 : Nat → Int32) (z1 : Int32) (k2 : Nat → Int32) (z2 : Int32) (k3 : Nat → Int32) (z3 st : Int32) : mX9_restore f z g zg k0 z0 k1 z1 k2 z2 k3 z3 st 0 = some (-2, f, z, k0, z0, k1, z1, k2, z2, k3, z3, st) := by
  unfold mX9_restore
  rw [if_pos rfl]
theorem hangs_Sm {z : Int32} {s : Nat → Int32} (hS : Sm f z s) (hs pl : Int32) (g : Nat → Int32) (zg l1 l2 l3 l4 l5 : Int32) : ∃ y, mL_hangs f z hs pl g zg l1 l2 l3 l4 l5 = some (1, y) := by
  obtain ⟨n, T, hL, rfl, ht, _⟩ := hS
  exact hangs_ok hL ht hs pl g zg l1 l2 l3 l4 l5
end Start
section Same
variable {s : Nat → Int32} {f g : Nat → Int32} {z zg : Int32}
theorem same_ok (hS : Sm f z s) (hS2 : Sm g zg s) (st pl : Int32) : mL_same f z st pl g zg st pl = some 1 := by
  obtain ⟨a0, e0, d0⟩ := count_two hS hS2 st pl 0
  obtain ⟨a2, e2, d2⟩ := count_two hS hS2 st pl 2
  obtain ⟨a6, e6, d6⟩ := count_two hS hS2 st pl 6
  obtain ⟨a11, e11, d11⟩ := count_two hS hS2 st pl 11
  unfold mL_same
  refine bd_z e0 (bd_z d0 (ip rfl (bd_z e2 (bd_z d2 (ip rfl (bd_z e6 (bd_z d6 (ip rfl (bd_z e11 (bd_z d11 (ip rfl ?_)))))))))))
  obtain ⟨r, e⟩ := lpU0 (fun F x => mL_same_L64 f z g zg (fun (x3_9 : Int32) => some (1)) F x) 64 0 (by omega) (by omega) (fun F i _ hi => by
    obtain ⟨v, v1, v2⟩ := sum_two hS hS2 (nI i / 8) (nI i - nI i / 8 * 8)
    show mL_same_L64 _ _ _ _ _ (F + 1) _ = _
    rw [mL_same_L64]
    refine iq (show ¬ (64 : Int32) ≤ nI i from nI_ge (b := 64) hi (by omega)) (bd_z v1 (bd_z v2 (ip rfl ?_)))
    show mL_same_L64 _ _ _ _ _ F (nI i + 1) = _
    rw [nI_1])
  refine Eq.trans e ?_
  show mL_same_L64 _ _ _ _ _ (r + 1) _ = _
  rw [mL_same_L64]
  exact ip (show (64 : Int32) ≤ nI 64 from nI_le (a := 64) (Nat.le_refl _) (by omega)) rfl
end Same
