/-! acts: both objects do and tell the same -/
abbrev ActT : Type := Int32 × (Nat → Int32) × Int32 × (Nat → Int32) × Int32 × (Nat → Int32) × Int32 × (Nat → Int32) × Int32 × (Nat → Int32) × Int32 × (Nat → Int32) × Int32 × (Nat → Int32) × Int32 × Int32 × (Nat → Int32) × Int32 × (Nat → Int32) × Int32 × Int32 × Int32 × Int32 × Int32 × Int32 × Int32
/-- one object, held against a ghost -/
def Ob (f : Nat → Int32) (z : Int32) (g : Nat → Int32) (zg : Int32) (k0 : Nat → Int32) (z0 : Int32) (k1 : Nat → Int32) (z1 : Int32) (k2 : Nat → Int32) (z2 : Int32) (k3 : Nat → Int32) (z3 : Int32) (st : Int32) (pd : Nat → Int32) (pl : Int32) (b : Int32) (s P h S : Nat → Int32) (m N : Nat) (bb : Int32) : Prop := Sm f z s ∧ (st = nI m ∧ Hs m k0 z0 k1 z1 k2 z2 k3 z3 P) ∧ (pl = nI N ∧ Pd pd h N) ∧ b = bb ∧ (bb = 0 ∨ Sm g zg S)
/-- two objects, held against one -/
def Tw (f : Nat → Int32) (z : Int32) (g : Nat → Int32) (zg : Int32) (k0 : Nat → Int32) (z0 : Int32) (k1 : Nat → Int32) (z1 : Int32) (k2 : Nat → Int32) (z2 : Int32) (k3 : Nat → Int32) (z3 : Int32) (st : Int32) (pd : Nat → Int32) (pl : Int32) (b : Int32) (f' : Nat → Int32) (z' : Int32) (g' : Nat → Int32) (zg' : Int32) (k0' : Nat → Int32) (z0' : Int32) (k1' : Nat → Int32) (z1' : Int32) (k2' : Nat → Int32) (z2' : Int32) (k3' : Nat → Int32) (z3' : Int32) (st' : Int32) (pd' : Nat → Int32) (pl' : Int32) (b' : Int32) : Prop := ∃ s P h S m N bb, Ob f z g zg k0 z0 k1 z1 k2 z2 k3 z3 st pd pl b s P h S m N bb ∧ Ob f' z' g' zg' k0' z0' k1' z1' k2' z2' k3' z3' st' pd' pl' b' s P h S m N bb
def TwT (y w : ActT) : Prop := Tw y.2.1 y.2.2.1 y.2.2.2.1 y.2.2.2.2.1 y.2.2.2.2.2.2.2.1 y.2.2.2.2.2.2.2.2.1 y.2.2.2.2.2.2.2.2.2.1 y.2.2.2.2.2.2.2.2.2.2.1 y.2.2.2.2.2.2.2.2.2.2.2.1 y.2.2.2.2.2.2.2.2.2.2.2.2.1 y.2.2.2.2.2.2.2.2.2.2.2.2.2.1 y.2.2.2.2.2.2.2.2.2.2.2.2.2.2.1 y.2.2.2.2.2.2.2.2.2.2.2.2.2.2.2.1 y.2.2.2.2.2.2.2.2.2.2.2.2.2.2.2.2.1 y.2.2.2.2.2.2.2.2.2.2.2.2.2.2.2.2.2.1 y.2.2.2.2.2.2.2.2.2.2.2.2.2.2.2.2.2.2.2.2.2.2.2.2.2 w.2.1 w.2.2.1 w.2.2.2.1 w.2.2.2.2.1 w.2.2.2.2.2.2.2.1 w.2.2.2.2.2.2.2.2.1 w.2.2.2.2.2.2.2.2.2.1 w.2.2.2.2.2.2.2.2.2.2.1 w.2.2.2.2.2.2.2.2.2.2.2.1 w.2.2.2.2.2.2.2.2.2.2.2.2.1 w.2.2.2.2.2.2.2.2.2.2.2.2.2.1 w.2.2.2.2.2.2.2.2.2.2.2.2.2.2.1 w.2.2.2.2.2.2.2.2.2.2.2.2.2.2.2.1 w.2.2.2.2.2.2.2.2.2.2.2.2.2.2.2.2.1 w.2.2.2.2.2.2.2.2.2.2.2.2.2.2.2.2.2.1 w.2.2.2.2.2.2.2.2.2.2.2.2.2.2.2.2.2.2.2.2.2.2.2.2.2
def ActR (y w : ActT) : Prop := w.1 = y.1 ∧ TwT y w
section Acts
variable {f : Nat → Int32} {z : Int32} {g : Nat → Int32} {zg : Int32} {t : Nat → Int32} {zt : Int32} {k0 : Nat → Int32} {z0 : Int32} {k1 : Nat → Int32} {z1 : Int32} {k2 : Nat → Int32} {z2 : Int32} {k3 : Nat → Int32} {z3 : Int32} {st : Int32} {pd : Nat → Int32} {pl : Int32} {q : Nat → Int32} {zq : Int32} {l1 : Int32} {l2 : Int32} {l3 : Int32} {l4 : Int32} {l5 : Int32} {b : Int32} {f' : Nat → Int32} {z' : Int32} {g' : Nat → Int32} {zg' : Int32} {t' : Nat → Int32} {zt' : Int32} {k0' : Nat → Int32} {z0' : Int32} {k1' : Nat → Int32} {z1' : Int32} {k2' : Nat → Int32} {z2' : Int32} {k3' : Nat → Int32} {z3' : Int32} {st' : Int32} {pd' : Nat → Int32} {pl' : Int32} {q' : Nat → Int32} {zq' : Int32} {l1' : Int32} {l2' : Int32} {l3' : Int32} {l4' : Int32} {l5' : Int32} {b' : Int32}
theorem acts_L167 {s : Nat → Int32} {n : Nat} (h2 : 2 ≤ n) (h8 : n ≤ 8) (hS : Sm f (nI n) s) (hS' : Sm f' (nI n) s) (k k' : Int32 → Int32 → Int32 → (Nat → Int32) → Option ActT) (hk : ∀ (x x6 : Int32) (a b h : Nat → Int32) (L : Nat), Pd a h L → Pd b h L → ∃ y w, k x x6 (nI L) a = some y ∧ k' x x6 (nI L) b = some w ∧ ActR y w) (x6 : Int32) (h : Nat → Int32) : ∃ y w, mL_acts_L167 f (nI n) (nI n) k FU 0 x6 0 pd = some y ∧ mL_acts_L167 f' (nI n) (nI n) k' FU 0 x6 0 pd' = some w ∧ ActR y w := by
  have hnn := nn_le h8
  have eT : nI n * nI n + nI n - 1 = nI (n * n + n - 1) := by
    rw [pk_mul, nI_add, show n * n + n = (n * n + n - 1) + 1 by omega, nI_pred, Nat.add_sub_cancel]
  have h0 : nzb (nI n + 1) = true := by rw [nI_1]; exact nzb_nI (by omega) (by omega)
  obtain ⟨m, a, b, ⟨e0, hh, L, e1, e2, hP, hP'⟩, d1, d2⟩ := lpI2 (fun F x (p : Int32 × Int32 × (Nat → Int32)) => mL_acts_L167 f (nI n) (nI n) k F x p.1 p.2.1 p.2.2) (fun F x (p : Int32 × Int32 × (Nat → Int32)) => mL_acts_L167 f' (nI n) (nI n) k' F x p.1 p.2.1 p.2.2) (n * n + n - 1) 0 (fun _ a b => a.1 = b.1 ∧ ∃ h L, a.2.1 = nI L ∧ b.2.1 = nI L ∧ Pd a.2.2 h L ∧ Pd b.2.2 h L) (by omega) (by omega) (fun F i a b _ hi hI => by
    obtain ⟨a1, a2, a3⟩ := a
    obtain ⟨b1, b2, b3⟩ := b
    obtain ⟨e0, hh, L, e1, e2, hP, hP'⟩ := hI
    have e0 : a1 = b1 := e0
    have e1 : a2 = nI L := e1
    have e2 : b2 = nI L := e2
    subst e0 e1 e2
    have g1 : ¬ nI n * nI n + nI n - 1 ≤ nI i := by rw [eT]; exact nI_ge hi (by omega)
    have g2 : ¬ (71 : Int32) ≤ nI i := nI_ge (b := 71) (by omega) (by omega)
    by_cases hc : nI i - nI i / (nI n + 1) * (nI n + 1) = nI n
    · obtain ⟨r, ga, gb, h3, L1, e3, e4, hA, hB⟩ := append_two hP hP' 47
      refine ⟨(r, nI L1, ga), (r, nI L1, gb), ⟨rfl, h3, L1, rfl, rfl, hA, hB⟩, ?_, ?_⟩
      · show mL_acts_L167 _ _ _ _ (F + 1) _ _ _ _ = _
        rw [mL_acts_L167]
        refine iq g1 (iq g2 (gd_z h0 (ip hc (bd_z e3 ?_))))
        show mL_acts_L167 _ _ _ _ F (nI i + 1) _ _ _ = _
        rw [nI_1]
      · show mL_acts_L167 _ _ _ _ (F + 1) _ _ _ _ = _
        rw [mL_acts_L167]
        refine iq g1 (iq g2 (gd_z h0 (ip hc (bd_z e4 ?_))))
        show mL_acts_L167 _ _ _ _ F (nI i + 1) _ _ _ = _
        rw [nI_1]
    · obtain ⟨v, v1, v2⟩ := sum_two hS hS' (nI n - 1 - nI i / (nI n + 1)) (nI i - nI i / (nI n + 1) * (nI n + 1))
      obtain ⟨r, ga, gb, h3, L1, e3, e4, hA, hB⟩ := append_two hP hP' (48 + v)
      refine ⟨(r, nI L1, ga), (r, nI L1, gb), ⟨rfl, h3, L1, rfl, rfl, hA, hB⟩, ?_, ?_⟩
      · show mL_acts_L167 _ _ _ _ (F + 1) _ _ _ _ = _
        rw [mL_acts_L167]
        refine iq g1 (iq g2 (gd_z h0 (iq hc (gd_z h0 (gd_z h0 (bd_z v1 (bd_z e3 ?_)))))))
        show mL_acts_L167 _ _ _ _ F (nI i + 1) _ _ _ = _
        rw [nI_1]
      · show mL_acts_L167 _ _ _ _ (F + 1) _ _ _ _ = _
        rw [mL_acts_L167]
        refine iq g1 (iq g2 (gd_z h0 (iq hc (gd_z h0 (gd_z h0 (bd_z v2 (bd_z e4 ?_)))))))
        show mL_acts_L167 _ _ _ _ F (nI i + 1) _ _ _ = _
        rw [nI_1]) (x6, 0, pd) (x6, 0, pd') ⟨rfl, h, 0, rfl, rfl, ⟨Nat.zero_le _, fun i hi => absurd hi (Nat.not_lt_zero _)⟩, ⟨Nat.zero_le _, fun i hi => absurd hi (Nat.not_lt_zero _)⟩⟩
  obtain ⟨a1, a2, a3⟩ := a
  obtain ⟨b1, b2, b3⟩ := b
  have e0 : a1 = b1 := e0
  have e1 : a2 = nI L := e1
  have e2 : b2 = nI L := e2
  subst e0 e1 e2
  obtain ⟨y, w, ky, kw, hR⟩ := hk (nI (n * n + n - 1)) a1 a3 b3 hh L hP hP'
  have gT : nI n * nI n + nI n - 1 ≤ nI (n * n + n - 1) := by rw [eT]; exact nI_le (Nat.le_refl _) (by omega)
  refine ⟨y, w, ?_, ?_, hR⟩
  · refine Eq.trans d1 ?_
    show mL_acts_L167 _ _ _ _ (m + 1) _ _ _ _ = _
    rw [mL_acts_L167]
    exact ip gT ky
  · refine Eq.trans d2 ?_
    show mL_acts_L167 _ _ _ _ (m + 1) _ _ _ _ = _
    rw [mL_acts_L167]
    exact ip gT kw
set_option maxHeartbeats 4000000 in
theorem acts_two (c : Int32) (hT : Tw f z g zg k0 z0 k1 z1 k2 z2 k3 z3 st pd pl b f' z' g' zg' k0' z0' k1' z1' k2' z2' k3' z3' st' pd' pl' b') : ∃ y w, mL_acts f z g zg t zt k0 z0 k1 z1 k2 z2 k3 z3 st pd pl q zq l1 l2 l3 l4 l5 b c = some y ∧ mL_acts f' z' g' zg' t' zt' k0' z0' k1' z1' k2' z2' k3' z3' st' pd' pl' q' zq' l1' l2' l3' l4' l5' b' c = some w ∧ ActR y w := by
  obtain ⟨s, P, h, S, m, N, bb, ⟨hS, ⟨rfl, hH⟩, ⟨rfl, hP⟩, rfl, hB⟩, ⟨hS', ⟨rfl, hH'⟩, ⟨rfl, hP'⟩, hbb, hB'⟩⟩ := hT
  subst hbb
  obtain ⟨n, T, hL, rfl, ht, hs⟩ := id hS
  have hz : z' = nI n := (Sm_z hS').trans hs.1
  subst hz
  unfold mL_acts
  refine two_bd (cnt0_is _ _ _ _) (cnt0_is _ _ _ _) ?_
  refine two_ite (fun _ => ?_) (fun _ => ?_)
  · obtain ⟨r, fa, za, k0a, z0a, k1a, z1a, k2a, z2a, k3a, z3a, fb, zb, k0b, z0b, k1b, z1b, k2b, z2b, k3b, z3b, s1, P1, m1, e1, e2, hA, hC, hA', hC'⟩ := begin_two hS hS' hH hH' _ _
    exact two_bd e1 e2 ⟨_, _, rfl, rfl, rfl, s1, P1, h, S, m1, N, _, ⟨hA, ⟨rfl, hC⟩, ⟨rfl, hP⟩, rfl, hB⟩, ⟨hA', ⟨rfl, hC'⟩, ⟨rfl, hP'⟩, rfl, hB'⟩⟩
  refine two_ite (fun _ => ?_) (fun _ => ?_)
  · obtain ⟨r, fa, za, ga, zga, k0a, z0a, k1a, z1a, k2a, z2a, k3a, z3a, fb, zb, gb, zgb, k0b, z0b, k1b, z1b, k2b, z2b, k3b, z3b, s1, P1, m1, e1, e2, hA, hC, hA', hC'⟩ := rows_two (g := t) (zg := zt) (g' := t') (zg' := zt') hS hS' hH hH' _ _
    exact two_bd e1 e2 ⟨_, _, rfl, rfl, rfl, s1, P1, h, S, m1, N, _, ⟨hA, ⟨rfl, hC⟩, ⟨rfl, hP⟩, rfl, hB⟩, ⟨hA', ⟨rfl, hC'⟩, ⟨rfl, hP'⟩, rfl, hB'⟩⟩
  refine two_ite (fun _ => ?_) (fun _ => ?_)
  · obtain ⟨r, fa, za, ga, zga, k0a, z0a, k1a, z1a, k2a, z2a, k3a, z3a, fb, zb, gb, zgb, k0b, z0b, k1b, z1b, k2b, z2b, k3b, z3b, s1, P1, m1, e1, e2, hA, hC, hA', hC'⟩ := rows_two (g := t) (zg := zt) (g' := t') (zg' := zt') hS hS' hH hH' _ _
    exact two_bd e1 e2 ⟨_, _, rfl, rfl, rfl, s1, P1, h, S, m1, N, _, ⟨hA, ⟨rfl, hC⟩, ⟨rfl, hP⟩, rfl, hB⟩, ⟨hA', ⟨rfl, hC'⟩, ⟨rfl, hP'⟩, rfl, hB'⟩⟩
  refine two_ite (fun _ => ?_) (fun _ => ?_)
  · obtain ⟨r, fa, za, ga, zga, k0a, z0a, k1a, z1a, k2a, z2a, k3a, z3a, fb, zb, gb, zgb, k0b, z0b, k1b, z1b, k2b, z2b, k3b, z3b, s1, P1, m1, e1, e2, hA, hC, hA', hC'⟩ := rows_two (g := t) (zg := zt) (g' := t') (zg' := zt') hS hS' hH hH' _ _
    exact two_bd e1 e2 ⟨_, _, rfl, rfl, rfl, s1, P1, h, S, m1, N, _, ⟨hA, ⟨rfl, hC⟩, ⟨rfl, hP⟩, rfl, hB⟩, ⟨hA', ⟨rfl, hC'⟩, ⟨rfl, hP'⟩, rfl, hB'⟩⟩
  refine two_ite (fun _ => ?_) (fun _ => ?_)
  · obtain ⟨r, fa, za, ga, zga, k0a, z0a, k1a, z1a, k2a, z2a, k3a, z3a, fb, zb, gb, zgb, k0b, z0b, k1b, z1b, k2b, z2b, k3b, z3b, s1, P1, m1, e1, e2, hA, hC, hA', hC'⟩ := columns_two (g := t) (zg := zt) (g' := t') (zg' := zt') hS hS' hH hH' _ _
    exact two_bd e1 e2 ⟨_, _, rfl, rfl, rfl, s1, P1, h, S, m1, N, _, ⟨hA, ⟨rfl, hC⟩, ⟨rfl, hP⟩, rfl, hB⟩, ⟨hA', ⟨rfl, hC'⟩, ⟨rfl, hP'⟩, rfl, hB'⟩⟩
  refine two_ite (fun _ => ?_) (fun _ => ?_)
  · obtain ⟨r, fa, za, ga, zga, k0a, z0a, k1a, z1a, k2a, z2a, k3a, z3a, fb, zb, gb, zgb, k0b, z0b, k1b, z1b, k2b, z2b, k3b, z3b, s1, P1, m1, e1, e2, hA, hC, hA', hC'⟩ := columns_two (g := t) (zg := zt) (g' := t') (zg' := zt') hS hS' hH hH' _ _
    exact two_bd e1 e2 ⟨_, _, rfl, rfl, rfl, s1, P1, h, S, m1, N, _, ⟨hA, ⟨rfl, hC⟩, ⟨rfl, hP⟩, rfl, hB⟩, ⟨hA', ⟨rfl, hC'⟩, ⟨rfl, hP'⟩, rfl, hB'⟩⟩
  refine two_ite (fun _ => ?_) (fun _ => ?_)
  · obtain ⟨r, fa, za, ga, zga, k0a, z0a, k1a, z1a, k2a, z2a, k3a, z3a, fb, zb, gb, zgb, k0b, z0b, k1b, z1b, k2b, z2b, k3b, z3b, s1, P1, m1, e1, e2, hA, hC, hA', hC'⟩ := names_two (g := t) (zg := zt) (g' := t') (zg' := zt') hS hS' hH hH' _ _
    exact two_bd e1 e2 ⟨_, _, rfl, rfl, rfl, s1, P1, h, S, m1, N, _, ⟨hA, ⟨rfl, hC⟩, ⟨rfl, hP⟩, rfl, hB⟩, ⟨hA', ⟨rfl, hC'⟩, ⟨rfl, hP'⟩, rfl, hB'⟩⟩
  refine two_ite (fun _ => ?_) (fun _ => ?_)
  · obtain ⟨r, fa, za, ga, zga, k0a, z0a, k1a, z1a, k2a, z2a, k3a, z3a, fb, zb, gb, zgb, k0b, z0b, k1b, z1b, k2b, z2b, k3b, z3b, s1, P1, m1, e1, e2, hA, hC, hA', hC'⟩ := names_two (g := t) (zg := zt) (g' := t') (zg' := zt') hS hS' hH hH' _ _
    exact two_bd e1 e2 ⟨_, _, rfl, rfl, rfl, s1, P1, h, S, m1, N, _, ⟨hA, ⟨rfl, hC⟩, ⟨rfl, hP⟩, rfl, hB⟩, ⟨hA', ⟨rfl, hC'⟩, ⟨rfl, hP'⟩, rfl, hB'⟩⟩
  refine two_ite (fun _ => ?_) (fun _ => ?_)
  · obtain ⟨r, fa, za, fb, zb, s1, m1, e1, e2, hA, hC, hA', hC'⟩ := undo_two hS hS' hH hH'
    exact two_bd e1 e2 ⟨_, _, rfl, rfl, rfl, s1, P, h, S, m1, N, _, ⟨hA, ⟨rfl, hC⟩, ⟨rfl, hP⟩, rfl, hB⟩, ⟨hA', ⟨rfl, hC'⟩, ⟨rfl, hP'⟩, rfl, hB'⟩⟩
  refine two_ite (fun _ => ?_) (fun _ => ?_)
  · obtain ⟨ga, za, gb, zb, G, e1, e2, hA, hC⟩ := save_two (g := g) (g' := g') hS hS'
    exact two_bd e1 e2 ⟨_, _, rfl, rfl, rfl, s, P, h, G, m, N, 1, ⟨hS, ⟨rfl, hH⟩, ⟨rfl, hP⟩, rfl, Or.inr hA⟩, ⟨hS', ⟨rfl, hH'⟩, ⟨rfl, hP'⟩, rfl, Or.inr hC⟩⟩
  refine two_ite (fun _ => ?_) (fun _ => ?_)
  · obtain ⟨r, fa, za, k0a, z0a, k1a, z1a, k2a, z2a, k3a, z3a, fb, zb, k0b, z0b, k1b, z1b, k2b, z2b, k3b, z3b, s1, P1, m1, e1, e2, hA, hC, hA', hC'⟩ := restore_two hS hS' hH hH' hB hB'
    exact two_bd e1 e2 ⟨_, _, rfl, rfl, rfl, s1, P1, h, S, m1, N, _, ⟨hA, ⟨rfl, hC⟩, ⟨rfl, hP⟩, rfl, hB⟩, ⟨hA', ⟨rfl, hC'⟩, ⟨rfl, hP'⟩, rfl, hB'⟩⟩
  refine two_ite (fun _ => ?_) (fun _ => ?_)
  · refine two_bd (a := (nI N, 0)) (a' := (nI N, 0)) rfl rfl (acts_L167 hL.1 hL.2.1 hS hS' _ _ (fun x x6 a b h1 L hQ hQ' => ?_) _ h)
    refine two_ite (fun _ => ?_) (fun _ => ?_)
    · obtain ⟨r, fa, za, ta, zta, k0a, z0a, k1a, z1a, k2a, z2a, k3a, z3a, fb, zb, tb, ztb, k0b, z0b, k1b, z1b, k2b, z2b, k3b, z3b, s1, P1, m1, L1, e1, e2, hA, hC, hA', hC', hQ1, hQ1'⟩ := load_two (g := t) (g' := t') hS hS' hH hH' hQ hQ'
      exact two_bd e1 e2 ⟨_, _, rfl, rfl, rfl, s1, P1, h1, S, m1, L1, _, ⟨hA, ⟨rfl, hC⟩, ⟨rfl, hQ1⟩, rfl, hB⟩, ⟨hA', ⟨rfl, hC'⟩, ⟨rfl, hQ1'⟩, rfl, hB'⟩⟩
    · exact ⟨_, _, rfl, rfl, rfl, s, P, h1, S, m, L, _, ⟨hS, ⟨rfl, hH⟩, ⟨rfl, hQ⟩, rfl, hB⟩, ⟨hS', ⟨rfl, hH'⟩, ⟨rfl, hQ'⟩, rfl, hB'⟩⟩
  refine two_ite (fun _ => ?_) (fun _ => ?_)
  · obtain ⟨r, fa, k0a, z0a, k1a, z1a, k2a, z2a, k3a, z3a, fb, k0b, z0b, k1b, z1b, k2b, z2b, k3b, z3b, s1, P1, m1, e1, e2, hA, hC, hA', hC'⟩ := swap_two hS hS' hH hH' _ _ _ _
    exact two_bd e1 e2 ⟨_, _, rfl, rfl, rfl, s1, P1, h, S, m1, N, _, ⟨hA, ⟨rfl, hC⟩, ⟨rfl, hP⟩, rfl, hB⟩, ⟨hA', ⟨rfl, hC'⟩, ⟨rfl, hP'⟩, rfl, hB'⟩⟩
  obtain ⟨r0, y0, w0, b0, b0'⟩ := best_two hS hS' q zq l1 l2 l3 l4 l5 q' zq' l1' l2' l3' l4' l5' 0
  refine two_bd b0 b0' (two_ite (fun _ => ?_) (fun _ => ?_))
  · obtain ⟨r1, y1, w1, b1, b1'⟩ := best_two hS hS' y0.1 y0.2.1 y0.2.2.1 y0.2.2.2.1 y0.2.2.2.2.1 y0.2.2.2.2.2.1 y0.2.2.2.2.2.2 w0.1 w0.2.1 w0.2.2.1 w0.2.2.2.1 w0.2.2.2.2.1 w0.2.2.2.2.2.1 w0.2.2.2.2.2.2 1
    obtain ⟨r2, y2, w2, b2, b2'⟩ := best_two hS hS' y1.1 y1.2.1 y1.2.2.1 y1.2.2.2.1 y1.2.2.2.2.1 y1.2.2.2.2.2.1 y1.2.2.2.2.2.2 w1.1 w1.2.1 w1.2.2.1 w1.2.2.2.1 w1.2.2.2.2.1 w1.2.2.2.2.2.1 w1.2.2.2.2.2.2 0
    obtain ⟨r3, y3, w3, b3, b3'⟩ := best_two hS hS' y2.1 y2.2.1 y2.2.2.1 y2.2.2.2.1 y2.2.2.2.2.1 y2.2.2.2.2.2.1 y2.2.2.2.2.2.2 w2.1 w2.2.1 w2.2.2.1 w2.2.2.2.1 w2.2.2.2.2.1 w2.2.2.2.2.2.1 w2.2.2.2.2.2.2 2
    obtain ⟨r4, y4, w4, b4, b4'⟩ := best_two hS hS' y3.1 y3.2.1 y3.2.2.1 y3.2.2.2.1 y3.2.2.2.2.1 y3.2.2.2.2.2.1 y3.2.2.2.2.2.2 w3.1 w3.2.1 w3.2.2.1 w3.2.2.2.1 w3.2.2.2.2.1 w3.2.2.2.2.2.1 w3.2.2.2.2.2.2 3
    obtain ⟨r, fa, k0a, z0a, k1a, z1a, k2a, z2a, k3a, z3a, fb, k0b, z0b, k1b, z1b, k2b, z2b, k3b, z3b, s1, P1, m1, e1, e2, hA, hC, hA', hC'⟩ := swap_two hS hS' hH hH' r1 r2 r3 r4
    exact two_bd b1 b1' (two_bd b2 b2' (two_bd b3 b3' (two_bd b4 b4' (two_bd e1 e2 ⟨_, _, rfl, rfl, rfl, s1, P1, h, S, m1, N, _, ⟨hA, ⟨rfl, hC⟩, ⟨rfl, hP⟩, rfl, hB⟩, ⟨hA', ⟨rfl, hC'⟩, ⟨rfl, hP'⟩, rfl, hB'⟩⟩))))
  · exact ⟨_, _, rfl, rfl, rfl, s, P, h, S, m, N, _, ⟨hS, ⟨rfl, hH⟩, ⟨rfl, hP⟩, rfl, hB⟩, ⟨hS', ⟨rfl, hH'⟩, ⟨rfl, hP'⟩, rfl, hB'⟩⟩
end Acts
