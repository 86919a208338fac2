/-! the reference sums the parts of the row -/
def ixR (fr len t : Nat) : Nat := (7 * fr + (fr + len - 1)) * 8 + t
theorem ixR_inj : Inj ixR := fun a l z a' l' z' h1 h2 h3 h4 h5 h6 e => by
  unfold ixR at e
  omega
theorem ixR_lt {fr len t : Nat} (h1 : 1 ≤ len) (h2 : fr + len ≤ 7) (h3 : t < 8) : ixR fr len t < 392 := by unfold ixR; omega
section RefParts
variable {n : Nat} {T : Nat → Nat → Nat} {s h : Nat → Int32} {R : Nat → Nat} {L : Nat}
theorem m_part (a b t : Nat) : mX10_part (nI a) (nI b) (nI t) = some (nI ((7 * a + b) * 8 + t)) := by
  unfold mX10_part
  rw [l_8, show (7 : Int32) = nI 7 from rfl, pk_mul, nI_add, pk_mul, nI_add]
theorem m_part' {fr len t : Nat} {to : Nat} (e : fr + len - 1 = to) : mX10_part (nI fr) (nI to) (nI t) = some (nI (ixR fr len t)) := by
  rw [m_part]; unfold ixR; rw [e]
theorem m_adds17 (hLa : Lat n T) (hs : sF n T s) (hL : L ≤ 7) {g : Nat → Int32} {v : Nat → Nat → Nat → Nat} {a l k x to mi : Nat} {b : Nat → Nat} (hc : Cel ixR L n g (gv v a l b)) (h1 : 1 ≤ k) (h2 : k < l) (h3 : a + l ≤ L) (hx : x < n) (hto : a + l - 1 = to) (hmi : a + k - 1 = mi) (K : Int32 → (Nat → Int32) → Option (Nat → Int32)) : ∃ g', Cel ixR L n g' (gv v a l (fun t => b t + sm (fun y => if T x y = t then v a k x * v (a + k) (l - k) y else 0) n)) ∧ mX10_adds_L17 s (nI a) (nI mi) (nI to) (nI x) K FU 0 g = K (nI n) g' := by
  have h8 := hLa.2.1
  obtain ⟨m, g', hg, e⟩ := lpI (fun F y g => mX10_adds_L17 s (nI a) (nI mi) (nI to) (nI x) K F y g) n 0 (fun j g => Cel ixR L n g (gv v a l (fun t => b t + sm (fun y => if T x y = t then v a k x * v (a + k) (l - k) y else 0) j))) (by omega) (by omega) (fun F j g _ hj hI => by
    have hT := hLa.2.2.1 x j hx hj
    have i1 := ixR_lt (fr := a) (len := l) (t := T x j) (by omega) (by omega) (by omega)
    have i2 := ixR_lt (fr := a) (len := k) (t := x) (by omega) (by omega) (by omega)
    have i3 := ixR_lt (fr := a + k) (len := l - k) (t := j) (by omega) (by omega) (by omega)
    refine ⟨_, Cel_eq (Cel_step ixR_inj hL h8 (w := v a k x * v (a + k) (l - k) j) (by omega) h3 hT hI) (fun fr len t _ _ _ => ?_), ?_⟩
    · by_cases q : fr = a ∧ len = l
      · obtain ⟨rfl, rfl⟩ := q
        rw [gv_in, gv_in, sm_s, Nat.add_assoc]
      · rw [gv_out _ _ _ q, gv_out _ _ _ q]
    · show mX10_adds_L17 _ _ _ _ _ _ (F + 1) _ _ = _
      rw [mX10_adds_L17, m_s0 hs, if_neg (nI_ge hj (by omega)), m_plain hLa hs hx hj, bd_some, m_part' hto, bd_some, m_part' hmi, bd_some, show nI mi + 1 = nI (a + k) by rw [nI_1]; congr 1; omega, m_part' (fr := a + k) (len := l - k) (show a + k + (l - k) - 1 = to by omega), bd_some, nI_clamp (by omega), nI_clamp (by omega), nI_clamp (by omega), gd_t (inb_nI i1 (by omega)), gd_t (inb_nI i2 (by omega)), gd_t (inb_nI i3 (by omega)), gd_t (inb_nI i1 (by omega)), hI a l (T x j) (by omega) h3 hT, hI a k x (by omega) (by omega) hx, hI (a + k) (l - k) j (by omega) (by omega) hj, gv_in, gv_out _ _ _ (by omega), gv_out _ _ _ (by omega), pk_mul, nI_add, nI_1]) g hc
  refine ⟨g', hg, ?_⟩
  refine Eq.trans e ?_
  show mX10_adds_L17 _ _ _ _ _ _ (m + 1) _ _ = _
  rw [mX10_adds_L17, m_s0 hs, if_pos (nI_le (Nat.le_refl _) (by omega))]
theorem m_adds (hLa : Lat n T) (hs : sF n T s) (hL : L ≤ 7) {g : Nat → Int32} {v : Nat → Nat → Nat → Nat} {a l k to mi : Nat} {b : Nat → Nat} (hc : Cel ixR L n g (gv v a l b)) (h1 : 1 ≤ k) (h2 : k < l) (h3 : a + l ≤ L) (hto : a + l - 1 = to) (hmi : a + k - 1 = mi) : ∃ g', mX10_adds s g (nI a) (nI mi) (nI to) = some g' ∧ Cel ixR L n g' (gv v a l (fun t => b t + cut n T v a l k t)) := by
  have h8 := hLa.2.1
  unfold mX10_adds
  obtain ⟨m, g', hg, e⟩ := lpI (fun F y g => mX10_adds_L3 s (nI a) (nI mi) (nI to) (fun (x4_1 : Int32) (f_2 : Nat → Int32) => some (f_2)) F y g) n 0 (fun i g => Cel ixR L n g (gv v a l (fun t => b t + sm (fun x => sm (fun y => if T x y = t then v a k x * v (a + k) (l - k) y else 0) n) i))) (by omega) (by omega) (fun F i g _ hi hI => by
    obtain ⟨g', e1, e2⟩ := m_adds17 hLa hs hL hI h1 h2 h3 hi hto hmi (fun (x5_6 : Int32) (f_7 : Nat → Int32) => mX10_adds_L3 s (nI a) (nI mi) (nI to) (fun (x4_1 : Int32) (f_2 : Nat → Int32) => some (f_2)) F (nI (i + 1)) f_7)
    refine ⟨g', Cel_eq e1 (fun fr len t _ _ _ => ?_), ?_⟩
    · by_cases q : fr = a ∧ len = l
      · obtain ⟨rfl, rfl⟩ := q
        rw [gv_in, gv_in, sm_s, Nat.add_assoc]
      · rw [gv_out _ _ _ q, gv_out _ _ _ q]
    · show mX10_adds_L3 _ _ _ _ _ (F + 1) _ _ = _
      rw [mX10_adds_L3, m_s0 hs, if_neg (nI_ge hi (by omega)), nI_1]
      exact e2) g hc
  refine ⟨g', ?_, hg⟩
  refine Eq.trans e ?_
  show mX10_adds_L3 _ _ _ _ _ (m + 1) _ _ = _
  rw [mX10_adds_L3, m_s0 hs, if_pos (nI_le (Nat.le_refl _) (by omega))]
theorem m_lays70 (hLa : Lat n T) (hs : sF n T s) (hL : L ≤ 7) {g : Nat → Int32} {a d : Nat} (hc : Cel ixR L n g (vG R n T (d + 1) a)) (h1 : 1 ≤ d) (h3 : a + (d + 1) ≤ L) (K : Int32 → (Nat → Int32) → Option (Nat → Int32)) : ∃ g', Cel ixR L n g' (vG R n T (d + 1) (a + 1)) ∧ mX10_laysParts_L70 s (nI d) (nI a) K FU (nI a) g = K (nI (a + d)) g' := by
  have h8 := hLa.2.1
  obtain ⟨m, g', hg, e⟩ := lpI (fun F y g => mX10_laysParts_L70 s (nI d) (nI a) K F y g) (a + d) a (fun k g => Cel ixR L n g (gv (vG R n T (d + 1) a) a (d + 1) (fun t => sm (fun k => cut n T (vG R n T (d + 1) a) a (d + 1) (k + 1) t) (k - a)))) (by omega) (by omega) (fun F k g hk0 hk hI => by
    obtain ⟨g', e1, e2⟩ := m_adds hLa hs hL (k := k - a + 1) (to := a + d) (mi := k) hI (by omega) (by omega) h3 (by omega) (by omega)
    refine ⟨g', Cel_eq e2 (fun fr len t _ _ _ => ?_), ?_⟩
    · by_cases q : fr = a ∧ len = d + 1
      · obtain ⟨rfl, rfl⟩ := q
        rw [gv_in, gv_in, show k + 1 - fr = k - fr + 1 by omega, sm_s]
      · rw [gv_out _ _ _ q, gv_out _ _ _ q]
    · show mX10_laysParts_L70 _ _ _ _ (F + 1) _ _ = _
      rw [mX10_laysParts_L70, nI_add, if_neg (nI_ge hk (by omega)), e1, bd_some, nI_1]) g (Cel_eq hc (fun fr len t _ _ _ => by rw [← vG_0 (R := R) (T := T), Nat.sub_self]; rfl))
  refine ⟨g', Cel_eq hg (fun fr len t _ _ _ => ?_), ?_⟩
  · rw [← vG_gv]
    by_cases q : fr = a ∧ len = d + 1
    · obtain ⟨rfl, rfl⟩ := q
      rw [gv_in, gv_in, ← vG_cut (R := R) (i := fr) (by omega) (by omega), show fr + d - fr = d + 1 - 1 by omega]
    · rw [gv_out _ _ _ q, gv_out _ _ _ q]
  · refine Eq.trans e ?_
    show mX10_laysParts_L70 _ _ _ _ (m + 1) _ _ = _
    rw [mX10_laysParts_L70, nI_add, if_pos (nI_le (Nat.le_refl _) (by omega))]
theorem m_lays70_0 (a : Nat) (ha : a < 2 ^ 31) (g : Nat → Int32) (K : Int32 → (Nat → Int32) → Option (Nat → Int32)) : mX10_laysParts_L70 s (nI 0) (nI a) K FU (nI a) g = K (nI a) g := by
  obtain ⟨F, hF⟩ : ∃ F, FU = F + 1 := ⟨FU - 1, by have := FU_ge; omega⟩
  rw [hF, mX10_laysParts_L70, nI_add, if_pos (nI_le (by omega) (by omega))]
theorem m_laysParts (hLa : Lat n T) (hs : sF n T s) (h1 : 1 ≤ L) (hL : L ≤ 7) (hR : ∀ i, i < L → R i < n ∧ h i - 48 = nI (R i)) (g : Nat → Int32) : ∃ g', mX10_laysParts s h (nI L) g = some g' ∧ Cel ixR L n g' (Wy R n T) := by
  have h8 := hLa.2.1
  unfold mX10_laysParts
  obtain ⟨m, g1, hg1, e1⟩ := lpI (fun F y g => mX10_laysParts_L2 (fun (x1_1 : Int32) (f_2 : Nat → Int32) => mX10_laysParts_L24 s h (nI L) (fun (x1_3 : Int32) (f_4 : Nat → Int32) => some (f_4)) FU 0 f_2) F y g) 392 0 (fun i g => ∀ j, j < i → g j = 0) (by omega) (by omega) (fun F i g _ hi hI => by
    refine ⟨upd g i 0, fun j hj => ?_, ?_⟩
    · by_cases q : j = i
      · subst q; exact upd_eq _ _ _
      · rw [upd_ne _ _ q]; exact hI j (by omega)
    · show mX10_laysParts_L2 _ (F + 1) _ _ = _
      rw [mX10_laysParts_L2, if_neg (show ¬ (392 : Int32) ≤ nI i from nI_ge (b := 392) hi (by omega)), gd_t (inb_nI hi (by omega)), nI_clamp (by omega), nI_1]) g (fun j hj => absurd hj (Nat.not_lt_zero _))
  have c0 : Cel ixR L n g1 (vG R n T 1 0) := fun fr len t h1 h2 h3 => by
    rw [hg1 _ (ixR_lt (by omega) (by omega) (by omega))]; unfold vG
    rw [if_neg (by omega)]; rfl
  obtain ⟨m3, g3, hg3, e3⟩ := lpI (fun F y g => mX10_laysParts_L24 s h (nI L) (fun (x1_3 : Int32) (f_4 : Nat → Int32) => some (f_4)) F y g) L 0 (fun d g => Cel ixR L n g (vG R n T (d + 1) 0)) (by omega) (by omega) (fun F d g _ hd hI => by
    obtain ⟨m, g', hg, e⟩ := lpI (fun F2 y g => mX10_laysParts_L34 s h (nI L) (nI d) (fun (x2_8 : Int32) (f_9 : Nat → Int32) => mX10_laysParts_L24 s h (nI L) (fun (x1_3 : Int32) (f_4 : Nat → Int32) => some (f_4)) F (nI (d + 1)) f_9) F2 y g) (L - d) 0 (fun i g => Cel ixR L n g (vG R n T (d + 1) i)) (by omega) (by omega) (fun F2 i g _ hi hJ => by
      rcases Nat.eq_zero_or_pos d with q | q
      · subst q
        obtain ⟨hr1, hr2⟩ := hR i (by omega)
        have i1 := ixR_lt (fr := i) (len := 1) (t := R i) (by omega) (by omega) (by omega)
        have hI' : Cel ixR L n g (gv (vG R n T 1 i) i 1 (fun _ => 0)) := Cel_eq hJ (fun fr len t _ _ _ => by rw [vG_0])
        refine ⟨upd g (ixR i 1 (R i)) (nI (0 + 1)), Cel_eq (Cel_step ixR_inj hL h8 (w := 1) (by omega) (by omega) hr1 hI') (fun fr len t _ _ _ => ?_), ?_⟩
        · rw [← vG_gv]
          by_cases q : fr = i ∧ len = 0 + 1
          · obtain ⟨rfl, rfl⟩ := q
            rw [gv_in, gv_in, Wy_1, Nat.zero_add]
          · rw [gv_out _ _ _ q, gv_out _ _ _ q]
        · show mX10_laysParts_L34 _ _ _ _ _ (F2 + 1) _ _ = _
          rw [mX10_laysParts_L34, nI_add, if_neg (nI_ge (by omega) (by omega)), if_pos (show nI 0 = 0 from rfl), gd_t (inb_nI (by omega) (by omega)), nI_clamp (show i < 2 ^ 31 by omega), hr2, m_part' (fr := i) (len := 1) (show i + 1 - 1 = i by omega), bd_some, gd_t (inb_nI i1 (by omega)), nI_clamp (by omega), m_lays70_0 i (by omega), nI_1]; rfl
      · obtain ⟨g', a1, a2⟩ := m_lays70 hLa hs hL hJ q (by omega) (fun (x3_13 : Int32) (f_14 : Nat → Int32) => mX10_laysParts_L34 s h (nI L) (nI d) (fun (x2_8 : Int32) (f_9 : Nat → Int32) => mX10_laysParts_L24 s h (nI L) (fun (x1_3 : Int32) (f_4 : Nat → Int32) => some (f_4)) F (nI (d + 1)) f_9) F2 (nI (i + 1)) f_14)
        refine ⟨g', a1, ?_⟩
        show mX10_laysParts_L34 _ _ _ _ _ (F2 + 1) _ _ = _
        rw [mX10_laysParts_L34, nI_add, if_neg (nI_ge (by omega) (by omega)), if_neg (nI_ne0 q (by omega)), nI_1]
        exact a2) g hI
    refine ⟨g', Cel_eq hg (fun fr len t _ _ _ => ?_), ?_⟩
    · unfold vG
      by_cases q : len < d + 1 ∨ (len = d + 1 ∧ fr < L - d)
      · rw [if_pos q, if_pos (by omega)]
      · rw [if_neg q, if_neg (by omega)]
    · show mX10_laysParts_L24 _ _ _ _ (F + 1) _ _ = _
      rw [mX10_laysParts_L24, if_neg (nI_ge hd (by omega)), nI_1]
      refine Eq.trans e ?_
      show mX10_laysParts_L34 _ _ _ _ _ (m + 1) _ _ = _
      rw [mX10_laysParts_L34, nI_add, if_pos (nI_le (by omega) (by omega))]) g1 c0
  refine ⟨g3, ?_, Cel_eq hg3 (fun fr len t _ _ _ => by unfold vG; rw [if_pos (by omega)])⟩
  refine Eq.trans e1 ?_
  show mX10_laysParts_L2 _ (m + 1) _ _ = _
  rw [mX10_laysParts_L2, if_pos (show (392 : Int32) ≤ nI 392 from nI_le (a := 392) (Nat.le_refl _) (by omega))]
  refine Eq.trans e3 ?_
  show mX10_laysParts_L24 _ _ _ _ (m3 + 1) _ _ = _
  rw [mX10_laysParts_L24, if_pos (nI_le (Nat.le_refl _) (by omega))]
end RefParts
