/-! the first cut -/
def rc (n : Nat) (T : Nat → Nat → Nat) (v : Nat → Nat → Nat → Nat) (L k tk x : Nat) : Bool := allB (fun y => !(decide (T x y = tk) && (!decide (nI (v 0 k x) ≤ 0) && !decide (nI (v k (L - k) y) ≤ 0)))) n
def cc (n : Nat) (T : Nat → Nat → Nat) (v : Nat → Nat → Nat → Nat) (L k tk : Nat) : Bool := allB (fun x => rc n T v L k tk x) n
section Cuts
variable {n : Nat} {T : Nat → Nat → Nat} {f s h row : Nat → Int32} {R : Nat → Nat} {L : Nat}
theorem X3_cut15 (hLa : Lat n T) (ht : tF n T f) (hL : L ≤ 7) {g : Nat → Int32} (hg : Cel ixC L n g (Wy R n T)) {k tk x : Nat} (h1 : 1 ≤ k) (h2 : k < L) (htk : tk < n) (hx : x < n) (K : Int32 → Option Int32) : mX3_cutComesTo_L15 g (nI L) f (nI n) (nI k) (nI tk) (nI x) K FU 0 = if rc n T (Wy R n T) L k tk x = true then K (nI n) else some 1 := by
  have h8 := hLa.2.1
  have key : ∀ F y, y < n → mX3_cutComesTo_L15 g (nI L) f (nI n) (nI k) (nI tk) (nI x) K (F + 1) (nI y) = if (decide (T x y = tk) && (!decide (nI (Wy R n T 0 k x) ≤ 0) && !decide (nI (Wy R n T k (L - k) y) ≤ 0))) = true then some 1 else mX3_cutComesTo_L15 g (nI L) f (nI n) (nI k) (nI tk) (nI x) K F (nI (y + 1)) := by
    intro F y hy
    have hT := hLa.2.2.1 x y hx hy
    rw [mX3_cutComesTo_L15, X6_size_ok, bd_some, if_neg (nI_ge hy (by omega)), X6_at_ok h8 ht hx hy, bd_some, nI_sub (by omega), show mX3_partWays g 0 (nI k) (nI x) = some (nI (Wy R n T 0 k x)) from X3_ways_ok (fr := 0) h8 hL hg h1 (by omega) hx, bd_some, X3_ways_ok h8 hL hg (by omega) (by omega) hy, bd_some, nI_1]
    by_cases q : T x y = tk
    · rw [if_pos (by rw [q]), decide_eq_true q, Bool.true_and]
      by_cases w : nI (Wy R n T 0 k x) ≤ 0
      · rw [if_pos w, decide_eq_true w, Bool.not_true, Bool.false_and, if_neg (by decide)]
      · rw [if_neg w, decide_eq_false w]
        by_cases u : nI (Wy R n T k (L - k) y) ≤ 0
        · rw [if_pos u, decide_eq_true u, if_neg (by decide)]
        · rw [if_neg u, decide_eq_false u, if_pos (by decide)]
    · rw [if_neg (fun w => q ((nI_eq (by omega) (by omega)).mp w)), decide_eq_false q, Bool.false_and, if_neg (by decide)]
  rcases lpF (fun F y => mX3_cutComesTo_L15 g (nI L) f (nI n) (nI k) (nI tk) (nI x) K F y) n 0 (fun y => decide (T x y = tk) && (!decide (nI (Wy R n T 0 k x) ≤ 0) && !decide (nI (Wy R n T k (L - k) y) ≤ 0))) (fun _ => some 1) (by omega) (by omega) (fun F i _ hi hp => by
      show mX3_cutComesTo_L15 _ _ _ _ _ _ _ _ (F + 1) _ = _
      rw [key F i hi, if_neg (by rw [hp]; decide)]) (fun F i _ hi hp => by
      show mX3_cutComesTo_L15 _ _ _ _ _ _ _ _ (F + 1) _ = _
      rw [key F i hi, if_pos hp]) with ⟨i, _, hi, hp, _, e⟩ | ⟨h0, m, e⟩
  · refine Eq.trans e ?_
    rw [show rc n T (Wy R n T) L k tk x = false from allB_not.mpr ⟨i, hi, by rw [hp]; rfl⟩, if_neg (by decide)]
  · refine Eq.trans e ?_
    show mX3_cutComesTo_L15 _ _ _ _ _ _ _ _ (m + 1) _ = _
    rw [mX3_cutComesTo_L15, X6_size_ok, bd_some, if_pos (nI_le (Nat.le_refl _) (by omega)), show rc n T (Wy R n T) L k tk x = true from allB_iff.mpr fun i hi => by rw [h0 i (by omega) hi]; rfl, if_pos rfl]
theorem X3_cutComes_ok (hLa : Lat n T) (ht : tF n T f) (hL : L ≤ 7) {g : Nat → Int32} (hg : Cel ixC L n g (Wy R n T)) {k tk : Nat} (h1 : 1 ≤ k) (h2 : k < L) (htk : tk < n) : mX3_cutComesTo g (nI L) f (nI n) (nI k) (nI tk) = some (bI (!cc n T (Wy R n T) L k tk)) := by
  have h8 := hLa.2.1
  unfold mX3_cutComesTo
  have key : ∀ F x, x < n → mX3_cutComesTo_L3 g (nI L) f (nI n) (nI k) (nI tk) (fun (x4_1 : Int32) => some (0)) (F + 1) (nI x) = if rc n T (Wy R n T) L k tk x = true then mX3_cutComesTo_L3 g (nI L) f (nI n) (nI k) (nI tk) (fun (x4_1 : Int32) => some (0)) F (nI (x + 1)) else some 1 := by
    intro F x hx
    rw [mX3_cutComesTo_L3, X6_size_ok, bd_some, if_neg (nI_ge hx (by omega)), X3_cut15 hLa ht hL hg h1 h2 htk hx, nI_1]
  rcases lpF (fun F y => mX3_cutComesTo_L3 g (nI L) f (nI n) (nI k) (nI tk) (fun (x4_1 : Int32) => some (0)) F y) n 0 (fun x => !rc n T (Wy R n T) L k tk x) (fun _ => some 1) (by omega) (by omega) (fun F i _ hi hp => by
      show mX3_cutComesTo_L3 _ _ _ _ _ _ _ (F + 1) _ = _
      rw [key F i hi, if_pos (by simpa using hp)]) (fun F i _ hi hp => by
      show mX3_cutComesTo_L3 _ _ _ _ _ _ _ (F + 1) _ = _
      rw [key F i hi, if_neg (by simpa using hp)]) with ⟨i, _, hi, hp, _, e⟩ | ⟨h0, m, e⟩
  · refine Eq.trans e ?_
    rw [show cc n T (Wy R n T) L k tk = false from allB_not.mpr ⟨i, hi, by simpa using hp⟩]; rfl
  · refine Eq.trans e ?_
    show mX3_cutComesTo_L3 _ _ _ _ _ _ _ (m + 1) _ = _
    rw [mX3_cutComesTo_L3, X6_size_ok, bd_some, if_pos (nI_le (Nat.le_refl _) (by omega)), show cc n T (Wy R n T) L k tk = true from allB_iff.mpr fun i hi => by simpa using h0 i (by omega) hi]; rfl
theorem m_cut52 (hLa : Lat n T) (hs : sF n T s) (hL : L ≤ 7) {g : Nat → Int32} (hg : Cel ixR L n g (Wy R n T)) {k tk x : Nat} (h2 : k + 1 < L) (htk : tk < n) (hx : x < n) (K : Int32 → Option (Int32 × (Nat → Int32))) : mX10_cut_L52 s (nI L) (nI tk) g (nI k) (nI x) K FU 0 = if rc n T (Wy R n T) L (k + 1) tk x = true then K (nI n) else some (nI (k + 1), g) := by
  have h8 := hLa.2.1
  have i1 := ixR_lt (fr := 0) (len := k + 1) (t := x) (by omega) (by omega) (by omega)
  have key : ∀ F y, y < n → mX10_cut_L52 s (nI L) (nI tk) g (nI k) (nI x) K (F + 1) (nI y) = if (decide (T x y = tk) && (!decide (nI (Wy R n T 0 (k + 1) x) ≤ 0) && !decide (nI (Wy R n T (k + 1) (L - (k + 1)) y) ≤ 0))) = true then some (nI (k + 1), g) else mX10_cut_L52 s (nI L) (nI tk) g (nI k) (nI x) K F (nI (y + 1)) := by
    intro F y hy
    have hT := hLa.2.2.1 x y hx hy
    have i2 := ixR_lt (fr := k + 1) (len := L - (k + 1)) (t := y) (by omega) (by omega) (by omega)
    rw [mX10_cut_L52, m_s0 hs, if_neg (nI_ge hy (by omega)), m_plain hLa hs hx hy, bd_some, show mX10_part 0 (nI k) (nI x) = some (nI (ixR 0 (k + 1) x)) from m_part' (fr := 0) (by omega), bd_some, gd_t (inb_nI i1 (by omega)), nI_clamp (by omega), nI_1 k, nI_1 y, show nI L - 1 = nI (L - 1) from nI_sub (b := 1) (by omega), m_part' (fr := k + 1) (len := L - (k + 1)) (by omega), bd_some, gd_t (inb_nI i2 (by omega)), nI_clamp (by omega), hg 0 (k + 1) x (by omega) (by omega) hx, hg (k + 1) (L - (k + 1)) y (by omega) (by omega) hy]
    by_cases q : T x y = tk
    · rw [if_pos (by rw [q]), decide_eq_true q, Bool.true_and]
      by_cases w : nI (Wy R n T 0 (k + 1) x) ≤ 0
      · rw [if_pos w, decide_eq_true w, Bool.not_true, Bool.false_and, if_neg (by decide)]
      · rw [if_neg w, decide_eq_false w]
        by_cases u : nI (Wy R n T (k + 1) (L - (k + 1)) y) ≤ 0
        · rw [if_pos u, decide_eq_true u, if_neg (by decide)]
        · rw [if_neg u, decide_eq_false u, if_pos (by decide)]
    · rw [if_neg (fun w => q ((nI_eq (by omega) (by omega)).mp w)), decide_eq_false q, Bool.false_and, if_neg (by decide)]
  rcases lpF (fun F y => mX10_cut_L52 s (nI L) (nI tk) g (nI k) (nI x) K F y) n 0 (fun y => decide (T x y = tk) && (!decide (nI (Wy R n T 0 (k + 1) x) ≤ 0) && !decide (nI (Wy R n T (k + 1) (L - (k + 1)) y) ≤ 0))) (fun _ => some (nI (k + 1), g)) (by omega) (by omega) (fun F i _ hi hp => by
      show mX10_cut_L52 _ _ _ _ _ _ _ (F + 1) _ = _
      rw [key F i hi, if_neg (by rw [hp]; decide)]) (fun F i _ hi hp => by
      show mX10_cut_L52 _ _ _ _ _ _ _ (F + 1) _ = _
      rw [key F i hi, if_pos hp]) with ⟨i, _, hi, hp, _, e⟩ | ⟨h0, m, e⟩
  · refine Eq.trans e ?_
    rw [show rc n T (Wy R n T) L (k + 1) tk x = false from allB_not.mpr ⟨i, hi, by rw [hp]; rfl⟩, if_neg (by decide)]
  · refine Eq.trans e ?_
    show mX10_cut_L52 _ _ _ _ _ _ _ (m + 1) _ = _
    rw [mX10_cut_L52, m_s0 hs, if_pos (nI_le (Nat.le_refl _) (by omega)), show rc n T (Wy R n T) L (k + 1) tk x = true from allB_iff.mpr fun i hi => by rw [h0 i (by omega) hi]; rfl, if_pos rfl]
theorem m_cut39 (hLa : Lat n T) (hs : sF n T s) (hL : L ≤ 7) {g : Nat → Int32} (hg : Cel ixR L n g (Wy R n T)) {k tk : Nat} (h2 : k + 1 < L) (htk : tk < n) (K : Int32 → Option (Int32 × (Nat → Int32))) : mX10_cut_L39 s (nI L) (nI tk) g (nI k) K FU 0 = if cc n T (Wy R n T) L (k + 1) tk = true then K (nI n) else some (nI (k + 1), g) := by
  have h8 := hLa.2.1
  have key : ∀ F x, x < n → mX10_cut_L39 s (nI L) (nI tk) g (nI k) K (F + 1) (nI x) = if rc n T (Wy R n T) L (k + 1) tk x = true then mX10_cut_L39 s (nI L) (nI tk) g (nI k) K F (nI (x + 1)) else some (nI (k + 1), g) := by
    intro F x hx
    rw [mX10_cut_L39, m_s0 hs, if_neg (nI_ge hx (by omega)), m_cut52 hLa hs hL hg h2 htk hx, nI_1 x]
  rcases lpF (fun F y => mX10_cut_L39 s (nI L) (nI tk) g (nI k) K F y) n 0 (fun x => !rc n T (Wy R n T) L (k + 1) tk x) (fun _ => some (nI (k + 1), g)) (by omega) (by omega) (fun F i _ hi hp => by
      show mX10_cut_L39 _ _ _ _ _ _ (F + 1) _ = _
      rw [key F i hi, if_pos (by simpa using hp)]) (fun F i _ hi hp => by
      show mX10_cut_L39 _ _ _ _ _ _ (F + 1) _ = _
      rw [key F i hi, if_neg (by simpa using hp)]) with ⟨i, _, hi, hp, _, e⟩ | ⟨h0, m, e⟩
  · refine Eq.trans e ?_
    rw [show cc n T (Wy R n T) L (k + 1) tk = false from allB_not.mpr ⟨i, hi, by simpa using hp⟩, if_neg (by decide)]
  · refine Eq.trans e ?_
    show mX10_cut_L39 _ _ _ _ _ _ (m + 1) _ = _
    rw [mX10_cut_L39, m_s0 hs, if_pos (nI_le (Nat.le_refl _) (by omega)), show cc n T (Wy R n T) L (k + 1) tk = true from allB_iff.mpr fun i hi => by simpa using h0 i (by omega) hi, if_pos rfl]
theorem firstCut_both (hLa : Lat n T) (ht : tF n T f) (hs : sF n T s) (h1 : 1 ≤ L) (hL : L ≤ 7) (hR : rowR n h L R) (hrow : rowIs row h L) (g g2 : Nat → Int32) (hg2 : Cel ixR L n g2 (Wy R n T)) {tk : Nat} (htk : tk < n) : ∃ r g', mX3_firstCut row g (nI L) f (nI n) (nI tk) = some (r, g') ∧ mX10_cut_L27 s (nI L) (nI tk) g2 (fun (x2_4 : Int32) => some ((-4), g2)) FU 0 = some (r, g2) := by
  have h8 := hLa.2.1
  obtain ⟨g', e0, hg⟩ := X3_sumParts_ok hLa ht h1 hL (fun i hi => ⟨(hR i hi).1, (hrow i hi).trans (hR i hi).2⟩) g
  unfold mX3_firstCut
  rw [e0, bd_some]
  have kA : ∀ F k, 1 ≤ k → k < L → mX3_firstCut_L7 (nI L) f (nI n) (nI tk) g' (fun (x3_2 : Int32) => some ((-4), g')) (F + 1) (nI k) = if cc n T (Wy R n T) L k tk = true then mX3_firstCut_L7 (nI L) f (nI n) (nI tk) g' (fun (x3_2 : Int32) => some ((-4), g')) F (nI (k + 1)) else some (nI k, g') := by
    intro F k hk0 hk
    rw [mX3_firstCut_L7, if_neg (nI_ge hk (by omega)), X3_cutComes_ok hLa ht hL hg hk0 hk htk, bd_some, nI_1]
    cases cc n T (Wy R n T) L k tk with
    | true => rw [if_pos (show bI (!true) = 0 from rfl), if_pos rfl]
    | false => rw [if_neg (show ¬ bI (!false) = 0 by decide), if_neg (by decide)]
  have kB : ∀ F k, k + 1 < L → mX10_cut_L27 s (nI L) (nI tk) g2 (fun (x2_4 : Int32) => some ((-4), g2)) (F + 1) (nI k) = if cc n T (Wy R n T) L (k + 1) tk = true then mX10_cut_L27 s (nI L) (nI tk) g2 (fun (x2_4 : Int32) => some ((-4), g2)) F (nI (k + 1)) else some (nI (k + 1), g2) := by
    intro F k hk
    rw [mX10_cut_L27, nI_1, if_neg (nI_ge hk (by omega)), m_cut39 hLa hs hL hg2 hk htk]
  rcases lpF (fun F y => mX3_firstCut_L7 (nI L) f (nI n) (nI tk) g' (fun (x3_2 : Int32) => some ((-4), g')) F y) L 1 (fun k => !cc n T (Wy R n T) L k tk) (fun k => some (nI k, g')) (by omega) (by omega) (fun F i h0 hi hp => by
      show mX3_firstCut_L7 _ _ _ _ _ _ (F + 1) _ = _
      rw [kA F i h0 hi, if_pos (by simpa using hp)]) (fun F i h0 hi hp => by
      show mX3_firstCut_L7 _ _ _ _ _ _ (F + 1) _ = _
      rw [kA F i h0 hi, if_neg (by simpa using hp)]) with ⟨i, i0, hi, hp, hpb, e⟩ | ⟨h0, m, e⟩
  · rcases lpF (fun F y => mX10_cut_L27 s (nI L) (nI tk) g2 (fun (x2_4 : Int32) => some ((-4), g2)) F y) (L - 1) 0 (fun k => !cc n T (Wy R n T) L (k + 1) tk) (fun k => some (nI (k + 1), g2)) (by omega) (by omega) (fun F i h0 hi hp => by
        show mX10_cut_L27 _ _ _ _ _ (F + 1) _ = _
        rw [kB F i (by omega), if_pos (by simpa using hp)]) (fun F i h0 hi hp => by
        show mX10_cut_L27 _ _ _ _ _ (F + 1) _ = _
        rw [kB F i (by omega), if_neg (by simpa using hp)]) with ⟨j, _, hj, jp, jb, e'⟩ | ⟨h0, _⟩
    · have : i = j + 1 := by
        rcases Nat.lt_trichotomy i (j + 1) with q | q | q
        · have := jb (i - 1) (by omega) (by omega)
          rw [show i - 1 + 1 = i by omega] at this
          rw [this] at hp; cases hp
        · exact q
        · have := hpb (j + 1) (by omega) q
          rw [this] at jp; cases jp
      subst this
      exact ⟨nI (j + 1), g', e, e'⟩
    · have := h0 (i - 1) (by omega) (by omega)
      rw [show i - 1 + 1 = i by omega] at this
      rw [this] at hp; cases hp
  · rcases lpF (fun F y => mX10_cut_L27 s (nI L) (nI tk) g2 (fun (x2_4 : Int32) => some ((-4), g2)) F y) (L - 1) 0 (fun k => !cc n T (Wy R n T) L (k + 1) tk) (fun k => some (nI (k + 1), g2)) (by omega) (by omega) (fun F i h0 hi hp => by
        show mX10_cut_L27 _ _ _ _ _ (F + 1) _ = _
        rw [kB F i (by omega), if_pos (by simpa using hp)]) (fun F i h0 hi hp => by
        show mX10_cut_L27 _ _ _ _ _ (F + 1) _ = _
        rw [kB F i (by omega), if_neg (by simpa using hp)]) with ⟨j, _, hj, jp, jb, e'⟩ | ⟨_, m', e'⟩
    · have := h0 (j + 1) (by omega) (by omega)
      rw [this] at jp; cases jp
    · refine ⟨-4, g', ?_, ?_⟩
      · refine Eq.trans e ?_
        show mX3_firstCut_L7 _ _ _ _ _ _ (m + 1) _ = _
        rw [mX3_firstCut_L7, if_pos (nI_le (Nat.le_refl _) (by omega))]
      · refine Eq.trans e' ?_
        show mX10_cut_L27 _ _ _ _ _ (m' + 1) _ = _
        rw [mX10_cut_L27, nI_1, if_pos (nI_le (by omega) (by omega))]
end Cuts
