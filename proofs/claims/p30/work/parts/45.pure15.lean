/-! rings: the reference, and both -/
/-- a loop that counts down -/
theorem lpD {α R : Type} (G : Nat → Int32 → α → Option R) (n : Nat) (I : Nat → α → Prop) (hn : n < 5000) (step : ∀ F i a, i < n → I (i + 1) a → ∃ b, I i b ∧ G (F + 1) (nI (i + 1)) a = G F (nI i) b) (a0 : α) (h0 : I n a0) : ∃ m b, I 0 b ∧ G FU (nI n) a0 = G (m + 1) (nI 0) b := by
  have key : ∀ i F a, i ≤ n → i < F → I i a → ∃ m b, I 0 b ∧ G F (nI i) a = G (m + 1) (nI 0) b := by
    intro i
    induction i with
    | zero => intro F a _ hF ha; exact ⟨F - 1, a, ha, by rw [show F - 1 + 1 = F by omega]⟩
    | succ i ih =>
      intro F a hi hF ha
      obtain ⟨F', rfl⟩ : ∃ F', F = F' + 1 := ⟨F - 1, by omega⟩
      obtain ⟨b, hb, e⟩ := step F' i a (by omega) ha
      obtain ⟨m, b', hb', e'⟩ := ih F' b (by omega) (by omega) hb
      exact ⟨m, b', hb', e.trans e'⟩
  exact key n FU a0 (Nat.le_refl _) (by have := FU_ge; omega) h0
theorem ne1_sub (i : Nat) : nI (i + 1) + (-1) = nI i := by
  rw [← Int32.sub_eq_add_neg, nI_pred]
section Rings2
variable {n : Nat} {T : Nat → Nat → Nat} {f s : Nat → Int32}
theorem bits_bound {v : Nat} (hv : v < 256) : bits v < 2 ^ 31 := by have := bits_8 v; omega
theorem m_bits {v : Nat} (hv : v < 256) : mX10_bits (nI v) = some (nI (bits v)) := by
  unfold mX10_bits
  obtain ⟨m, e⟩ := lpC (fun F x q => mX10_bits_L4 (nI v) (fun (x2_1 : Int32) (x1_2 : Int32) => some (x1_2)) F x q) 8 0 (fun i => if v.testBit i then 1 else 0) (by omega) (fun F i a hi => by
    show mX10_bits_L4 _ _ (F + 1) _ _ = _
    rw [mX10_bits_L4, if_neg (show ¬ (8 : Int32) ≤ nI i from nI_ge (b := 8) hi (by omega)), bt_has' hv hi, nI_1]
    cases v.testBit i with
    | true => rw [show bI true = nI 1 from rfl, nI_add]; rfl
    | false => rw [show bI false = nI 0 from rfl, nI_add]; rfl)
  refine Eq.trans e ?_
  show mX10_bits_L4 _ _ (m + 1) _ _ = _
  rw [mX10_bits_L4, if_pos (show (8 : Int32) ≤ nI 8 from nI_le (a := 8) (Nat.le_refl _) (by omega)), Nat.zero_add, sm_cn]; rfl
theorem m_isRing (hL : Lat n T) (hs : sF n T s) {v : Nat} (hv : v < 2 ^ n) (h1 : 1 ≤ v) : mX10_isRing s (nI v) = some (bI (cls n T v)) := by
  have h8 := hL.2.1
  have hp := p2_le h8
  unfold mX10_isRing
  rw [if_neg (nI_nle (by omega) (by omega))]
  obtain ⟨m, e⟩ := lpU (fun F x q => mX10_isRing_L12 s (nI v) (fun (x3_14 : Int32) (x2_15 : Int32) => gd (nbz x2_15) (some (x2_15))) F x q) n 0 (fun i => bI (allB (fun a => allB (fun b => !(v.testBit a && v.testBit b) || v.testBit (T a b)) n) i)) (by omega) (by omega) (fun F i _ hi => by
    show mX10_isRing_L12 _ _ _ (F + 1) _ _ = _
    rw [mX10_isRing_L12, m_s0 hs, if_neg (nI_ge hi (by omega)), nI_1, allB_s]
    generalize allB (fun a => allB (fun b => !(v.testBit a && v.testBit b) || v.testBit (T a b)) n) i = B0
    obtain ⟨m, e⟩ := lpU (fun F2 x q => mX10_isRing_L25 s (nI v) (nI i) (fun (x4_6 : Int32) (x2_7 : Int32) => mX10_isRing_L12 s (nI v) (fun (x3_14 : Int32) (x2_15 : Int32) => gd (nbz x2_15) (some (x2_15))) F (nI (i + 1)) x2_7) F2 x q) n 0 (fun j => bI (B0 && allB (fun b => !(v.testBit i && v.testBit b) || v.testBit (T i b)) j)) (by omega) (by omega) (fun F2 j _ hj => by
      have hT := hL.2.2.1 i j hi hj
      show mX10_isRing_L25 _ _ _ _ (F2 + 1) _ _ = _
      rw [mX10_isRing_L25, m_s0 hs, if_neg (nI_ge hj (by omega)), bt_and' (by omega) (by omega) (by omega), m_plain hL hs hi hj, bd_some, bt_has' (by omega) (by omega), nI_1, allB_s]
      generalize allB (fun b => !(v.testBit i && v.testBit b) || v.testBit (T i b)) j = B1
      generalize v.testBit i = b1
      generalize v.testBit j = b2
      generalize v.testBit (T i j) = b3
      cases B0 <;> cases B1 <;> cases b1 <;> cases b2 <;> cases b3 <;> rfl)
    have e0 : (B0 && allB (fun b => !(v.testBit i && v.testBit b) || v.testBit (T i b)) 0) = B0 := by
      show (B0 && true) = B0
      rw [Bool.and_true]
    simp only [e0] at e
    refine Eq.trans e ?_
    show mX10_isRing_L25 _ _ _ _ (m + 1) _ _ = _
    rw [mX10_isRing_L25, m_s0 hs, if_pos (nI_le (Nat.le_refl _) (by omega))])
  refine Eq.trans e ?_
  show mX10_isRing_L12 _ _ _ (m + 1) _ _ = _
  rw [mX10_isRing_L12, m_s0 hs, if_pos (nI_le (Nat.le_refl _) (by omega)), gd_t (nbz_bI _)]; rfl
theorem all_sub1 (hn : n ≤ 8) : ((1 : Int32) <<< (nI n &&& 31)) - 1 = nI (2 ^ n - 1) := by
  rw [bt_sh' (by omega), show 2 ^ n = 2 ^ n - 1 + 1 by have := Nat.two_pow_pos n; omega, nI_pred]; rfl
theorem m_ringOf (hL : Lat n T) (hs : sF n T s) {v r : Nat} (h1 : 1 ≤ v) (hv : v < 2 ^ n) (hr : isCl n T v r) : mX10_ringOf s (nI v) = some (nI r) := by
  have h8 := hL.2.1
  have hp := p2_le h8
  have hp0 := Nat.two_pow_pos n
  unfold mX10_ringOf
  rw [m_s0 hs, all_sub1 h8]
  obtain ⟨m, q, ⟨b, rfl, hb1, hb2, hb3, hb4⟩, e⟩ := lpI (fun F x (q : Int32) => mX10_ringOf_L13 s (nI v) (fun (x3_1 : Int32) (x2_2 : Int32) => some (x2_2)) F x q) (2 ^ n) 1 (fun i q => ∃ b, q = nI b ∧ b < 2 ^ n ∧ sub v b ∧ cls n T b = true ∧ ∀ x, x < i → sub v x → cls n T x = true → bits b ≤ bits x) (by omega) (by omega) (fun F i q h2 hi hq => by
    obtain ⟨b, rfl, hb1, hb2, hb3, hb4⟩ := hq
    have q1 : mX10_ringOf_L13 s (nI v) (fun (x3_1 : Int32) (x2_2 : Int32) => some (x2_2)) (F + 1) (nI i) (nI b) = if (nI v &&& (nI i ^^^ (-1))) = 0 then (if nI (bits b) ≤ nI (bits i) then mX10_ringOf_L13 s (nI v) (fun (x3_1 : Int32) (x2_2 : Int32) => some (x2_2)) F (nI (i + 1)) (nI b) else if bI (cls n T i) = 0 then mX10_ringOf_L13 s (nI v) (fun (x3_1 : Int32) (x2_2 : Int32) => some (x2_2)) F (nI (i + 1)) (nI b) else mX10_ringOf_L13 s (nI v) (fun (x3_1 : Int32) (x2_2 : Int32) => some (x2_2)) F (nI (i + 1)) (nI i)) else mX10_ringOf_L13 s (nI v) (fun (x3_1 : Int32) (x2_2 : Int32) => some (x2_2)) F (nI (i + 1)) (nI b) := by
      rw [mX10_ringOf_L13, m_s0 hs, bt_sh' (by omega), if_neg (nI_ge hi (by omega)), m_bits (by omega), bd_some, m_bits (by omega), bd_some, m_isRing hL hs hi h2, bd_some, nI_1]
    have bb := bits_bound (v := b) (by omega)
    have bi := bits_bound (v := i) (by omega)
    show ∃ b_1, _ ∧ mX10_ringOf_L13 _ _ _ (F + 1) _ _ = _
    rw [q1]
    by_cases c1 : sub v i
    · rw [if_pos ((bt_sub' (by omega) (by omega)).mpr (sub_and.mpr c1))]
      by_cases c2 : bits b ≤ bits i
      · refine ⟨nI b, ⟨b, rfl, hb1, hb2, hb3, fun x hx h3 h4 => ?_⟩, by rw [if_pos (nI_le c2 bi)]⟩
        by_cases e : x = i
        · rw [e]; exact c2
        · exact hb4 x (by omega) h3 h4
      · rw [if_neg (nI_ge (by omega) bb)]
        cases c3 : cls n T i with
        | false =>
          refine ⟨nI b, ⟨b, rfl, hb1, hb2, hb3, fun x hx h3 h4 => ?_⟩, by rw [if_pos (show bI false = 0 from rfl)]⟩
          have : x ≠ i := fun e => by rw [e, c3] at h4; cases h4
          exact hb4 x (by omega) h3 h4
        | true =>
          refine ⟨nI i, ⟨i, rfl, hi, c1, c3, fun x hx h3 h4 => ?_⟩, by rw [if_neg (show ¬ bI true = 0 by decide)]⟩
          by_cases e : x = i
          · rw [e]; exact Nat.le_refl _
          · have := hb4 x (by omega) h3 h4; omega
    · rw [if_neg (fun w => c1 (sub_and.mp ((bt_sub' (by omega) (by omega)).mp w)))]
      refine ⟨nI b, ⟨b, rfl, hb1, hb2, hb3, fun x hx h3 h4 => ?_⟩, rfl⟩
      have : x ≠ i := fun e => by rw [e] at h3; exact c1 h3
      exact hb4 x (by omega) h3 h4) (nI (2 ^ n - 1)) ⟨2 ^ n - 1, rfl, by omega, sub_all hv, cls_all hL, fun x hx h3 h4 => by
      have : x = 0 := by omega
      subst this
      have h5 : v = 0 := Nat.eq_of_testBit_eq fun i => by
        cases h : v.testBit i with
        | false => rw [Nat.zero_testBit]
        | true => rw [h3 i h]
      omega⟩
  have hbr : b = r := by
    have h2 := hr.2.2.2 b hb3 hb2
    refine Classical.byContradiction fun q => ?_
    have h3 := bits_lt (by omega) h2 (Ne.symm q)
    have h4 := hb4 r hr.1 hr.2.1 hr.2.2.1
    omega
  refine Eq.trans e ?_
  show mX10_ringOf_L13 _ _ _ (m + 1) _ _ = _
  rw [mX10_ringOf_L13, m_s0 hs, bt_sh' (by omega), if_pos (nI_le (Nat.le_refl _) (by omega)), hbr]
theorem ring_one (hL : Lat n T) (ht : tF n T f) (hs : sF n T s) {v : Nat} (h1 : 1 ≤ v) (hv : v < 2 ^ n) : ∃ r, r < 256 ∧ isCl n T v r ∧ mX2_grownFrom f (nI n) (nI v) = some (nI r) ∧ mX10_ringOf s (nI v) = some (nI r) := by
  obtain ⟨r, hr, e⟩ := X2_grownFrom_ok hL ht h1 hv
  have hp := p2_le hL.2.1
  have := hr.1
  exact ⟨r, by omega, hr, e, m_ringOf hL hs h1 hv hr⟩
theorem rings_both (hL : Lat n T) (ht : tF n T f) (hs : sF n T s) : ∃ r, mX2_howMany f (nI n) = some r ∧ mX10_rings s = some r := by
  have h8 := hL.2.1
  have hp := p2_le h8
  have hp0 := p2_ge hL.1
  refine ⟨nI (sm (fun i => if rg n T i = true then 1 else 0) (2 ^ n)), ?_, ?_⟩
  · unfold mX2_howMany
    obtain ⟨m, e⟩ := lpC1 (fun F x q => mX2_howMany_L4 f (nI n) (fun (x2_1 : Int32) (x1_2 : Int32) => some (x1_2)) F x q) (2 ^ n) 1 0 (fun i => if rg n T i = true then 1 else 0) (by omega) (by omega) (fun i hi => by
      have : i = 0 := by omega
      subst this; rfl) (fun F i a h1 hi => by
      show mX2_howMany_L4 _ _ _ (F + 1) _ _ = _
      rw [mX2_howMany_L4, X6_allBits_ok h8, bd_some, if_neg (nI_nlt (by omega) (by omega)), X2_isRing_ok hL ht hi, bd_some, nI_1]
      unfold rg
      rw [decide_eq_true h1, Bool.true_and]
      cases cls n T i with
      | false => rw [if_pos (show bI false = 0 from rfl)]; rfl
      | true => rw [if_neg (show ¬ bI true = 0 by decide), nI_1]; rfl)
    refine Eq.trans e ?_
    show mX2_howMany_L4 _ _ _ (m + 1) _ _ = _
    rw [mX2_howMany_L4, X6_allBits_ok h8, bd_some, if_pos (nI_lt (by omega) (by omega)), Nat.zero_add]
  · unfold mX10_rings
    obtain ⟨m, e⟩ := lpC1 (fun F x q => mX10_rings_L4 s (fun (x2_1 : Int32) (x1_2 : Int32) => some (x1_2)) F x q) (2 ^ n) 1 0 (fun i => if rg n T i = true then 1 else 0) (by omega) (by omega) (fun i hi => by
      have : i = 0 := by omega
      subst this; rfl) (fun F i a h1 hi => by
      show mX10_rings_L4 _ _ (F + 1) _ _ = _
      rw [mX10_rings_L4, m_s0 hs, bt_sh' (by omega), if_neg (nI_ge hi (by omega)), m_isRing hL hs hi h1, bd_some, nI_1]
      unfold rg
      rw [decide_eq_true h1, Bool.true_and]
      cases cls n T i with
      | false => rw [if_pos (show bI false = 0 from rfl), show nI a + (0 : Int32) = nI (a + 0) from nI_add a 0]; rfl
      | true => rw [if_neg (show ¬ bI true = 0 by decide), nI_1]; rfl)
    refine Eq.trans e ?_
    show mX10_rings_L4 _ _ (m + 1) _ _ = _
    rw [mX10_rings_L4, m_s0 hs, bt_sh' (by omega), if_pos (nI_le (Nat.le_refl _) (by omega)), Nat.zero_add]
theorem s_ab (a b : Int32) : a - (b + 1) = a - b + (-1) := by
  rw [Int32.sub_eq_add_neg a (b + 1), Int32.neg_add, Int32.sub_eq_add_neg a b, Int32.sub_eq_add_neg (-b) 1, Int32.add_assoc]
theorem s_nI (x : Int32) (k : Nat) : x - nI (k + 1) = x - nI k + (-1) := by rw [← nI_1, s_ab]
theorem s_ab0 {a b : Int32} : a - b = 0 ↔ a = b := by
  constructor
  · intro h
    have := Int32.sub_add_cancel a b
    rw [h, Int32.zero_add] at this
    exact this.symm
  · intro h
    rw [h, Int32.sub_self]
theorem ringAt_both (hL : Lat n T) (ht : tF n T f) (hs : sF n T s) (x : Int32) : ∃ r, mX9_ringAt f (nI n) x = some r ∧ mX10_ringAt s x = some r := by
  have h8 := hL.2.1
  have hp := p2_le h8
  have hp0 := p2_ge hL.1
  unfold mX9_ringAt mX10_ringAt
  by_cases hx : (0 : Int32) ≤ x
  · rw [if_pos hx, if_pos hx]
    let p : Nat → Bool := fun i => rg n T i && decide (nI (sm (fun i => if rg n T i = true then 1 else 0) i) = x)
    have hcl : ∀ i, 1 ≤ i → rg n T i = cls n T i := fun i h => by unfold rg; rw [decide_eq_true h, Bool.true_and]
    have hA : mX2_atPlace f (nI n) x = mX2_atPlace_L4 f (nI n) x (fun (x3_1 : Int32) (x2_2 : Int32) => some ((-4))) FU (nI 1) (nI (sm (fun i => if rg n T i = true then 1 else 0) 1)) := rfl
    have kA : ∀ F i, 1 ≤ i → i < 2 ^ n → mX2_atPlace_L4 f (nI n) x (fun (x3_1 : Int32) (x2_2 : Int32) => some ((-4))) (F + 1) (nI i) (nI (sm (fun i => if rg n T i = true then 1 else 0) i)) = if p i = true then some (nI i) else mX2_atPlace_L4 f (nI n) x (fun (x3_1 : Int32) (x2_2 : Int32) => some ((-4))) F (nI (i + 1)) (nI (sm (fun i => if rg n T i = true then 1 else 0) (i + 1))) := by
      intro F i h1 hi
      rw [mX2_atPlace_L4, X6_allBits_ok h8, bd_some, if_neg (nI_nlt (by omega) (by omega)), X2_isRing_ok hL ht hi, bd_some, nI_1, nI_1, sm_s]
      show _ = if (rg n T i && decide (nI (sm (fun i => if rg n T i = true then 1 else 0) i) = x)) = true then _ else _
      rw [hcl i h1]
      cases cls n T i with
      | false => rw [if_pos (show bI false = 0 from rfl)]; rfl
      | true =>
        rw [if_neg (show ¬ bI true = 0 by decide), Bool.true_and]
        by_cases w : nI (sm (fun i => if rg n T i = true then 1 else 0) i) = x
        · rw [if_pos w, decide_eq_true w]; rfl
        · rw [if_neg w, decide_eq_false w]; rfl
    have hB : mX10_ringAt_L10 s (fun (x3_1 : Int32) (x2_2 : Int32) => some ((-4))) FU 1 x = mX10_ringAt_L10 s (fun (x3_1 : Int32) (x2_2 : Int32) => some ((-4))) FU (nI 1) (x - nI (sm (fun i => if rg n T i = true then 1 else 0) 1)) := by
      rw [show x - nI (sm (fun i => if rg n T i = true then 1 else 0) 1) = x from Int32.sub_zero x]; rfl
    have kB : ∀ F i, 1 ≤ i → i < 2 ^ n → mX10_ringAt_L10 s (fun (x3_1 : Int32) (x2_2 : Int32) => some ((-4))) (F + 1) (nI i) (x - nI (sm (fun i => if rg n T i = true then 1 else 0) i)) = if p i = true then some (nI i) else mX10_ringAt_L10 s (fun (x3_1 : Int32) (x2_2 : Int32) => some ((-4))) F (nI (i + 1)) (x - nI (sm (fun i => if rg n T i = true then 1 else 0) (i + 1))) := by
      intro F i h1 hi
      rw [mX10_ringAt_L10, m_s0 hs, bt_sh' (by omega), if_neg (nI_ge hi (by omega)), m_isRing hL hs hi h1, bd_some, nI_1, sm_s]
      show _ = if (rg n T i && decide (nI (sm (fun i => if rg n T i = true then 1 else 0) i) = x)) = true then _ else _
      rw [hcl i h1]
      cases cls n T i with
      | false => rw [if_pos (show bI false = 0 from rfl)]; rfl
      | true =>
        rw [if_neg (show ¬ bI true = 0 by decide), Bool.true_and, if_pos rfl, s_nI]
        by_cases w : nI (sm (fun i => if rg n T i = true then 1 else 0) i) = x
        · rw [if_pos (s_ab0.mpr w.symm), decide_eq_true w]; rfl
        · rw [if_neg (fun v => w (s_ab0.mp v).symm), decide_eq_false w]; rfl
    rw [hA, hB]
    rcases lpFS (fun F y q => mX2_atPlace_L4 f (nI n) x (fun (x3_1 : Int32) (x2_2 : Int32) => some ((-4))) F y q) (2 ^ n) 1 (fun i => nI (sm (fun i => if rg n T i = true then 1 else 0) i)) p (fun i => some (nI i)) (by omega) (by omega) (fun F i h1 hi hpi => by
        show mX2_atPlace_L4 _ _ _ _ (F + 1) _ _ = _
        rw [kA F i h1 hi, if_neg (by rw [hpi]; decide)]) (fun F i h1 hi hpi => by
        show mX2_atPlace_L4 _ _ _ _ (F + 1) _ _ = _
        rw [kA F i h1 hi, if_pos hpi]) with ⟨i, i1, i2, i3, i4, e⟩ | ⟨h0, m, e⟩
    · rcases lpFS (fun F y q => mX10_ringAt_L10 s (fun (x3_1 : Int32) (x2_2 : Int32) => some ((-4))) F y q) (2 ^ n) 1 (fun i => x - nI (sm (fun i => if rg n T i = true then 1 else 0) i)) p (fun i => some (nI i)) (by omega) (by omega) (fun F i h1 hi hpi => by
          show mX10_ringAt_L10 _ _ (F + 1) _ _ = _
          rw [kB F i h1 hi, if_neg (by rw [hpi]; decide)]) (fun F i h1 hi hpi => by
          show mX10_ringAt_L10 _ _ (F + 1) _ _ = _
          rw [kB F i h1 hi, if_pos hpi]) with ⟨j, j1, j2, j3, j4, e'⟩ | ⟨h0, _⟩
      · have hij : i = j := by
          rcases Nat.lt_trichotomy i j with q | q | q
          · rw [j4 i i1 q] at i3; cases i3
          · exact q
          · rw [i4 j j1 q] at j3; cases j3
        subst hij
        exact ⟨nI i, by rw [show mX2_atPlace_L4 f (nI n) x (fun (x3_1 : Int32) (x2_2 : Int32) => some ((-4))) FU (nI 1) (nI (sm (fun i => if rg n T i = true then 1 else 0) 1)) = some (nI i) from e, bd_some], e'⟩
      · rw [h0 i i1 i2] at i3; cases i3
    · rcases lpFS (fun F y q => mX10_ringAt_L10 s (fun (x3_1 : Int32) (x2_2 : Int32) => some ((-4))) F y q) (2 ^ n) 1 (fun i => x - nI (sm (fun i => if rg n T i = true then 1 else 0) i)) p (fun i => some (nI i)) (by omega) (by omega) (fun F i h1 hi hpi => by
          show mX10_ringAt_L10 _ _ (F + 1) _ _ = _
          rw [kB F i h1 hi, if_neg (by rw [hpi]; decide)]) (fun F i h1 hi hpi => by
          show mX10_ringAt_L10 _ _ (F + 1) _ _ = _
          rw [kB F i h1 hi, if_pos hpi]) with ⟨j, j1, j2, j3, j4, e'⟩ | ⟨_, m', e'⟩
      · rw [h0 j j1 j2] at j3; cases j3
      · refine ⟨-4, ?_, ?_⟩
        · rw [show mX2_atPlace_L4 f (nI n) x (fun (x3_1 : Int32) (x2_2 : Int32) => some ((-4))) FU (nI 1) (nI (sm (fun i => if rg n T i = true then 1 else 0) 1)) = mX2_atPlace_L4 f (nI n) x (fun (x3_1 : Int32) (x2_2 : Int32) => some ((-4))) (m + 1) (nI (2 ^ n)) (nI (sm (fun i => if rg n T i = true then 1 else 0) (2 ^ n))) from e, mX2_atPlace_L4, X6_allBits_ok h8, bd_some, if_pos (nI_lt (by omega) (by omega)), bd_some]
        · refine Eq.trans e' ?_
          show mX10_ringAt_L10 _ _ (m' + 1) _ _ = _
          rw [mX10_ringAt_L10, m_s0 hs, bt_sh' (by omega), if_pos (nI_le (Nat.le_refl _) (by omega))]
  · exact ⟨-1, by rw [if_neg hx], by rw [if_neg hx]⟩
/-- the fewest tokens that all comes from, and the least number of them -/
def isFew (n : Nat) (T : Nat → Nat → Nat) (r : Nat) : Prop := 1 ≤ r ∧ r < 2 ^ n ∧ isCl n T r (2 ^ n - 1) ∧ ∀ x, 1 ≤ x → x < 2 ^ n → isCl n T x (2 ^ n - 1) → bits r ≤ bits x ∧ (bits r = bits x → r ≤ x)
theorem isCl_all (hL : Lat n T) : isCl n T (2 ^ n - 1) (2 ^ n - 1) := by
  have := Nat.two_pow_pos n
  exact ⟨by omega, sub_rf _, cls_all hL, fun x _ h => h⟩
theorem X2_leastSeeds_ok (hL : Lat n T) (ht : tF n T f) : ∃ r, isFew n T r ∧ mX2_leastSeeds f (nI n) = some (nI r) := by
  have h8 := hL.2.1
  have hp := p2_le h8
  have hp0 := p2_ge hL.1
  unfold mX2_leastSeeds
  rw [X6_allBits_ok h8, bd_some]
  obtain ⟨m, q, ⟨b, rfl, hb1, hb2, hb3, hb4, hb5⟩, e⟩ := lpI (fun F x (q : Int32) => mX2_leastSeeds_L9 f (nI n) (nI (2 ^ n - 1)) (fun (x3_2 : Int32) (x2_3 : Int32) => some (x2_3)) F x q) (2 ^ n) 1 (fun i q => ∃ b, q = nI b ∧ 1 ≤ b ∧ b < 2 ^ n ∧ isCl n T b (2 ^ n - 1) ∧ (b < i ∨ b = 2 ^ n - 1) ∧ ∀ x, 1 ≤ x → x < i → isCl n T x (2 ^ n - 1) → bits b ≤ bits x ∧ (bits b = bits x → b ≤ x)) (by omega) (by omega) (fun F i q h2 hi hq => by
    obtain ⟨b, rfl, hb1, hb2, hb3, hb4, hb5⟩ := hq
    obtain ⟨r, hr, er⟩ := X2_grownFrom_ok hL ht h2 hi
    have hr1 := hr.1
    have bb := bits_bound (v := b) (by omega)
    have bi := bits_bound (v := i) (by omega)
    have q1 : mX2_leastSeeds_L9 f (nI n) (nI (2 ^ n - 1)) (fun (x3_2 : Int32) (x2_3 : Int32) => some (x2_3)) (F + 1) (nI i) (nI b) = if nI (bits b) ≤ nI (bits i) then mX2_leastSeeds_L9 f (nI n) (nI (2 ^ n - 1)) (fun (x3_2 : Int32) (x2_3 : Int32) => some (x2_3)) F (nI (i + 1)) (nI b) else if nI r = nI (2 ^ n - 1) then mX2_leastSeeds_L9 f (nI n) (nI (2 ^ n - 1)) (fun (x3_2 : Int32) (x2_3 : Int32) => some (x2_3)) F (nI (i + 1)) (nI i) else mX2_leastSeeds_L9 f (nI n) (nI (2 ^ n - 1)) (fun (x3_2 : Int32) (x2_3 : Int32) => some (x2_3)) F (nI (i + 1)) (nI b) := by
      rw [mX2_leastSeeds_L9, if_neg (nI_nlt (by omega) (by omega)), bt_cnt' (by omega), bd_some, bt_cnt' (by omega), bd_some, er, bd_some, nI_1]
    show ∃ b_1, _ ∧ mX2_leastSeeds_L9 _ _ _ _ (F + 1) _ _ = _
    rw [q1]
    by_cases c2 : bits b ≤ bits i
    · refine ⟨nI b, ⟨b, rfl, hb1, hb2, hb3, by omega, fun x h3 hx h4 => ?_⟩, by rw [if_pos (nI_le c2 bi)]⟩
      by_cases e : x = i
      · subst e
        refine ⟨c2, fun h => ?_⟩
        rcases hb4 with h5 | h5
        · omega
        · refine Nat.le_of_eq (Classical.byContradiction fun w => ?_)
          have := bits_lt (v := x) (w := 2 ^ n - 1) (by omega) (sub_all hi) (fun v => w (by rw [h5, v]))
          rw [h5] at h; omega
      · exact hb5 x h3 (by omega) h4
    · rw [if_neg (nI_ge (by omega) bb)]
      by_cases c3 : r = 2 ^ n - 1
      · refine ⟨nI i, ⟨i, rfl, h2, hi, by rw [← c3]; exact hr, by omega, fun x h3 hx h4 => ?_⟩, by rw [if_pos (by rw [c3])]⟩
        by_cases e : x = i
        · subst e; exact ⟨Nat.le_refl _, fun _ => Nat.le_refl _⟩
        · have := hb5 x h3 (by omega) h4; exact ⟨by omega, fun h => by omega⟩
      · refine ⟨nI b, ⟨b, rfl, hb1, hb2, hb3, by omega, fun x h3 hx h4 => ?_⟩, by rw [if_neg (fun w => c3 ((nI_eq (by omega) (by omega)).mp w))]⟩
        have : x ≠ i := fun e => by rw [e] at h4; exact c3 (isCl_one hr h4)
        exact hb5 x h3 (by omega) h4) (nI (2 ^ n - 1)) ⟨2 ^ n - 1, rfl, by omega, by omega, isCl_all hL, Or.inr rfl, fun x h3 hx _ => by omega⟩
  refine ⟨b, ⟨hb1, hb2, hb3, hb5⟩, ?_⟩
  refine Eq.trans e ?_
  show mX2_leastSeeds_L9 _ _ _ _ (m + 1) _ _ = _
  rw [mX2_leastSeeds_L9, if_pos (nI_lt (by omega) (by omega))]
theorem m_fewest (hL : Lat n T) (ht : tF n T f) (hs : sF n T s) : ∃ r, isFew n T r ∧ mX10_fewest s = some (nI r) := by
  have h8 := hL.2.1
  have hp := p2_le h8
  have hp0 := p2_ge hL.1
  unfold mX10_fewest
  rw [m_s0 hs, all_sub1 h8]
  obtain ⟨m, q, ⟨b, rfl, hb1, hb2, hb3, hb5⟩, e⟩ := lpD (fun F x (q : Int32) => mX10_fewest_L13 s (fun (x2_1 : Int32) (x1_2 : Int32) => some (x1_2)) F x q) (2 ^ n - 1) (fun i q => ∃ b, q = nI b ∧ 1 ≤ b ∧ b < 2 ^ n ∧ isCl n T b (2 ^ n - 1) ∧ ∀ x, i < x → x < 2 ^ n → isCl n T x (2 ^ n - 1) → bits b ≤ bits x ∧ (bits b = bits x → b ≤ x)) (by omega) (fun F i q hi hq => by
    obtain ⟨b, rfl, hb1, hb2, hb3, hb5⟩ := hq
    obtain ⟨r, hr0, hr, _, er⟩ := ring_one hL ht hs (v := i + 1) (by omega) (by omega)
    have bb := bits_bound (v := b) (by omega)
    have bi := bits_bound (v := i + 1) (by omega)
    have q1 : mX10_fewest_L13 s (fun (x2_1 : Int32) (x1_2 : Int32) => some (x1_2)) (F + 1) (nI (i + 1)) (nI b) = if nI (bits b) < nI (bits (i + 1)) then mX10_fewest_L13 s (fun (x2_1 : Int32) (x1_2 : Int32) => some (x1_2)) F (nI i) (nI b) else if nI r = nI (2 ^ n - 1) then mX10_fewest_L13 s (fun (x2_1 : Int32) (x1_2 : Int32) => some (x1_2)) F (nI i) (nI (i + 1)) else mX10_fewest_L13 s (fun (x2_1 : Int32) (x1_2 : Int32) => some (x1_2)) F (nI i) (nI b) := by
      rw [mX10_fewest_L13, if_neg (nI_nle (by omega) (by omega)), m_bits (by omega), bd_some, m_bits (by omega), bd_some, er, bd_some, m_s0 hs, all_sub1 h8, ne1_sub]
    show ∃ b_1, _ ∧ mX10_fewest_L13 _ _ (F + 1) _ _ = _
    rw [q1]
    by_cases c2 : bits b < bits (i + 1)
    · refine ⟨nI b, ⟨b, rfl, hb1, hb2, hb3, fun x h3 hx h4 => ?_⟩, by rw [if_pos (nI_lt c2 bi)]⟩
      by_cases e : x = i + 1
      · subst e; exact ⟨by omega, fun h => by omega⟩
      · exact hb5 x (by omega) hx h4
    · rw [if_neg (nI_nlt (by omega) bb)]
      by_cases c3 : r = 2 ^ n - 1
      · refine ⟨nI (i + 1), ⟨i + 1, rfl, by omega, by omega, by rw [← c3]; exact hr, fun x h3 hx h4 => ?_⟩, by rw [if_pos (by rw [c3])]⟩
        by_cases e : x = i + 1
        · subst e; exact ⟨Nat.le_refl _, fun _ => Nat.le_refl _⟩
        · have := hb5 x (by omega) hx h4; exact ⟨by omega, fun h => by omega⟩
      · refine ⟨nI b, ⟨b, rfl, hb1, hb2, hb3, fun x h3 hx h4 => ?_⟩, by rw [if_neg (fun w => c3 ((nI_eq (by omega) (by omega)).mp w))]⟩
        have : x ≠ i + 1 := fun e => by rw [e] at h4; exact c3 (isCl_one hr h4)
        exact hb5 x (by omega) hx h4) (nI (2 ^ n - 1)) ⟨2 ^ n - 1, rfl, by omega, by omega, isCl_all hL, fun x h3 hx _ => by omega⟩
  refine ⟨b, ⟨hb1, hb2, hb3, fun x h1 => hb5 x (by omega)⟩, ?_⟩
  refine Eq.trans e ?_
  show mX10_fewest_L13 _ _ (m + 1) _ _ = _
  rw [mX10_fewest_L13, if_pos (show nI 0 ≤ 0 by decide)]
theorem fewest_both (hL : Lat n T) (ht : tF n T f) (hs : sF n T s) : ∃ r, r < 256 ∧ mX2_leastSeeds f (nI n) = some (nI r) ∧ mX10_fewest s = some (nI r) := by
  have hp := p2_le hL.2.1
  obtain ⟨r, ⟨r1, r2, r3, r4⟩, e1⟩ := X2_leastSeeds_ok hL ht
  obtain ⟨q, ⟨q1, q2, q3, q4⟩, e2⟩ := m_fewest hL ht hs
  have h1 := r4 q q1 q2 q3
  have h2 := q4 r r1 r2 r3
  have : r = q := by omega
  subst this
  exact ⟨r, by omega, e1, e2⟩
end Rings2
