/-! rings -/
theorem bt_has' {v i : Nat} (hv : v < 256) (hi : i < 8) : ((nI v >>> (nI i &&& 31)) &&& 1) = bI (v.testBit i) := of_decide_eq_true (allB_iff.mp (allB_iff.mp bt_has v hv) i hi)
theorem bt_or' {v i : Nat} (hv : v < 256) (hi : i < 8) : nI v ||| ((1 : Int32) <<< (nI i &&& 31)) = nI (v ||| 2 ^ i) := of_decide_eq_true (allB_iff.mp (allB_iff.mp bt_or v hv) i hi)
theorem bt_sh' {i : Nat} (hi : i < 9) : ((1 : Int32) <<< (nI i &&& 31)) = nI (2 ^ i) := of_decide_eq_true (allB_iff.mp bt_sh i hi)
def bits (v : Nat) : Nat := cn (fun i => v.testBit i) 8
theorem bt_cnt' {v : Nat} (hv : v < 256) : mJ6_bitCount_0f7a4 (nI v) = some (nI (bits v)) := of_decide_eq_true (allB_iff.mp bt_cnt v hv)
theorem bt_and' {v i j : Nat} (hv : v < 256) (hi : i < 8) (hj : j < 8) : (((nI v >>> (nI i &&& 31)) &&& (nI v >>> (nI j &&& 31))) &&& 1) = bI (v.testBit i && v.testBit j) := of_decide_eq_true (allB_iff.mp (allB_iff.mp (allB_iff.mp bt_and v hv) i hi) j hj)
theorem bt_sub' {v w : Nat} (hv : v < 256) (hw : w < 256) : ((nI v &&& (nI w ^^^ (-1))) = 0) ↔ v &&& w = v := by
  have h := beq_iff_eq.mp (allB_iff.mp (allB_iff.mp bt_sub v hv) w hw)
  constructor
  · intro q; rw [decide_eq_true q] at h; exact of_decide_eq_true h.symm
  · intro q; rw [decide_eq_true q] at h; exact of_decide_eq_true h
theorem p2_le {n : Nat} (hn : n ≤ 8) : 2 ^ n ≤ 256 := Nat.pow_le_pow_right (by omega) hn
theorem p2_ge {n : Nat} (hn : 2 ≤ n) : 4 ≤ 2 ^ n := Nat.pow_le_pow_right (n := 2) (by omega) hn
theorem bI_1 {b : Bool} : bI b = 1 ↔ b = true := by cases b <;> decide
def sub (v w : Nat) : Prop := ∀ i, v.testBit i = true → w.testBit i = true
theorem sub_and {v w : Nat} : v &&& w = v ↔ sub v w := by
  constructor
  · intro h i hi
    rw [← h, Nat.testBit_and, Bool.and_eq_true] at hi
    exact hi.2
  · intro h
    refine Nat.eq_of_testBit_eq fun i => ?_
    rw [Nat.testBit_and]
    cases q : v.testBit i with
    | false => rfl
    | true => rw [h i q]; rfl
theorem sub_rf (v : Nat) : sub v v := fun _ h => h
theorem sub_tr {u v w : Nat} (h1 : sub u v) (h2 : sub v w) : sub u w := fun i h => h2 i (h1 i h)
theorem sub_as {v w : Nat} (h1 : sub v w) (h2 : sub w v) : v = w := Nat.eq_of_testBit_eq fun i => by
  cases q : v.testBit i with
  | false =>
    cases r : w.testBit i with
    | false => rfl
    | true => rw [h2 i r] at q; cases q
  | true => rw [h1 i q]
theorem tb_lt {n v i : Nat} (hv : v < 2 ^ n) (h : v.testBit i = true) : i < n := by
  refine Nat.lt_of_not_le fun q => ?_
  have := Nat.testBit_lt_two_pow (Nat.lt_of_lt_of_le hv (Nat.pow_le_pow_right (n := 2) (by omega) q))
  rw [this] at h; cases h
theorem cn_mono {p q : Nat → Bool} : ∀ {m : Nat}, (∀ i, i < m → p i = true → q i = true) → cn p m ≤ cn q m
  | 0, _ => Nat.le_refl _
  | m + 1, h => by
    have h1 := cn_mono (m := m) (fun i hi => h i (by omega))
    rw [cn_s, cn_s]
    by_cases a : p m = true
    · rw [if_pos a, if_pos (h m (by omega) a)]; omega
    · rw [if_neg a]; omega
theorem cn_lt {p q : Nat → Bool} : ∀ {m : Nat}, (∀ i, i < m → p i = true → q i = true) → (∃ i, i < m ∧ p i = false ∧ q i = true) → cn p m < cn q m
  | 0, _, ⟨i, hi, _⟩ => absurd hi (Nat.not_lt_zero _)
  | m + 1, h, ⟨i, hi, h1, h2⟩ => by
    rw [cn_s, cn_s]
    by_cases e : i = m
    · subst e
      have h3 := cn_mono (m := i) (fun j hj => h j (by omega))
      rw [if_neg (by rw [h1]; decide), if_pos h2]; omega
    · have h3 := cn_lt (m := m) (fun j hj => h j (by omega)) ⟨i, by omega, h1, h2⟩
      by_cases a : p m = true
      · rw [if_pos a, if_pos (h m (by omega) a)]; omega
      · rw [if_neg a]; omega
theorem bits_le {v w : Nat} (h : sub v w) : bits v ≤ bits w := cn_mono (fun i _ => h i)
theorem bits_lt {v w : Nat} (hw : w < 256) (h : sub v w) (hn : v ≠ w) : bits v < bits w := by
  refine cn_lt (fun i _ => h i) ?_
  refine Classical.byContradiction fun q => hn (sub_as h fun i hi => ?_)
  have h8 : i < 8 := tb_lt (n := 8) hw hi
  cases r : v.testBit i with
  | true => rfl
  | false => exact absurd ⟨i, h8, r, hi⟩ q
theorem bits_8 (v : Nat) : bits v ≤ 8 := cn_le _ _
theorem all_bit {n i : Nat} (hi : i < n) : (2 ^ n - 1).testBit i = true := by
  rw [Nat.testBit_two_pow_sub_one]; exact decide_eq_true hi
theorem sub_all {n v : Nat} (hv : v < 2 ^ n) : sub v (2 ^ n - 1) := fun i hi => all_bit (tb_lt hv hi)
/-- closed under the sums -/
def cls (n : Nat) (T : Nat → Nat → Nat) (v : Nat) : Bool := allB (fun a => allB (fun b => !(v.testBit a && v.testBit b) || v.testBit (T a b)) n) n
theorem cls_iff {n : Nat} {T : Nat → Nat → Nat} {v : Nat} : cls n T v = true ↔ ∀ a b, a < n → b < n → v.testBit a = true → v.testBit b = true → v.testBit (T a b) = true := by
  unfold cls
  constructor
  · intro h a b ha hb h1 h2
    have := allB_iff.mp (allB_iff.mp h a ha) b hb
    simpa [h1, h2] using this
  · intro h
    refine allB_iff.mpr fun a ha => allB_iff.mpr fun b hb => ?_
    cases h1 : v.testBit a with
    | false => rfl
    | true =>
      cases h2 : v.testBit b with
      | false => rfl
      | true => rw [h a b ha hb h1 h2]; rfl
def rg (n : Nat) (T : Nat → Nat → Nat) (v : Nat) : Bool := decide (1 ≤ v) && cls n T v
section Rings
variable {n : Nat} {T : Nat → Nat → Nat} {f s : Nat → Int32}
theorem cls_all (hL : Lat n T) : cls n T (2 ^ n - 1) = true := cls_iff.mpr fun a b ha hb _ _ => all_bit (hL.2.2.1 a b ha hb)
theorem X9_hasBit_ok {v i : Nat} (hv : v < 256) (hi : i < 8) : mX9_hasBit (nI v) (nI i) = some (bI (v.testBit i)) := by
  unfold mX9_hasBit
  rw [bt_has' hv hi]
  cases h : v.testBit i with
  | true => rw [if_pos (show bI true = 1 from rfl)]; rfl
  | false => rw [if_neg (show ¬ bI false = 1 by decide)]; rfl
theorem X6_allBits_ok (hn : n ≤ 8) : mX6_allBits (nI n) = some (nI (2 ^ n - 1)) := by
  unfold mX6_allBits
  rw [bt_sh' (by omega), show 2 ^ n = 2 ^ n - 1 + 1 by have := Nat.two_pow_pos n; omega, nI_pred]; rfl
/-- a set with the sums of its tokens -/
def wS (n : Nat) (T : Nat → Nat → Nat) (v w : Nat) : Prop := w < 2 ^ n ∧ ∀ z, w.testBit z = true ↔ v.testBit z = true ∨ ∃ a b, a < n ∧ b < n ∧ v.testBit a = true ∧ v.testBit b = true ∧ T a b = z
theorem X2_withSums_ok (hL : Lat n T) (ht : tF n T f) {v : Nat} (hv : v < 2 ^ n) : ∃ w, mX2_withSums f (nI n) (nI v) = some (nI w) ∧ wS n T v w := by
  have h8 := hL.2.1
  have hT := hL.2.2.1
  have hp := p2_le h8
  unfold mX2_withSums
  rw [X6_size_ok, bd_some]
  have hor : ∀ {w t}, w < 2 ^ n → t < n → (w ||| 2 ^ t) < 2 ^ n := fun hw ht => Nat.or_lt_two_pow hw (Nat.pow_lt_pow_right (by omega) ht)
  obtain ⟨m, q, ⟨w, rfl, hw, hI⟩, e⟩ := lpI (fun F x (q : Int32) => mX2_withSums_L10 f (nI v) (nI n) (fun (x4_2 : Int32) (x3_3 : Int32) => some (x3_3)) F x q) n 0 (fun i q => ∃ w, q = nI w ∧ w < 2 ^ n ∧ ∀ z, w.testBit z = true ↔ v.testBit z = true ∨ ∃ a b, a < i ∧ b < n ∧ v.testBit a = true ∧ v.testBit b = true ∧ T a b = z) (by omega) (by omega) (fun F i q _ hi hq => by
    obtain ⟨w, rfl, hw, hI⟩ := hq
    have h1 : mX2_withSums_L10 f (nI v) (nI n) (fun (x4_2 : Int32) (x3_3 : Int32) => some (x3_3)) (F + 1) (nI i) (nI w) = if bI (v.testBit i) = 0 then mX2_withSums_L10 f (nI v) (nI n) (fun (x4_2 : Int32) (x3_3 : Int32) => some (x3_3)) F (nI (i + 1)) (nI w) else mX2_withSums_L31 f (nI v) (nI n) (nI i) (fun (x5_8 : Int32) (x3_9 : Int32) => mX2_withSums_L10 f (nI v) (nI n) (fun (x4_2 : Int32) (x3_3 : Int32) => some (x3_3)) F (nI (i + 1)) x3_9) FU 0 (nI w) := by
      rw [mX2_withSums_L10, if_neg (nI_ge hi (by omega)), X9_hasBit_ok (by omega) (by omega), bd_some, nI_1]
    cases hb : v.testBit i with
    | false =>
      refine ⟨nI w, ⟨w, rfl, hw, fun z => (hI z).trans ⟨?_, ?_⟩⟩, ?_⟩
      · rintro (h | ⟨a, b, ha, h⟩)
        · exact Or.inl h
        · exact Or.inr ⟨a, b, by omega, h⟩
      · rintro (h | ⟨a, b, ha, hb', h2, h3⟩)
        · exact Or.inl h
        · have : a ≠ i := fun e => by rw [e, hb] at h2; cases h2
          exact Or.inr ⟨a, b, by omega, hb', h2, h3⟩
      · exact h1.trans (by rw [hb, if_pos (show bI false = 0 from rfl)])
    | true =>
      obtain ⟨m, q', ⟨w', rfl, hw', hJ⟩, e'⟩ := lpI (fun F2 x (q : Int32) => mX2_withSums_L31 f (nI v) (nI n) (nI i) (fun (x5_8 : Int32) (x3_9 : Int32) => mX2_withSums_L10 f (nI v) (nI n) (fun (x4_2 : Int32) (x3_3 : Int32) => some (x3_3)) F (nI (i + 1)) x3_9) F2 x q) n 0 (fun j q => ∃ w', q = nI w' ∧ w' < 2 ^ n ∧ ∀ z, w'.testBit z = true ↔ w.testBit z = true ∨ ∃ b, b < j ∧ v.testBit b = true ∧ T i b = z) (by omega) (by omega) (fun F2 j q _ hj hq => by
        obtain ⟨u, rfl, hu, hU⟩ := hq
        have h2 : ∀ k, mX2_withSums_L31 f (nI v) (nI n) (nI i) k (F2 + 1) (nI j) (nI u) = if bI (v.testBit j) = 0 then mX2_withSums_L31 f (nI v) (nI n) (nI i) k F2 (nI (j + 1)) (nI u) else mX2_withSums_L31 f (nI v) (nI n) (nI i) k F2 (nI (j + 1)) (nI (u ||| 2 ^ T i j)) := by
          intro k
          rw [mX2_withSums_L31, if_neg (nI_ge hj (by omega)), X9_hasBit_ok (by omega) (by omega), bd_some, nI_1, X6_at_ok h8 ht hi hj, bd_some, bt_or' (by omega) (by have := hT i j hi hj; omega)]
        cases hbj : v.testBit j with
        | false =>
          refine ⟨nI u, ⟨u, rfl, hu, fun z => (hU z).trans ⟨?_, ?_⟩⟩, ?_⟩
          · rintro (h | ⟨b, h, h3⟩)
            · exact Or.inl h
            · exact Or.inr ⟨b, by omega, h3⟩
          · rintro (h | ⟨b, h, h3, h4⟩)
            · exact Or.inl h
            · have : b ≠ j := fun e => by rw [e, hbj] at h3; cases h3
              exact Or.inr ⟨b, by omega, h3, h4⟩
          · exact (h2 _).trans (by rw [hbj, if_pos (show bI false = 0 from rfl)])
        | true =>
          refine ⟨nI (u ||| 2 ^ T i j), ⟨_, rfl, hor hu (hT i j hi hj), fun z => ?_⟩, ?_⟩
          · rw [Nat.testBit_or, Bool.or_eq_true, hU z, Nat.testBit_two_pow, decide_eq_true_iff]
            constructor
            · rintro ((h | ⟨b, h, h3⟩) | h)
              · exact Or.inl h
              · exact Or.inr ⟨b, by omega, h3⟩
              · exact Or.inr ⟨j, by omega, hbj, h⟩
            · rintro (h | ⟨b, h, h3, h4⟩)
              · exact Or.inl (Or.inl h)
              · by_cases e : b = j
                · exact Or.inr (by rw [← e]; exact h4)
                · exact Or.inl (Or.inr ⟨b, by omega, h3, h4⟩)
          · exact (h2 _).trans (by rw [hbj, if_neg (show ¬ bI true = 0 by decide)])) (nI w) ⟨w, rfl, hw, fun z => ⟨Or.inl, fun h => h.elim id (fun ⟨b, hb, _⟩ => absurd hb (Nat.not_lt_zero _))⟩⟩
      refine ⟨nI w', ⟨w', rfl, hw', fun z => ?_⟩, ?_⟩
      · rw [hJ z, hI z]
        constructor
        · rintro ((h | ⟨a, b, ha, h⟩) | ⟨b, h1, h2, h3⟩)
          · exact Or.inl h
          · exact Or.inr ⟨a, b, by omega, h⟩
          · exact Or.inr ⟨i, b, by omega, h1, hb, h2, h3⟩
        · rintro (h | ⟨a, b, ha, hb', h2, h3, h4⟩)
          · exact Or.inl (Or.inl h)
          · by_cases e : a = i
            · subst e; exact Or.inr ⟨b, hb', h3, h4⟩
            · exact Or.inl (Or.inr ⟨a, b, by omega, hb', h2, h3, h4⟩)
      · refine h1.trans ?_
        rw [hb, if_neg (show ¬ bI true = 0 by decide)]
        refine Eq.trans e' ?_
        show mX2_withSums_L31 _ _ _ _ _ (m + 1) _ _ = _
        rw [mX2_withSums_L31, if_pos (nI_le (Nat.le_refl _) (by omega))]) (nI v) ⟨v, rfl, hv, fun z => ⟨Or.inl, fun h => h.elim id (fun ⟨a, b, ha, _⟩ => absurd ha (Nat.not_lt_zero _))⟩⟩
  refine ⟨w, ?_, hw, hI⟩
  refine Eq.trans e ?_
  show mX2_withSums_L10 _ _ _ _ (m + 1) _ _ = _
  rw [mX2_withSums_L10, if_pos (nI_le (Nat.le_refl _) (by omega))]
theorem wS_sub {v w : Nat} (h : wS n T v w) : sub v w := fun z hz => (h.2 z).mpr (Or.inl hz)
theorem wS_cls {v w : Nat} (h : wS n T v w) : w = v ↔ cls n T v = true := by
  rw [cls_iff]
  constructor
  · intro e a b ha hb h1 h2
    rw [← e]
    exact (h.2 _).mpr (Or.inr ⟨a, b, ha, hb, h1, h2, rfl⟩)
  · intro hc
    refine sub_as (fun z hz => ?_) (wS_sub h)
    rcases (h.2 z).mp hz with q | ⟨a, b, ha, hb, h1, h2, e⟩
    · exact q
    · rw [← e]; exact hc a b ha hb h1 h2
theorem wS_in {v w x : Nat} (h : wS n T v w) (hc : cls n T x = true) (hs : sub v x) : sub w x := fun z hz => by
  rcases (h.2 z).mp hz with q | ⟨a, b, ha, hb, h1, h2, e⟩
  · exact hs z q
  · rw [← e]; exact cls_iff.mp hc a b ha hb (hs a h1) (hs b h2)
theorem X2_isRing_ok (hL : Lat n T) (ht : tF n T f) {v : Nat} (hv : v < 2 ^ n) : mX2_isRing f (nI n) (nI v) = some (bI (cls n T v)) := by
  have hp := p2_le hL.2.1
  obtain ⟨w, e, hw⟩ := X2_withSums_ok hL ht hv
  have h1 := hw.1
  unfold mX2_isRing
  rw [e, bd_some]
  cases hc : cls n T v with
  | true => rw [if_pos (by rw [(wS_cls hw).mpr hc])]; rfl
  | false => rw [if_neg (fun q => by
      have := (nI_eq (by omega) (by omega)).mp q
      rw [(wS_cls hw).mp this] at hc; cases hc)]; rfl
/-- the least closed set around some tokens -/
def isCl (n : Nat) (T : Nat → Nat → Nat) (v r : Nat) : Prop := r < 2 ^ n ∧ sub v r ∧ cls n T r = true ∧ ∀ x, cls n T x = true → sub v x → sub r x
theorem isCl_one {v r r' : Nat} (h : isCl n T v r) (h' : isCl n T v r') : r = r' := sub_as (h.2.2.2 r' h'.2.2.1 h'.2.1) (h'.2.2.2 r h.2.2.1 h.2.1)
theorem bits_pos {v : Nat} (hv : v < 256) (h : 1 ≤ v) : 1 ≤ bits v := by
  have h0 : bits 0 = 0 := rfl
  have := bits_lt hv (v := 0) (fun i hi => by rw [Nat.zero_testBit] at hi; cases hi) (by omega)
  omega
theorem X2_grownFrom_ok (hL : Lat n T) (ht : tF n T f) {v : Nat} (h1 : 1 ≤ v) (hv : v < 2 ^ n) : ∃ r, isCl n T v r ∧ mX2_grownFrom f (nI n) (nI v) = some (nI r) := by
  have h8 := hL.2.1
  have hp := p2_le h8
  unfold mX2_grownFrom
  have key : ∀ d i F u, i + d = 8 → d < F → u < 2 ^ n → sub v u → 1 + i ≤ bits u → (∀ x, cls n T x = true → sub v x → sub u x) → ∃ r, isCl n T v r ∧ mX2_grownFrom_L4 f (nI n) (fun (x3_1 : Int32) (x2_2 : Int32) => some (x2_2)) F (nI i) (nI u) = some (nI r) := by
    intro d
    induction d with
    | zero => intro i F u h2 _ h3 _ h4; have := bits_8 u; omega
    | succ d ih =>
      intro i F u h2 hF h3 h4 h5 h6
      obtain ⟨F', rfl⟩ : ∃ F', F = F' + 1 := ⟨F - 1, by omega⟩
      obtain ⟨w, e, hw⟩ := X2_withSums_ok hL ht h3
      have hw1 := hw.1
      rw [mX2_grownFrom_L4, if_neg (show ¬ (8 : Int32) ≤ nI i from nI_ge (b := 8) (by omega) (by omega)), e, bd_some, nI_1]
      by_cases q : w = u
      · exact ⟨u, ⟨h3, h4, (wS_cls hw).mp q, h6⟩, by rw [if_pos (by rw [q])]⟩
      · rw [if_neg (fun h => q ((nI_eq (by omega) (by omega)).mp h))]
        have hb := bits_lt (by omega) (wS_sub hw) (Ne.symm q)
        exact ih (i + 1) F' w (by omega) (by omega) hw1 (sub_tr h4 (wS_sub hw)) (by omega) (fun x hx hs => wS_in hw hx (h6 x hx hs))
  exact key 8 0 FU v (by omega) (by have := FU_ge; omega) hv (sub_rf v) (bits_pos (by omega) h1) (fun x _ hs => hs)
end Rings
