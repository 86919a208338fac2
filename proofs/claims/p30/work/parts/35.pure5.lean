/-! changes of the table -/
theorem lpI {α R : Type} (G : Nat → Int32 → α → Option R) (n i0 : Nat) (I : Nat → α → Prop) (hi : i0 ≤ n) (hn : n < 5000) (step : ∀ F i a, i0 ≤ i → i < n → I i a → ∃ b, I (i + 1) b ∧ G (F + 1) (nI i) a = G F (nI (i + 1)) b) (a0 : α) (h0 : I i0 a0) : ∃ m b, I n b ∧ G FU (nI i0) a0 = G (m + 1) (nI n) b := by
  have key : ∀ d i F a, i + d = n → i0 ≤ i → d < F → I i a → ∃ m b, I n b ∧ G F (nI i) a = G (m + 1) (nI n) b := by
    intro d
    induction d with
    | zero =>
      intro i F a h1 h2 h3 h4
      have : i = n := by omega
      subst this
      exact ⟨F - 1, a, h4, by rw [show F - 1 + 1 = F by omega]⟩
    | succ d ih =>
      intro i F a h1 h2 h3 h4
      obtain ⟨F', rfl⟩ : ∃ F', F = F' + 1 := ⟨F - 1, by omega⟩
      obtain ⟨b, hb, e⟩ := step F' i a h2 (by omega) h4
      obtain ⟨m, b', hb', e'⟩ := ih (i + 1) F' b (by omega) (by omega) (by omega) hb
      exact ⟨m, b', hb', e.trans e'⟩
  exact key (n - i0) i0 FU a0 (by omega) (Nat.le_refl _) (by have := FU_ge; omega) h0
theorem upd_eq (f : Nat → Int32) (k : Nat) (x : Int32) : upd f k x k = x := by simp [upd]
theorem upd_ne (f : Nat → Int32) {k j : Nat} (x : Int32) (h : j ≠ k) : upd f k x j = f j := by simp [upd, h]
def cpy (N : Nat) (h p : Nat → Int32) : Nat → Int32 := fun j => if j < N then p j else h j
theorem cpy_0 (h p : Nat → Int32) : cpy 0 h p = h := by funext j; simp [cpy]
theorem cpy_s (i : Nat) (h p : Nat → Int32) : upd (cpy i h p) i (p i) = cpy (i + 1) h p := by
  funext j
  simp only [upd, cpy]
  by_cases q : j = i
  · subst q; simp
  · by_cases w : j < i
    · rw [if_neg q, if_pos w, if_pos (by omega)]
    · rw [if_neg q, if_neg w, if_neg (by omega)]
theorem X6_copyFrom_ok (h p : Nat → Int32) (x : Int32) : mX6_copyFrom h p x = some (cpy 64 h p, x) := by
  unfold mX6_copyFrom
  obtain ⟨m, e⟩ := lpU (fun F y a => mX6_copyFrom_L10 p (fun (x2_1 : Int32) (f_2 : Nat → Int32) => some (f_2, x)) F y a) 64 0 (fun i => cpy i h p) (by omega) (by omega) (fun F i _ hi => by
    show mX6_copyFrom_L10 _ _ (F + 1) _ _ = _
    rw [mX6_copyFrom_L10, if_neg (show ¬ (64 : Int32) ≤ nI i from nI_ge (b := 64) hi (by omega)), X9_get_ok hi (by omega), bd_some, X9_put_ok hi (by omega), bd_some, nI_1, cpy_s])
  rw [cpy_0] at e
  refine Eq.trans e ?_
  show mX6_copyFrom_L10 _ _ (m + 1) _ _ = _
  rw [mX6_copyFrom_L10, if_pos (show (64 : Int32) ≤ nI 64 from nI_le (a := 64) (Nat.le_refl _) (by omega))]
theorem tF_cpy {n : Nat} {T : Nat → Nat → Nat} {h p : Nat → Int32} (hn : n ≤ 8) (ht : tF n T p) : tF n T (cpy 64 h p) := fun a b ha hb => by
  show (if 8 * a + b < 64 then _ else _) = _
  rw [if_pos (by omega), ht a b ha hb]
/-- two names change places -/
def sw (a b x : Nat) : Nat := if x = a then b else if x = b then a else x
theorem sw_lt {n a b x : Nat} (ha : a < n) (hb : b < n) (hx : x < n) : sw a b x < n := by
  unfold sw
  by_cases q : x = a
  · rw [if_pos q]; exact hb
  · by_cases w : x = b
    · rw [if_neg q, if_pos w]; exact ha
    · rw [if_neg q, if_neg w]; exact hx
theorem sw_sw (a b x : Nat) : sw a b (sw a b x) = x := by
  unfold sw
  by_cases q : x = a
  · rw [if_pos q]
    by_cases w : b = a
    · rw [if_pos w]; omega
    · rw [if_neg w, if_pos rfl]; omega
  · by_cases w : x = b
    · rw [if_neg q, if_pos w, if_pos rfl]; omega
    · rw [if_neg q, if_neg w, if_neg q, if_neg w]
theorem sw_inj {a b x y : Nat} (h : sw a b x = sw a b y) : x = y := by rw [← sw_sw a b x, h, sw_sw]
theorem sw_a (a b : Nat) : sw a b a = b := by unfold sw; rw [if_pos rfl]
theorem sw_b (a b : Nat) : sw a b b = a := by
  unfold sw
  by_cases q : b = a
  · rw [if_pos q]; exact q
  · rw [if_neg q, if_pos rfl]
theorem sw_o {a b x : Nat} (h1 : x ≠ a) (h2 : x ≠ b) : sw a b x = x := by unfold sw; rw [if_neg h1, if_neg h2]
def rowX (T : Nat → Nat → Nat) (a b : Nat) : Nat → Nat → Nat := fun x y => T (sw a b x) y
def colX (T : Nat → Nat → Nat) (a b : Nat) : Nat → Nat → Nat := fun x y => T x (sw a b y)
def namX (T : Nat → Nat → Nat) (a b : Nat) : Nat → Nat → Nat := fun x y => sw a b (T x y)
def sqX (T : Nat → Nat → Nat) (a b c d : Nat) : Nat → Nat → Nat := fun x y => if x = a ∨ x = b then T x (sw c d y) else T x y
def isSq (T : Nat → Nat → Nat) (a b c d : Nat) : Prop := T a c = T b d ∧ T a d = T b c
theorem Lat_row {n : Nat} {T : Nat → Nat → Nat} (hL : Lat n T) {a b : Nat} (ha : a < n) (hb : b < n) : Lat n (rowX T a b) :=
  ⟨hL.1, hL.2.1, fun x y hx hy => hL.2.2.1 _ y (sw_lt ha hb hx) hy, fun x y z hx hy hz e => hL.2.2.2.1 _ y z (sw_lt ha hb hx) hy hz e, fun x y z hx hy hz e => sw_inj (hL.2.2.2.2 x _ _ hx (sw_lt ha hb hy) (sw_lt ha hb hz) e)⟩
theorem Lat_col {n : Nat} {T : Nat → Nat → Nat} (hL : Lat n T) {a b : Nat} (ha : a < n) (hb : b < n) : Lat n (colX T a b) :=
  ⟨hL.1, hL.2.1, fun x y hx hy => hL.2.2.1 x _ hx (sw_lt ha hb hy), fun x y z hx hy hz e => sw_inj (hL.2.2.2.1 x _ _ hx (sw_lt ha hb hy) (sw_lt ha hb hz) e), fun x y z hx hy hz e => hL.2.2.2.2 _ y z (sw_lt ha hb hx) hy hz e⟩
theorem Lat_nam {n : Nat} {T : Nat → Nat → Nat} (hL : Lat n T) {a b : Nat} (ha : a < n) (hb : b < n) : Lat n (namX T a b) :=
  ⟨hL.1, hL.2.1, fun x y hx hy => sw_lt ha hb (hL.2.2.1 x y hx hy), fun x y z hx hy hz e => hL.2.2.2.1 x y z hx hy hz (sw_inj e), fun x y z hx hy hz e => hL.2.2.2.2 x y z hx hy hz (sw_inj e)⟩
theorem sqX_c {T : Nat → Nat → Nat} {a b c d : Nat} (hs : isSq T a b c d) (hab : a ≠ b) (x : Nat) : sqX T a b c d x c = T (sw a b x) c := by
  unfold sqX
  by_cases q : x = a
  · subst q; rw [if_pos (Or.inl rfl), sw_a, sw_a]; exact hs.2
  · by_cases w : x = b
    · subst w; rw [if_pos (Or.inr rfl), sw_a, sw_b]; exact hs.1.symm
    · rw [if_neg (fun r => r.elim q w), sw_o q w]
theorem sqX_d {T : Nat → Nat → Nat} {a b c d : Nat} (hs : isSq T a b c d) (hab : a ≠ b) (x : Nat) : sqX T a b c d x d = T (sw a b x) d := by
  unfold sqX
  by_cases q : x = a
  · subst q; rw [if_pos (Or.inl rfl), sw_b, sw_a]; exact hs.1
  · by_cases w : x = b
    · subst w; rw [if_pos (Or.inr rfl), sw_b, sw_b]; exact hs.2.symm
    · rw [if_neg (fun r => r.elim q w), sw_o q w]
theorem sqX_o {T : Nat → Nat → Nat} {a b c d y : Nat} (h1 : y ≠ c) (h2 : y ≠ d) (x : Nat) : sqX T a b c d x y = T x y := by
  unfold sqX
  by_cases q : x = a ∨ x = b
  · rw [if_pos q, sw_o h1 h2]
  · rw [if_neg q]
theorem Lat_sq {n : Nat} {T : Nat → Nat → Nat} (hL : Lat n T) {a b c d : Nat} (ha : a < n) (hb : b < n) (hc : c < n) (hd : d < n) (hab : a ≠ b) (hs : isSq T a b c d) : Lat n (sqX T a b c d) := by
  refine ⟨hL.1, hL.2.1, fun x y hx hy => ?_, fun x y z hx hy hz e => ?_, fun y x z hy hx hz e => ?_⟩
  · unfold sqX
    by_cases q : x = a ∨ x = b
    · rw [if_pos q]; exact hL.2.2.1 x _ hx (sw_lt hc hd hy)
    · rw [if_neg q]; exact hL.2.2.1 x y hx hy
  · unfold sqX at e
    by_cases q : x = a ∨ x = b
    · rw [if_pos q, if_pos q] at e
      exact sw_inj (hL.2.2.2.1 x _ _ hx (sw_lt hc hd hy) (sw_lt hc hd hz) e)
    · rw [if_neg q, if_neg q] at e
      exact hL.2.2.2.1 x y z hx hy hz e
  · by_cases q : y = c
    · subst q
      rw [sqX_c hs hab, sqX_c hs hab] at e
      exact sw_inj (hL.2.2.2.2 y _ _ hy (sw_lt ha hb hx) (sw_lt ha hb hz) e)
    · by_cases w : y = d
      · subst w
        rw [sqX_d hs hab, sqX_d hs hab] at e
        exact sw_inj (hL.2.2.2.2 y _ _ hy (sw_lt ha hb hx) (sw_lt ha hb hz) e)
      · rw [sqX_o q w, sqX_o q w] at e
        exact hL.2.2.2.2 y x z hy hx hz e
/-- a little square, swapped, is one again; swapped twice, all is as before -/
theorem sqX_sq {T : Nat → Nat → Nat} {a b c d : Nat} (hs : isSq T a b c d) (hab : a ≠ b) : isSq (sqX T a b c d) a b c d := by
  unfold isSq
  rw [sqX_c hs hab, sqX_d hs hab, sqX_d hs hab, sqX_c hs hab, sw_a, sw_b]
  exact ⟨hs.2.symm, hs.1.symm⟩
theorem sqX_sqX (T : Nat → Nat → Nat) (a b c d : Nat) : sqX (sqX T a b c d) a b c d = T := by
  funext x y
  unfold sqX
  by_cases q : x = a ∨ x = b
  · simp only [if_pos q, sw_sw]
  · simp only [if_neg q]
section ClassTable
variable {n : Nat} {T : Nat → Nat → Nat} {f : Nat → Int32}
theorem ix_ne {a b c d : Nat} (hb : b < 8) (hd : d < 8) (h : ¬ (a = c ∧ b = d)) : 8 * a + b ≠ 8 * c + d := by omega
/-- two cells of the row of 64 change places -/
def exF (f : Nat → Int32) (i j : Nat) : Nat → Int32 := upd (upd f i (f j)) j (f i)
theorem X6_exchange_ok {a b c d : Nat} (ha : a < 8) (hb : b < 8) (hc : c < 8) (hd : d < 8) : mX6_exchange f (nI a) (nI b) (nI c) (nI d) = some (exF f (8 * a + b) (8 * c + d)) := by
  unfold mX6_exchange
  rw [X6_at_ix ha hb, bd_some, X6_at_ix hc hd, bd_some, X6_set_ok ha hb, bd_some, X6_set_ok hc hd, bd_some]; rfl
theorem exF_1 (f : Nat → Int32) (i j : Nat) : exF f i j j = f i := upd_eq _ _ _
theorem exF_2 (f : Nat → Int32) {i j : Nat} : exF f i j i = f j := by
  unfold exF
  by_cases q : i = j
  · subst q; rw [upd_eq]
  · rw [upd_ne _ _ q, upd_eq]
theorem exF_o (f : Nat → Int32) {i j k : Nat} (h1 : k ≠ i) (h2 : k ≠ j) : exF f i j k = f k := by
  unfold exF; rw [upd_ne _ _ h2, upd_ne _ _ h1]
/-- how the row of 64 stands after some columns of two rows have changed places -/
theorem X6_exchangeRows_ok (hn : n ≤ 8) (ht : tF n T f) {a b : Nat} (ha : a < n) (hb : b < n) : ∃ g, mX6_exchangeRows f (nI n) (nI a) (nI b) = some g ∧ tF n (rowX T a b) g := by
  unfold mX6_exchangeRows
  obtain ⟨m, g, hg, e⟩ := lpI (fun F y g => mX6_exchangeRows_L2 (nI n) (nI a) (nI b) (fun (x3_1 : Int32) (f_2 : Nat → Int32) => some (f_2)) F y g) n 0 (fun i g => ∀ x y, x < n → y < n → g (8 * x + y) = nI (if y < i then T (sw a b x) y else T x y)) (by omega) (by omega) (fun F i g _ hi hI => by
    refine ⟨exF g (8 * a + i) (8 * b + i), fun x y hx hy => ?_, ?_⟩
    · by_cases q : y = i
      · subst q
        rw [if_pos (Nat.lt_succ_self _)]
        by_cases w : x = b
        · subst w; rw [exF_1, hI a y ha hy, if_neg (Nat.lt_irrefl _), sw_b]
        · by_cases v : x = a
          · subst v; rw [exF_2, hI b y hb hy, if_neg (Nat.lt_irrefl _), sw_a]
          · rw [exF_o _ (ix_ne (by omega) (by omega) (by omega)) (ix_ne (by omega) (by omega) (by omega)), hI x y hx hy, if_neg (Nat.lt_irrefl _), sw_o v w]
      · rw [exF_o _ (ix_ne (by omega) (by omega) (by omega)) (ix_ne (by omega) (by omega) (by omega)), hI x y hx hy]
        by_cases w : y < i
        · rw [if_pos w, if_pos (by omega)]
        · rw [if_neg w, if_neg (by omega)]
    · show mX6_exchangeRows_L2 _ _ _ _ (F + 1) _ _ = _
      rw [mX6_exchangeRows_L2, if_neg (nI_ge hi (by omega)), X6_exchange_ok (by omega) (by omega) (by omega) (by omega), bd_some, nI_1]) f (fun x y hx hy => by rw [if_neg (Nat.not_lt_zero _), ht x y hx hy])
  refine ⟨g, ?_, fun x y hx hy => by rw [hg x y hx hy, if_pos hy]; rfl⟩
  refine Eq.trans e ?_
  show mX6_exchangeRows_L2 _ _ _ _ (m + 1) _ _ = _
  rw [mX6_exchangeRows_L2, if_pos (nI_le (Nat.le_refl _) (by omega))]
theorem X6_exchangeColumns_ok (hn : n ≤ 8) (ht : tF n T f) {a b : Nat} (ha : a < n) (hb : b < n) : ∃ g, mX6_exchangeColumns f (nI n) (nI a) (nI b) = some g ∧ tF n (colX T a b) g := by
  unfold mX6_exchangeColumns
  obtain ⟨m, g, hg, e⟩ := lpI (fun F y g => mX6_exchangeColumns_L2 (nI n) (nI a) (nI b) (fun (x3_1 : Int32) (f_2 : Nat → Int32) => some (f_2)) F y g) n 0 (fun i g => ∀ x y, x < n → y < n → g (8 * x + y) = nI (if x < i then T x (sw a b y) else T x y)) (by omega) (by omega) (fun F i g _ hi hI => by
    refine ⟨exF g (8 * i + a) (8 * i + b), fun x y hx hy => ?_, ?_⟩
    · by_cases q : x = i
      · subst q
        rw [if_pos (Nat.lt_succ_self _)]
        by_cases w : y = b
        · subst w; rw [exF_1, hI x a hx ha, if_neg (Nat.lt_irrefl _), sw_b]
        · by_cases v : y = a
          · subst v; rw [exF_2, hI x b hx hb, if_neg (Nat.lt_irrefl _), sw_a]
          · rw [exF_o _ (ix_ne (by omega) (by omega) (by omega)) (ix_ne (by omega) (by omega) (by omega)), hI x y hx hy, if_neg (Nat.lt_irrefl _), sw_o v w]
      · rw [exF_o _ (ix_ne (by omega) (by omega) (by omega)) (ix_ne (by omega) (by omega) (by omega)), hI x y hx hy]
        by_cases w : x < i
        · rw [if_pos w, if_pos (by omega)]
        · rw [if_neg w, if_neg (by omega)]
    · show mX6_exchangeColumns_L2 _ _ _ _ (F + 1) _ _ = _
      rw [mX6_exchangeColumns_L2, if_neg (nI_ge hi (by omega)), X6_exchange_ok (by omega) (by omega) (by omega) (by omega), bd_some, nI_1]) f (fun x y hx hy => by rw [if_neg (Nat.not_lt_zero _), ht x y hx hy])
  refine ⟨g, ?_, fun x y hx hy => by rw [hg x y hx hy, if_pos hx]; rfl⟩
  refine Eq.trans e ?_
  show mX6_exchangeColumns_L2 _ _ _ _ (m + 1) _ _ = _
  rw [mX6_exchangeColumns_L2, if_pos (nI_le (Nat.le_refl _) (by omega))]
theorem X6_exchangeNames_ok (hL : Lat n T) (ht : tF n T f) {a b : Nat} (ha : a < n) (hb : b < n) : ∃ g, mX6_exchangeNames f (nI n) (nI a) (nI b) = some g ∧ tF n (namX T a b) g := by
  have hn := hL.2.1
  have hT := hL.2.2.1
  unfold mX6_exchangeNames
  obtain ⟨m, g, hg, e⟩ := lpI (fun F y g => mX6_exchangeNames_L2 (nI n) (nI a) (nI b) (fun (x3_1 : Int32) (f_2 : Nat → Int32) => some (f_2)) F y g) n 0 (fun i g => ∀ x y, x < n → y < n → g (8 * x + y) = nI (if x < i then sw a b (T x y) else T x y)) (by omega) (by omega) (fun F i g _ hi hI => by
    obtain ⟨m, g', hg', e'⟩ := lpI (fun F2 y g => mX6_exchangeNames_L13 (nI n) (nI a) (nI b) (nI i) (fun (x4_6 : Int32) (f_7 : Nat → Int32) => mX6_exchangeNames_L2 (nI n) (nI a) (nI b) (fun (x3_1 : Int32) (f_2 : Nat → Int32) => some (f_2)) F (nI (i + 1)) f_7) F2 y g) n 0 (fun j g => ∀ x y, x < n → y < n → g (8 * x + y) = nI (if x < i ∨ (x = i ∧ y < j) then sw a b (T x y) else T x y)) (by omega) (by omega) (fun F2 j g _ hj hJ => by
      have h1 := hT i j hi hj
      have hz : g (8 * i + j) = nI (T i j) := by rw [hJ i j hi hj, if_neg (by omega)]
      refine ⟨upd g (8 * i + j) (nI (sw a b (T i j))), fun x y hx hy => ?_, ?_⟩
      · by_cases q : x = i ∧ y = j
        · obtain ⟨rfl, rfl⟩ := q
          rw [upd_eq, if_pos (Or.inr ⟨rfl, Nat.lt_succ_self _⟩)]
        · rw [upd_ne _ _ (ix_ne (by omega) (by omega) q), hJ x y hx hy]
          by_cases w : x < i ∨ (x = i ∧ y < j)
          · rw [if_pos w, if_pos (by omega)]
          · rw [if_neg w, if_neg (by omega)]
      · show mX6_exchangeNames_L13 _ _ _ _ _ (F2 + 1) _ _ = _
        rw [mX6_exchangeNames_L13, if_neg (nI_ge hj (by omega)), X6_at_ix (by omega) (by omega), bd_some, hz, nI_1]
        by_cases q : T i j = a
        · rw [if_pos (by rw [q]), X6_set_ok (by omega) (by omega), bd_some, q, sw_a]
        · rw [if_neg (fun w => q ((nI_eq (by omega) (by omega)).mp w))]
          by_cases v : T i j = b
          · rw [if_pos (by rw [v]), X6_set_ok (by omega) (by omega), bd_some, v, sw_b]
          · rw [if_neg (fun w => v ((nI_eq (by omega) (by omega)).mp w)), X6_set_ok (by omega) (by omega), bd_some, sw_o q v]) g (fun x y hx hy => by
        rw [hI x y hx hy]
        by_cases w : x < i
        · rw [if_pos w, if_pos (Or.inl w)]
        · rw [if_neg w, if_neg (by omega)])
    refine ⟨g', fun x y hx hy => by
      rw [hg' x y hx hy]
      by_cases w : x < i + 1
      · rw [if_pos w, if_pos (by omega)]
      · rw [if_neg w, if_neg (by omega)], ?_⟩
    show mX6_exchangeNames_L2 _ _ _ _ (F + 1) _ _ = _
    rw [mX6_exchangeNames_L2, if_neg (nI_ge hi (by omega)), nI_1]
    refine Eq.trans e' ?_
    show mX6_exchangeNames_L13 _ _ _ _ _ (m + 1) _ _ = _
    rw [mX6_exchangeNames_L13, if_pos (nI_le (Nat.le_refl _) (by omega))]) f (fun x y hx hy => by rw [if_neg (Nat.not_lt_zero _), ht x y hx hy])
  refine ⟨g, ?_, fun x y hx hy => by rw [hg x y hx hy, if_pos hx]; rfl⟩
  refine Eq.trans e ?_
  show mX6_exchangeNames_L2 _ _ _ _ (m + 1) _ _ = _
  rw [mX6_exchangeNames_L2, if_pos (nI_le (Nat.le_refl _) (by omega))]
theorem X6_swapSquare_ok (hn : n ≤ 8) (ht : tF n T f) {a b c d : Nat} (ha : a < n) (hb : b < n) (hc : c < n) (hd : d < n) (hab : a ≠ b) : ∃ g, mX6_swapSquare f (nI a) (nI b) (nI c) (nI d) = some g ∧ tF n (sqX T a b c d) g ∧ mX6_swapSquare g (nI a) (nI b) (nI c) (nI d) = some f := by
  have one : ∀ f : Nat → Int32, mX6_swapSquare f (nI a) (nI b) (nI c) (nI d) = some (exF (exF f (8 * a + c) (8 * a + d)) (8 * b + c) (8 * b + d)) := by
    intro f
    unfold mX6_swapSquare
    rw [X6_exchange_ok (by omega) (by omega) (by omega) (by omega), bd_some, X6_exchange_ok (by omega) (by omega) (by omega) (by omega), bd_some]
  have val : ∀ (f : Nat → Int32) (x y : Nat), y < 8 → exF (exF f (8 * a + c) (8 * a + d)) (8 * b + c) (8 * b + d) (8 * x + y) = if x = a ∨ x = b then f (8 * x + sw c d y) else f (8 * x + y) := by
    intro f x y hy
    by_cases q : x = b
    · subst q
      rw [if_pos (Or.inr rfl)]
      by_cases w : y = d
      · subst w; rw [exF_1, exF_o _ (ix_ne (by omega) (by omega) (by omega)) (ix_ne (by omega) (by omega) (by omega)), sw_b]
      · by_cases v : y = c
        · subst v; rw [exF_2, exF_o _ (ix_ne (by omega) (by omega) (by omega)) (ix_ne (by omega) (by omega) (by omega)), sw_a]
        · rw [exF_o _ (ix_ne (by omega) (by omega) (by omega)) (ix_ne (by omega) (by omega) (by omega)), exF_o _ (ix_ne (by omega) (by omega) (by omega)) (ix_ne (by omega) (by omega) (by omega)), sw_o v w]
    · rw [exF_o _ (ix_ne (by omega) (by omega) (by omega)) (ix_ne (by omega) (by omega) (by omega))]
      by_cases p : x = a
      · subst p
        rw [if_pos (Or.inl rfl)]
        by_cases w : y = d
        · subst w; rw [exF_1, sw_b]
        · by_cases v : y = c
          · subst v; rw [exF_2, sw_a]
          · rw [exF_o _ (ix_ne (by omega) (by omega) (by omega)) (ix_ne (by omega) (by omega) (by omega)), sw_o v w]
      · rw [if_neg (by omega), exF_o _ (ix_ne (by omega) (by omega) (by omega)) (ix_ne (by omega) (by omega) (by omega))]
  refine ⟨_, one f, fun x y hx hy => ?_, ?_⟩
  · rw [val f x y (by omega)]
    unfold sqX
    by_cases q : x = a ∨ x = b
    · rw [if_pos q, if_pos q, ht x _ hx (sw_lt hc hd hy)]
    · rw [if_neg q, if_neg q, ht x y hx hy]
  · rw [one]
    congr 1
    funext k
    have hk : k = 8 * (k / 8) + k % 8 := by omega
    have h8 : k % 8 < 8 := Nat.mod_lt _ (by omega)
    rw [hk, val _ _ _ h8]
    by_cases q : k / 8 = a ∨ k / 8 = b
    · rw [if_pos q, val _ _ _ (sw_lt (by omega) (by omega) h8), if_pos q, sw_sw]
    · rw [if_neg q, val _ _ _ h8, if_neg q]
theorem X6_isLittleSquare_ok (hL : Lat n T) (ht : tF n T f) {a b c d : Nat} (ha : a < n) (hb : b < n) (hc : c < n) (hd : d < n) : mX6_isLittleSquare f (nI a) (nI b) (nI c) (nI d) = some (bI (decide (T a c = T b d) && decide (T a d = T b c))) := by
  have hn := hL.2.1
  have h1 := hL.2.2.1 a c ha hc
  have h2 := hL.2.2.1 b d hb hd
  have h3 := hL.2.2.1 a d ha hd
  have h4 := hL.2.2.1 b c hb hc
  unfold mX6_isLittleSquare
  rw [X6_at_ok hn ht ha hc, bd_some, X6_at_ok hn ht hb hd, bd_some]
  by_cases q : T a c = T b d
  · rw [if_pos (by rw [q]), X6_at_ok hn ht ha hd, bd_some, X6_at_ok hn ht hb hc, bd_some]
    by_cases w : T a d = T b c
    · rw [if_pos (by rw [w]), decide_eq_true q, decide_eq_true w]; rfl
    · rw [if_neg (fun v => w ((nI_eq (by omega) (by omega)).mp v)), decide_eq_true q, decide_eq_false w]; rfl
  · rw [if_neg (fun v => q ((nI_eq (by omega) (by omega)).mp v)), decide_eq_false q]; rfl
def dif (n : Nat) (T U : Nat → Nat → Nat) : Nat := sm (fun a => sm (fun b => if T a b = U a b then 0 else 1) n) n
theorem X6_differencesTo_ok {U : Nat → Nat → Nat} {g : Nat → Int32} (hn : n ≤ 8) (hT : ∀ a b, a < n → b < n → T a b < n) (hU : ∀ a b, a < n → b < n → U a b < n) (ht : tF n T f) (hu : tF n U g) : mX6_differencesTo f (nI n) g = some (nI (dif n T U)) := by
  unfold mX6_differencesTo
  obtain ⟨m, e⟩ := lpC (fun F x b => mX6_differencesTo_L4 f (nI n) g (fun (x3_1 : Int32) (x2_2 : Int32) => some (x2_2)) F x b) n 0 (fun a => sm (fun b => if T a b = U a b then 0 else 1) n) (by omega) (fun F i c hi => by
    show mX6_differencesTo_L4 _ _ _ _ (F + 1) _ _ = _
    rw [mX6_differencesTo_L4, if_neg (nI_ge hi (by omega)), nI_1]
    obtain ⟨m, e⟩ := lpC (fun F2 x b => mX6_differencesTo_L15 f (nI n) g (nI i) (fun (x4_6 : Int32) (x2_7 : Int32) => mX6_differencesTo_L4 f (nI n) g (fun (x3_1 : Int32) (x2_2 : Int32) => some (x2_2)) F (nI (i + 1)) x2_7) F2 x b) n c (fun b => if T i b = U i b then 0 else 1) (by omega) (fun F2 j c hj => by
      have h1 := hT i j hi hj
      have h2 := hU i j hi hj
      show mX6_differencesTo_L15 _ _ _ _ _ (F2 + 1) _ _ = _
      rw [mX6_differencesTo_L15, if_neg (nI_ge hj (by omega)), X6_at_ok hn ht hi hj, bd_some, X6_at_ok hn hu hi hj, bd_some, nI_1]
      by_cases q : T i j = U i j
      · rw [if_pos (by rw [q]), if_pos q]; rfl
      · rw [if_neg (fun v => q ((nI_eq (by omega) (by omega)).mp v)), if_neg q, nI_1])
    refine Eq.trans e ?_
    show mX6_differencesTo_L15 _ _ _ _ _ (m + 1) _ _ = _
    rw [mX6_differencesTo_L15, if_pos (nI_le (Nat.le_refl _) (by omega))])
  refine Eq.trans e ?_
  show mX6_differencesTo_L4 _ _ _ _ (m + 1) _ _ = _
  rw [mX6_differencesTo_L4, if_pos (nI_le (Nat.le_refl _) (by omega)), Nat.zero_add]; rfl
end ClassTable
