/-! the reference's table -/
def rOut (n : Nat) (s g : Nat → Int32) : Prop := ∀ k, k < 65 → (∀ a b, a < n → b < n → k ≠ 1 + (8 * a + b)) → g k = s k
theorem rOut_rf (n : Nat) (s : Nat → Int32) : rOut n s s := fun _ _ _ => rfl
section RefTable
variable {n : Nat} {T : Nat → Nat → Nat} {s : Nat → Int32}
theorem m_exchanges {p q : Nat} (hp : p < 65) (hq : q < 65) : mX10_exchanges s (nI p) (nI q) = some (exF s p q) := by
  unfold mX10_exchanges
  rw [gd_t (inb_nI hp (by omega)), gd_t (inb_nI hq (by omega)), gd_t (inb_nI hp (by omega)), gd_t (inb_nI hq (by omega)), nI_clamp (by omega), nI_clamp (by omega)]; rfl
theorem jx_ne {a b c d : Nat} (hb : b < 8) (hd : d < 8) (h : ¬ (a = c ∧ b = d)) : 1 + (8 * a + b) ≠ 1 + (8 * c + d) := by omega
theorem m_rowsL (hn : n ≤ 8) (hs : sF n T s) {a b : Nat} (ha : a < n) (hb : b < n) (k : Int32 → (Nat → Int32) → Option (Int32 × (Nat → Int32) × (Nat → Int32) × (Nat → Int32) × Int32)) : ∃ g, sF n (rowX T a b) g ∧ rOut n s g ∧ mX10_rows_L17 (nI a) (nI b) k FU 0 s = k (nI n) g := by
  obtain ⟨m, g, ⟨hg0, hg, hgo⟩, e⟩ := lpI (fun F y g => mX10_rows_L17 (nI a) (nI b) k F y g) n 0 (fun i g => g 0 = nI n ∧ (∀ x y, x < n → y < n → g (1 + (8 * x + y)) = nI (if y < i then T (sw a b x) y else T x y)) ∧ rOut n s g) (by omega) (by omega) (fun F i g _ hi ⟨hI0, hI, hIo⟩ => by
    refine ⟨exF g (1 + (8 * a + i)) (1 + (8 * b + i)), ⟨by rw [exF_o _ (by omega) (by omega), hI0], fun x y hx hy => ?_, fun k h1 h2 => ?_⟩, ?_⟩
    · by_cases q : y = i
      · subst q
        rw [if_pos (Nat.lt_succ_self _)]
        by_cases w : x = b
        · subst w; rw [exF_1, hI a y ha hy, if_neg (Nat.lt_irrefl _), sw_b]
        · by_cases v : x = a
          · subst v; rw [exF_2, hI b y hb hy, if_neg (Nat.lt_irrefl _), sw_a]
          · rw [exF_o _ (jx_ne (by omega) (by omega) (by omega)) (jx_ne (by omega) (by omega) (by omega)), hI x y hx hy, if_neg (Nat.lt_irrefl _), sw_o v w]
      · rw [exF_o _ (jx_ne (by omega) (by omega) (by omega)) (jx_ne (by omega) (by omega) (by omega)), hI x y hx hy]
        by_cases w : y < i
        · rw [if_pos w, if_pos (by omega)]
        · rw [if_neg w, if_neg (by omega)]
    · rw [exF_o _ (h2 a i ha hi) (h2 b i hb hi), hIo k h1 h2]
    · show mX10_rows_L17 _ _ _ (F + 1) _ _ = _
      rw [mX10_rows_L17, show g (0 : Int32).toNatClampNeg = nI n from hI0, if_neg (nI_ge hi (by omega)), m_at, bd_some, m_at, bd_some, m_exchanges (by omega) (by omega), bd_some, nI_1]) s ⟨hs.1, fun x y hx hy => by rw [if_neg (Nat.not_lt_zero _), hs.2 x y hx hy], rOut_rf n s⟩
  refine ⟨g, ⟨hg0, fun x y hx hy => by rw [hg x y hx hy, if_pos hy]; rfl⟩, hgo, ?_⟩
  refine Eq.trans e ?_
  show mX10_rows_L17 _ _ _ (m + 1) _ _ = _
  rw [mX10_rows_L17, show g (0 : Int32).toNatClampNeg = nI n from hg0, if_pos (nI_le (Nat.le_refl _) (by omega))]
theorem m_columnsL (hn : n ≤ 8) (hs : sF n T s) {a b : Nat} (ha : a < n) (hb : b < n) (k : Int32 → (Nat → Int32) → Option (Int32 × (Nat → Int32) × (Nat → Int32) × (Nat → Int32) × Int32)) : ∃ g, sF n (colX T a b) g ∧ rOut n s g ∧ mX10_columns_L17 (nI a) (nI b) k FU 0 s = k (nI n) g := by
  obtain ⟨m, g, ⟨hg0, hg, hgo⟩, e⟩ := lpI (fun F y g => mX10_columns_L17 (nI a) (nI b) k F y g) n 0 (fun i g => g 0 = nI n ∧ (∀ x y, x < n → y < n → g (1 + (8 * x + y)) = nI (if x < i then T x (sw a b y) else T x y)) ∧ rOut n s g) (by omega) (by omega) (fun F i g _ hi ⟨hI0, hI, hIo⟩ => by
    refine ⟨exF g (1 + (8 * i + a)) (1 + (8 * i + b)), ⟨by rw [exF_o _ (by omega) (by omega), hI0], fun x y hx hy => ?_, fun k h1 h2 => ?_⟩, ?_⟩
    · by_cases q : x = i
      · subst q
        rw [if_pos (Nat.lt_succ_self _)]
        by_cases w : y = b
        · subst w; rw [exF_1, hI x a hx ha, if_neg (Nat.lt_irrefl _), sw_b]
        · by_cases v : y = a
          · subst v; rw [exF_2, hI x b hx hb, if_neg (Nat.lt_irrefl _), sw_a]
          · rw [exF_o _ (jx_ne (by omega) (by omega) (by omega)) (jx_ne (by omega) (by omega) (by omega)), hI x y hx hy, if_neg (Nat.lt_irrefl _), sw_o v w]
      · rw [exF_o _ (jx_ne (by omega) (by omega) (by omega)) (jx_ne (by omega) (by omega) (by omega)), hI x y hx hy]
        by_cases w : x < i
        · rw [if_pos w, if_pos (by omega)]
        · rw [if_neg w, if_neg (by omega)]
    · rw [exF_o _ (h2 i a hi ha) (h2 i b hi hb), hIo k h1 h2]
    · show mX10_columns_L17 _ _ _ (F + 1) _ _ = _
      rw [mX10_columns_L17, show g (0 : Int32).toNatClampNeg = nI n from hI0, if_neg (nI_ge hi (by omega)), m_at, bd_some, m_at, bd_some, m_exchanges (by omega) (by omega), bd_some, nI_1]) s ⟨hs.1, fun x y hx hy => by rw [if_neg (Nat.not_lt_zero _), hs.2 x y hx hy], rOut_rf n s⟩
  refine ⟨g, ⟨hg0, fun x y hx hy => by rw [hg x y hx hy, if_pos hx]; rfl⟩, hgo, ?_⟩
  refine Eq.trans e ?_
  show mX10_columns_L17 _ _ _ (m + 1) _ _ = _
  rw [mX10_columns_L17, show g (0 : Int32).toNatClampNeg = nI n from hg0, if_pos (nI_le (Nat.le_refl _) (by omega))]
/-- row by row, told by one number -/
theorem dm {n x y : Nat} (hy : y < n) : (x * n + y) / n = x ∧ (x * n + y) % n = y := by
  have hn : 0 < n := by omega
  constructor
  · rw [Nat.add_comm, Nat.add_mul_div_right _ _ hn, Nat.div_eq_of_lt hy, Nat.zero_add]
  · rw [Nat.add_comm, Nat.add_mul_mod_self_right, Nat.mod_eq_of_lt hy]
theorem dm_lt {n i : Nat} (hi : i < n * n) : i / n < n ∧ i % n < n := by
  have hn : 0 < n := by rcases Nat.eq_zero_or_pos n with q | q
                        · subst q; exact absurd hi (Nat.not_lt_zero _)
                        · exact q
  exact ⟨(Nat.div_lt_iff_lt_mul hn).mpr hi, Nat.mod_lt _ hn⟩
theorem nn_le {n : Nat} (hn : n ≤ 8) : n * n ≤ 64 := Nat.mul_le_mul hn hn
theorem dm_eq {n i x y : Nat} (hy : y < n) (h1 : i / n = x) (h2 : i % n = y) : i = x * n + y := by
  have := Nat.div_add_mod i n
  rw [h1, h2, Nat.mul_comm] at this
  exact this.symm
theorem dm_in {n x y : Nat} (hx : x < n) (hy : y < n) : x * n + y < n * n := by
  have := Nat.mul_le_mul_right n (show x + 1 ≤ n from hx)
  rw [Nat.succ_mul] at this
  omega
theorem m_atd {n i : Nat} (h1 : 0 < n) (hn : n ≤ 8) (hi : i < n * n) : mX10_at (nI i / nI n) (nI i - nI i / nI n * nI n) = some (nI (1 + (8 * (i / n) + i % n))) := by
  have := nn_le hn
  rw [pk_rem (by omega) h1 (by omega), pk_div (by omega) h1 (by omega), m_at]
theorem m_namesL (hL : Lat n T) (hs : sF n T s) {a b : Nat} (ha : a < n) (hb : b < n) (k : Int32 → (Nat → Int32) → Option (Int32 × (Nat → Int32) × (Nat → Int32) × (Nat → Int32) × Int32)) : ∃ g, sF n (namX T a b) g ∧ rOut n s g ∧ mX10_names_L17 (nI a) (nI b) k FU 0 s = k (nI (n * n)) g := by
  have hn := hL.2.1
  have h1 := hL.1
  have hnn := nn_le hn
  have hT := hL.2.2.1
  obtain ⟨m, g, ⟨hg0, hg, hgo⟩, e⟩ := lpI (fun F y g => mX10_names_L17 (nI a) (nI b) k F y g) (n * n) 0 (fun i g => g 0 = nI n ∧ (∀ x y, x < n → y < n → g (1 + (8 * x + y)) = nI (if x * n + y < i then sw a b (T x y) else T x y)) ∧ rOut n s g) (by omega) (by omega) (fun F i g _ hi ⟨hI0, hI, hIo⟩ => by
    obtain ⟨d1, d2⟩ := dm_lt hi
    have h3 := hT _ _ d1 d2
    have hz : g (1 + (8 * (i / n) + i % n)) = nI (T (i / n) (i % n)) := by
      rw [hI _ _ d1 d2, if_neg (by have := dm_eq d2 rfl rfl; omega)]
    refine ⟨upd g (1 + (8 * (i / n) + i % n)) (nI (sw a b (T (i / n) (i % n)))), ⟨by rw [upd_ne _ _ (by omega), hI0], fun x y hx hy => ?_, fun k h1 h2 => ?_⟩, ?_⟩
    · by_cases q : x = i / n ∧ y = i % n
      · obtain ⟨rfl, rfl⟩ := q
        rw [upd_eq, if_pos (by have := dm_eq (i := i) d2 rfl rfl; omega)]
      · rw [upd_ne _ _ (jx_ne (by omega) (by omega) q), hI x y hx hy]
        have hne : x * n + y ≠ i := fun w => q (by
          have := dm (x := x) hy
          rw [w] at this
          exact ⟨this.1.symm, this.2.symm⟩)
        by_cases w : x * n + y < i
        · rw [if_pos w, if_pos (by omega)]
        · rw [if_neg w, if_neg (by omega)]
    · rw [upd_ne _ _ (h2 _ _ d1 d2), hIo k h1 h2]
    · show mX10_names_L17 _ _ _ (F + 1) _ _ = _
      have hix : 1 + (8 * (i / n) + i % n) < 65 := by omega
      rw [mX10_names_L17, show g (0 : Int32).toNatClampNeg = nI n from hI0, pk_mul, if_neg (nI_ge hi (by omega)), gd_t (nzb_nI (by omega) (by omega)), gd_t (nzb_nI (by omega) (by omega)), m_atd (by omega) hn hi, bd_some, gd_t (inb_nI hix (by omega)), nI_clamp (by omega), hz, nI_1]
      by_cases q : T (i / n) (i % n) = a
      · rw [if_pos (by rw [q]), gd_t (inb_nI hix (by omega)), q, sw_a]
      · rw [if_neg (fun w => q ((nI_eq (by omega) (by omega)).mp w)), gd_t (inb_nI hix (by omega))]
        by_cases v : T (i / n) (i % n) = b
        · rw [if_pos (by rw [v]), gd_t (inb_nI hix (by omega)), v, sw_b]
        · rw [if_neg (fun w => v ((nI_eq (by omega) (by omega)).mp w)), gd_t (inb_nI hix (by omega)), gd_t (inb_nI hix (by omega)), sw_o q v]) s ⟨hs.1, fun x y hx hy => by rw [if_neg (Nat.not_lt_zero _), hs.2 x y hx hy], rOut_rf n s⟩
  refine ⟨g, ⟨hg0, fun x y hx hy => by rw [hg x y hx hy, if_pos (dm_in hx hy)]; rfl⟩, hgo, ?_⟩
  refine Eq.trans e ?_
  show mX10_names_L17 _ _ _ (m + 1) _ _ = _
  rw [mX10_names_L17, show g (0 : Int32).toNatClampNeg = nI n from hg0, pk_mul, if_pos (nI_le (Nat.le_refl _) (by omega))]
theorem m_swaps (hn : n ≤ 8) (hs : sF n T s) {a b c d : Nat} (ha : a < n) (hb : b < n) (hc : c < n) (hd : d < n) (hab : a ≠ b) : ∃ g, mX10_swaps s (nI a) (nI b) (nI c) (nI d) = some g ∧ sF n (sqX T a b c d) g ∧ mX10_swaps g (nI a) (nI b) (nI c) (nI d) = some s := by
  have one : ∀ s : Nat → Int32, mX10_swaps s (nI a) (nI b) (nI c) (nI d) = some (exF (exF s (1 + (8 * a + c)) (1 + (8 * a + d))) (1 + (8 * b + c)) (1 + (8 * b + d))) := by
    intro s
    unfold mX10_swaps
    rw [m_at, bd_some, m_at, bd_some, m_exchanges (by omega) (by omega), bd_some, m_at, bd_some, m_at, bd_some, m_exchanges (by omega) (by omega), bd_some]
  have val : ∀ (f : Nat → Int32) (x y : Nat), y < 8 → exF (exF f (1 + (8 * a + c)) (1 + (8 * a + d))) (1 + (8 * b + c)) (1 + (8 * b + d)) (1 + (8 * x + y)) = if x = a ∨ x = b then f (1 + (8 * x + sw c d y)) else f (1 + (8 * x + y)) := by
    intro f x y hy
    by_cases q : x = b
    · subst q
      rw [if_pos (Or.inr rfl)]
      by_cases w : y = d
      · subst w; rw [exF_1, exF_o _ (jx_ne (by omega) (by omega) (by omega)) (jx_ne (by omega) (by omega) (by omega)), sw_b]
      · by_cases v : y = c
        · subst v; rw [exF_2, exF_o _ (jx_ne (by omega) (by omega) (by omega)) (jx_ne (by omega) (by omega) (by omega)), sw_a]
        · rw [exF_o _ (jx_ne (by omega) (by omega) (by omega)) (jx_ne (by omega) (by omega) (by omega)), exF_o _ (jx_ne (by omega) (by omega) (by omega)) (jx_ne (by omega) (by omega) (by omega)), sw_o v w]
    · rw [exF_o _ (jx_ne (by omega) (by omega) (by omega)) (jx_ne (by omega) (by omega) (by omega))]
      by_cases p : x = a
      · subst p
        rw [if_pos (Or.inl rfl)]
        by_cases w : y = d
        · subst w; rw [exF_1, sw_b]
        · by_cases v : y = c
          · subst v; rw [exF_2, sw_a]
          · rw [exF_o _ (jx_ne (by omega) (by omega) (by omega)) (jx_ne (by omega) (by omega) (by omega)), sw_o v w]
      · rw [if_neg (by omega), exF_o _ (jx_ne (by omega) (by omega) (by omega)) (jx_ne (by omega) (by omega) (by omega))]
  have val0 : ∀ f : Nat → Int32, exF (exF f (1 + (8 * a + c)) (1 + (8 * a + d))) (1 + (8 * b + c)) (1 + (8 * b + d)) 0 = f 0 := by
    intro f
    rw [exF_o _ (by omega) (by omega), exF_o _ (by omega) (by omega)]
  refine ⟨_, one s, ⟨by rw [val0, hs.1], fun x y hx hy => ?_⟩, ?_⟩
  · rw [val s x y (by omega)]
    unfold sqX
    by_cases q : x = a ∨ x = b
    · rw [if_pos q, if_pos q, hs.2 x _ hx (sw_lt hc hd hy)]
    · rw [if_neg q, if_neg q, hs.2 x y hx hy]
  · rw [one]
    congr 1
    funext k
    rcases Nat.eq_zero_or_pos k with z | z
    · subst z; rw [val0, val0]
    · have hk : k = 1 + (8 * ((k - 1) / 8) + (k - 1) % 8) := by omega
      have h8 : (k - 1) % 8 < 8 := Nat.mod_lt _ (by omega)
      rw [hk, val _ _ _ h8]
      by_cases q : (k - 1) / 8 = a ∨ (k - 1) / 8 = b
      · rw [if_pos q, val _ _ _ (sw_lt (by omega) (by omega) h8), if_pos q, sw_sw]
      · rw [if_neg q, val _ _ _ h8, if_neg q]
theorem m_isSquare (hL : Lat n T) (hs : sF n T s) {a b c d : Nat} (ha : a < n) (hb : b < n) (hc : c < n) (hd : d < n) : mX10_isSquare s (nI a) (nI b) (nI c) (nI d) = some (bI (decide (T a c = T b d) && decide (T a d = T b c))) := by
  have hn := hL.2.1
  have h1 := hL.2.2.1 a c ha hc
  have h2 := hL.2.2.1 b d hb hd
  have h3 := hL.2.2.1 a d ha hd
  have h4 := hL.2.2.1 b c hb hc
  unfold mX10_isSquare
  rw [m_plain hL hs ha hc, bd_some, m_plain hL hs hb hd, bd_some]
  by_cases q : T a c = T b d
  · rw [if_pos (by rw [q]), m_plain hL hs ha hd, bd_some, m_plain hL hs hb hc, bd_some]
    by_cases w : T a d = T b c
    · rw [if_pos (by rw [w]), decide_eq_true q, decide_eq_true w]; rfl
    · rw [if_neg (fun v => w ((nI_eq (by omega) (by omega)).mp v)), decide_eq_true q, decide_eq_false w]; rfl
  · rw [if_neg (fun v => q ((nI_eq (by omega) (by omega)).mp v)), decide_eq_false q]; rfl
theorem sm_add (g : Nat → Nat) (m : Nat) : ∀ k, sm g (m + k) = sm g m + sm (fun i => g (m + i)) k
  | 0 => rfl
  | k + 1 => by rw [← Nat.add_assoc, sm_s, sm_s, sm_add g m k, Nat.add_assoc]
theorem sm_flat (g : Nat → Nat) (w : Nat) : ∀ m, sm g (w * m) = sm (fun a => sm (fun b => g (w * a + b)) w) m
  | 0 => rfl
  | m + 1 => by rw [Nat.mul_succ, sm_add, sm_flat g w m, sm_s]
theorem sm_trunc {g : Nat → Nat} {n : Nat} : ∀ k, (∀ i, n ≤ i → i < n + k → g i = 0) → sm g (n + k) = sm g n
  | 0, _ => rfl
  | k + 1, h => by rw [← Nat.add_assoc, sm_s, sm_trunc k (fun i h1 h2 => h i h1 (by omega)), h (n + k) (by omega) (by omega), Nat.add_zero]
theorem sm_trunc' {g : Nat → Nat} {n m : Nat} (hm : n ≤ m) (h : ∀ i, n ≤ i → i < m → g i = 0) : sm g m = sm g n := by
  have := sm_trunc (g := g) (n := n) (m - n) (fun i h1 h2 => h i h1 (by omega))
  rwa [show n + (m - n) = m by omega] at this
theorem m_others {U : Nat → Nat → Nat} {g o : Nat → Int32} (hn : n ≤ 8) (hT : ∀ a b, a < n → b < n → T a b < n) (hU : ∀ a b, a < n → b < n → U a b < n) (ho : ∀ k, k < 65 → o k = s k) (hs : sF n T s) (hg : sF n U g) (hout : rOut n s g) : mX10_others g o = some (nI (dif n T U)) := by
  unfold mX10_others
  obtain ⟨m, e⟩ := lpU (fun F x b => mX10_others_L4 g o (fun (x2_1 : Int32) (x1_2 : Int32) => some (x1_2)) F x b) 65 1 (fun i => nI (sm (fun k => if g (1 + k) = s (1 + k) then 0 else 1) (i - 1))) (by omega) (by omega) (fun F i h1 hi => by
    obtain ⟨j, rfl⟩ : ∃ j, i = 1 + j := ⟨i - 1, by omega⟩
    show mX10_others_L4 _ _ _ (F + 1) _ _ = _
    rw [mX10_others_L4, if_neg (show ¬ (65 : Int32) ≤ nI (1 + j) from nI_ge (b := 65) hi (by omega)), gd_t (inb_nI hi (by omega)), gd_t (inb_nI hi (by omega)), nI_clamp (by omega), ho _ hi, nI_1, show 1 + j - 1 = j by omega, show 1 + j + 1 - 1 = j + 1 by omega, sm_s]
    by_cases q : g (1 + j) = s (1 + j)
    · rw [if_pos q, if_pos q, show (0 : Int32) = nI 0 from rfl, nI_add]
    · rw [if_neg q, if_neg q, nI_1])
  refine Eq.trans e ?_
  show mX10_others_L4 _ _ _ (m + 1) _ _ = _
  rw [mX10_others_L4, if_pos (show (65 : Int32) ≤ nI 65 from nI_le (a := 65) (Nat.le_refl _) (by omega))]
  congr 2
  show sm (fun k => if g (1 + k) = s (1 + k) then 0 else 1) (8 * 8) = _
  rw [sm_flat]
  unfold dif
  have hrow : ∀ a, a < n → sm (fun b => if g (1 + (8 * a + b)) = s (1 + (8 * a + b)) then 0 else 1) 8 = sm (fun b => if T a b = U a b then 0 else 1) n := by
    intro a ha
    rw [sm_trunc' hn (fun b h1 h2 => if_pos (hout _ (by omega) (fun x y hx hy => by omega)))]
    refine sm_congr (fun b hb => ?_)
    have h1 := hT a b ha hb
    have h2 := hU a b ha hb
    rw [hg.2 a b ha hb, hs.2 a b ha hb]
    by_cases q : T a b = U a b
    · rw [if_pos q, if_pos (by rw [q])]
    · rw [if_neg q, if_neg (fun w => q ((nI_eq (by omega) (by omega)).mp w).symm)]
  rw [sm_trunc' hn (fun a h1 h2 => ?_)]
  · exact sm_congr hrow
  · have : ∀ m, m ≤ 8 → sm (fun b => if g (1 + (8 * a + b)) = s (1 + (8 * a + b)) then 0 else 1) m = 0 := by
      intro m
      induction m with
      | zero => intro _; rfl
      | succ m ih =>
        intro hm
        rw [sm_s, ih (by omega), if_pos (hout _ (by omega) (fun x y hx hy => by omega))]
    exact this 8 (Nat.le_refl _)
end RefTable
