/-! counts over the table: the class's Words and what the reference has for them -/
/-- a loop that counts up and adds -/
theorem lpC {R : Type} (G : Nat → Int32 → Int32 → Option R) (n acc : Nat) (g : Nat → Nat) (hn : n < 5000) (step : ∀ F i a, i < n → G (F + 1) (nI i) (nI a) = G F (nI (i + 1)) (nI (a + g i))) : ∃ m, G FU 0 (nI acc) = G (m + 1) (nI n) (nI (acc + sm g n)) := by
  obtain ⟨m, h⟩ := lpU G n 0 (fun i => nI (acc + sm g i)) (Nat.zero_le _) hn (fun F i _ hi => by
    rw [step F i _ hi, sm_s, Nat.add_assoc])
  exact ⟨m, h⟩
def comW (T : Nat → Nat → Nat) (n t : Nat) : Nat := sm (fun b => if T t b = T b t then 1 else 0) n
def comP (T : Nat → Nat → Nat) (n : Nat) : Nat := sm (comW T n) n
def assW (T : Nat → Nat → Nat) (n a : Nat) : Nat := sm (fun b => sm (fun c => if T (T a b) c = T a (T b c) then 1 else 0) n) n
def assP (T : Nat → Nat → Nat) (n : Nat) : Nat := sm (assW T n) n
def slfS (T : Nat → Nat → Nat) (n : Nat) : Nat := sm (fun a => if T a a = a then 1 else 0) n
section Class
variable {n : Nat} {T : Nat → Nat → Nat} {f : Nat → Int32}
theorem X8_commutingWith_ok (hL : Lat n T) (ht : tF n T f) {t : Nat} (h : t < n) : mX8_commutingWith f (nI n) (nI t) = some (nI (comW T n t)) := by
  obtain ⟨h2, h8, hT, -, -⟩ := hL
  unfold mX8_commutingWith
  obtain ⟨m, e⟩ := lpC (fun F x a => mX8_commutingWith_L4 f (nI n) (nI t) (fun (x3_1 : Int32) (x2_2 : Int32) => some (x2_2)) F x a) n 0 (fun b => if T t b = T b t then 1 else 0) (by omega) (fun F i a hi => by
    have h1 := hT t i h hi
    have h2 := hT i t hi h
    show mX8_commutingWith_L4 _ _ _ _ (F + 1) _ _ = _
    rw [mX8_commutingWith_L4, X6_size_ok, bd_some, if_neg (nI_ge hi (by omega)), X6_at_ok h8 ht h hi, bd_some, X6_at_ok h8 ht hi h, bd_some]
    by_cases c : T t i = T i t
    · rw [if_pos (by rw [c]), if_pos c, nI_1, nI_1]
    · rw [if_neg (fun q => c ((nI_eq (by omega) (by omega)).mp q)), if_neg c, nI_1]; rfl)
  refine Eq.trans e ?_
  show mX8_commutingWith_L4 _ _ _ _ (m + 1) _ _ = _
  rw [mX8_commutingWith_L4, X6_size_ok, bd_some, if_pos (nI_le (Nat.le_refl _) (by omega)), Nat.zero_add]; rfl
theorem X8_commutingPairs_ok (hL : Lat n T) (ht : tF n T f) : mX8_commutingPairs f (nI n) = some (nI (comP T n)) := by
  have h8 := hL.2.1
  unfold mX8_commutingPairs
  obtain ⟨m, e⟩ := lpC (fun F x a => mX8_commutingPairs_L4 f (nI n) (fun (x2_1 : Int32) (x1_2 : Int32) => some (x1_2)) F x a) n 0 (comW T n) (by omega) (fun F i a hi => by
    show mX8_commutingPairs_L4 _ _ _ (F + 1) _ _ = _
    rw [mX8_commutingPairs_L4, X6_size_ok, bd_some, if_neg (nI_ge hi (by omega)), X8_commutingWith_ok hL ht hi, bd_some, nI_1, nI_add])
  refine Eq.trans e ?_
  show mX8_commutingPairs_L4 _ _ _ (m + 1) _ _ = _
  rw [mX8_commutingPairs_L4, X6_size_ok, bd_some, if_pos (nI_le (Nat.le_refl _) (by omega)), Nat.zero_add]; rfl
theorem X8_pairsBehind_ok (hL : Lat n T) (ht : tF n T f) {t : Nat} (h : t < n) : mX8_pairsBehind f (nI n) (nI t) = some (nI (assW T n t)) := by
  obtain ⟨h2, h8, hT, -, -⟩ := hL
  unfold mX8_pairsBehind
  rw [X6_size_ok, bd_some]
  obtain ⟨m, e⟩ := lpC (fun F x a => mX8_pairsBehind_L10 f (nI t) (nI n) (fun (x4_2 : Int32) (x3_3 : Int32) => some (x3_3)) F x a) n 0 (fun b => sm (fun c => if T (T t b) c = T t (T b c) then 1 else 0) n) (by omega) (fun F i a hi => by
    have h1 := hT t i h hi
    show mX8_pairsBehind_L10 _ _ _ _ (F + 1) _ _ = _
    rw [mX8_pairsBehind_L10, if_neg (nI_ge hi (by omega)), X6_at_ok h8 ht h hi, bd_some, nI_1]
    obtain ⟨m, e⟩ := lpC (fun F2 x a => mX8_pairsBehind_L28 f (nI t) (nI n) (nI (T t i)) (nI i) (fun (x6_8 : Int32) (x3_9 : Int32) => mX8_pairsBehind_L10 f (nI t) (nI n) (fun (x4_2 : Int32) (x3_3 : Int32) => some (x3_3)) F (nI (i + 1)) x3_9) F2 x a) n a (fun c => if T (T t i) c = T t (T i c) then 1 else 0) (by omega) (fun F2 j a hj => by
      have h3 := hT i j hi hj
      have h4 := hT _ j h1 hj
      have h5 := hT t _ h h3
      show mX8_pairsBehind_L28 _ _ _ _ _ _ (F2 + 1) _ _ = _
      rw [mX8_pairsBehind_L28, if_neg (nI_ge hj (by omega)), X6_at_ok h8 ht h1 hj, bd_some, X6_at_ok h8 ht hi hj, bd_some, X6_at_ok h8 ht h h3, bd_some]
      by_cases c : T (T t i) j = T t (T i j)
      · rw [if_pos (by rw [c]), if_pos c, nI_1, nI_1]
      · rw [if_neg (fun q => c ((nI_eq (by omega) (by omega)).mp q)), if_neg c, nI_1]; rfl)
    refine Eq.trans e ?_
    show mX8_pairsBehind_L28 _ _ _ _ _ _ (m + 1) _ _ = _
    rw [mX8_pairsBehind_L28, if_pos (nI_le (Nat.le_refl _) (by omega))])
  refine Eq.trans e ?_
  show mX8_pairsBehind_L10 _ _ _ _ (m + 1) _ _ = _
  rw [mX8_pairsBehind_L10, if_pos (nI_le (Nat.le_refl _) (by omega)), Nat.zero_add]; rfl
theorem X8_associatingTriples_ok (hL : Lat n T) (ht : tF n T f) : mX8_associatingTriples f (nI n) = some (nI (assP T n)) := by
  have h8 := hL.2.1
  unfold mX8_associatingTriples
  obtain ⟨m, e⟩ := lpC (fun F x a => mX8_associatingTriples_L4 f (nI n) (fun (x2_1 : Int32) (x1_2 : Int32) => some (x1_2)) F x a) n 0 (assW T n) (by omega) (fun F i a hi => by
    show mX8_associatingTriples_L4 _ _ _ (F + 1) _ _ = _
    rw [mX8_associatingTriples_L4, X6_size_ok, bd_some, if_neg (nI_ge hi (by omega)), X8_pairsBehind_ok hL ht hi, bd_some, nI_1, nI_add])
  refine Eq.trans e ?_
  show mX8_associatingTriples_L4 _ _ _ (m + 1) _ _ = _
  rw [mX8_associatingTriples_L4, X6_size_ok, bd_some, if_pos (nI_le (Nat.le_refl _) (by omega)), Nat.zero_add]; rfl
theorem X8_selfSums_ok (hL : Lat n T) (ht : tF n T f) : mX8_selfSums f (nI n) = some (nI (slfS T n)) := by
  obtain ⟨h2, h8, hT, -, -⟩ := hL
  unfold mX8_selfSums
  obtain ⟨m, e⟩ := lpC (fun F x a => mX8_selfSums_L4 f (nI n) (fun (x2_1 : Int32) (x1_2 : Int32) => some (x1_2)) F x a) n 0 (fun a => if T a a = a then 1 else 0) (by omega) (fun F i a hi => by
    have h1 := hT i i hi hi
    show mX8_selfSums_L4 _ _ _ (F + 1) _ _ = _
    rw [mX8_selfSums_L4, X6_size_ok, bd_some, if_neg (nI_ge hi (by omega)), X6_at_ok h8 ht hi hi, bd_some]
    by_cases c : T i i = i
    · rw [if_pos (by rw [c]), if_pos c, nI_1, nI_1]
    · rw [if_neg (fun q => c ((nI_eq (by omega) (by omega)).mp q)), if_neg c, nI_1]; rfl)
  refine Eq.trans e ?_
  show mX8_selfSums_L4 _ _ _ (m + 1) _ _ = _
  rw [mX8_selfSums_L4, X6_size_ok, bd_some, if_pos (nI_le (Nat.le_refl _) (by omega)), Nat.zero_add]; rfl
end Class
section Ref
variable {n : Nat} {T : Nat → Nat → Nat} {s : Nat → Int32}
theorem m_at (a b : Nat) : mX10_at (nI a) (nI b) = some (nI (1 + (8 * a + b))) := by
  unfold mX10_at
  rw [show (1 : Int32) = nI 1 from rfl, l_8, pk_mul, nI_add, nI_add]; congr 2; omega
theorem m_plain (hL : Lat n T) (hs : sF n T s) {a b : Nat} (ha : a < n) (hb : b < n) : mX10_plain s (nI a) (nI b) = some (nI (T a b)) := by
  have h8 := hL.2.1
  unfold mX10_plain
  rw [m_at, bd_some, gd_t (inb_nI (by omega) (by omega)), nI_clamp (by omega), hs.2 a b ha hb]
theorem m_s0 (hs : sF n T s) : s (0 : Int32).toNatClampNeg = nI n := hs.1
theorem m_commuteWith (hL : Lat n T) (hs : sF n T s) {t : Nat} (h : t < n) : mX10_commuteWith s (nI t) = some (nI (comW T n t)) := by
  have h8 := hL.2.1
  have hT := hL.2.2.1
  unfold mX10_commuteWith
  obtain ⟨m, e⟩ := lpC (fun F x a => mX10_commuteWith_L4 s (nI t) (fun (x3_1 : Int32) (x2_2 : Int32) => some (x2_2)) F x a) n 0 (fun b => if T t b = T b t then 1 else 0) (by omega) (fun F i a hi => by
    have h1 := hT t i h hi
    have h2 := hT i t hi h
    show mX10_commuteWith_L4 _ _ _ (F + 1) _ _ = _
    rw [mX10_commuteWith_L4, m_s0 hs, if_neg (nI_ge hi (by omega)), m_plain hL hs h hi, bd_some, m_plain hL hs hi h, bd_some]
    by_cases c : T t i = T i t
    · rw [if_pos (by rw [c]), if_pos c, nI_1, nI_1]
    · rw [if_neg (fun q => c ((nI_eq (by omega) (by omega)).mp q)), if_neg c, nI_1, show (0 : Int32) = nI 0 from rfl, nI_add])
  refine Eq.trans e ?_
  show mX10_commuteWith_L4 _ _ _ (m + 1) _ _ = _
  rw [mX10_commuteWith_L4, m_s0 hs, if_pos (nI_le (Nat.le_refl _) (by omega)), Nat.zero_add]; rfl
theorem m_commute (hL : Lat n T) (hs : sF n T s) : mX10_commute s = some (nI (comP T n)) := by
  have h8 := hL.2.1
  unfold mX10_commute
  obtain ⟨m, e⟩ := lpC (fun F x a => mX10_commute_L4 s (fun (x2_1 : Int32) (x1_2 : Int32) => some (x1_2)) F x a) n 0 (comW T n) (by omega) (fun F i a hi => by
    show mX10_commute_L4 _ _ (F + 1) _ _ = _
    rw [mX10_commute_L4, m_s0 hs, if_neg (nI_ge hi (by omega)), m_commuteWith hL hs hi, bd_some, nI_1, nI_add])
  refine Eq.trans e ?_
  show mX10_commute_L4 _ _ (m + 1) _ _ = _
  rw [mX10_commute_L4, m_s0 hs, if_pos (nI_le (Nat.le_refl _) (by omega)), Nat.zero_add]; rfl
theorem m_doAssociate (hL : Lat n T) (hs : sF n T s) {a b c : Nat} (ha : a < n) (hb : b < n) (hc : c < n) : mX10_doAssociate s (nI a) (nI b) (nI c) = some (if T (T a b) c = T a (T b c) then 1 else 0) := by
  have h8 := hL.2.1
  have hT := hL.2.2.1
  have h1 := hT a b ha hb
  have h2 := hT b c hb hc
  have h3 := hT _ c h1 hc
  have h4 := hT a _ ha h2
  unfold mX10_doAssociate
  rw [m_plain hL hs ha hb, bd_some, m_plain hL hs h1 hc, bd_some, m_plain hL hs hb hc, bd_some, m_plain hL hs ha h2, bd_some]
  by_cases q : T (T a b) c = T a (T b c)
  · rw [if_pos (by rw [q]), if_pos q]
  · rw [if_neg (fun w => q ((nI_eq (by omega) (by omega)).mp w)), if_neg q]
theorem m_pairsOf (hL : Lat n T) (hs : sF n T s) {t : Nat} (h : t < n) : mX10_pairsOf s (nI t) = some (nI (assW T n t)) := by
  have h8 := hL.2.1
  unfold mX10_pairsOf
  obtain ⟨m, e⟩ := lpC (fun F x a => mX10_pairsOf_L4 s (nI t) (fun (x3_1 : Int32) (x2_2 : Int32) => some (x2_2)) F x a) n 0 (fun b => sm (fun c => if T (T t b) c = T t (T b c) then 1 else 0) n) (by omega) (fun F i a hi => by
    show mX10_pairsOf_L4 _ _ _ (F + 1) _ _ = _
    rw [mX10_pairsOf_L4, m_s0 hs, if_neg (nI_ge hi (by omega)), nI_1]
    obtain ⟨m, e⟩ := lpC (fun F2 x a => mX10_pairsOf_L17 s (nI t) (nI i) (fun (x4_6 : Int32) (x2_7 : Int32) => mX10_pairsOf_L4 s (nI t) (fun (x3_1 : Int32) (x2_2 : Int32) => some (x2_2)) F (nI (i + 1)) x2_7) F2 x a) n a (fun c => if T (T t i) c = T t (T i c) then 1 else 0) (by omega) (fun F2 j a hj => by
      show mX10_pairsOf_L17 _ _ _ _ (F2 + 1) _ _ = _
      rw [mX10_pairsOf_L17, m_s0 hs, if_neg (nI_ge hj (by omega)), m_doAssociate hL hs h hi hj, bd_some]
      by_cases c : T (T t i) j = T t (T i j)
      · rw [if_pos c, if_neg (by decide), nI_1, if_pos c, nI_1]
      · rw [if_neg c, if_pos rfl, nI_1, if_neg c, show (0 : Int32) = nI 0 from rfl, nI_add])
    refine Eq.trans e ?_
    show mX10_pairsOf_L17 _ _ _ _ (m + 1) _ _ = _
    rw [mX10_pairsOf_L17, m_s0 hs, if_pos (nI_le (Nat.le_refl _) (by omega))])
  refine Eq.trans e ?_
  show mX10_pairsOf_L4 _ _ _ (m + 1) _ _ = _
  rw [mX10_pairsOf_L4, m_s0 hs, if_pos (nI_le (Nat.le_refl _) (by omega)), Nat.zero_add]; rfl
theorem m_triples (hL : Lat n T) (hs : sF n T s) : mX10_triples s = some (nI (assP T n)) := by
  have h8 := hL.2.1
  unfold mX10_triples
  obtain ⟨m, e⟩ := lpC (fun F x a => mX10_triples_L4 s (fun (x2_1 : Int32) (x1_2 : Int32) => some (x1_2)) F x a) n 0 (assW T n) (by omega) (fun F i a hi => by
    show mX10_triples_L4 _ _ (F + 1) _ _ = _
    rw [mX10_triples_L4, m_s0 hs, if_neg (nI_ge hi (by omega)), m_pairsOf hL hs hi, bd_some, nI_1, nI_add])
  refine Eq.trans e ?_
  show mX10_triples_L4 _ _ (m + 1) _ _ = _
  rw [mX10_triples_L4, m_s0 hs, if_pos (nI_le (Nat.le_refl _) (by omega)), Nat.zero_add]; rfl
theorem m_alone (hL : Lat n T) (hs : sF n T s) : mX10_alone s = some (nI (slfS T n)) := by
  have h8 := hL.2.1
  have hT := hL.2.2.1
  unfold mX10_alone
  obtain ⟨m, e⟩ := lpC (fun F x a => mX10_alone_L4 s (fun (x2_1 : Int32) (x1_2 : Int32) => some (x1_2)) F x a) n 0 (fun a => if T a a = a then 1 else 0) (by omega) (fun F i a hi => by
    have h1 := hT i i hi hi
    show mX10_alone_L4 _ _ (F + 1) _ _ = _
    rw [mX10_alone_L4, m_s0 hs, if_neg (nI_ge hi (by omega)), m_plain hL hs hi hi, bd_some]
    by_cases c : T i i = i
    · rw [if_pos (by rw [c]), if_pos c, nI_1, nI_1]
    · rw [if_neg (fun q => c ((nI_eq (by omega) (by omega)).mp q)), if_neg c, nI_1, show (0 : Int32) = nI 0 from rfl, nI_add])
  refine Eq.trans e ?_
  show mX10_alone_L4 _ _ (m + 1) _ _ = _
  rw [mX10_alone_L4, m_s0 hs, if_pos (nI_le (Nat.le_refl _) (by omega)), Nat.zero_add]; rfl
end Ref
