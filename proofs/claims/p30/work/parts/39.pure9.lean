/-! numbers that are tokens, and numbers that are none -/
theorem nJ_of {x : Int32} (h : ¬ x < 0) : x = nI x.toNatClampNeg ∧ x.toNatClampNeg < 2 ^ 31 := by
  have h0 : 0 ≤ x.toInt := by
    have : ¬ x.toInt < (0 : Int32).toInt := fun q => h (Int32.lt_iff_toInt_lt.mpr q)
    have h1 : (0 : Int32).toInt = 0 := rfl
    omega
  have h2 := Int32.toInt_lt x
  have h3 : x.toNatClampNeg = x.toInt.toNat := rfl
  have h4 : x.toNatClampNeg < 2 ^ 31 := by omega
  refine ⟨Int32.toInt_inj.mp ?_, h4⟩
  rw [nI_toInt h4]; omega
theorem in_is (x a b : Int32) : mX10_in x a b = mX9_isWithin x a b := rfl
/-- within two bounds, or not -/
theorem withn (x : Int32) {a b : Nat} (hb : b < 2 ^ 31) (hab : a ≤ b) : (∃ v, a ≤ v ∧ v ≤ b ∧ x = nI v ∧ mX9_isWithin x (nI a) (nI b) = some 1) ∨ ((∀ v, a ≤ v → v ≤ b → x ≠ nI v) ∧ mX9_isWithin x (nI a) (nI b) = some 0) := by
  unfold mX9_isWithin
  by_cases h0 : x < 0
  · refine Or.inr ⟨fun v _ h2 e => ?_, ?_⟩
    · subst e; exact nI_pos (by omega) h0
    · rw [if_pos]
      have h1 : (nI a).toInt = a := nI_toInt (by omega)
      have h2 : (0 : Int32).toInt = 0 := rfl
      have h3 := Int32.lt_iff_toInt_lt.mp h0
      exact Int32.lt_iff_toInt_lt.mpr (by omega)
  · obtain ⟨e, hv⟩ := nJ_of h0
    generalize x.toNatClampNeg = v at e hv
    subst e
    by_cases h1 : v < a
    · refine Or.inr ⟨fun w h2 _ e => ?_, by rw [if_pos (nI_lt h1 (by omega))]⟩
      have := (nI_eq hv (by omega)).mp e; omega
    · rw [if_neg (nI_nlt (by omega) hv)]
      by_cases h2 : b < v
      · refine Or.inr ⟨fun w _ h3 e => ?_, by rw [if_pos (nI_lt h2 hv)]⟩
        have := (nI_eq hv (by omega)).mp e; omega
      · exact Or.inl ⟨v, by omega, by omega, rfl, by rw [if_neg (nI_nlt (by omega) hb)]⟩
section Tokens
variable {n : Nat} {T : Nat → Nat → Nat} {f s : Nat → Int32}
theorem tok (h2 : 2 ≤ n) (h8 : n ≤ 8) (hs : s 0 = nI n) (x : Int32) : (∃ a, a < n ∧ x = nI a ∧ mX6_has (nI n) x = some 1 ∧ mX10_isToken s x = some 1) ∨ ((∀ a, a < n → x ≠ nI a) ∧ mX6_has (nI n) x = some 0 ∧ mX10_isToken s x = some 0) := by
  have hm : mX10_isToken s x = bd (mX9_isWithin x (nI 0) (nI (n - 1))) (fun z => gd (nbz z) (some z)) := by
    unfold mX10_isToken
    rw [show s (0 : Int32).toNatClampNeg = nI n from hs, show n = n - 1 + 1 by omega, nI_pred]; rfl
  rw [hm]
  rcases withn x (a := 0) (b := n - 1) (by omega) (by omega) with ⟨v, _, h1, rfl, e⟩ | ⟨h1, e⟩
  · refine Or.inl ⟨v, by omega, rfl, ?_, ?_⟩
    · rw [X6_has_ok h8 (by omega), if_pos (by omega)]
    · rw [e]; rfl
  · refine Or.inr ⟨fun a ha => h1 a (by omega) (by omega), ?_, ?_⟩
    · unfold mX6_has
      by_cases q : x < 0
      · rw [if_pos q]
      · obtain ⟨e1, hv⟩ := nJ_of q
        rw [if_neg q, e1, if_pos]
        refine nI_le ?_ hv
        refine Nat.le_of_not_lt fun w => ?_
        exact h1 _ (by omega) (by omega) e1
    · rw [e]; rfl
theorem pair (h2 : 2 ≤ n) (h8 : n ≤ 8) (hs : s 0 = nI n) (x y : Int32) : (∃ a b, a < n ∧ b < n ∧ a ≠ b ∧ x = nI a ∧ y = nI b ∧ mX9_areUnlikeTokens (nI n) x y = some 1 ∧ mX10_isPair s x y = some 1) ∨ (mX9_areUnlikeTokens (nI n) x y = some 0 ∧ mX10_isPair s x y = some 0) := by
  unfold mX9_areUnlikeTokens mX10_isPair
  rcases tok h2 h8 hs x with ⟨a, ha, hx, e1, e2⟩ | ⟨_, e1, e2⟩
  · rcases tok h2 h8 hs y with ⟨b, hb, hy, e3, e4⟩ | ⟨_, e3, e4⟩
    · simp only [e1, e2, e3, e4, bd_some, if_neg (show ¬ (1 : Int32) = 0 by decide)]
      by_cases q : x = y
      · exact Or.inr ⟨by rw [if_pos q], by rw [if_pos q]⟩
      · refine Or.inl ⟨a, b, ha, hb, fun w => q (by rw [hx, hy, w]), hx, hy, by rw [if_neg q], by rw [if_neg q]⟩
    · simp only [e1, e2, e3, e4, bd_some, if_neg (show ¬ (1 : Int32) = 0 by decide), if_true]
      refine Or.inr ⟨?_, trivial⟩
      by_cases q : x = y
      · rw [if_pos q]
      · rw [if_neg q]
  · simp only [e1, e2, bd_some, if_true]
    refine Or.inr ⟨?_, trivial⟩
    by_cases q : x = y
    · rw [if_pos q]
    · rw [if_neg q]
end Tokens
/-! changes -/
section Changes
variable {m n : Nat} {T U : Nat → Nat → Nat} {f g s s' o P k0 k1 k2 k3 : Nat → Int32} {z zg z0 z1 z2 z3 : Int32}
theorem chg_both (hL : Lat n T) (hU : Lat n U) (ht : tF n T f) (hu : tF n U g) (hs : sF n T s) (hs' : sF n U s') (hout : rOut n s s') (hH : Hs m k0 z0 k1 z1 k2 z2 k3 z3 P) : ∃ r f' k0' z0' k1' z1' k2' z2' k3' z3' m' P', mX9_changeToTrial f (nI n) g (nI n) k0 z0 k1 z1 k2 z2 k3 z3 (nI m) = some (r, f', nI n, k0', z0', k1', z1', k2', z2', k3', z3', nI m') ∧ mX10_records s o P (nI m) = some (cpy 65 o s, P', nI m') ∧ mX10_others s' (cpy 65 o s) = some r ∧ Sm f' (nI n) s' ∧ Hs m' k0' z0' k1' z1' k2' z2' k3' z3' P' := by
  obtain ⟨k0', z0', k1', z1', k2', z2', k3', z3', m', P', e1, e2, hH'⟩ := rec_both (o := o) ⟨n, T, hL, rfl, ht, hs⟩ hH
  refine ⟨nI (dif n T U), cpy 64 f g, k0', z0', k1', z1', k2', z2', k3', z3', m', P', ?_, e2, m_others hL.2.1 hL.2.2.1 hU.2.2.1 (fun k hk => cpy_lt hk) hs hs' hout, ⟨n, U, hU, rfl, tF_cpy hL.2.1 hu, hs'⟩, hH'⟩
  unfold mX9_changeToTrial
  rw [X6_differencesTo_ok hL.2.1 hL.2.2.1 hU.2.2.1 ht hu, bd_some, e1, bd_some, X6_copyFrom_ok, bd_some]
theorem chg3 {w : Int32} {L : (Int32 → (Nat → Int32) → Option (Int32 × (Nat → Int32) × (Nat → Int32) × (Nat → Int32) × Int32)) → Option (Int32 × (Nat → Int32) × (Nat → Int32) × (Nat → Int32) × Int32)} (hL : Lat n T) (hU : Lat n U) (ht : tF n T f) (hu : tF n U g) (hs : sF n T s) (hk : ∀ k, ∃ s', sF n U s' ∧ rOut n s s' ∧ L k = k w s') (hH : Hs m k0 z0 k1 z1 k2 z2 k3 z3 P) : ∃ r f' k0' z0' k1' z1' k2' z2' k3' z3' m' s' P', mX9_changeToTrial f (nI n) g (nI n) k0 z0 k1 z1 k2 z2 k3 z3 (nI m) = some (r, f', nI n, k0', z0', k1', z1', k2', z2', k3', z3', nI m') ∧ bd (mX10_records s o P (nI m)) (fun z_2 => L (fun (x3_3 : Int32) (f_4 : Nat → Int32) => bd (mX10_others f_4 z_2.1) (fun z_5 => some (z_5, f_4, z_2.1, z_2.2.1, z_2.2.2)))) = some (r, s', cpy 65 o s, P', nI m') ∧ Sm f' (nI n) s' ∧ Hs m' k0' z0' k1' z1' k2' z2' k3' z3' P' := by
  obtain ⟨_, _, _, _, _, _, _, _, m0, P0, _, c2, _⟩ := rec_both (o := o) ⟨n, T, hL, rfl, ht, hs⟩ hH
  obtain ⟨s', hs', hout, e⟩ := hk (fun (x3_3 : Int32) (f_4 : Nat → Int32) => bd (mX10_others f_4 (cpy 65 o s)) (fun z_5 => some (z_5, f_4, cpy 65 o s, P0, nI m0)))
  obtain ⟨r, f', k0', z0', k1', z1', k2', z2', k3', z3', m', P', d1, d2, d3, hS', hH'⟩ := chg_both (o := o) hL hU ht hu hs hs' hout hH
  have d4 := Option.some.inj (c2.symm.trans d2)
  have d5 : P0 = P' := congrArg (fun q => q.2.1) d4
  have d6 : nI m0 = nI m' := congrArg (fun q => q.2.2) d4
  refine ⟨r, f', k0', z0', k1', z1', k2', z2', k3', z3', m', s', P', d1, ?_, hS', hH'⟩
  rw [c2, bd_some]
  refine Eq.trans e ?_
  rw [d3, bd_some, d5, d6]
theorem rows_both (hS : Sm f z s) (hH : Hs m k0 z0 k1 z1 k2 z2 k3 z3 P) (x y : Int32) : ∃ r f' z' g' zg' k0' z0' k1' z1' k2' z2' k3' z3' m' s' o' P', mX9_rows f z g zg k0 z0 k1 z1 k2 z2 k3 z3 (nI m) x y = some (r, f', z', g', zg', k0', z0', k1', z1', k2', z2', k3', z3', nI m') ∧ mX10_rows s o P (nI m) x y = some (r, s', o', P', nI m') ∧ Sm f' z' s' ∧ Hs m' k0' z0' k1' z1' k2' z2' k3' z3' P' := by
  have hS0 := hS
  obtain ⟨n, T, hL, rfl, ht, hs⟩ := hS
  unfold mX9_rows mX10_rows
  rcases pair hL.1 hL.2.1 hs.1 x y with ⟨a, b, ha, hb, hab, rfl, rfl, e1, e2⟩ | ⟨e1, e2⟩
  · obtain ⟨g', hg', hu⟩ := X6_exchangeRows_ok hL.2.1 (tF_cpy (h := g) hL.2.1 ht) ha hb
    obtain ⟨r, f', k0', z0', k1', z1', k2', z2', k3', z3', m', s', P', c1, c2, hS', hH'⟩ := chg3 (o := o) hL (Lat_row hL ha hb) ht hu hs (fun k => m_rowsL hL.2.1 hs ha hb k) hH
    refine ⟨r, f', nI n, g', nI n, k0', z0', k1', z1', k2', z2', k3', z3', m', s', cpy 65 o s, P', ?_, ?_, hS', hH'⟩
    · rw [e1, bd_some, if_neg (show ¬ (1 : Int32) = 0 by decide), X6_copyFrom_ok, bd_some, hg', bd_some, c1, bd_some]
    · rw [e2, bd_some, if_neg (show ¬ (1 : Int32) = 0 by decide)]
      exact c2
  · refine ⟨-1, f, nI n, g, zg, k0, z0, k1, z1, k2, z2, k3, z3, m, s, o, P, ?_, ?_, hS0, hH⟩
    · rw [e1, bd_some, if_pos rfl]
    · rw [e2, bd_some, if_pos rfl]
theorem columns_both (hS : Sm f z s) (hH : Hs m k0 z0 k1 z1 k2 z2 k3 z3 P) (x y : Int32) : ∃ r f' z' g' zg' k0' z0' k1' z1' k2' z2' k3' z3' m' s' o' P', mX9_columns f z g zg k0 z0 k1 z1 k2 z2 k3 z3 (nI m) x y = some (r, f', z', g', zg', k0', z0', k1', z1', k2', z2', k3', z3', nI m') ∧ mX10_columns s o P (nI m) x y = some (r, s', o', P', nI m') ∧ Sm f' z' s' ∧ Hs m' k0' z0' k1' z1' k2' z2' k3' z3' P' := by
  have hS0 := hS
  obtain ⟨n, T, hL, rfl, ht, hs⟩ := hS
  unfold mX9_columns mX10_columns
  rcases pair hL.1 hL.2.1 hs.1 x y with ⟨a, b, ha, hb, hab, rfl, rfl, e1, e2⟩ | ⟨e1, e2⟩
  · obtain ⟨g', hg', hu⟩ := X6_exchangeColumns_ok hL.2.1 (tF_cpy (h := g) hL.2.1 ht) ha hb
    obtain ⟨r, f', k0', z0', k1', z1', k2', z2', k3', z3', m', s', P', c1, c2, hS', hH'⟩ := chg3 (o := o) hL (Lat_col hL ha hb) ht hu hs (fun k => m_columnsL hL.2.1 hs ha hb k) hH
    refine ⟨r, f', nI n, g', nI n, k0', z0', k1', z1', k2', z2', k3', z3', m', s', cpy 65 o s, P', ?_, ?_, hS', hH'⟩
    · rw [e1, bd_some, if_neg (show ¬ (1 : Int32) = 0 by decide), X6_copyFrom_ok, bd_some, hg', bd_some, c1, bd_some]
    · rw [e2, bd_some, if_neg (show ¬ (1 : Int32) = 0 by decide)]
      exact c2
  · refine ⟨-1, f, nI n, g, zg, k0, z0, k1, z1, k2, z2, k3, z3, m, s, o, P, ?_, ?_, hS0, hH⟩
    · rw [e1, bd_some, if_pos rfl]
    · rw [e2, bd_some, if_pos rfl]
theorem names_both (hS : Sm f z s) (hH : Hs m k0 z0 k1 z1 k2 z2 k3 z3 P) (x y : Int32) : ∃ r f' z' g' zg' k0' z0' k1' z1' k2' z2' k3' z3' m' s' o' P', mX9_names f z g zg k0 z0 k1 z1 k2 z2 k3 z3 (nI m) x y = some (r, f', z', g', zg', k0', z0', k1', z1', k2', z2', k3', z3', nI m') ∧ mX10_names s o P (nI m) x y = some (r, s', o', P', nI m') ∧ Sm f' z' s' ∧ Hs m' k0' z0' k1' z1' k2' z2' k3' z3' P' := by
  have hS0 := hS
  obtain ⟨n, T, hL, rfl, ht, hs⟩ := hS
  unfold mX9_names mX10_names
  rcases pair hL.1 hL.2.1 hs.1 x y with ⟨a, b, ha, hb, hab, rfl, rfl, e1, e2⟩ | ⟨e1, e2⟩
  · obtain ⟨g', hg', hu⟩ := X6_exchangeNames_ok hL (tF_cpy (h := g) hL.2.1 ht) ha hb
    obtain ⟨r, f', k0', z0', k1', z1', k2', z2', k3', z3', m', s', P', c1, c2, hS', hH'⟩ := chg3 (o := o) hL (Lat_nam hL ha hb) ht hu hs (fun k => m_namesL hL hs ha hb k) hH
    refine ⟨r, f', nI n, g', nI n, k0', z0', k1', z1', k2', z2', k3', z3', m', s', cpy 65 o s, P', ?_, ?_, hS', hH'⟩
    · rw [e1, bd_some, if_neg (show ¬ (1 : Int32) = 0 by decide), X6_copyFrom_ok, bd_some, hg', bd_some, c1, bd_some]
    · rw [e2, bd_some, if_neg (show ¬ (1 : Int32) = 0 by decide)]
      exact c2
  · refine ⟨-1, f, nI n, g, zg, k0, z0, k1, z1, k2, z2, k3, z3, m, s, o, P, ?_, ?_, hS0, hH⟩
    · rw [e1, bd_some, if_pos rfl]
    · rw [e2, bd_some, if_pos rfl]
theorem bI_and_1 {p q : Prop} [Decidable p] [Decidable q] (h : p ∧ q) : bI (decide p && decide q) = 1 := by rw [decide_eq_true h.1, decide_eq_true h.2]; rfl
theorem bI_and_0 {p q : Prop} [Decidable p] [Decidable q] (h : ¬ (p ∧ q)) : bI (decide p && decide q) = 0 := by
  by_cases w : p
  · rw [decide_eq_false (show ¬ q from fun v => h ⟨w, v⟩), Bool.and_false]; rfl
  · rw [decide_eq_false w, Bool.false_and]; rfl
theorem add_sub3 (c A B : Int32) : c + A - B = A - B + c := by
  rw [Int32.sub_eq_add_neg, Int32.sub_eq_add_neg, Int32.add_comm (A + -B), ← Int32.add_assoc]
theorem swap_both (hS : Sm f z s) (hH : Hs m k0 z0 k1 z1 k2 z2 k3 z3 P) (x y v w : Int32) : ∃ r f' k0' z0' k1' z1' k2' z2' k3' z3' m' s' o' P', mX9_swap f z k0 z0 k1 z1 k2 z2 k3 z3 (nI m) x y v w = some (r, f', k0', z0', k1', z1', k2', z2', k3', z3', nI m') ∧ mX10_swap s o P (nI m) x y v w = some (r, s', o', P', nI m') ∧ Sm f' z s' ∧ Hs m' k0' z0' k1' z1' k2' z2' k3' z3' P' := by
  have hS0 := hS
  obtain ⟨n, T, hL, rfl, ht, hs⟩ := hS
  unfold mX9_swap mX10_swap mX10_bar
  rcases pair hL.1 hL.2.1 hs.1 x y with ⟨a, b, ha, hb, hab, rfl, rfl, e1, e2⟩ | ⟨e1, e2⟩
  · rcases pair hL.1 hL.2.1 hs.1 v w with ⟨c, d, hc, hd, hcd, rfl, rfl, e3, e4⟩ | ⟨e3, e4⟩
    · have q1 := X6_isLittleSquare_ok hL ht ha hb hc hd
      have q2 := m_isSquare hL hs ha hb hc hd
      by_cases q : isSq T a b c d
      · rw [bI_and_1 q] at q1 q2
        obtain ⟨g', h1, h2, h3⟩ := X6_swapSquare_ok hL.2.1 ht ha hb hc hd hab
        obtain ⟨s', h4, h5, h6⟩ := m_swaps hL.2.1 hs ha hb hc hd hab
        obtain ⟨k0', z0', k1', z1', k2', z2', k3', z3', m', P', c1, c2, hH'⟩ := rec_both (o := o) hS0 hH
        have hU := Lat_sq hL ha hb hc hd hab q
        refine ⟨(1000 : Int32) + nI (assP (sqX T a b c d) n) - nI (assP T n), g', k0', z0', k1', z1', k2', z2', k3', z3', m', s', cpy 65 o s, P', ?_, ?_, ⟨n, _, hU, rfl, h2, h5⟩, hH'⟩
        · simp only [e1, e3, q1, bd_some, if_neg (show ¬ (1 : Int32) = 0 by decide), X8_associatingTriples_ok hL ht, c1, h1, X8_associatingTriples_ok hU h2]
        · simp only [e2, e4, q2, bd_some, if_neg (show ¬ (1 : Int32) = 0 by decide), if_true, m_triples hL hs, c2, h4, m_triples hU h5]
          rw [add_sub3]
      · rw [bI_and_0 q] at q1 q2
        refine ⟨-2, f, k0, z0, k1, z1, k2, z2, k3, z3, m, s, o, P, ?_, ?_, hS0, hH⟩
        · simp only [e1, e3, q1, bd_some, if_neg (show ¬ (1 : Int32) = 0 by decide), if_true]
        · simp only [e2, e4, q2, bd_some, if_neg (show ¬ (1 : Int32) = 0 by decide), if_true, if_neg (show ¬ (-2 : Int32) = 0 by decide)]
    · refine ⟨-1, f, k0, z0, k1, z1, k2, z2, k3, z3, m, s, o, P, ?_, ?_, hS0, hH⟩
      · simp only [e1, e3, bd_some, if_neg (show ¬ (1 : Int32) = 0 by decide), if_true]
      · simp only [e2, e4, bd_some, if_neg (show ¬ (1 : Int32) = 0 by decide), if_true, if_neg (show ¬ (-1 : Int32) = 0 by decide)]
  · refine ⟨-1, f, k0, z0, k1, z1, k2, z2, k3, z3, m, s, o, P, ?_, ?_, hS0, hH⟩
    · simp only [e1, bd_some, if_true]
    · simp only [e2, bd_some, if_true, if_neg (show ¬ (-1 : Int32) = 0 by decide)]
theorem div_nI {a d : Nat} (ha : a < 2 ^ 31) (h0 : 0 < d) (hd : d < 2 ^ 31) : (nI a - nI a / nI d * nI d = 0) ↔ a % d = 0 := by
  rw [pk_rem ha h0 hd, show (0 : Int32) = nI 0 from rfl]
  exact nI_eq (by have := Nat.mod_lt a h0; omega) (by omega)
/-- some number from 2 to 8 divides both, or none does -/
def cmd (a b : Nat) (d : Nat) : Bool := decide (a % d = 0) && decide (b % d = 0)
theorem X9_common_ok {a b : Nat} (ha : a < 2 ^ 31) (hb : b < 2 ^ 31) : mX9_haveCommonDivisor (nI a) (nI b) = some (bI (!(allB (fun d => decide (d < 2) || !(cmd a b d)) 9))) := by
  unfold mX9_haveCommonDivisor
  have key : ∀ F i, 2 ≤ i → i < 9 → mX9_haveCommonDivisor_L2 (nI a) (nI b) (fun (x2_1 : Int32) => some (0)) (F + 1) (nI i) = if cmd a b i = true then some 1 else mX9_haveCommonDivisor_L2 (nI a) (nI b) (fun (x2_1 : Int32) => some (0)) F (nI (i + 1)) := by
    intro F i h2 hi
    rw [mX9_haveCommonDivisor_L2, if_neg (show ¬ (8 : Int32) < nI i from nI_nlt (a := 8) (by omega) (by omega)), gd_t (nzb_nI (by omega) (by omega)), gd_t (nzb_nI (by omega) (by omega)), nI_1]
    unfold cmd
    by_cases q : a % i = 0
    · rw [if_pos ((div_nI ha (by omega) (by omega)).mpr q), decide_eq_true q, Bool.true_and]
      by_cases w : b % i = 0
      · rw [if_pos ((div_nI hb (by omega) (by omega)).mpr w), decide_eq_true w, if_pos rfl]
      · rw [if_neg (fun v => w ((div_nI hb (by omega) (by omega)).mp v)), decide_eq_false w, if_neg (by decide)]
    · rw [if_neg (fun v => q ((div_nI ha (by omega) (by omega)).mp v)), decide_eq_false q, Bool.false_and, if_neg (by decide)]
  rcases lpF (fun F x => mX9_haveCommonDivisor_L2 (nI a) (nI b) (fun (x2_1 : Int32) => some (0)) F x) 9 2 (fun i => cmd a b i) (fun _ => some 1) (by omega) (by omega) (fun F i h1 hi hp => by
      show mX9_haveCommonDivisor_L2 _ _ _ (F + 1) _ = _
      rw [key F i h1 hi, if_neg (by rw [hp]; decide)]) (fun F i h1 hi hp => by
      show mX9_haveCommonDivisor_L2 _ _ _ (F + 1) _ = _
      rw [key F i h1 hi, if_pos hp]) with ⟨i, h1, hi, hp, _, e⟩ | ⟨h0, m, e⟩
  · refine Eq.trans e ?_
    rw [show allB (fun d => decide (d < 2) || !(cmd a b d)) 9 = false from allB_not.mpr ⟨i, hi, by simp only [hp, decide_eq_false (show ¬ i < 2 by omega)]; rfl⟩]; rfl
  · refine Eq.trans e ?_
    show mX9_haveCommonDivisor_L2 _ _ _ (m + 1) _ = _
    rw [mX9_haveCommonDivisor_L2, if_pos (show (8 : Int32) < nI 9 by decide), show allB (fun d => decide (d < 2) || !(cmd a b d)) 9 = true from allB_iff.mpr fun d hd => by
      by_cases q : d < 2
      · rw [decide_eq_true q]; rfl
      · rw [h0 d (by omega) hd, decide_eq_false q]; rfl]; rfl
theorem m_arePrime {a b : Nat} (ha : a < 2 ^ 31) (hb : b < 2 ^ 31) : mX10_arePrime (nI a) (nI b) = some (bI (allB (fun d => decide (d < 2) || !(cmd a b d)) 9)) := by
  unfold mX10_arePrime
  obtain ⟨m, e⟩ := lpU (fun F x q => mX10_arePrime_L4 (nI a) (nI b) (fun (x3_1 : Int32) (x2_2 : Int32) => gd (nbz x2_2) (some (x2_2))) F x q) 9 2 (fun i => bI (allB (fun d => decide (d < 2) || !(cmd a b d)) i)) (by omega) (by omega) (fun F i h2 hi => by
    show mX10_arePrime_L4 _ _ _ (F + 1) _ _ = _
    rw [mX10_arePrime_L4, if_neg (show ¬ (9 : Int32) ≤ nI i from nI_ge (b := 9) hi (by omega)), nI_1, allB_s, decide_eq_false (show ¬ i < 2 by omega), Bool.false_or]
    cases hb' : allB (fun d => decide (d < 2) || !(cmd a b d)) i with
    | false => rw [if_pos (show bI false = 0 from rfl)]; rfl
    | true =>
      rw [if_neg (show ¬ bI true = 0 by decide), gd_t (nzb_nI (by omega) (by omega)), gd_t (nzb_nI (by omega) (by omega)), Bool.true_and]
      unfold cmd
      by_cases q : a % i = 0
      · rw [if_pos ((div_nI ha (by omega) (by omega)).mpr q), decide_eq_true q, Bool.true_and]
        by_cases w : b % i = 0
        · rw [if_pos ((div_nI hb (by omega) (by omega)).mpr w), decide_eq_true w]; rfl
        · rw [if_neg (fun v => w ((div_nI hb (by omega) (by omega)).mp v)), decide_eq_false w]; rfl
      · rw [if_neg (fun v => q ((div_nI ha (by omega) (by omega)).mp v)), decide_eq_false q, Bool.false_and]; rfl)
  have e0 : bI (allB (fun d => decide (d < 2) || !(cmd a b d)) 2) = 1 := rfl
  simp only [e0] at e
  refine Eq.trans e ?_
  show mX10_arePrime_L4 _ _ _ (m + 1) _ _ = _
  rw [mX10_arePrime_L4, if_pos (show (9 : Int32) ≤ nI 9 from nI_le (a := 9) (Nat.le_refl _) (by omega)), gd_t (nbz_bI _)]
theorem begin_both (hS : Sm f z s) (hH : Hs m k0 z0 k1 z1 k2 z2 k3 z3 P) (x y : Int32) : ∃ r f' z' k0' z0' k1' z1' k2' z2' k3' z3' m' s' o' P', mX9_begin f z k0 z0 k1 z1 k2 z2 k3 z3 (nI m) x y = some (r, f', z', k0', z0', k1', z1', k2', z2', k3', z3', nI m') ∧ mX10_begin s o P (nI m) x y = some (r, s', o', P', nI m') ∧ Sm f' z' s' ∧ Hs m' k0' z0' k1' z1' k2' z2' k3' z3' P' := by
  unfold mX9_begin mX10_begin
  simp only [in_is]
  rcases withn x (a := 2) (b := 8) (by omega) (by omega) with ⟨n, h1, h2, rfl, e1⟩ | ⟨_, e1⟩
  · rcases withn y (a := 1) (b := 7) (by omega) (by omega) with ⟨c, h3, h4, rfl, e2⟩ | ⟨_, e2⟩
    · have e3 := X9_common_ok (a := n) (b := c) (by omega) (by omega)
      have e4 := m_arePrime (a := n) (b := c) (by omega) (by omega)
      cases hp : allB (fun d => decide (d < 2) || !(cmd n c d)) 9 with
      | true =>
        rw [hp] at e3 e4
        obtain ⟨k0', z0', k1', z1', k2', z2', k3', z3', m', P', c1, c2, hH'⟩ := rec_both (o := o) hS hH
        obtain ⟨g', g1, g2⟩ := X6_makeNew_ok (f := f) (z := z) h1 h2 h4
        obtain ⟨s', s1, s2⟩ := m_lays (s := s) h1 h2 h4
        have hU : Lat n (newT n c) := newT_Lat h1 h2 h3 h4 (fun d hd h5 h6 => by
          have := allB_iff.mp hp d hd
          rw [decide_eq_false (show ¬ d < 2 by omega), Bool.false_or] at this
          unfold cmd at this
          rw [decide_eq_true h6.1, decide_eq_true h6.2] at this
          cases this)
        refine ⟨nI (assP (newT n c) n), g', nI n, k0', z0', k1', z1', k2', z2', k3', z3', m', s', cpy 65 o s, P', ?_, ?_, ⟨n, _, hU, rfl, g2, s2⟩, hH'⟩
        · rw [show mX9_isWithin (nI n) 2 8 = some 1 from e1, bd_some, if_neg (by decide), show mX9_isWithin (nI c) 1 7 = some 1 from e2, bd_some, if_neg (by decide), e3, bd_some, if_pos (show bI (!true) = 0 from rfl), c1, bd_some, g1, bd_some, X8_associatingTriples_ok hU g2, bd_some]
        · rw [show mX9_isWithin (nI n) 2 8 = some 1 from e1, bd_some, if_neg (by decide), show mX9_isWithin (nI c) 1 7 = some 1 from e2, bd_some, if_neg (by decide), e4, bd_some, if_neg (show ¬ bI true = 0 by decide), c2, bd_some, s1, bd_some, m_triples hU s2, bd_some]
      | false =>
        rw [hp] at e3 e4
        refine ⟨-1, f, z, k0, z0, k1, z1, k2, z2, k3, z3, m, s, o, P, ?_, ?_, hS, hH⟩
        · rw [show mX9_isWithin (nI n) 2 8 = some 1 from e1, bd_some, if_neg (by decide), show mX9_isWithin (nI c) 1 7 = some 1 from e2, bd_some, if_neg (by decide), e3, bd_some, if_neg (show ¬ bI (!false) = 0 by decide)]
        · rw [show mX9_isWithin (nI n) 2 8 = some 1 from e1, bd_some, if_neg (by decide), show mX9_isWithin (nI c) 1 7 = some 1 from e2, bd_some, if_neg (by decide), e4, bd_some, if_pos (show bI false = 0 from rfl)]
    · refine ⟨-1, f, z, k0, z0, k1, z1, k2, z2, k3, z3, m, s, o, P, ?_, ?_, hS, hH⟩
      · rw [show mX9_isWithin (nI n) 2 8 = some 1 from e1, bd_some, if_neg (by decide), show mX9_isWithin y 1 7 = some 0 from e2, bd_some, if_pos rfl]
      · rw [show mX9_isWithin (nI n) 2 8 = some 1 from e1, bd_some, if_neg (by decide), show mX9_isWithin y 1 7 = some 0 from e2, bd_some, if_pos rfl]
  · refine ⟨-1, f, z, k0, z0, k1, z1, k2, z2, k3, z3, m, s, o, P, ?_, ?_, hS, hH⟩
    · rw [show mX9_isWithin x 2 8 = some 0 from e1, bd_some, if_pos rfl]
    · rw [show mX9_isWithin x 2 8 = some 0 from e1, bd_some, if_pos rfl]
end Changes
