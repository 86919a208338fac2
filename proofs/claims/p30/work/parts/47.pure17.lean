/-! a sum with brackets: the class's reading and the reference's -/
def LR (n : Nat) (sf wp sm pl : Nat → Int32) (l : Nat) : Prop := (sf l = -1 ∧ pl l = -1) ∨ ∃ a p, a < n ∧ p < 80 ∧ sf l = nI a ∧ sm l = nI a ∧ wp l = nI p ∧ pl l = nI p
def StR (st : Nat) (le ri to pc S : Nat → Int32) : Prop := ∀ k, k < st → le k = S (4 * k) ∧ ri k = S (4 * k + 1) ∧ to k = S (4 * k + 2) ∧ pc k = S (4 * k + 3)
section SumText
variable {n : Nat} {T : Nat → Nat → Nat} {f s g h : Nat → Int32} {L : Nat}
theorem nI_4mul (k : Nat) : (4 : Int32) * nI k = nI (4 * k) := by rw [show (4 : Int32) = nI 4 from rfl, pk_mul]
theorem nI_4mul1 (k : Nat) : nI (4 * k) + 1 = nI (4 * k + 1) := nI_1 _
theorem nI_4mul2 (k : Nat) : nI (4 * k) + 2 = nI (4 * k + 2) := nI_add _ 2
theorem nI_4mul3 (k : Nat) : nI (4 * k) + 3 = nI (4 * k + 3) := nI_add _ 3
theorem neg1_tok {a : Nat} (ha : a < 2 ^ 31) : ¬ nI a = -1 := nI_ne1 ha
theorem join_both (hL : Lat n T) (ht : tF n T f) (hs : sF n T s) {d st b : Nat} (hd : d < 81) (hst : st < 80) (hb : b < n) {le ri to pc sf wp S sm pl : Nat → Int32} (hl : LR n sf wp sm pl d) (hR : StR st le ri to pc S) : ∃ sf' le' ri' to' pc' st' S' sm', mX5_join sf wp le ri to pc (nI d) (nI st) f (nI b) = some (sf', le', ri', to', pc', nI st') ∧ mX10_comes s S (nI st) sm pl (nI d) (nI b) = some (S', nI st', sm') ∧ st' ≤ st + 1 ∧ (∃ a, a < n ∧ sf' d = nI a ∧ sm' d = nI a) ∧ (∀ l, l ≠ d → sf' l = sf l ∧ sm' l = sm l) ∧ StR st' le' ri' to' pc' S' := by
  have h8 := hL.2.1
  unfold mX5_join mX10_comes
  rw [X9_get_ok hd (by omega), bd_some, gd_t (inb_nI hd (by omega)), nI_clamp (by omega)]
  rcases hl with ⟨h1, h2⟩ | ⟨a, p, h1, h2, h3, h4, h5, h6⟩
  · rw [if_pos h1, if_pos h2, X9_put_ok hd (by omega), bd_some, gd_t (inb_nI hd (by omega))]
    exact ⟨_, le, ri, to, pc, st, S, _, rfl, rfl, by omega, ⟨b, hb, upd_eq _ _ _, upd_eq _ _ _⟩, fun l hl => ⟨upd_ne _ _ hl, upd_ne _ _ hl⟩, hR⟩
  · have hT := hL.2.2.1 a b h1 hb
    rw [h3, h6, if_neg (neg1_tok (by omega)), if_neg (neg1_tok (by omega)), X6_at_ok h8 ht h1 hb, bd_some, X9_put_ok hst (by omega), bd_some, X9_put_ok hst (by omega), bd_some, X9_put_ok hst (by omega), bd_some, X9_get_ok hd (by omega), bd_some, X9_put_ok hst (by omega), bd_some, X9_put_ok hd (by omega), bd_some]
    rw [nI_4mul, nI_4mul1, nI_4mul2, nI_4mul3, h4, m_plain hL hs h1 hb, bd_some]
    simp only [gd_t (inb_nI hd (show 81 < 2 ^ 31 by omega)), gd_t (inb_nI (show 4 * st < 320 by omega) (show 320 < 2 ^ 31 by omega)), gd_t (inb_nI (show 4 * st + 1 < 320 by omega) (show 320 < 2 ^ 31 by omega)), gd_t (inb_nI (show 4 * st + 2 < 320 by omega) (show 320 < 2 ^ 31 by omega)), gd_t (inb_nI (show 4 * st + 3 < 320 by omega) (show 320 < 2 ^ 31 by omega)), nI_clamp (show 4 * st < 2 ^ 31 by omega), nI_clamp (show 4 * st + 1 < 2 ^ 31 by omega), nI_clamp (show 4 * st + 2 < 2 ^ 31 by omega), nI_clamp (show 4 * st + 3 < 2 ^ 31 by omega), nI_1]
    refine ⟨_, _, _, _, _, st + 1, _, _, rfl, rfl, Nat.le_refl _, ⟨T a b, hT, upd_eq _ _ _, ?_⟩, fun l hl => ⟨upd_ne _ _ hl, upd_ne _ _ hl⟩, fun k hk => ?_⟩
    · rw [upd_eq, upd_ne _ _ (by omega), upd_eq]
    · by_cases e : k = st
      · subst e
        refine ⟨?_, ?_, ?_, ?_⟩
        · rw [upd_eq, upd_ne _ _ (by omega), upd_ne _ _ (by omega), upd_ne _ _ (by omega), upd_eq]
        · rw [upd_eq, upd_ne _ _ (by omega), upd_ne _ _ (by omega), upd_eq]
        · rw [upd_eq, upd_ne _ _ (by omega), upd_eq]
        · rw [upd_eq, upd_eq, h5]
      · obtain ⟨r1, r2, r3, r4⟩ := hR k (by omega)
        refine ⟨?_, ?_, ?_, ?_⟩
        · rw [upd_ne _ _ e, r1, upd_ne _ _ (by omega), upd_ne _ _ (by omega), upd_ne _ _ (by omega), upd_ne _ _ (by omega)]
        · rw [upd_ne _ _ e, r2, upd_ne _ _ (by omega), upd_ne _ _ (by omega), upd_ne _ _ (by omega), upd_ne _ _ (by omega)]
        · rw [upd_ne _ _ e, r3, upd_ne _ _ (by omega), upd_ne _ _ (by omega), upd_ne _ _ (by omega), upd_ne _ _ (by omega)]
        · rw [upd_ne _ _ e, r4, upd_ne _ _ (by omega), upd_ne _ _ (by omega), upd_ne _ _ (by omega), upd_ne _ _ (by omega)]
abbrev kTA := Int32 → Int32 → Int32 → Int32 → (Nat → Int32) → (Nat → Int32) → (Nat → Int32) → (Nat → Int32) → (Nat → Int32) → (Nat → Int32) → Option (Int32 × (Nat → Int32) × (Nat → Int32) × (Nat → Int32) × (Nat → Int32) × (Nat → Int32) × (Nat → Int32) × Int32 × Int32 × Int32)
abbrev kTB := Int32 → Int32 → Int32 → Int32 → (Nat → Int32) → (Nat → Int32) → (Nat → Int32) → Option (Int32 × (Nat → Int32) × Int32 × Int32 × (Nat → Int32) × (Nat → Int32))
theorem n10 : ((1 : Int32) = 0) = False := eq_false (by decide)
theorem kA1 (hP : Pd g h L) (k : kTA) {F i d : Nat} {y : Int32} {le ri to pc sf wp : Nat → Int32} (hi : i < L) (hd : d < 80) : mX5_readFrom_L26 g (nI L) f (nI n) k (F + 1) (nI i) (nI d) y 1 le ri to pc sf wp = if h i = 40 then mX5_readFrom_L26 g (nI L) f (nI n) k F (nI (i + 1)) (nI (d + 1)) y 1 le ri to pc (upd sf (d + 1) (-1)) wp else bd (mX6_has (nI n) (h i - 48)) (fun z => if z = 0 then some (nI i, sf, wp, le, ri, to, pc, nI d, y, 1) else bd (mX5_join sf wp le ri to pc (nI d) y f (h i - 48)) (fun z => mX5_readFrom_L26 g (nI L) f (nI n) k F (nI (i + 1)) (nI d) z.2.2.2.2.2 0 z.2.1 z.2.2.1 z.2.2.2.1 z.2.2.2.2.1 z.1 wp)) := by
  have hL := hP.1
  rw [mX5_readFrom_L26]
  unfold mX1_length mX5_takeThing
  rw [bd_some, if_neg (nI_ge hi (by omega)), if_neg (by decide), X1_signAt_in hP hi, bd_some, nI_1, nI_1]
  by_cases c : h i = 40
  · rw [if_pos c, if_pos c, X9_put_ok (by omega) (by omega), bd_some, bd_some]
    simp only [n10, if_false]
  · rw [if_neg c, if_neg c, X1_digitAt_in hP hi, bd_some]
    cases mX6_has (nI n) (h i - 48) with
    | none => rfl
    | some z =>
      rw [bd_some, bd_some]
      by_cases w : z = 0
      · rw [if_pos w, if_pos w, bd_some, if_pos rfl]
      · rw [if_neg w, if_neg w]
        cases mX5_join sf wp le ri to pc (nI d) y f (h i - 48) with
        | none => rfl
        | some q =>
          rw [bd_some, bd_some, bd_some]
          simp only [n10, if_false]
theorem kA0 (hP : Pd g h L) (k : kTA) {F i d : Nat} {y : Int32} {le ri to pc sf wp : Nat → Int32} (hi : i < L) (hd : d < 81) : mX5_readFrom_L26 g (nI L) f (nI n) k (F + 1) (nI i) (nI d) y 0 le ri to pc sf wp = if h i = 43 then mX5_readFrom_L26 g (nI L) f (nI n) k F (nI (i + 1)) (nI d) y 1 le ri to pc sf (upd wp d (nI i)) else if h i = 41 then (if d = 0 then some (nI i, sf, wp, le, ri, to, pc, nI d, y, 0) else bd (mX5_join sf wp le ri to pc (nI (d - 1)) y f (sf d)) (fun z => mX5_readFrom_L26 g (nI L) f (nI n) k F (nI (i + 1)) (nI (d - 1)) z.2.2.2.2.2 0 z.2.1 z.2.2.1 z.2.2.2.1 z.2.2.2.2.1 z.1 wp)) else some (nI i, sf, wp, le, ri, to, pc, nI d, y, 0) := by
  have hL := hP.1
  rw [mX5_readFrom_L26]
  unfold mX1_length mX5_takeJoint
  rw [bd_some, if_neg (nI_ge hi (by omega)), if_pos rfl, X1_signAt_in hP hi, bd_some, nI_1]
  by_cases c : h i = 43
  · rw [if_pos c, if_pos c, X9_put_ok hd (by omega), bd_some, bd_some]
    simp only [n10, if_false]
  · rw [if_neg c, if_neg c]
    by_cases c2 : h i = 41
    · rw [if_pos c2, if_pos c2]
      rcases Nat.eq_zero_or_pos d with q | q
      · subst q
        rw [if_neg (show ¬ (0 : Int32) < nI 0 by decide), if_pos rfl, bd_some, if_pos rfl]
      · rw [if_pos (show (0 : Int32) < nI d from nI_lt (a := 0) q (by omega)), if_neg (by omega), X9_get_ok hd (by omega), bd_some]
        have e1 : nI d - 1 = nI (d - 1) := by
          obtain ⟨e, rfl⟩ : ∃ e, d = e + 1 := ⟨d - 1, by omega⟩
          rw [nI_pred]; rfl
        rw [e1]
        cases mX5_join sf wp le ri to pc (nI (d - 1)) y f (sf d) with
        | none => rfl
        | some q =>
          rw [bd_some, bd_some, bd_some]
          simp only [n10, if_false]
    · rw [if_neg c2, if_neg c2, bd_some, if_pos rfl]
theorem kB1 (hP : Pd g h L) (k : kTB) {F i d : Nat} {v y : Int32} {S sm pl : Nat → Int32} (hi : i < L) (hd : d < 80) : mX10_sumFault_L18 s h (nI L) v k (F + 1) (nI i) 1 (nI d) y S sm pl = if h i = 40 then mX10_sumFault_L18 s h (nI L) v k F (nI (i + 1)) 1 (nI (d + 1)) y S sm (upd pl (d + 1) (-1)) else bd (mX10_isTokenAt s h (nI i)) (fun z => if z = 0 then some (nI i, S, y, v, sm, pl) else bd (mX10_comes s S y sm pl (nI d) (h i - 48)) (fun z => mX10_sumFault_L18 s h (nI L) v k F (nI (i + 1)) 0 (nI d) z.2.1 z.1 z.2.2 pl)) := by
  have hL := hP.1
  rw [mX10_sumFault_L18, if_neg (nI_ge hi (by omega))]
  simp only [n10, if_false, gd_t (inb_nI (show i < 80 by omega) (show 80 < 2 ^ 31 by omega)), nI_1, gd_t (inb_nI (show d + 1 < 81 by omega) (show 81 < 2 ^ 31 by omega)), nI_clamp (show i < 2 ^ 31 by omega), nI_clamp (show d + 1 < 2 ^ 31 by omega)]
theorem kB0 (hP : Pd g h L) (k : kTB) {F i d : Nat} {v y : Int32} {S sm pl : Nat → Int32} (hi : i < L) (hd : d < 81) : mX10_sumFault_L18 s h (nI L) v k (F + 1) (nI i) 0 (nI d) y S sm pl = if h i = 43 then mX10_sumFault_L18 s h (nI L) v k F (nI (i + 1)) 1 (nI d) y S sm (upd pl d (nI i)) else if h i = 41 then (if d = 0 then some (nI i, S, y, v, sm, pl) else bd (mX10_comes s S y sm pl (nI (d - 1)) (sm d)) (fun z => mX10_sumFault_L18 s h (nI L) v k F (nI (i + 1)) 0 (nI (d - 1)) z.2.1 z.1 z.2.2 pl)) else some (nI i, S, y, v, sm, pl) := by
  have hL := hP.1
  rw [mX10_sumFault_L18, if_neg (nI_ge hi (by omega))]
  simp only [if_true, gd_t (inb_nI (show i < 80 by omega) (show 80 < 2 ^ 31 by omega)), gd_t (inb_nI hd (show 81 < 2 ^ 31 by omega)), nI_clamp (show i < 2 ^ 31 by omega), nI_clamp (show d < 2 ^ 31 by omega), nI_1]
  by_cases c : h i = 43
  · rw [if_pos c, if_pos c]
  · rw [if_neg c, if_neg c]
    by_cases c2 : h i = 41
    · rw [if_pos c2, if_pos c2]
      rcases Nat.eq_zero_or_pos d with q | q
      · subst q
        rw [if_pos (show nI 0 ≤ (0 : Int32) by decide), if_pos rfl]
      · obtain ⟨e, rfl⟩ : ∃ e, d = e + 1 := ⟨d - 1, by omega⟩
        rw [if_neg (nI_nle (by omega) (by omega)), if_neg (by omega), ne1_sub, nI_1, gd_t (inb_nI hd (by omega)), nI_clamp (by omega)]; rfl
    · rw [if_neg c2, if_neg c2]
end SumText
