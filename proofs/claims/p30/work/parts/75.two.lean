/-! two objects that are held against one ghost: what is told is the same, and they stay so -/
theorem lpI2 {α R : Type} (G H : Nat → Int32 → α → Option R) (n i0 : Nat) (I : Nat → α → α → Prop) (hi : i0 ≤ n) (hn : n < 5000) (step : ∀ F i a b, i0 ≤ i → i < n → I i a b → ∃ a' b', I (i + 1) a' b' ∧ G (F + 1) (nI i) a = G F (nI (i + 1)) a' ∧ H (F + 1) (nI i) b = H F (nI (i + 1)) b') (a0 b0 : α) (h0 : I i0 a0 b0) : ∃ m a b, I n a b ∧ G FU (nI i0) a0 = G (m + 1) (nI n) a ∧ H FU (nI i0) b0 = H (m + 1) (nI n) b := by
  have key : ∀ d i F a b, i + d = n → i0 ≤ i → d < F → I i a b → ∃ m a' b', I n a' b' ∧ G F (nI i) a = G (m + 1) (nI n) a' ∧ H F (nI i) b = H (m + 1) (nI n) b' := by
    intro d
    induction d with
    | zero =>
      intro i F a b h1 h2 h3 h4
      have : i = n := by omega
      subst this
      exact ⟨F - 1, a, b, h4, by rw [show F - 1 + 1 = F by omega], by rw [show F - 1 + 1 = F by omega]⟩
    | succ d ih =>
      intro i F a b h1 h2 h3 h4
      obtain ⟨F', rfl⟩ : ∃ F', F = F' + 1 := ⟨F - 1, by omega⟩
      obtain ⟨a1, b1, hb, e, e'⟩ := step F' i a b h2 (by omega) h4
      obtain ⟨m, a2, b2, hb2, d1, d2⟩ := ih (i + 1) F' a1 b1 (by omega) (by omega) (by omega) hb
      exact ⟨m, a2, b2, hb2, e.trans d1, e'.trans d2⟩
  exact key (n - i0) i0 FU a0 b0 (by omega) (Nat.le_refl _) (by have := FU_ge; omega) h0
theorem two_ite {α : Type} {R : α → α → Prop} {c : Prop} [Decidable c] {A A' B B' : Option α} (h1 : c → ∃ y w, A = some y ∧ B = some w ∧ R y w) (h2 : ¬ c → ∃ y w, A' = some y ∧ B' = some w ∧ R y w) : ∃ y w, (if c then A else A') = some y ∧ (if c then B else B') = some w ∧ R y w := by
  by_cases h : c
  · rw [if_pos h, if_pos h]; exact h1 h
  · rw [if_neg h, if_neg h]; exact h2 h
theorem two_bd {α β : Type} {R : β → β → Prop} {o o' : Option α} {a a' : α} {k k' : α → Option β} (e : o = some a) (e' : o' = some a') (h : ∃ y w, k a = some y ∧ k' a' = some w ∧ R y w) : ∃ y w, bd o k = some y ∧ bd o' k' = some w ∧ R y w := by
  rw [bd_s e, bd_s e']; exact h
theorem Sm_z {f s : Nat → Int32} {z : Int32} (h : Sm f z s) : z = s 0 := by
  obtain ⟨n, T, _, rfl, _, hs⟩ := h
  exact hs.1.symm
section Two
variable {m N : Nat} {s P h S : Nat → Int32} {f g k0 k1 k2 k3 pd : Nat → Int32} {z zg z0 z1 z2 z3 : Int32} {f' g' k0' k1' k2' k3' pd' : Nat → Int32} {z' zg' z0' z1' z2' z3' : Int32}
theorem rows_two (hS : Sm f z s) (hS' : Sm f' z' s) (hH : Hs m k0 z0 k1 z1 k2 z2 k3 z3 P) (hH' : Hs m k0' z0' k1' z1' k2' z2' k3' z3' P) (x y : Int32) : ∃ r fa za ga zga k0a z0a k1a z1a k2a z2a k3a z3a fb zb gb zgb k0b z0b k1b z1b k2b z2b k3b z3b s1 P1 m1, mX9_rows f z g zg k0 z0 k1 z1 k2 z2 k3 z3 (nI m) x y = some (r, fa, za, ga, zga, k0a, z0a, k1a, z1a, k2a, z2a, k3a, z3a, nI m1) ∧ mX9_rows f' z' g' zg' k0' z0' k1' z1' k2' z2' k3' z3' (nI m) x y = some (r, fb, zb, gb, zgb, k0b, z0b, k1b, z1b, k2b, z2b, k3b, z3b, nI m1) ∧ Sm fa za s1 ∧ Hs m1 k0a z0a k1a z1a k2a z2a k3a z3a P1 ∧ Sm fb zb s1 ∧ Hs m1 k0b z0b k1b z1b k2b z2b k3b z3b P1 := by
  obtain ⟨r, fa, za, ga, zga, k0a, z0a, k1a, z1a, k2a, z2a, k3a, z3a, m1, s1, o1, P1, e1, e2, hA, hB⟩ := rows_both (o := s) (g := g) (zg := zg) hS hH x y
  obtain ⟨r2, fb, zb, gb, zgb, k0b, z0b, k1b, z1b, k2b, z2b, k3b, z3b, m2, s2, o2, P2, d1, d2, hA', hB'⟩ := rows_both (o := s) (g := g') (zg := zg') hS' hH' x y
  have ee := Option.some.inj (e2.symm.trans d2)
  simp only [Prod.mk.injEq] at ee
  obtain ⟨rfl, rfl, rfl, rfl, em⟩ := ee
  have em := (nI_eq (by have := hB.1; omega) (by have := hB'.1; omega)).mp em
  subst em
  exact ⟨r, fa, za, ga, zga, k0a, z0a, k1a, z1a, k2a, z2a, k3a, z3a, fb, zb, gb, zgb, k0b, z0b, k1b, z1b, k2b, z2b, k3b, z3b, s1, P1, m1, e1, d1, hA, hB, hA', hB'⟩
theorem columns_two (hS : Sm f z s) (hS' : Sm f' z' s) (hH : Hs m k0 z0 k1 z1 k2 z2 k3 z3 P) (hH' : Hs m k0' z0' k1' z1' k2' z2' k3' z3' P) (x y : Int32) : ∃ r fa za ga zga k0a z0a k1a z1a k2a z2a k3a z3a fb zb gb zgb k0b z0b k1b z1b k2b z2b k3b z3b s1 P1 m1, mX9_columns f z g zg k0 z0 k1 z1 k2 z2 k3 z3 (nI m) x y = some (r, fa, za, ga, zga, k0a, z0a, k1a, z1a, k2a, z2a, k3a, z3a, nI m1) ∧ mX9_columns f' z' g' zg' k0' z0' k1' z1' k2' z2' k3' z3' (nI m) x y = some (r, fb, zb, gb, zgb, k0b, z0b, k1b, z1b, k2b, z2b, k3b, z3b, nI m1) ∧ Sm fa za s1 ∧ Hs m1 k0a z0a k1a z1a k2a z2a k3a z3a P1 ∧ Sm fb zb s1 ∧ Hs m1 k0b z0b k1b z1b k2b z2b k3b z3b P1 := by
  obtain ⟨r, fa, za, ga, zga, k0a, z0a, k1a, z1a, k2a, z2a, k3a, z3a, m1, s1, o1, P1, e1, e2, hA, hB⟩ := columns_both (o := s) (g := g) (zg := zg) hS hH x y
  obtain ⟨r2, fb, zb, gb, zgb, k0b, z0b, k1b, z1b, k2b, z2b, k3b, z3b, m2, s2, o2, P2, d1, d2, hA', hB'⟩ := columns_both (o := s) (g := g') (zg := zg') hS' hH' x y
  have ee := Option.some.inj (e2.symm.trans d2)
  simp only [Prod.mk.injEq] at ee
  obtain ⟨rfl, rfl, rfl, rfl, em⟩ := ee
  have em := (nI_eq (by have := hB.1; omega) (by have := hB'.1; omega)).mp em
  subst em
  exact ⟨r, fa, za, ga, zga, k0a, z0a, k1a, z1a, k2a, z2a, k3a, z3a, fb, zb, gb, zgb, k0b, z0b, k1b, z1b, k2b, z2b, k3b, z3b, s1, P1, m1, e1, d1, hA, hB, hA', hB'⟩
theorem names_two (hS : Sm f z s) (hS' : Sm f' z' s) (hH : Hs m k0 z0 k1 z1 k2 z2 k3 z3 P) (hH' : Hs m k0' z0' k1' z1' k2' z2' k3' z3' P) (x y : Int32) : ∃ r fa za ga zga k0a z0a k1a z1a k2a z2a k3a z3a fb zb gb zgb k0b z0b k1b z1b k2b z2b k3b z3b s1 P1 m1, mX9_names f z g zg k0 z0 k1 z1 k2 z2 k3 z3 (nI m) x y = some (r, fa, za, ga, zga, k0a, z0a, k1a, z1a, k2a, z2a, k3a, z3a, nI m1) ∧ mX9_names f' z' g' zg' k0' z0' k1' z1' k2' z2' k3' z3' (nI m) x y = some (r, fb, zb, gb, zgb, k0b, z0b, k1b, z1b, k2b, z2b, k3b, z3b, nI m1) ∧ Sm fa za s1 ∧ Hs m1 k0a z0a k1a z1a k2a z2a k3a z3a P1 ∧ Sm fb zb s1 ∧ Hs m1 k0b z0b k1b z1b k2b z2b k3b z3b P1 := by
  obtain ⟨r, fa, za, ga, zga, k0a, z0a, k1a, z1a, k2a, z2a, k3a, z3a, m1, s1, o1, P1, e1, e2, hA, hB⟩ := names_both (o := s) (g := g) (zg := zg) hS hH x y
  obtain ⟨r2, fb, zb, gb, zgb, k0b, z0b, k1b, z1b, k2b, z2b, k3b, z3b, m2, s2, o2, P2, d1, d2, hA', hB'⟩ := names_both (o := s) (g := g') (zg := zg') hS' hH' x y
  have ee := Option.some.inj (e2.symm.trans d2)
  simp only [Prod.mk.injEq] at ee
  obtain ⟨rfl, rfl, rfl, rfl, em⟩ := ee
  have em := (nI_eq (by have := hB.1; omega) (by have := hB'.1; omega)).mp em
  subst em
  exact ⟨r, fa, za, ga, zga, k0a, z0a, k1a, z1a, k2a, z2a, k3a, z3a, fb, zb, gb, zgb, k0b, z0b, k1b, z1b, k2b, z2b, k3b, z3b, s1, P1, m1, e1, d1, hA, hB, hA', hB'⟩
theorem begin_two (hS : Sm f z s) (hS' : Sm f' z' s) (hH : Hs m k0 z0 k1 z1 k2 z2 k3 z3 P) (hH' : Hs m k0' z0' k1' z1' k2' z2' k3' z3' P) (x y : Int32) : ∃ r fa za k0a z0a k1a z1a k2a z2a k3a z3a fb zb k0b z0b k1b z1b k2b z2b k3b z3b s1 P1 m1, mX9_begin f z k0 z0 k1 z1 k2 z2 k3 z3 (nI m) x y = some (r, fa, za, k0a, z0a, k1a, z1a, k2a, z2a, k3a, z3a, nI m1) ∧ mX9_begin f' z' k0' z0' k1' z1' k2' z2' k3' z3' (nI m) x y = some (r, fb, zb, k0b, z0b, k1b, z1b, k2b, z2b, k3b, z3b, nI m1) ∧ Sm fa za s1 ∧ Hs m1 k0a z0a k1a z1a k2a z2a k3a z3a P1 ∧ Sm fb zb s1 ∧ Hs m1 k0b z0b k1b z1b k2b z2b k3b z3b P1 := by
  obtain ⟨r, fa, za, k0a, z0a, k1a, z1a, k2a, z2a, k3a, z3a, m1, s1, o1, P1, e1, e2, hA, hB⟩ := begin_both (o := s) hS hH x y
  obtain ⟨r2, fb, zb, k0b, z0b, k1b, z1b, k2b, z2b, k3b, z3b, m2, s2, o2, P2, d1, d2, hA', hB'⟩ := begin_both (o := s) hS' hH' x y
  have ee := Option.some.inj (e2.symm.trans d2)
  simp only [Prod.mk.injEq] at ee
  obtain ⟨rfl, rfl, rfl, rfl, em⟩ := ee
  have em := (nI_eq (by have := hB.1; omega) (by have := hB'.1; omega)).mp em
  subst em
  exact ⟨r, fa, za, k0a, z0a, k1a, z1a, k2a, z2a, k3a, z3a, fb, zb, k0b, z0b, k1b, z1b, k2b, z2b, k3b, z3b, s1, P1, m1, e1, d1, hA, hB, hA', hB'⟩
theorem swap_two (hS : Sm f z s) (hS' : Sm f' z' s) (hH : Hs m k0 z0 k1 z1 k2 z2 k3 z3 P) (hH' : Hs m k0' z0' k1' z1' k2' z2' k3' z3' P) (x y v u : Int32) : ∃ r fa k0a z0a k1a z1a k2a z2a k3a z3a fb k0b z0b k1b z1b k2b z2b k3b z3b s1 P1 m1, mX9_swap f z k0 z0 k1 z1 k2 z2 k3 z3 (nI m) x y v u = some (r, fa, k0a, z0a, k1a, z1a, k2a, z2a, k3a, z3a, nI m1) ∧ mX9_swap f' z' k0' z0' k1' z1' k2' z2' k3' z3' (nI m) x y v u = some (r, fb, k0b, z0b, k1b, z1b, k2b, z2b, k3b, z3b, nI m1) ∧ Sm fa z s1 ∧ Hs m1 k0a z0a k1a z1a k2a z2a k3a z3a P1 ∧ Sm fb z' s1 ∧ Hs m1 k0b z0b k1b z1b k2b z2b k3b z3b P1 := by
  obtain ⟨r, fa, k0a, z0a, k1a, z1a, k2a, z2a, k3a, z3a, m1, s1, o1, P1, e1, e2, hA, hB⟩ := swap_both (o := s) hS hH x y v u
  obtain ⟨r2, fb, k0b, z0b, k1b, z1b, k2b, z2b, k3b, z3b, m2, s2, o2, P2, d1, d2, hA', hB'⟩ := swap_both (o := s) hS' hH' x y v u
  have ee := Option.some.inj (e2.symm.trans d2)
  simp only [Prod.mk.injEq] at ee
  obtain ⟨rfl, rfl, rfl, rfl, em⟩ := ee
  have em := (nI_eq (by have := hB.1; omega) (by have := hB'.1; omega)).mp em
  subst em
  exact ⟨r, fa, k0a, z0a, k1a, z1a, k2a, z2a, k3a, z3a, fb, k0b, z0b, k1b, z1b, k2b, z2b, k3b, z3b, s1, P1, m1, e1, d1, hA, hB, hA', hB'⟩
theorem undo_two (hS : Sm f z s) (hS' : Sm f' z' s) (hH : Hs m k0 z0 k1 z1 k2 z2 k3 z3 P) (hH' : Hs m k0' z0' k1' z1' k2' z2' k3' z3' P) : ∃ r fa za fb zb s1 m1, mX9_undo f z k0 z0 k1 z1 k2 z2 k3 z3 (nI m) = some (r, fa, za, nI m1) ∧ mX9_undo f' z' k0' z0' k1' z1' k2' z2' k3' z3' (nI m) = some (r, fb, zb, nI m1) ∧ Sm fa za s1 ∧ Hs m1 k0 z0 k1 z1 k2 z2 k3 z3 P ∧ Sm fb zb s1 ∧ Hs m1 k0' z0' k1' z1' k2' z2' k3' z3' P := by
  obtain ⟨r, fa, za, m1, s1, e1, e2, hA, hB⟩ := undo_both  hS hH 
  obtain ⟨r2, fb, zb, m2, s2, d1, d2, hA', hB'⟩ := undo_both  hS' hH' 
  have ee := Option.some.inj (e2.symm.trans d2)
  simp only [Prod.mk.injEq] at ee
  obtain ⟨rfl, rfl, em⟩ := ee
  have em := (nI_eq (by have := hB.1; omega) (by have := hB'.1; omega)).mp em
  subst em
  exact ⟨r, fa, za, fb, zb, s1, m1, e1, d1, hA, hB, hA', hB'⟩
theorem restore_two (hS : Sm f z s) (hS' : Sm f' z' s) (hH : Hs m k0 z0 k1 z1 k2 z2 k3 z3 P) (hH' : Hs m k0' z0' k1' z1' k2' z2' k3' z3' P) {b : Int32} (hb : b = 0 ∨ Sm g zg S) (hb' : b = 0 ∨ Sm g' zg' S) : ∃ r fa za k0a z0a k1a z1a k2a z2a k3a z3a fb zb k0b z0b k1b z1b k2b z2b k3b z3b s1 P1 m1, mX9_restore f z g zg k0 z0 k1 z1 k2 z2 k3 z3 (nI m) b = some (r, fa, za, k0a, z0a, k1a, z1a, k2a, z2a, k3a, z3a, nI m1) ∧ mX9_restore f' z' g' zg' k0' z0' k1' z1' k2' z2' k3' z3' (nI m) b = some (r, fb, zb, k0b, z0b, k1b, z1b, k2b, z2b, k3b, z3b, nI m1) ∧ Sm fa za s1 ∧ Hs m1 k0a z0a k1a z1a k2a z2a k3a z3a P1 ∧ Sm fb zb s1 ∧ Hs m1 k0b z0b k1b z1b k2b z2b k3b z3b P1 := by
  obtain ⟨r, fa, za, k0a, z0a, k1a, z1a, k2a, z2a, k3a, z3a, m1, s1, o1, P1, e1, e2, hA, hB⟩ := restore_both (o := s) hS hH hb 
  obtain ⟨r2, fb, zb, k0b, z0b, k1b, z1b, k2b, z2b, k3b, z3b, m2, s2, o2, P2, d1, d2, hA', hB'⟩ := restore_both (o := s) hS' hH' hb' 
  have ee := Option.some.inj (e2.symm.trans d2)
  simp only [Prod.mk.injEq] at ee
  obtain ⟨rfl, rfl, rfl, rfl, em⟩ := ee
  have em := (nI_eq (by have := hB.1; omega) (by have := hB'.1; omega)).mp em
  subst em
  exact ⟨r, fa, za, k0a, z0a, k1a, z1a, k2a, z2a, k3a, z3a, fb, zb, k0b, z0b, k1b, z1b, k2b, z2b, k3b, z3b, s1, P1, m1, e1, d1, hA, hB, hA', hB'⟩
theorem load_two (hS : Sm f z s) (hS' : Sm f' z' s) (hH : Hs m k0 z0 k1 z1 k2 z2 k3 z3 P) (hH' : Hs m k0' z0' k1' z1' k2' z2' k3' z3' P) (hP : Pd pd h N) (hP' : Pd pd' h N) : ∃ r fa za ta zta k0a z0a k1a z1a k2a z2a k3a z3a fb zb tb ztb k0b z0b k1b z1b k2b z2b k3b z3b s1 P1 m1 L1, mX9_load f z g k0 z0 k1 z1 k2 z2 k3 z3 (nI m) pd (nI N) = some (r, fa, za, ta, zta, k0a, z0a, k1a, z1a, k2a, z2a, k3a, z3a, nI m1, nI L1) ∧ mX9_load f' z' g' k0' z0' k1' z1' k2' z2' k3' z3' (nI m) pd' (nI N) = some (r, fb, zb, tb, ztb, k0b, z0b, k1b, z1b, k2b, z2b, k3b, z3b, nI m1, nI L1) ∧ Sm fa za s1 ∧ Hs m1 k0a z0a k1a z1a k2a z2a k3a z3a P1 ∧ Sm fb zb s1 ∧ Hs m1 k0b z0b k1b z1b k2b z2b k3b z3b P1 ∧ Pd pd h L1 ∧ Pd pd' h L1 := by
  obtain ⟨r, fa, za, ta, zta, k0a, z0a, k1a, z1a, k2a, z2a, k3a, z3a, m1, L1, s1, o1, P1, e1, e2, hA, hB, hQ⟩ := load_both (o := s) (tr := g) hS hH hP 
  obtain ⟨r2, fb, zb, tb, ztb, k0b, z0b, k1b, z1b, k2b, z2b, k3b, z3b, m2, L2, s2, o2, P2, d1, d2, hA', hB', hQ'⟩ := load_both (o := s) (tr := g') hS' hH' hP' 
  have ee := Option.some.inj (e2.symm.trans d2)
  simp only [Prod.mk.injEq] at ee
  obtain ⟨rfl, rfl, rfl, rfl, em, eL⟩ := ee
  have em := (nI_eq (by have := hB.1; omega) (by have := hB'.1; omega)).mp em
  subst em
  have eL := (nI_eq (by have := hQ.1; omega) (by have := hQ'.1; omega)).mp eL
  subst eL
  exact ⟨r, fa, za, ta, zta, k0a, z0a, k1a, z1a, k2a, z2a, k3a, z3a, fb, zb, tb, ztb, k0b, z0b, k1b, z1b, k2b, z2b, k3b, z3b, s1, P1, m1, L1, e1, d1, hA, hB, hA', hB', hQ, hQ'⟩
theorem best_two (hS : Sm f z s) (hS' : Sm f' z' s) (t : Nat → Int32) (zt l1 l2 l3 l4 l5 : Int32) (t' : Nat → Int32) (zt' l1' l2' l3' l4' l5' : Int32) (x : Int32) : ∃ r y w, mX9_best f z t zt l1 l2 l3 l4 l5 x = some (r, y) ∧ mX9_best f' z' t' zt' l1' l2' l3' l4' l5' x = some (r, w) := by
  obtain ⟨r, a1, a2, a3, a4, a5, a6, a7, e1, e2⟩ := best_both (g := t) (zg := zt) hS l1 l2 l3 l4 l5 x
  obtain ⟨r2, b1, b2, b3, b4, b5, b6, b7, d1, d2⟩ := best_both (g := t') (zg := zt') hS' l1' l2' l3' l4' l5' x
  have ee := Option.some.inj (e2.symm.trans d2)
  simp only [Prod.mk.injEq] at ee
  obtain ⟨rfl, -⟩ := ee
  exact ⟨r, _, _, e1, d1⟩
theorem save_two (hS : Sm f z s) (hS' : Sm f' z' s) : ∃ ga za gb zb G, mX9_save f z g = some (s 0, ga, za, 1) ∧ mX9_save f' z' g' = some (s 0, gb, zb, 1) ∧ Sm ga za G ∧ Sm gb zb G := by
  obtain ⟨ga, za, G, e1, e2, hA⟩ := save_both (g := g) (G := s) hS
  obtain ⟨gb, zb, G2, d1, d2, hB⟩ := save_both (g := g') (G := s) hS'
  have ee := Option.some.inj (e2.symm.trans d2)
  simp only [Prod.mk.injEq] at ee
  obtain ⟨-, rfl, -⟩ := ee
  exact ⟨ga, za, gb, zb, G, e1, d1, hA, hB⟩
theorem append_two (hP : Pd pd h N) (hP' : Pd pd' h N) (x : Int32) : ∃ r ga gb hh L1, mX9_append pd (nI N) x = some (r, ga, nI L1) ∧ mX9_append pd' (nI N) x = some (r, gb, nI L1) ∧ Pd ga hh L1 ∧ Pd gb hh L1 := by
  obtain ⟨r, ga, hh, L1, e1, e2, hA⟩ := append_both hP x
  obtain ⟨r2, gb, h2, L2, d1, d2, hB⟩ := append_both hP' x
  have ee := Option.some.inj (e2.symm.trans d2)
  simp only [Prod.mk.injEq] at ee
  obtain ⟨rfl, rfl, eL⟩ := ee
  have eL := (nI_eq (by have := hA.1; omega) (by have := hB.1; omega)).mp eL
  subst eL
  exact ⟨r, ga, gb, hh, L1, e1, d1, hA, hB⟩
theorem sum_two (hS : Sm f z s) (hS' : Sm f' z' s) (x y : Int32) : ∃ r, mX9_sum f z x y = some r ∧ mX9_sum f' z' x y = some r := by
  obtain ⟨r, e1, e2⟩ := sum_look hS x y
  obtain ⟨r2, d1, d2⟩ := sum_look hS' x y
  have ee := Option.some.inj (e2.symm.trans d2)
  subst ee
  exact ⟨r, e1, d1⟩
theorem count_two (hS : Sm f z s) (hS' : Sm f' z' s) (st len x : Int32) : ∃ r, mX9_count f z st len x = some r ∧ mX9_count f' z' st len x = some r := by
  obtain ⟨r, e1, e2⟩ := count_look hS st len x
  obtain ⟨r2, d1, d2⟩ := count_look hS' st len x
  have ee := Option.some.inj (e2.symm.trans d2)
  subst ee
  exact ⟨r, e1, d1⟩
theorem cnt0_is (f : Nat → Int32) (z st len : Int32) : mX9_count f z st len 0 = some z := by
  unfold mX9_count
  rw [if_pos rfl]; rfl
end Two
