/-! what is taken back; how many sums are different -/
def kzf (k0 k1 k2 k3 : Nat → Int32) : Nat → Nat → Int32
  | 0 => k0
  | 1 => k1
  | 2 => k2
  | _ => k3
def kzz (z0 z1 z2 z3 : Int32) : Nat → Int32
  | 0 => z0
  | 1 => z1
  | 2 => z2
  | _ => z3
/-- the state before the latest changes but j is this table -/
def Tp (m j : Nat) (k0 : Nat → Int32) (z0 : Int32) (k1 : Nat → Int32) (z1 : Int32) (k2 : Nat → Int32) (z2 : Int32) (k3 : Nat → Int32) (z3 : Int32) (n : Nat) (T : Nat → Nat → Nat) : Prop := j + 1 ≤ m ∧ kzz z0 z1 z2 z3 (m - 1 - j) = nI n ∧ tF n T (kzf k0 k1 k2 k3 (m - 1 - j))
theorem Tp_down {m : Nat} {k0 k1 k2 k3 : Nat → Int32} {z0 z1 z2 z3 : Int32} {n : Nat} {T : Nat → Nat → Nat} (h : Tp m 1 k0 z0 k1 z1 k2 z2 k3 z3 n T) : Tp (m - 1) 0 k0 z0 k1 z1 k2 z2 k3 z3 n T := ⟨by have := h.1; omega, h.2.1, h.2.2⟩
section Back
variable {n m : Nat} {T U : Nat → Nat → Nat} {f g k0 k1 k2 k3 : Nat → Int32} {z z0 z1 z2 z3 : Int32}
theorem rec_ok (hn : n ≤ 8) (hm : m ≤ 4) (ht : tF n T f) : ∃ k0' z0' k1' z1' k2' z2' k3' z3' m', mX0_record k0 z0 k1 z1 k2 z2 k3 z3 (nI m) f (nI n) = some (k0', z0', k1', z1', k2', z2', k3', z3', nI m') ∧ m' ≤ 4 ∧ Tp m' 0 k0' z0' k1' z1' k2' z2' k3' z3' n T ∧ ∀ n' U, Tp m 0 k0 z0 k1 z1 k2 z2 k3 z3 n' U → Tp m' 1 k0' z0' k1' z1' k2' z2' k3' z3' n' U := by
  have hc : ∀ h : Nat → Int32, tF n T (cpy 64 h f) := fun h => tF_cpy hn ht
  rcases (show m = 0 ∨ m = 1 ∨ m = 2 ∨ m = 3 ∨ m = 4 by omega) with rfl | rfl | rfl | rfl | rfl
  · refine ⟨cpy 64 k0 f, nI n, k1, z1, k2, z2, k3, z3, 1, ?_, by omega, ⟨by omega, rfl, hc k0⟩, fun n' U h => absurd h.1 (by omega)⟩
    unfold mX0_record
    rw [if_pos (show nI 0 = 0 from rfl)]
    unfold mX0_record_0 mX0_stateAt_0
    rw [bd_some, X6_copyFrom_ok]; rfl
  · refine ⟨k0, z0, cpy 64 k1 f, nI n, k2, z2, k3, z3, 2, ?_, by omega, ⟨by omega, rfl, hc k1⟩, fun n' U h => ⟨by omega, h.2.1, h.2.2⟩⟩
    unfold mX0_record
    rw [if_neg (show ¬ nI 1 = 0 by decide), if_pos (show nI 1 = 1 from rfl)]
    unfold mX0_record_1 mX0_stateAt_1
    rw [bd_some, X6_copyFrom_ok]; rfl
  · refine ⟨k0, z0, k1, z1, cpy 64 k2 f, nI n, k3, z3, 3, ?_, by omega, ⟨by omega, rfl, hc k2⟩, fun n' U h => ⟨by omega, h.2.1, h.2.2⟩⟩
    unfold mX0_record
    rw [if_neg (show ¬ nI 2 = 0 by decide), if_neg (show ¬ nI 2 = 1 by decide), if_pos (show nI 2 = 2 from rfl)]
    unfold mX0_record_2 mX0_stateAt_2
    rw [bd_some, X6_copyFrom_ok]; rfl
  · refine ⟨k0, z0, k1, z1, k2, z2, cpy 64 k3 f, nI n, 4, ?_, by omega, ⟨by omega, rfl, hc k3⟩, fun n' U h => ⟨by omega, h.2.1, h.2.2⟩⟩
    unfold mX0_record
    rw [if_neg (show ¬ nI 3 = 0 by decide), if_neg (show ¬ nI 3 = 1 by decide), if_neg (show ¬ nI 3 = 2 by decide), if_pos (show nI 3 = 3 from rfl)]
    unfold mX0_record_3 mX0_stateAt_3
    rw [bd_some, X6_copyFrom_ok]; rfl
  · refine ⟨k1, z1, k2, z2, k3, z3, cpy 64 k0 f, nI n, 4, ?_, by omega, ⟨by omega, rfl, hc k0⟩, fun n' U h => ⟨by omega, h.2.1, h.2.2⟩⟩
    unfold mX0_record
    rw [if_neg (show ¬ nI 4 = 0 by decide), if_neg (show ¬ nI 4 = 1 by decide), if_neg (show ¬ nI 4 = 2 by decide), if_neg (show ¬ nI 4 = 3 by decide), if_pos (show nI 4 = 4 from rfl)]
    unfold mX0_record_4 mX0_dropOldest_4 mX0_stateAt_0 mX0_stateAt_3
    simp only [bd_some, X6_copyFrom_ok]; rfl
theorem undo_ok (hn : n ≤ 8) (hm : m ≤ 4) (h : Tp m 0 k0 z0 k1 z1 k2 z2 k3 z3 n T) : ∃ f', mX9_undo f z k0 z0 k1 z1 k2 z2 k3 z3 (nI m) = some (nI (m - 1), f', nI n, nI (m - 1)) ∧ tF n T f' := by
  obtain ⟨h1, h2, h3⟩ := h
  unfold mX9_undo
  rcases (show m = 1 ∨ m = 2 ∨ m = 3 ∨ m = 4 by omega) with rfl | rfl | rfl | rfl
  · have h2 : z0 = nI n := h2
    subst h2
    refine ⟨cpy 64 f k0, ?_, tF_cpy hn h3⟩
    unfold mX0_takeBack
    rw [if_neg (show ¬ nI 1 = 0 by decide), if_pos (show nI 1 = 1 from rfl)]
    unfold mX0_takeBack_1 mX0_stateAt_0
    rw [bd_some, X6_copyFrom_ok]; rfl
  · have h2 : z1 = nI n := h2
    subst h2
    refine ⟨cpy 64 f k1, ?_, tF_cpy hn h3⟩
    unfold mX0_takeBack
    rw [if_neg (show ¬ nI 2 = 0 by decide), if_neg (show ¬ nI 2 = 1 by decide), if_pos (show nI 2 = 2 from rfl)]
    unfold mX0_takeBack_2 mX0_stateAt_1
    rw [bd_some, X6_copyFrom_ok]; rfl
  · have h2 : z2 = nI n := h2
    subst h2
    refine ⟨cpy 64 f k2, ?_, tF_cpy hn h3⟩
    unfold mX0_takeBack
    rw [if_neg (show ¬ nI 3 = 0 by decide), if_neg (show ¬ nI 3 = 1 by decide), if_neg (show ¬ nI 3 = 2 by decide), if_pos (show nI 3 = 3 from rfl)]
    unfold mX0_takeBack_3 mX0_stateAt_2
    rw [bd_some, X6_copyFrom_ok]; rfl
  · have h2 : z3 = nI n := h2
    subst h2
    refine ⟨cpy 64 f k3, ?_, tF_cpy hn h3⟩
    unfold mX0_takeBack
    rw [if_neg (show ¬ nI 4 = 0 by decide), if_neg (show ¬ nI 4 = 1 by decide), if_neg (show ¬ nI 4 = 2 by decide), if_neg (show ¬ nI 4 = 3 by decide), if_pos (show nI 4 = 4 from rfl)]
    unfold mX0_takeBack_4 mX0_stateAt_3
    rw [bd_some, X6_copyFrom_ok]; rfl
theorem chg_ok (hL : Lat n T) (hU : Lat n U) (ht : tF n T f) (hu : tF n U g) (hm : m ≤ 4) : ∃ f' k0' z0' k1' z1' k2' z2' k3' z3' m', mX9_changeToTrial f (nI n) g (nI n) k0 z0 k1 z1 k2 z2 k3 z3 (nI m) = some (nI (dif n T U), f', nI n, k0', z0', k1', z1', k2', z2', k3', z3', nI m') ∧ tF n U f' ∧ m' ≤ 4 ∧ Tp m' 0 k0' z0' k1' z1' k2' z2' k3' z3' n T ∧ ∀ n' V, Tp m 0 k0 z0 k1 z1 k2 z2 k3 z3 n' V → Tp m' 1 k0' z0' k1' z1' k2' z2' k3' z3' n' V := by
  obtain ⟨k0', z0', k1', z1', k2', z2', k3', z3', m', e1, h1, h2, h3⟩ := rec_ok (k0 := k0) (z0 := z0) (k1 := k1) (z1 := z1) (k2 := k2) (z2 := z2) (k3 := k3) (z3 := z3) hL.2.1 hm ht
  refine ⟨cpy 64 f g, k0', z0', k1', z1', k2', z2', k3', z3', m', ?_, tF_cpy hL.2.1 hu, h1, h2, h3⟩
  unfold mX9_changeToTrial
  exact bd_z (X6_differencesTo_ok hL.2.1 hL.2.2.1 hU.2.2.1 ht hu) (bd_z e1 (bd_z (X6_copyFrom_ok _ _ _) rfl))
theorem unl_yes (hL : Lat n T) {a b : Nat} (ha : a < n) (hb : b < n) (hab : a ≠ b) : mX9_areUnlikeTokens (nI n) (nI a) (nI b) = some 1 := by
  have h8 := hL.2.1
  unfold mX9_areUnlikeTokens
  exact iq (fun e => hab ((nI_eq (by omega) (by omega)).mp e)) (bd_z (has_in hL ha) (iq qn10 (bd_z (has_in hL hb) (iq qn10 rfl))))
theorem rows_ok (hL : Lat n T) (ht : tF n T f) (hm : m ≤ 4) (t : Nat → Int32) (zt : Int32) {a b : Nat} (ha : a < n) (hb : b < n) (hab : a ≠ b) : ∃ f' t' k0' z0' k1' z1' k2' z2' k3' z3' m', mX9_rows f (nI n) t zt k0 z0 k1 z1 k2 z2 k3 z3 (nI m) (nI a) (nI b) = some (nI (dif n T (rowX T a b)), f', nI n, t', nI n, k0', z0', k1', z1', k2', z2', k3', z3', nI m') ∧ tF n (rowX T a b) f' ∧ m' ≤ 4 ∧ Tp m' 0 k0' z0' k1' z1' k2' z2' k3' z3' n T ∧ ∀ n' V, Tp m 0 k0 z0 k1 z1 k2 z2 k3 z3 n' V → Tp m' 1 k0' z0' k1' z1' k2' z2' k3' z3' n' V := by
  obtain ⟨t', e1, ht'⟩ := X6_exchangeRows_ok hL.2.1 (tF_cpy (h := t) hL.2.1 ht) ha hb
  obtain ⟨f', k0', z0', k1', z1', k2', z2', k3', z3', m', e2, h1, h2, h3, h4⟩ := chg_ok (k0 := k0) (z0 := z0) (k1 := k1) (z1 := z1) (k2 := k2) (z2 := z2) (k3 := k3) (z3 := z3) hL (Lat_row hL ha hb) ht ht' hm
  refine ⟨f', t', k0', z0', k1', z1', k2', z2', k3', z3', m', ?_, h1, h2, h3, h4⟩
  unfold mX9_rows
  exact bd_z (unl_yes hL ha hb hab) (iq qn10 (bd_z (X6_copyFrom_ok _ _ _) (bd_z e1 (bd_z e2 rfl))))
theorem columns_ok (hL : Lat n T) (ht : tF n T f) (hm : m ≤ 4) (t : Nat → Int32) (zt : Int32) {a b : Nat} (ha : a < n) (hb : b < n) (hab : a ≠ b) : ∃ f' t' k0' z0' k1' z1' k2' z2' k3' z3' m', mX9_columns f (nI n) t zt k0 z0 k1 z1 k2 z2 k3 z3 (nI m) (nI a) (nI b) = some (nI (dif n T (colX T a b)), f', nI n, t', nI n, k0', z0', k1', z1', k2', z2', k3', z3', nI m') ∧ tF n (colX T a b) f' ∧ m' ≤ 4 ∧ Tp m' 0 k0' z0' k1' z1' k2' z2' k3' z3' n T ∧ ∀ n' V, Tp m 0 k0 z0 k1 z1 k2 z2 k3 z3 n' V → Tp m' 1 k0' z0' k1' z1' k2' z2' k3' z3' n' V := by
  obtain ⟨t', e1, ht'⟩ := X6_exchangeColumns_ok hL.2.1 (tF_cpy (h := t) hL.2.1 ht) ha hb
  obtain ⟨f', k0', z0', k1', z1', k2', z2', k3', z3', m', e2, h1, h2, h3, h4⟩ := chg_ok (k0 := k0) (z0 := z0) (k1 := k1) (z1 := z1) (k2 := k2) (z2 := z2) (k3 := k3) (z3 := z3) hL (Lat_col hL ha hb) ht ht' hm
  refine ⟨f', t', k0', z0', k1', z1', k2', z2', k3', z3', m', ?_, h1, h2, h3, h4⟩
  unfold mX9_columns
  exact bd_z (unl_yes hL ha hb hab) (iq qn10 (bd_z (X6_copyFrom_ok _ _ _) (bd_z e1 (bd_z e2 rfl))))
theorem names_ok (hL : Lat n T) (ht : tF n T f) (hm : m ≤ 4) (t : Nat → Int32) (zt : Int32) {a b : Nat} (ha : a < n) (hb : b < n) (hab : a ≠ b) : ∃ f' t' k0' z0' k1' z1' k2' z2' k3' z3' m', mX9_names f (nI n) t zt k0 z0 k1 z1 k2 z2 k3 z3 (nI m) (nI a) (nI b) = some (nI (dif n T (namX T a b)), f', nI n, t', nI n, k0', z0', k1', z1', k2', z2', k3', z3', nI m') ∧ tF n (namX T a b) f' ∧ m' ≤ 4 ∧ Tp m' 0 k0' z0' k1' z1' k2' z2' k3' z3' n T ∧ ∀ n' V, Tp m 0 k0 z0 k1 z1 k2 z2 k3 z3 n' V → Tp m' 1 k0' z0' k1' z1' k2' z2' k3' z3' n' V := by
  obtain ⟨t', e1, ht'⟩ := X6_exchangeNames_ok hL (tF_cpy (h := t) hL.2.1 ht) ha hb
  obtain ⟨f', k0', z0', k1', z1', k2', z2', k3', z3', m', e2, h1, h2, h3, h4⟩ := chg_ok (k0 := k0) (z0 := z0) (k1 := k1) (z1 := z1) (k2 := k2) (z2 := z2) (k3 := k3) (z3 := z3) hL (Lat_nam hL ha hb) ht ht' hm
  refine ⟨f', t', k0', z0', k1', z1', k2', z2', k3', z3', m', ?_, h1, h2, h3, h4⟩
  unfold mX9_names
  exact bd_z (unl_yes hL ha hb hab) (iq qn10 (bd_z (X6_copyFrom_ok _ _ _) (bd_z e1 (bd_z e2 rfl))))
theorem swap_ok (hL : Lat n T) (ht : tF n T f) (hm : m ≤ 4) {a b c d : Nat} (ha : a < n) (hb : b < n) (hc : c < n) (hd : d < n) (hab : a ≠ b) (hcd : c ≠ d) (hq : isSq T a b c d) : ∃ f' k0' z0' k1' z1' k2' z2' k3' z3' m', mX9_swap f (nI n) k0 z0 k1 z1 k2 z2 k3 z3 (nI m) (nI a) (nI b) (nI c) (nI d) = some (((1000 : Int32) + nI (assP (sqX T a b c d) n)) - nI (assP T n), f', k0', z0', k1', z1', k2', z2', k3', z3', nI m') ∧ tF n (sqX T a b c d) f' ∧ m' ≤ 4 ∧ Tp m' 0 k0' z0' k1' z1' k2' z2' k3' z3' n T ∧ ∀ n' V, Tp m 0 k0 z0 k1 z1 k2 z2 k3 z3 n' V → Tp m' 1 k0' z0' k1' z1' k2' z2' k3' z3' n' V := by
  obtain ⟨k0', z0', k1', z1', k2', z2', k3', z3', m', e1, h1, h2, h3⟩ := rec_ok (k0 := k0) (z0 := z0) (k1 := k1) (z1 := z1) (k2 := k2) (z2 := z2) (k3 := k3) (z3 := z3) hL.2.1 hm ht
  obtain ⟨f', e2, hf', _⟩ := X6_swapSquare_ok hL.2.1 ht ha hb hc hd hab
  refine ⟨f', k0', z0', k1', z1', k2', z2', k3', z3', m', ?_, hf', h1, h2, h3⟩
  have q1 := X6_isLittleSquare_ok hL ht ha hb hc hd
  rw [bI_and_1 hq] at q1
  unfold mX9_swap
  exact bd_z (unl_yes hL ha hb hab) (iq qn10 (bd_z (unl_yes hL hc hd hcd) (iq qn10 (bd_z q1 (iq qn10 (bd_z (X8_associatingTriples_ok hL ht) (bd_z e1 (bd_z e2 (bd_z (X8_associatingTriples_ok (Lat_sq hL ha hb hc hd hab hq) hf') rfl)))))))))
theorem sm_plus (u v : Nat → Nat) : ∀ k, sm (fun x => u x + v x) k = sm u k + sm v k
  | 0 => rfl
  | k + 1 => by rw [sm_s, sm_s, sm_s, sm_plus u v k]; omega
theorem sm_at (c : Nat) : ∀ {k a : Nat}, a < k → sm (fun x => if x = a then c else 0) k = c
  | 0, a, h => absurd h (Nat.not_lt_zero _)
  | k + 1, a, h => by
    rw [sm_s]
    by_cases q : k = a
    · subst q
      rw [if_pos rfl, sm_0.mpr (fun i hi => if_neg (by omega)), Nat.zero_add]
    · rw [if_neg q, sm_at c (show a < k by omega), Nat.add_zero]
theorem sm_pair2 {k a b : Nat} (c : Nat) (ha : a < k) (hb : b < k) (hab : a ≠ b) : sm (fun x => if x = a ∨ x = b then c else 0) k = 2 * c := by
  have e : sm (fun x => if x = a ∨ x = b then c else 0) k = sm (fun x => (if x = a then c else 0) + (if x = b then c else 0)) k := sm_congr (fun x _ => by
    by_cases q : x = a
    · rw [if_pos (Or.inl q), if_pos q, if_neg (by omega), Nat.add_zero]
    · by_cases w : x = b
      · rw [if_pos (Or.inr w), if_neg q, if_pos w]; omega
      · rw [if_neg (fun r => r.elim q w), if_neg q, if_neg w])
  rw [e, sm_plus, sm_at c ha, sm_at c hb]; omega
theorem sm_const (c : Nat) : ∀ k, sm (fun _ => c) k = k * c
  | 0 => by rw [Nat.zero_mul]; rfl
  | k + 1 => by rw [sm_s, sm_const c k, Nat.succ_mul]
theorem dif_row (hL : Lat n T) {a b : Nat} (ha : a < n) (hb : b < n) (hab : a ≠ b) : dif n T (rowX T a b) = 2 * n := by
  rw [← sm_pair2 n ha hb hab]
  unfold dif
  refine sm_congr (fun x hx => ?_)
  have hne : ∀ y, y < n → T a y ≠ T b y := fun y hy e => hab (hL.2.2.2.2 y a b hy ha hb e)
  by_cases q : x = a
  · subst q
    rw [if_pos (Or.inl rfl)]
    refine (sm_congr (fun y hy => ?_)).trans ((sm_const 1 n).trans (Nat.mul_one n))
    show (if T x y = T (sw x b x) y then 0 else 1) = 1
    rw [sw_a, if_neg (hne y hy)]
  · by_cases w : x = b
    · subst w
      rw [if_pos (Or.inr rfl)]
      refine (sm_congr (fun y hy => ?_)).trans ((sm_const 1 n).trans (Nat.mul_one n))
      show (if T x y = T (sw a x x) y then 0 else 1) = 1
      rw [sw_b, if_neg (fun e => hne y hy e.symm)]
    · rw [if_neg (fun r => r.elim q w)]
      refine sm_0.mpr (fun y hy => ?_)
      show (if T x y = T (sw a b x) y then 0 else 1) = 0
      rw [sw_o q w, if_pos rfl]
theorem dif_col (hL : Lat n T) {a b : Nat} (ha : a < n) (hb : b < n) (hab : a ≠ b) : dif n T (colX T a b) = 2 * n := by
  unfold dif
  refine (sm_congr (fun x hx => ?_)).trans ((sm_const 2 n).trans (Nat.mul_comm n 2))
  have hne : T x a ≠ T x b := fun e => hab (hL.2.2.2.1 x a b hx ha hb e)
  rw [← Nat.mul_one 2, ← sm_pair2 1 ha hb hab]
  refine sm_congr (fun y hy => ?_)
  show (if T x y = T x (sw a b y) then 0 else 1) = _
  by_cases q : y = a
  · subst q
    rw [if_pos (Or.inl rfl), sw_a, if_neg hne]
  · by_cases w : y = b
    · subst w
      rw [if_pos (Or.inr rfl), sw_b, if_neg (fun e => hne e.symm)]
    · rw [sw_o q w, if_pos rfl, if_neg (fun r => r.elim q w)]
theorem dif_le (n : Nat) (T U : Nat → Nat → Nat) : dif n T U ≤ n * n := by
  have h : dif n T U ≤ n * (n * 1) := sm_bound (fun a ha => sm_bound (fun b hb => by split <;> omega))
  rw [Nat.mul_one] at h
  exact h
theorem dif_nam (hL : Lat n T) {a b : Nat} (ha : a < n) (hab : a ≠ b) : 1 ≤ dif n T (namX T a b) := by
  have h0 : 0 < n := by have := hL.1; omega
  obtain ⟨y, hy, e⟩ := fb_onto (f := fun y => T 0 y) (fun i hi => hL.2.2.1 0 i h0 hi) (fun i j hij hj w => by have := hL.2.2.2.1 0 i j h0 (by omega) hj w; omega) ha
  have e : T 0 y = a := e
  have h1 : (fun b' => if T 0 b' = namX T a b 0 b' then 0 else 1) y ≤ sm (fun b' => if T 0 b' = namX T a b 0 b' then 0 else 1) n := sm_ge (g := fun b' => if T 0 b' = namX T a b 0 b' then 0 else 1) hy
  have h2 : (fun a' => sm (fun b' => if T a' b' = namX T a b a' b' then 0 else 1) n) 0 ≤ dif n T (namX T a b) := sm_ge (g := fun a' => sm (fun b' => if T a' b' = namX T a b a' b' then 0 else 1) n) h0
  have h3 : (fun b' => if T 0 b' = namX T a b 0 b' then 0 else 1) y = 1 := by
    show (if T 0 y = sw a b (T 0 y) then 0 else 1) = 1
    rw [e, sw_a, if_neg hab]
  rw [h3] at h1
  exact Nat.le_trans h1 h2
theorem sw_comm (a b x : Nat) : sw a b x = sw b a x := by
  unfold sw
  by_cases q : x = a
  · by_cases w : x = b
    · rw [if_pos q, if_pos w]; omega
    · rw [if_pos q, if_neg w, if_pos q]
  · by_cases w : x = b
    · rw [if_neg q, if_pos w, if_pos w]
    · rw [if_neg q, if_neg w, if_neg w, if_neg q]
theorem sq_back (T : Nat → Nat → Nat) (a b c d : Nat) : sqX (sqX T a b c d) b a d c = T := by
  refine Eq.trans ?_ (sqX_sqX T a b c d)
  funext x y
  show (if x = b ∨ x = a then sqX T a b c d x (sw d c y) else sqX T a b c d x y) = (if x = a ∨ x = b then sqX T a b c d x (sw c d y) else sqX T a b c d x y)
  rw [sw_comm d c y]
  by_cases q : x = a ∨ x = b
  · rw [if_pos q, if_pos q.symm]
  · rw [if_neg q, if_neg (fun w => q w.symm)]
theorem sq_turn {a b c d : Nat} (h : isSq T a b c d) : isSq T b a d c := ⟨h.1.symm, h.2.symm⟩
end Back
