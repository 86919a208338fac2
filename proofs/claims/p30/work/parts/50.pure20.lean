/-! in how many ways a part of the row comes to each token -/
def wy (R : Nat → Nat) (n : Nat) (T : Nat → Nat → Nat) : Nat → Nat → Nat → Nat → Nat
  | 0, _, _, _ => 0
  | d + 1, fr, len, t => if len ≤ 1 then (if R fr = t then 1 else 0) else sm (fun k => sm (fun x => sm (fun y => if T x y = t then wy R n T d fr (k + 1) x * wy R n T d (fr + (k + 1)) (len - (k + 1)) y else 0) n) n) (len - 1)
theorem wy_s (R : Nat → Nat) (n : Nat) (T : Nat → Nat → Nat) (d fr len t : Nat) : wy R n T (d + 1) fr len t = if len ≤ 1 then (if R fr = t then 1 else 0) else sm (fun k => sm (fun x => sm (fun y => if T x y = t then wy R n T d fr (k + 1) x * wy R n T d (fr + (k + 1)) (len - (k + 1)) y else 0) n) n) (len - 1) := rfl
theorem wy_more (R : Nat → Nat) (n : Nat) (T : Nat → Nat → Nat) : ∀ d fr len t, 1 ≤ len → len ≤ d → wy R n T (d + 1) fr len t = wy R n T d fr len t := by
  intro d
  induction d with
  | zero => intro fr len t h1 h2; omega
  | succ d ih =>
    intro fr len t h1 h2
    rw [wy_s R n T (d + 1), wy_s R n T d]
    by_cases q : len ≤ 1
    · rw [if_pos q, if_pos q]
    · rw [if_neg q, if_neg q]
      refine sm_congr (fun k hk => sm_congr (fun x _ => sm_congr (fun y _ => ?_)))
      rw [ih fr (k + 1) x (by omega) (by omega), ih (fr + (k + 1)) (len - (k + 1)) y (by omega) (by omega)]
/-- the ways of the part that starts at fr and has len tokens -/
def Wy (R : Nat → Nat) (n : Nat) (T : Nat → Nat → Nat) (fr len t : Nat) : Nat := wy R n T 8 fr len t
def cut (n : Nat) (T : Nat → Nat → Nat) (v : Nat → Nat → Nat → Nat) (a l k t : Nat) : Nat := sm (fun x => sm (fun y => if T x y = t then v a k x * v (a + k) (l - k) y else 0) n) n
theorem Wy_1 (R : Nat → Nat) (n : Nat) (T : Nat → Nat → Nat) (fr t : Nat) : Wy R n T fr 1 t = if R fr = t then 1 else 0 := by
  unfold Wy; rw [wy_s, if_pos (Nat.le_refl _)]
theorem Wy_2 (R : Nat → Nat) (n : Nat) (T : Nat → Nat → Nat) {fr len t : Nat} (h1 : 2 ≤ len) (h2 : len ≤ 7) : Wy R n T fr len t = sm (fun k => cut n T (Wy R n T) fr len (k + 1) t) (len - 1) := by
  have h : Wy R n T fr len t = sm (fun k => sm (fun x => sm (fun y => if T x y = t then wy R n T 7 fr (k + 1) x * wy R n T 7 (fr + (k + 1)) (len - (k + 1)) y else 0) n) n) (len - 1) := by
    unfold Wy; rw [wy_s, if_neg (by omega)]
  rw [h]
  refine sm_congr (fun k hk => sm_congr (fun x _ => sm_congr (fun y _ => ?_)))
  unfold Wy
  rw [wy_more R n T 7 fr (k + 1) x (by omega) (by omega), wy_more R n T 7 (fr + (k + 1)) (len - (k + 1)) y (by omega) (by omega)]
theorem nI_sub {a b : Nat} (h : b ≤ a) : nI a - nI b = nI (a - b) := by
  obtain ⟨c, rfl⟩ : ∃ c, a = c + b := ⟨a - b, by omega⟩
  rw [← nI_add, Int32.add_sub_cancel, show c + b - b = c by omega]
/-- cells that hold counts -/
def Cel (ix : Nat → Nat → Nat → Nat) (L n : Nat) (g : Nat → Int32) (v : Nat → Nat → Nat → Nat) : Prop := ∀ fr len t, 1 ≤ len → fr + len ≤ L → t < n → g (ix fr len t) = nI (v fr len t)
def Inj (ix : Nat → Nat → Nat → Nat) : Prop := ∀ a l z a' l' z', 1 ≤ l → a + l ≤ 7 → z < 8 → 1 ≤ l' → a' + l' ≤ 7 → z' < 8 → ix a l z = ix a' l' z' → a = a' ∧ l = l' ∧ z = z'
def gv (v : Nat → Nat → Nat → Nat) (a l : Nat) (b : Nat → Nat) : Nat → Nat → Nat → Nat := fun fr len t => if fr = a ∧ len = l then b t else v fr len t
theorem gv_in (v : Nat → Nat → Nat → Nat) (a l : Nat) (b : Nat → Nat) (t : Nat) : gv v a l b a l t = b t := if_pos ⟨rfl, rfl⟩
theorem gv_out (v : Nat → Nat → Nat → Nat) {a l fr len : Nat} (b : Nat → Nat) (t : Nat) (h : ¬ (fr = a ∧ len = l)) : gv v a l b fr len t = v fr len t := if_neg h
theorem Cel_step {ix : Nat → Nat → Nat → Nat} {L n : Nat} {g : Nat → Int32} {v : Nat → Nat → Nat → Nat} (hx : Inj ix) (hL : L ≤ 7) (hn : n ≤ 8) {a l z w : Nat} {b : Nat → Nat} (h1 : 1 ≤ l) (h2 : a + l ≤ L) (hz : z < n) (h : Cel ix L n g (gv v a l b)) : Cel ix L n (upd g (ix a l z) (nI (b z + w))) (gv v a l (fun t => b t + if z = t then w else 0)) := by
  intro fr len t h3 h4 h5
  by_cases q : fr = a ∧ len = l ∧ t = z
  · obtain ⟨rfl, rfl, rfl⟩ := q
    rw [upd_eq, gv_in, if_pos rfl]
  · rw [upd_ne _ _ (fun e => q (hx fr len t a l z h3 (by omega) (by omega) h1 (by omega) (by omega) e)), h fr len t h3 h4 h5]
    by_cases w : fr = a ∧ len = l
    · obtain ⟨rfl, rfl⟩ := w
      rw [gv_in, gv_in, if_neg (fun e => q ⟨rfl, rfl, e.symm⟩), Nat.add_zero]
    · rw [gv_out _ _ _ w, gv_out _ _ _ w]
theorem Cel_eq {ix : Nat → Nat → Nat → Nat} {L n : Nat} {g : Nat → Int32} {v v' : Nat → Nat → Nat → Nat} (h : Cel ix L n g v) (e : ∀ fr len t, 1 ≤ len → fr + len ≤ L → t < n → nI (v fr len t) = nI (v' fr len t)) : Cel ix L n g v' := fun fr len t h1 h2 h3 => (h fr len t h1 h2 h3).trans (e fr len t h1 h2 h3)
theorem nI_sm0 {f : Nat → Nat} {b : Nat} : ∀ {n : Nat}, (∀ i, i < n → nI (f i) = 0) → nI (b + sm f n) = nI b
  | 0, _ => rfl
  | n + 1, h => by
    rw [sm_s, ← Nat.add_assoc, ← nI_add, h n (by omega), Int32.add_zero]
    exact nI_sm0 (fun i hi => h i (by omega))
/-- what is known when the parts of less than l tokens, and those of l tokens that start before i, are done -/
def vG (R : Nat → Nat) (n : Nat) (T : Nat → Nat → Nat) (l i : Nat) : Nat → Nat → Nat → Nat := fun fr len t => if len < l ∨ (len = l ∧ fr < i) then Wy R n T fr len t else 0
theorem vG_gv {R : Nat → Nat} {n : Nat} {T : Nat → Nat → Nat} {l i : Nat} (fr len t : Nat) : gv (vG R n T l i) i l (fun t => Wy R n T i l t) fr len t = vG R n T l (i + 1) fr len t := by
  by_cases q : fr = i ∧ len = l
  · obtain ⟨rfl, rfl⟩ := q
    rw [gv_in]; unfold vG
    rw [if_pos (Or.inr ⟨rfl, by omega⟩)]
  · rw [gv_out _ _ _ q]; unfold vG
    by_cases w : len < l ∨ (len = l ∧ fr < i)
    · rw [if_pos w, if_pos (by omega)]
    · rw [if_neg w, if_neg (by omega)]
theorem vG_0 {R : Nat → Nat} {n : Nat} {T : Nat → Nat → Nat} {l i : Nat} (fr len t : Nat) : gv (vG R n T l i) i l (fun _ => 0) fr len t = vG R n T l i fr len t := by
  by_cases q : fr = i ∧ len = l
  · obtain ⟨rfl, rfl⟩ := q
    rw [gv_in]; unfold vG
    rw [if_neg (by omega)]
  · rw [gv_out _ _ _ q]
theorem vG_cut {R : Nat → Nat} {n : Nat} {T : Nat → Nat → Nat} {l i : Nat} (h1 : 2 ≤ l) (h2 : l ≤ 7) (t : Nat) : sm (fun k => cut n T (vG R n T l i) i l (k + 1) t) (l - 1) = Wy R n T i l t := by
  rw [Wy_2 R n T h1 h2]
  refine sm_congr (fun k hk => sm_congr (fun x _ => sm_congr (fun y _ => ?_)))
  unfold vG
  rw [if_pos (Or.inl (by omega)), if_pos (Or.inl (by omega))]
