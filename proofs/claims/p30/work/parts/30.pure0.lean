/-! the pure side: small numbers, loops that count up, and the functions of the table -/
theorem l_8 : (8 : Int32) = nI 8 := rfl
theorem l_0 : (0 : Int32) = nI 0 := rfl
theorem l_1 : (1 : Int32) = nI 1 := rfl
theorem gd_t {α : Type} {b : Bool} {k : Option α} (h : b = true) : gd b k = k := by unfold gd; rw [if_pos h]
theorem bd_s {α β : Type} {o : Option α} {a : α} {k : α → Option β} (h : o = some a) : bd o k = k a := by subst h; rfl
theorem bd_some {α β : Type} (a : α) (k : α → Option β) : bd (some a) k = k a := rfl
theorem inb_nI {a N : Nat} (h : a < N) (hN : N < 2 ^ 31) : inb (nI a) N = true := by
  unfold inb
  rw [nI_toInt (by omega)]
  exact decide_eq_true ⟨by omega, by omega⟩
theorem nzb_nI {a : Nat} (h0 : 0 < a) (h : a < 2 ^ 31) : nzb (nI a) = true := by
  unfold nzb
  exact decide_eq_true (nI_ne0 h0 h)
theorem nbz_0 : nbz 0 = true := by decide
theorem nbz_1 : nbz 1 = true := by decide
/-- a loop that counts up, whose state is known at each count -/
theorem lp {α R : Type} (G : Nat → Int32 → α → Option R) (n i0 : Nat) (st : Nat → α) (hi : i0 ≤ n) (step : ∀ F i, i0 ≤ i → i < n → G (F + 1) (nI i) (st i) = G F (nI (i + 1)) (st (i + 1))) {F : Nat} (hF : n - i0 < F) : ∃ m, F = m + 1 + (n - i0) ∧ G F (nI i0) (st i0) = G (m + 1) (nI n) (st n) := by
  obtain ⟨m, hm⟩ : ∃ m, F = m + 1 + (n - i0) := ⟨F - 1 - (n - i0), by omega⟩
  refine ⟨m, hm, ?_⟩
  have key : ∀ d i, i + d = n → i0 ≤ i → G (m + 1 + d) (nI i) (st i) = G (m + 1) (nI n) (st n) := by
    intro d
    induction d with
    | zero => intro i h1 _; have : i = n := by omega
              subst this; rfl
    | succ d ih =>
      intro i h1 h2
      rw [show m + 1 + (d + 1) = (m + 1 + d) + 1 by omega, step _ i h2 (by omega)]
      exact ih (i + 1) (by omega) (by omega)
  rw [hm]
  exact key (n - i0) i0 (by omega) (Nat.le_refl _)
theorem lpU {α R : Type} (G : Nat → Int32 → α → Option R) (n i0 : Nat) (st : Nat → α) (hi : i0 ≤ n) (hn : n < 5000) (step : ∀ F i, i0 ≤ i → i < n → G (F + 1) (nI i) (st i) = G F (nI (i + 1)) (st (i + 1))) : ∃ m, G FU (nI i0) (st i0) = G (m + 1) (nI n) (st n) := by
  obtain ⟨m, -, h⟩ := lp G n i0 st hi step (F := FU) (by have := FU_ge; omega)
  exact ⟨m, h⟩
/-- the same for a loop that has no state but its count -/
theorem lpU0 {R : Type} (G : Nat → Int32 → Option R) (n i0 : Nat) (hi : i0 ≤ n) (hn : n < 5000) (step : ∀ F i, i0 ≤ i → i < n → G (F + 1) (nI i) = G F (nI (i + 1))) : ∃ m, G FU (nI i0) = G (m + 1) (nI n) := by
  obtain ⟨m, h⟩ := lpU (fun F x (_ : Unit) => G F x) n i0 (fun _ => ()) hi hn step
  exact ⟨m, h⟩
def cn (p : Nat → Bool) : Nat → Nat
  | 0 => 0
  | n + 1 => cn p n + (if p n then 1 else 0)
theorem cn_s (p : Nat → Bool) (n : Nat) : cn p (n + 1) = cn p n + (if p n then 1 else 0) := rfl
theorem cn_le (p : Nat → Bool) : ∀ n, cn p n ≤ n
  | 0 => Nat.le_refl _
  | n + 1 => by have := cn_le p n; rw [cn_s]; split <;> omega
theorem cn_congr {p q : Nat → Bool} : ∀ {n : Nat}, (∀ i, i < n → p i = q i) → cn p n = cn q n
  | 0, _ => rfl
  | n + 1, h => by rw [cn_s, cn_s, cn_congr (fun i hi => h i (by omega)), h n (by omega)]
def sm (f : Nat → Nat) : Nat → Nat
  | 0 => 0
  | n + 1 => sm f n + f n
theorem sm_s (f : Nat → Nat) (n : Nat) : sm f (n + 1) = sm f n + f n := rfl
theorem sm_congr {f g : Nat → Nat} : ∀ {n : Nat}, (∀ i, i < n → f i = g i) → sm f n = sm g n
  | 0, _ => rfl
  | n + 1, h => by rw [sm_s, sm_s, sm_congr (fun i hi => h i (by omega)), h n (by omega)]
theorem sm_bound {f : Nat → Nat} {c : Nat} : ∀ {n : Nat}, (∀ i, i < n → f i ≤ c) → sm f n ≤ n * c
  | 0, _ => by simp [sm]
  | n + 1, h => by
    have h1 := sm_bound (n := n) (fun i hi => h i (by omega))
    have h2 := h n (by omega)
    rw [sm_s, Nat.succ_mul]; omega
theorem sm_cn (p : Nat → Bool) : ∀ n, sm (fun i => if p i then 1 else 0) n = cn p n
  | 0 => rfl
  | n + 1 => by rw [sm_s, cn_s, sm_cn p n]
/-- the sums' table: n tokens, T a b their sums; the class holds it in rows of 8 -/
def Lat (n : Nat) (T : Nat → Nat → Nat) : Prop := 2 ≤ n ∧ n ≤ 8 ∧ (∀ a b, a < n → b < n → T a b < n) ∧ (∀ a b c, a < n → b < n → c < n → T a b = T a c → b = c) ∧ (∀ a b c, a < n → b < n → c < n → T b a = T c a → b = c)
def tF (n : Nat) (T : Nat → Nat → Nat) (f : Nat → Int32) : Prop := ∀ a b, a < n → b < n → f (8 * a + b) = nI (T a b)
/-- the reference holds it behind the number of tokens -/
def sF (n : Nat) (T : Nat → Nat → Nat) (s : Nat → Int32) : Prop := s 0 = nI n ∧ ∀ a b, a < n → b < n → s (1 + (8 * a + b)) = nI (T a b)
theorem at_ix (a b : Nat) : nI a * 8 + nI b = nI (8 * a + b) := by rw [l_8, pk_mul, nI_add]; congr 1; omega
theorem X9_get_ok {N : Nat} {f : Nat → Int32} {i : Nat} (h : i < N) (hN : N < 2 ^ 31) : mX9_get N f (nI i) = some (f i) := by
  unfold mX9_get
  rw [if_neg (nI_pos (by omega)), if_neg (show ¬ Int32.ofNat N ≤ nI i from nI_ge h hN), gd_t (inb_nI h hN), nI_clamp (by omega)]
theorem X9_put_ok {N : Nat} {f : Nat → Int32} {i : Nat} {x : Int32} (h : i < N) (hN : N < 2 ^ 31) : mX9_put N f (nI i) x = some (upd f i x) := by
  unfold mX9_put
  rw [if_neg (nI_pos (by omega)), if_neg (show ¬ Int32.ofNat N ≤ nI i from nI_ge h hN), gd_t (inb_nI h hN), nI_clamp (by omega)]
theorem X6_at_ix {f : Nat → Int32} {a b : Nat} (ha : a < 8) (hb : b < 8) : mX6_at f (nI a) (nI b) = some (f (8 * a + b)) := by
  unfold mX6_at
  rw [at_ix, if_neg (nI_pos (by omega)), if_neg (show ¬ (64 : Int32) ≤ nI (8 * a + b) from nI_ge (b := 64) (by omega) (by omega)), gd_t (inb_nI (by omega) (by omega)), nI_clamp (by omega)]
theorem X6_at_ok {n : Nat} {T : Nat → Nat → Nat} {f : Nat → Int32} (hn : n ≤ 8) (ht : tF n T f) {a b : Nat} (ha : a < n) (hb : b < n) : mX6_at f (nI a) (nI b) = some (nI (T a b)) := by
  rw [X6_at_ix (by omega) (by omega), ht a b ha hb]
theorem X6_size_ok {x : Int32} : mX6_size x = some x := rfl
theorem X6_has_ok {n a : Nat} (hn : n ≤ 8) (ha : a < 2 ^ 31) : mX6_has (nI n) (nI a) = some (if a < n then 1 else 0) := by
  unfold mX6_has
  rw [if_neg (nI_pos ha)]
  by_cases h : a < n
  · rw [if_neg (nI_ge h (by omega)), if_pos h]
  · rw [if_pos ((nI_leI (by omega) ha).mpr (by omega)), if_neg h]
theorem X6_set_ok {f : Nat → Int32} {a b : Nat} {x : Int32} (ha : a < 8) (hb : b < 8) : mX6_set f (nI a) (nI b) x = some (upd f (8 * a + b) x) := by
  unfold mX6_set
  rw [at_ix, X9_put_ok (by omega) (by omega), bd_some]
