/-! hangs: the inner loop, a row and a column -/
def orB (g : Nat → Nat) : Nat → Nat
  | 0 => 0
  | i + 1 => orB g i ||| 2 ^ g i
theorem orB_s (g : Nat → Nat) (i : Nat) : orB g (i + 1) = orB g i ||| 2 ^ g i := rfl
theorem orB_lt {g : Nat → Nat} {n : Nat} : ∀ {i : Nat}, (∀ j, j < i → g j < n) → orB g i < 2 ^ n
  | 0, _ => Nat.two_pow_pos n
  | i + 1, h => Nat.or_lt_two_pow (orB_lt (fun j hj => h j (by omega))) (Nat.pow_lt_pow_right (by omega) (h i (by omega)))
theorem orB_bit (g : Nat → Nat) (j : Nat) : ∀ i, (orB g i).testBit j = true ↔ ∃ b, b < i ∧ g b = j
  | 0 => ⟨fun h => (by rw [show orB g 0 = 0 from rfl, Nat.zero_testBit] at h; exact absurd h (by decide)), fun ⟨_, h, _⟩ => absurd h (Nat.not_lt_zero _)⟩
  | i + 1 => by
    rw [orB_s, Nat.testBit_or, Bool.or_eq_true, orB_bit g j i, Nat.testBit_two_pow, decide_eq_true_iff]
    constructor
    · rintro (⟨b, h1, h2⟩ | h)
      · exact ⟨b, by omega, h2⟩
      · exact ⟨i, by omega, h⟩
    · rintro ⟨b, h1, h2⟩
      rcases Nat.lt_or_ge b i with q | q
      · exact Or.inl ⟨b, q, h2⟩
      · have : b = i := by omega
        subst this
        exact Or.inr h2
theorem orB_all {g : Nat → Nat} {n : Nat} (h : ∀ i, i < n → g i < n) (h2 : ∀ i j, i < j → j < n → g i ≠ g j) : orB g n = 2 ^ n - 1 := by
  have hp := Nat.two_pow_pos n
  refine sub_as (sub_all (orB_lt h)) (fun j hj => ?_)
  have hlt : j < n := tb_lt (v := 2 ^ n - 1) (by omega) hj
  exact (orB_bit g j n).mpr (fb_onto h h2 hlt)
section Inner
variable {n : Nat} {T : Nat → Nat → Nat} {f : Nat → Int32}
theorem row_all (hL : Lat n T) {a : Nat} (ha : a < n) : orB (fun b => T a b) n = 2 ^ n - 1 :=
  orB_all (fun i hi => hL.2.2.1 a i ha hi) (fun i j hij hj e => by have := hL.2.2.2.1 a i j ha (by omega) hj e; omega)
theorem col_all (hL : Lat n T) {a : Nat} (ha : a < n) : orB (fun b => T b a) n = 2 ^ n - 1 :=
  orB_all (fun i hi => hL.2.2.1 i a hi ha) (fun i j hij hj e => by have := hL.2.2.2.2 a i j ha (by omega) hj e; omega)
theorem hangs_L54 (hL : Lat n T) (ht : tF n T f) {a : Nat} (ha : a < n) (k : Int32 → Int32 → Int32 → Option (Int32 × (Nat → Int32) × Int32 × Int32 × Int32 × Int32 × Int32 × Int32)) : mL_hangs_L54 f (nI n) (nI n) (nI a) k FU 0 0 0 = k (nI n) (nI (2 ^ n - 1)) (nI (2 ^ n - 1)) := by
  have h8 := hL.2.1
  have hp := p2_le h8
  have hT := hL.2.2.1
  obtain ⟨ρ, hρ⟩ := rtn_ex hL ha
  obtain ⟨N, n1, n2, n3, -, n4⟩ := X7_again_ok hL ht ha hρ
  have e8 := a_tok8 hL ht ha n4
  obtain ⟨m, e⟩ := lpU (fun F x (p : Int32 × Int32) => mL_hangs_L54 f (nI n) (nI n) (nI a) k F x p.1 p.2) n 0 (fun i => (nI (orB (fun b => T b a) i), nI (orB (fun b => T a b) i))) (by omega) (by omega) (fun F i _ hi => by
    have t1 := hT a i ha hi
    have t2 := hT i a hi ha
    obtain ⟨r1, r2⟩ := hρ i hi
    have r0 := r1.1
    obtain ⟨q, q1, q2⟩ := ret_ex hL false ha hi
    have q0 := q1.1
    have er : mX9_returns f (nI n) (nI i) (nI a) 1 = some (nI (ρ i)) := a_returns hL ht true ha hi r1 r2
    have eq : mX9_returns f (nI n) (nI i) (nI a) 0 = some (nI q) := a_returns hL ht false ha hi q1 q2
    have o1 : orB (fun b => T b a) i < 256 := Nat.lt_of_lt_of_le (orB_lt (fun j hj => hT j a (by omega) ha)) hp
    have o2 : orB (fun b => T a b) i < 256 := Nat.lt_of_lt_of_le (orB_lt (fun j hj => hT a j ha (by omega))) hp
    show mL_hangs_L54 _ _ _ _ _ (F + 1) _ _ _ = _
    rw [mL_hangs_L54]
    refine iq (nI_ge hi (by omega)) (bd_z (a_sum hL ht ha hi) (bd_z (a_sum hL ht hi ha) (iq (nI_pos (by omega)) (iq (nI_ge t1 (by omega)) (iq (nI_pos (by omega)) (iq (nI_ge t2 (by omega)) ?_))))))
    refine bd_z (show mX9_between f (nI n) (nI a) (nI (T a i)) 0 = some (nI i) from a_between hL ht false ha hi rfl) (ip rfl ?_)
    refine bd_z (show mX9_between f (nI n) (nI a) (nI (T i a)) 1 = some (nI i) from a_between hL ht true ha hi rfl) (ip rfl ?_)
    refine bd_z er (iq (nI_nlt (b := 1) (by omega) (by omega)) (bd_z er (iq (nI_nlt (by omega) (by omega)) (bd_z eq (iq (nI_nlt (by omega) (by omega)) (bd_z e8 (bd_z er (gd_z (nzb_nI (by omega) (by omega)) (ip ((rem_nI (by omega) (by omega) (by omega)).mpr (n3 i hi)) ?_)))))))))
    show mL_hangs_L54 _ _ _ _ _ F (nI i + 1) (nI (orB (fun b => T b a) i) ||| ((1 : Int32) <<< (nI (T i a) &&& 31))) (nI (orB (fun b => T a b) i) ||| ((1 : Int32) <<< (nI (T a i) &&& 31))) = _
    rw [nI_1, bt_or' o1 (by omega), bt_or' o2 (by omega)]; rfl)
  refine Eq.trans e ?_
  show mL_hangs_L54 _ _ _ _ _ (m + 1) _ _ _ = _
  rw [mL_hangs_L54]
  refine ip (nI_le (Nat.le_refl _) (by omega)) ?_
  show k (nI n) (nI (orB (fun b => T b a) n)) (nI (orB (fun b => T a b) n)) = _
  rw [row_all hL ha, col_all hL ha]
end Inner
