/-! ways, one by one: as many as the parts say -/
theorem sm_addf (f g : Nat → Nat) : ∀ n, sm (fun x => f x + g x) n = sm f n + sm g n
  | 0 => rfl
  | n + 1 => by rw [sm_s, sm_s, sm_s, sm_addf f g n]; omega
theorem sm_mul (c : Nat) (f : Nat → Nat) : ∀ n, c * sm f n = sm (fun x => c * f x) n
  | 0 => rfl
  | n + 1 => by rw [sm_s, sm_s, Nat.mul_add, sm_mul c f n]
theorem sm_zero : ∀ n, sm (fun _ => 0) n = 0
  | 0 => rfl
  | n + 1 => by rw [sm_s, sm_zero n]
theorem sm_pick (G : Nat → Nat) {z : Nat} : ∀ {n : Nat}, z < n → sm (fun x => (if z = x then 1 else 0) * G x) n = G z
  | 0, h => absurd h (Nat.not_lt_zero _)
  | n + 1, h => by
    rw [sm_s]
    by_cases q : z = n
    · subst q
      rw [if_pos rfl, Nat.one_mul, sm_congr (g := fun _ => 0) (fun x hx => by rw [if_neg (by omega), Nat.zero_mul]), sm_zero, Nat.zero_add]
    · rw [if_neg q, Nat.zero_mul, Nat.add_zero, sm_pick G (show z < n by omega)]
def hits (S : Nat → Nat) (A t : Nat) : Nat := sm (fun w => if S w = t then 1 else 0) A
theorem sm_hits (G S : Nat → Nat) {n : Nat} : ∀ {A : Nat}, (∀ a, a < A → S a < n) → sm (fun a => G (S a)) A = sm (fun x => hits S A x * G x) n
  | 0, _ => by
    rw [sm_congr (g := fun _ => 0) (n := n) (fun x _ => by show 0 * G x = 0; rw [Nat.zero_mul]), sm_zero]; rfl
  | A + 1, h => by
    rw [sm_s, sm_hits G S (A := A) (fun a ha => h a (by omega)), ← sm_pick (n := n) G (h A (by omega)), ← sm_addf]
    refine sm_congr (fun x _ => ?_)
    rw [← Nat.add_mul]; rfl
theorem sm_two (T : Nat → Nat → Nat) (S S' : Nat → Nat) {n A B : Nat} (h1 : ∀ a, a < A → S a < n) (h2 : ∀ b, b < B → S' b < n) (t : Nat) : sm (fun p => if T (S (p / B)) (S' (p % B)) = t then 1 else 0) (B * A) = sm (fun x => sm (fun y => if T x y = t then hits S A x * hits S' B y else 0) n) n := by
  rw [sm_flat, sm_congr (g := fun a => (fun x => sm (fun y => hits S' B y * (if T x y = t then 1 else 0)) n) (S a)) (fun a _ => ?_), sm_hits (fun x => sm (fun y => hits S' B y * (if T x y = t then 1 else 0)) n) S h1]
  · refine sm_congr (fun x _ => ?_)
    rw [sm_mul]
    refine sm_congr (fun y _ => ?_)
    by_cases q : T x y = t
    · rw [if_pos q, if_pos q, Nat.mul_one]
    · rw [if_neg q, if_neg q, Nat.mul_zero, Nat.mul_zero]
  · refine Eq.trans ?_ (sm_hits (fun y => if T (S a) y = t then 1 else 0) S' h2)
    refine sm_congr (fun b hb => ?_)
    have e1 : (B * a + b) / B = a := by rw [Nat.mul_comm]; exact (dm hb).1
    have e2 : (B * a + b) % B = b := by rw [Nat.mul_comm]; exact (dm hb).2
    rw [e1, e2]
/-- values in blocks, one behind the other -/
def blk (m : Nat → Nat) (Sv : Nat → Nat → Nat) : Nat → Nat → Nat
  | 0, _ => 0
  | K + 1, w => if w < sm m K then blk m Sv K w else Sv K (w - sm m K)
theorem blk_s (m : Nat → Nat) (Sv : Nat → Nat → Nat) (K w : Nat) : blk m Sv (K + 1) w = if w < sm m K then blk m Sv K w else Sv K (w - sm m K) := rfl
theorem sm_mono (m : Nat → Nat) {a : Nat} : ∀ {b : Nat}, a ≤ b → sm m a ≤ sm m b
  | 0, h => by have : a = 0 := by omega
               subst this; exact Nat.le_refl _
  | b + 1, h => by
    by_cases q : a = b + 1
    · subst q; exact Nat.le_refl _
    · have := sm_mono m (show a ≤ b by omega)
      rw [sm_s]; omega
theorem blk_at (m : Nat → Nat) (Sv : Nat → Nat → Nat) {k w : Nat} (h1 : sm m k ≤ w) (h2 : w < sm m (k + 1)) : ∀ {K : Nat}, k < K → blk m Sv K w = Sv k (w - sm m k)
  | 0, h => absurd h (Nat.not_lt_zero _)
  | K + 1, h => by
    rw [blk_s]
    by_cases q : k = K
    · subst q; rw [if_neg (by omega)]
    · have := sm_mono m (show k + 1 ≤ K by omega)
      rw [if_pos (by omega)]
      exact blk_at m Sv h1 h2 (by omega)
theorem blk_sum (m : Nat → Nat) (Sv : Nat → Nat → Nat) (F : Nat → Nat) : ∀ K, sm (fun w => F (blk m Sv K w)) (sm m K) = sm (fun k => sm (fun p => F (Sv k p)) (m k)) K
  | 0 => rfl
  | K + 1 => by
    rw [sm_s m, sm_add, sm_s, ← blk_sum m Sv F K]
    congr 1
    · exact sm_congr (fun w hw => by rw [blk_s, if_pos hw])
    · refine sm_congr (fun w hw => ?_)
      rw [blk_s, if_neg (by omega), show sm m K + w - sm m K = w by omega]
def cA (j : Nat) : Nat := ([0, 1, 1, 2, 5, 14, 42, 132] : List Nat).getD j 0
theorem cA_all : allB (fun j => decide (wA j = nI (cA j)) && decide (cA j ≤ 132)) 8 = true := by decide +kernel
theorem cA_pos : allB (fun j => decide (j < 1) || decide (0 < cA j)) 8 = true := by decide +kernel
theorem cA_sum : allB (fun len => decide (len < 2) || decide (sm (fun k => cA (len - (k + 1)) * cA (k + 1)) (len - 1) = cA len)) 8 = true := by decide +kernel
theorem wA_is {j : Nat} (hj : j < 8) : wA j = nI (cA j) ∧ cA j ≤ 132 := by
  have h := allB_iff.mp cA_all j hj
  rw [Bool.and_eq_true] at h
  exact ⟨of_decide_eq_true h.1, of_decide_eq_true h.2⟩
theorem cA_p {j : Nat} (h1 : 1 ≤ j) (hj : j < 8) : 0 < cA j := by
  have h := allB_iff.mp cA_pos j hj
  rw [decide_eq_false (show ¬ j < 1 by omega), Bool.false_or] at h
  exact of_decide_eq_true h
theorem cA_s {j : Nat} (h1 : 2 ≤ j) (hj : j < 8) : sm (fun k => cA (j - (k + 1)) * cA (k + 1)) (j - 1) = cA j := by
  have h := allB_iff.mp cA_sum j hj
  rw [decide_eq_false (show ¬ j < 2 by omega), Bool.false_or] at h
  exact of_decide_eq_true h
theorem X9_getT_ok {j : Nat} (hj : j < 8) : mX9_get_T (nI j) = some (nI (cA j)) := by
  unfold mX9_get_T
  rw [if_neg (nI_pos (by omega)), if_neg (show ¬ (8 : Int32) ≤ nI j from nI_ge (b := 8) hj (by omega)), gd_t (inb_nI hj (by omega)), nI_clamp (by omega), (wA_is hj).1]
section Ways
variable {n : Nat} {T : Nat → Nat → Nat} {f s h row : Nat → Int32} {R : Nat → Nat} {L : Nat}
/-- the class's value of each way of a part, by its number -/
theorem sumOfWay_ok (hLa : Lat n T) (ht : tF n T f) (hL : L ≤ 7) (hR : rowR n h L R) (hrow : rowIs row h L) : ∀ d fr len, 1 ≤ len → len ≤ d → fr + len ≤ L → ∃ S : Nat → Nat, (∀ w, w < cA len → S w < n ∧ mX3_sumOfWay 7 row f d (nI fr) (nI len) (nI w) = some (nI (S w))) ∧ ∀ t, t < n → hits S (cA len) t = Wy R n T fr len t := by
  have h8 := hLa.2.1
  intro d
  induction d with
  | zero => intro fr len h1 h2; omega
  | succ d ih =>
    intro fr len h1 h2 h3
    by_cases q : len = 1
    · subst q
      refine ⟨fun _ => R fr, fun w _ => ⟨(hR fr (by omega)).1, ?_⟩, fun t _ => ?_⟩
      · rw [mX3_sumOfWay, if_pos (show nI 1 ≤ (1 : Int32) by decide), X9_get_ok (by omega) (by omega), bd_some, hrow fr (by omega), (hR fr (by omega)).2]
      · rw [Wy_1]
        show sm (fun _ => if R fr = t then 1 else 0) 1 = _
        show 0 + (if R fr = t then 1 else 0) = _
        rw [Nat.zero_add]
    · have hS : ∀ k, ∃ S : Nat → Nat, k + 1 < len → ((∀ w, w < cA (k + 1) → S w < n ∧ mX3_sumOfWay 7 row f d (nI fr) (nI (k + 1)) (nI w) = some (nI (S w))) ∧ ∀ t, t < n → hits S (cA (k + 1)) t = Wy R n T fr (k + 1) t) := fun k => by
        by_cases w : k + 1 < len
        · obtain ⟨S, hS⟩ := ih fr (k + 1) (by omega) (by omega) (by omega)
          exact ⟨S, fun _ => hS⟩
        · exact ⟨fun _ => 0, fun v => absurd v w⟩
      have hS' : ∀ k, ∃ S : Nat → Nat, k + 1 < len → ((∀ w, w < cA (len - (k + 1)) → S w < n ∧ mX3_sumOfWay 7 row f d (nI (fr + (k + 1))) (nI (len - (k + 1))) (nI w) = some (nI (S w))) ∧ ∀ t, t < n → hits S (cA (len - (k + 1))) t = Wy R n T (fr + (k + 1)) (len - (k + 1)) t) := fun k => by
        by_cases w : k + 1 < len
        · obtain ⟨S, hS⟩ := ih (fr + (k + 1)) (len - (k + 1)) (by omega) (by omega) (by omega)
          exact ⟨S, fun _ => hS⟩
        · exact ⟨fun _ => 0, fun v => absurd v w⟩
      obtain ⟨SA, hSA⟩ := Classical.axiomOfChoice hS
      obtain ⟨SB, hSB⟩ := Classical.axiomOfChoice hS'
      have hm := cA_s (j := len) (by omega) (by omega)
      let m : Nat → Nat := fun k => cA (len - (k + 1)) * cA (k + 1)
      let Sv : Nat → Nat → Nat := fun k p => T (SA k (p / cA (len - (k + 1)))) (SB k (p % cA (len - (k + 1))))
      have hdiv : ∀ k p, k + 1 < len → p < m k → p / cA (len - (k + 1)) < cA (k + 1) ∧ p % cA (len - (k + 1)) < cA (len - (k + 1)) := fun k p hk hp => by
        have hp0 := cA_p (j := len - (k + 1)) (by omega) (by omega)
        exact ⟨(Nat.div_lt_iff_lt_mul hp0).mpr (by rw [Nat.mul_comm]; exact hp), Nat.mod_lt _ hp0⟩
      have hSv : ∀ k p, k + 1 < len → p < m k → Sv k p < n := fun k p hk hp => by
        obtain ⟨d1, d2⟩ := hdiv k p hk hp
        exact hLa.2.2.1 _ _ ((hSA k hk).1 _ d1).1 ((hSB k hk).1 _ d2).1
      have h132 := (wA_is (j := len) (by omega)).2
      refine ⟨blk m Sv (len - 1), fun w hw => ?_, fun t htn => ?_⟩
      · have key : ∀ e k F, k + e = len - 1 → e < F → sm m k ≤ w → (blk m Sv (len - 1) w < n ∧ mX3_sumOfWay_L24 (mX3_sumOfWay 7 row f d) f (nI fr) (nI len) (fun (x6_2 : Int32) (x5_3 : Int32) => some ((-4))) F (nI (k + 1)) (nI (w - sm m k)) = some (nI (blk m Sv (len - 1) w))) := by
          intro e
          induction e with
          | zero =>
            intro k F h4 h5 h6
            have : k = len - 1 := by omega
            subst this
            have : sm m (len - 1) = cA len := hm
            omega
          | succ e ihe =>
            intro k F h4 h5 h6
            obtain ⟨F, rfl⟩ : ∃ F1, F = F1 + 1 := ⟨F - 1, by omega⟩
            have b1 := (wA_is (j := k + 1) (by omega)).2
            have b2 := (wA_is (j := len - (k + 1)) (by omega)).2
            have b3 := cA_p (j := len - (k + 1)) (by omega) (by omega)
            have b4 : cA (k + 1) * cA (len - (k + 1)) ≤ 132 * 132 := Nat.mul_le_mul b1 b2
            have e1 : mX3_sumOfWay_L24 (mX3_sumOfWay 7 row f d) f (nI fr) (nI len) (fun (x6_2 : Int32) (x5_3 : Int32) => some ((-4))) (F + 1) (nI (k + 1)) (nI (w - sm m k)) = if nI (cA (k + 1) * cA (len - (k + 1))) ≤ nI (w - sm m k) then mX3_sumOfWay_L24 (mX3_sumOfWay 7 row f d) f (nI fr) (nI len) (fun (x6_2 : Int32) (x5_3 : Int32) => some ((-4))) F (nI (k + 1 + 1)) (nI (w - sm m k) - nI (cA (k + 1) * cA (len - (k + 1)))) else bd (mX3_sumOfWay 7 row f d (nI fr) (nI (k + 1)) (nI ((w - sm m k) / cA (len - (k + 1))))) (fun z_9 => bd (mX3_sumOfWay 7 row f d (nI (fr + (k + 1))) (nI (len - (k + 1))) (nI ((w - sm m k) % cA (len - (k + 1))))) (fun z_10 => bd (mX6_at f z_9 z_10) (fun z_11 => some z_11))) := by
              rw [mX3_sumOfWay_L24, if_neg (nI_ge (by omega) (by omega)), nI_sub (by omega), X9_getT_ok (by omega), bd_some, X9_getT_ok (by omega), bd_some, if_neg (nI_nle b3 (by omega)), pk_mul, gd_t (nzb_nI b3 (by omega)), pk_rem (by omega) b3 (by omega), pk_div (by omega) b3 (by omega), nI_add, nI_1 (k + 1)]
              simp only [gd_t (nzb_nI b3 (show cA (len - (k + 1)) < 2 ^ 31 by omega))]
            have hs1 : sm m (k + 1) = sm m k + cA (len - (k + 1)) * cA (k + 1) := rfl
            have hcm : cA (k + 1) * cA (len - (k + 1)) = cA (len - (k + 1)) * cA (k + 1) := Nat.mul_comm _ _
            by_cases c : cA (k + 1) * cA (len - (k + 1)) ≤ w - sm m k
            · rw [e1, if_pos (nI_le c (by omega)), nI_sub c]
              have := ihe (k + 1) F (by omega) (by omega) (by omega)
              rw [show w - sm m k - cA (k + 1) * cA (len - (k + 1)) = w - sm m (k + 1) by omega]
              exact this
            · have hb : blk m Sv (len - 1) w = Sv k (w - sm m k) := blk_at m Sv h6 (by omega) (by omega)
              have hp : w - sm m k < m k := by
                show w - sm m k < cA (len - (k + 1)) * cA (k + 1)
                omega
              obtain ⟨d1, d2⟩ := hdiv k _ (by omega) hp
              obtain ⟨a1, a2⟩ := (hSA k (by omega)).1 _ d1
              obtain ⟨a3, a4⟩ := (hSB k (by omega)).1 _ d2
              refine ⟨by rw [hb]; exact hSv k _ (by omega) hp, ?_⟩
              rw [e1, if_neg (nI_ge (by omega) (by omega)), a2, bd_some, a4, bd_some, X6_at_ok h8 ht a1 a3, bd_some, hb]
        have hF := FU_ge
        obtain ⟨k1, k2⟩ := key (len - 1) 0 FU (by omega) (by omega) (Nat.zero_le _)
        refine ⟨k1, ?_⟩
        rw [mX3_sumOfWay, if_neg (show ¬ nI len ≤ (1 : Int32) from nI_ge (a := 1) (by omega) (by omega)), if_pos (show nI len ≤ (7 : Int32) from nI_le (b := 7) (by omega) (by omega))]
        exact k2
      · rw [Wy_2 R n T (by omega) (by omega)]
        show sm (fun w => if blk m Sv (len - 1) w = t then 1 else 0) (cA len) = _
        rw [← hm]
        refine (blk_sum m Sv (fun v => if v = t then 1 else 0) (len - 1)).trans (sm_congr (fun k hk => ?_))
        have g1 := hSA k (by omega)
        have g2 := hSB k (by omega)
        refine (sm_two T (SA k) (SB k) (n := n) (fun a ha => (g1.1 a ha).1) (fun b hb => (g2.1 b hb).1) t).trans ?_
        refine sm_congr (fun x hx => sm_congr (fun y hy => ?_))
        rw [g1.2 x hx, g2.2 y hy]
theorem oneByOne_ok (hLa : Lat n T) (ht : tF n T f) (h1 : 1 ≤ L) (hL : L ≤ 7) (hR : rowR n h L R) (hrow : rowIs row h L) {tk : Nat} (htk : tk < n) : mX3_waysOneByOne row (nI L) f (nI tk) = some (nI (Wy R n T 0 L tk)) := by
  have h8 := hLa.2.1
  obtain ⟨S, hS1, hS2⟩ := sumOfWay_ok hLa ht hL hR hrow 8 0 L h1 (by omega) (by omega)
  have h132 := (wA_is (j := L) (by omega)).2
  unfold mX3_waysOneByOne
  rw [X9_getT_ok (by omega), bd_some, ← hS2 tk htk]
  obtain ⟨m, e⟩ := lpC (fun F x q => mX3_waysOneByOne_L17 row (nI L) f (nI tk) (nI (cA L)) (fun (x5_2 : Int32) (x4_3 : Int32) => some (x4_3)) F x q) (cA L) 0 (fun w => if S w = tk then 1 else 0) (by omega) (fun F i a hi => by
    obtain ⟨a1, a2⟩ := hS1 i hi
    show mX3_waysOneByOne_L17 _ _ _ _ _ _ (F + 1) _ _ = _
    rw [mX3_waysOneByOne_L17, if_neg (nI_ge hi (by omega)), show mX3_sumOfWay8 7 row f 0 (nI L) (nI i) = some (nI (S i)) from a2, bd_some, nI_1]
    by_cases q : S i = tk
    · rw [if_pos (by rw [q]), if_pos q, nI_1]
    · rw [if_neg (fun w => q ((nI_eq (by omega) (by omega)).mp w)), if_neg q]; rfl)
  refine Eq.trans e ?_
  show mX3_waysOneByOne_L17 _ _ _ _ _ _ (m + 1) _ _ = _
  rw [mX3_waysOneByOne_L17, if_pos (nI_le (Nat.le_refl _) (by omega)), Nat.zero_add]; rfl
end Ways
