/-! save, restore; a new table -/
theorem save_both {f s g G : Nat → Int32} {z : Int32} (hS : Sm f z s) : ∃ g' z' G', mX9_save f z g = some (s 0, g', z', 1) ∧ mX10_save s G = some (s 0, G', 1) ∧ Sm g' z' G' := by
  have hz : s 0 = z := by
    obtain ⟨n, T, hL, hz, ht, hs⟩ := hS
    rw [hz]; exact hs.1
  refine ⟨cpy 64 g f, z, cpy 65 G s, ?_, ?_, Sm_same (fun j hj => cpy_lt hj) (Sm_cpy hS)⟩
  · unfold mX9_save
    rw [X6_copyFrom_ok, bd_some, hz]; rfl
  · unfold mX10_save
    obtain ⟨r, e⟩ := lpU (fun F x q => mX10_save_L2 s (fun (x1_1 : Int32) (f_2 : Nat → Int32) => some ((s (0 : Int32).toNatClampNeg), f_2, 1)) F x q) 65 0 (fun i => cpy i G s) (by omega) (by omega) (fun F i _ hi => by
      show mX10_save_L2 _ _ (F + 1) _ _ = _
      rw [mX10_save_L2, if_neg (show ¬ (65 : Int32) ≤ nI i from nI_ge (b := 65) hi (by omega)), gd_t (inb_nI hi (by omega)), gd_t (inb_nI hi (by omega)), nI_clamp (by omega), nI_1, cpy_s])
    simp only [cpy_0] at e
    refine Eq.trans e ?_
    show mX10_save_L2 _ _ (r + 1) _ _ = _
    rw [mX10_save_L2, if_pos (show (65 : Int32) ≤ nI 65 from nI_le (a := 65) (Nat.le_refl _) (by omega))]; rfl
theorem restore_both {m : Nat} {f s o P g G k0 k1 k2 k3 : Nat → Int32} {z zg z0 z1 z2 z3 b : Int32} (hS : Sm f z s) (hH : Hs m k0 z0 k1 z1 k2 z2 k3 z3 P) (hb : b = 0 ∨ Sm g zg G) : ∃ r f' z' k0' z0' k1' z1' k2' z2' k3' z3' m' s' o' P', mX9_restore f z g zg k0 z0 k1 z1 k2 z2 k3 z3 (nI m) b = some (r, f', z', k0', z0', k1', z1', k2', z2', k3', z3', nI m') ∧ mX10_restore s o P (nI m) G b = some (r, s', o', P', nI m') ∧ Sm f' z' s' ∧ Hs m' k0' z0' k1' z1' k2' z2' k3' z3' P' := by
  by_cases h0 : b = 0
  · refine ⟨-2, f, z, k0, z0, k1, z1, k2, z2, k3, z3, m, s, o, P, ?_, ?_, hS, hH⟩
    · unfold mX9_restore; rw [if_pos h0]
    · unfold mX10_restore; rw [if_pos h0]
  · have hG : Sm g zg G := hb.resolve_left h0
    have hz : G 0 = zg := by
      obtain ⟨n, T, hL, hz, ht, hs⟩ := hG
      rw [hz]; exact hs.1
    obtain ⟨k0', z0', k1', z1', k2', z2', k3', z3', m', P', e1, e2, hH'⟩ := rec_both (o := o) hS hH
    refine ⟨zg, cpy 64 f g, zg, k0', z0', k1', z1', k2', z2', k3', z3', m', cpy 65 s G, cpy 65 o s, P', ?_, ?_, Sm_same (fun j hj => cpy_lt hj) (Sm_cpy hG), hH'⟩
    · unfold mX9_restore
      rw [if_neg h0, e1, bd_some, X6_copyFrom_ok, bd_some, X6_size_ok, bd_some]
    · unfold mX10_restore
      rw [if_neg h0, e2, bd_some]
      obtain ⟨r, e⟩ := lpU (fun F x q => mX10_restore_L16 G (fun (x1_2 : Int32) (f_3 : Nat → Int32) => some ((f_3 (0 : Int32).toNatClampNeg), f_3, cpy 65 o s, P', nI m')) F x q) 65 0 (fun i => cpy i s G) (by omega) (by omega) (fun F i _ hi => by
        show mX10_restore_L16 _ _ (F + 1) _ _ = _
        rw [mX10_restore_L16, if_neg (show ¬ (65 : Int32) ≤ nI i from nI_ge (b := 65) hi (by omega)), gd_t (inb_nI hi (by omega)), gd_t (inb_nI hi (by omega)), nI_clamp (by omega), nI_1, cpy_s])
      simp only [cpy_0] at e
      refine Eq.trans e ?_
      show mX10_restore_L16 _ _ (r + 1) _ _ = _
      rw [mX10_restore_L16, if_pos (show (65 : Int32) ≤ nI 65 from nI_le (a := 65) (Nat.le_refl _) (by omega)), ← hz]; rfl
def newT (n c : Nat) : Nat → Nat → Nat := fun a b => (c * a + b) % n
def newC (n c : Nat) : Bool := !(allB (fun d => decide (d < 2) || !(decide (n % d = 0) && decide (c % d = 0))) 9) || allB (fun a => allB (fun b => allB (fun e => decide (b = e) || (!(decide (newT n c a b = newT n c a e)) && !(decide (newT n c b a = newT n c e a)))) n) n) n
theorem newC_all : allB (fun n => allB (fun c => decide (n < 2) || decide (c < 1) || newC n c) 8) 9 = true := by decide +kernel
theorem newT_lat {n c : Nat} (h1 : 2 ≤ n) (h2 : n ≤ 8) (h3 : 1 ≤ c) (h4 : c ≤ 7) (hp : ∀ d, d < 9 → 2 ≤ d → ¬ (n % d = 0 ∧ c % d = 0)) {a b e : Nat} (ha : a < n) (hb : b < n) (he : e < n) : b = e ∨ (newT n c a b ≠ newT n c a e ∧ newT n c b a ≠ newT n c e a) := by
  have h := allB_iff.mp (allB_iff.mp newC_all n (by omega)) c (by omega)
  rw [decide_eq_false (show ¬ n < 2 by omega), decide_eq_false (show ¬ c < 1 by omega), Bool.false_or, Bool.false_or] at h
  unfold newC at h
  have hd : allB (fun d => decide (d < 2) || !(decide (n % d = 0) && decide (c % d = 0))) 9 = true := by
    refine allB_iff.mpr fun d hd => ?_
    by_cases q : d < 2
    · rw [decide_eq_true q]; rfl
    · have := hp d hd (by omega)
      rw [decide_eq_false q, Bool.false_or]
      by_cases w : n % d = 0
      · rw [decide_eq_false (show ¬ c % d = 0 from fun v => this ⟨w, v⟩), Bool.and_false]; rfl
      · rw [decide_eq_false w, Bool.false_and]; rfl
  rw [hd, Bool.not_true, Bool.false_or] at h
  have h5 := allB_iff.mp (allB_iff.mp (allB_iff.mp h a ha) b hb) e he
  rcases Bool.or_eq_true _ _ ▸ h5 with q | q
  · exact Or.inl (of_decide_eq_true q)
  · rw [Bool.and_eq_true, Bool.not_eq_true', Bool.not_eq_true'] at q
    exact Or.inr ⟨of_decide_eq_false q.1, of_decide_eq_false q.2⟩
theorem newT_Lat {n c : Nat} (h1 : 2 ≤ n) (h2 : n ≤ 8) (h3 : 1 ≤ c) (h4 : c ≤ 7) (hp : ∀ d, d < 9 → 2 ≤ d → ¬ (n % d = 0 ∧ c % d = 0)) : Lat n (newT n c) :=
  ⟨h1, h2, fun a b _ _ => Nat.mod_lt _ (by omega), fun a b e ha hb he q => (newT_lat h1 h2 h3 h4 hp ha hb he).elim id (fun w => absurd q w.1), fun a b e ha hb he q => (newT_lat h1 h2 h3 h4 hp ha hb he).elim id (fun w => absurd q w.2)⟩
theorem ca_lt {c a : Nat} (hc : c ≤ 7) (ha : a < 8) : c * a ≤ 49 := Nat.le_trans (Nat.mul_le_mul hc (show a ≤ 7 by omega)) (by omega)
theorem new_ix {n c a b : Nat} (h1 : 2 ≤ n) (h2 : n ≤ 8) (h4 : c ≤ 7) (ha : a < 8) (hb : b < 8) : (nI c * nI a + nI b) - (nI c * nI a + nI b) / nI n * nI n = nI (newT n c a b) := by
  have := ca_lt h4 ha
  rw [pk_mul, nI_add, pk_rem (by omega) (by omega) (by omega)]; rfl
theorem X6_makeNew_ok {n c : Nat} {f : Nat → Int32} {z : Int32} (h1 : 2 ≤ n) (h2 : n ≤ 8) (h4 : c ≤ 7) : ∃ g, mX6_makeNew f z (nI n) (nI c) = some (g, nI n) ∧ tF n (newT n c) g := by
  unfold mX6_makeNew
  rw [if_pos (show (0 : Int32) < nI n from nI_lt (a := 0) (by omega) (by omega))]
  obtain ⟨m, g, hg, e⟩ := lpI (fun F y g => mX6_makeNew_L12 (nI n) (nI c) (fun (x3_1 : Int32) (f_2 : Nat → Int32) => some (f_2, nI n)) F y g) n 0 (fun i g => ∀ x y, x < n → y < n → x < i → g (8 * x + y) = nI (newT n c x y)) (by omega) (by omega) (fun F i g _ hi hI => by
    obtain ⟨m, g', hg', e'⟩ := lpI (fun F2 y g => mX6_makeNew_L23 (nI n) (nI c) (nI i) (fun (x4_6 : Int32) (f_7 : Nat → Int32) => mX6_makeNew_L12 (nI n) (nI c) (fun (x3_1 : Int32) (f_2 : Nat → Int32) => some (f_2, nI n)) F (nI (i + 1)) f_7) F2 y g) n 0 (fun j g => ∀ x y, x < n → y < n → (x < i ∨ (x = i ∧ y < j)) → g (8 * x + y) = nI (newT n c x y)) (by omega) (by omega) (fun F2 j g _ hj hJ => by
      refine ⟨upd g (8 * i + j) (nI (newT n c i j)), fun x y hx hy h => ?_, ?_⟩
      · by_cases q : x = i ∧ y = j
        · obtain ⟨rfl, rfl⟩ := q
          rw [upd_eq]
        · rw [upd_ne _ _ (ix_ne (by omega) (by omega) q)]
          exact hJ x y hx hy (by omega)
      · show mX6_makeNew_L23 _ _ _ _ (F2 + 1) _ _ = _
        rw [mX6_makeNew_L23, if_neg (nI_ge hj (by omega)), gd_t (nzb_nI (by omega) (by omega)), new_ix h1 h2 h4 (by omega) (by omega), X6_set_ok (by omega) (by omega), bd_some, nI_1]) g (fun x y hx hy h => hI x y hx hy (by omega))
    refine ⟨g', fun x y hx hy h => hg' x y hx hy (by omega), ?_⟩
    show mX6_makeNew_L12 _ _ _ (F + 1) _ _ = _
    rw [mX6_makeNew_L12, if_neg (nI_ge hi (by omega)), nI_1]
    refine Eq.trans e' ?_
    show mX6_makeNew_L23 _ _ _ _ (m + 1) _ _ = _
    rw [mX6_makeNew_L23, if_pos (nI_le (Nat.le_refl _) (by omega))]) f (fun x y hx hy h => by omega)
  refine ⟨g, ?_, fun x y hx hy => hg x y hx hy hx⟩
  refine Eq.trans e ?_
  show mX6_makeNew_L12 _ _ _ (m + 1) _ _ = _
  rw [mX6_makeNew_L12, if_pos (nI_le (Nat.le_refl _) (by omega))]
theorem m_lays {n c : Nat} {s : Nat → Int32} (h1 : 2 ≤ n) (h2 : n ≤ 8) (h4 : c ≤ 7) : ∃ g, mX10_lays s (nI n) (nI c) = some g ∧ sF n (newT n c) g := by
  unfold mX10_lays
  obtain ⟨m, g, ⟨hg0, hg⟩, e⟩ := lpI (fun F y g => mX10_lays_L9 (nI n) (nI c) (fun (x3_1 : Int32) (f_2 : Nat → Int32) => some (f_2)) F y g) 8 0 (fun i g => g 0 = nI n ∧ ∀ x y, x < n → y < n → x < i → g (1 + (8 * x + y)) = nI (newT n c x y)) (by omega) (by omega) (fun F i g _ hi ⟨hI0, hI⟩ => by
    obtain ⟨m, g', ⟨hg0', hg'⟩, e'⟩ := lpI (fun F2 y g => mX10_lays_L18 (nI n) (nI c) (nI i) (fun (x4_6 : Int32) (f_7 : Nat → Int32) => mX10_lays_L9 (nI n) (nI c) (fun (x3_1 : Int32) (f_2 : Nat → Int32) => some (f_2)) F (nI (i + 1)) f_7) F2 y g) 8 0 (fun j g => g 0 = nI n ∧ ∀ x y, x < n → y < n → (x < i ∨ (x = i ∧ y < j)) → g (1 + (8 * x + y)) = nI (newT n c x y)) (by omega) (by omega) (fun F2 j g _ hj ⟨hJ0, hJ⟩ => by
      have hK : ∀ v, (i < n → j < n → v = nI (newT n c i j)) → upd g (1 + (8 * i + j)) v 0 = nI n ∧ ∀ x y, x < n → y < n → (x < i ∨ (x = i ∧ y < j + 1)) → upd g (1 + (8 * i + j)) v (1 + (8 * x + y)) = nI (newT n c x y) := by
        intro v hv
        refine ⟨by rw [upd_ne _ _ (by omega)]; exact hJ0, fun x y hx hy h => ?_⟩
        by_cases q : x = i ∧ y = j
        · obtain ⟨rfl, rfl⟩ := q
          rw [upd_eq]; exact hv hx hy
        · rw [upd_ne _ _ (jx_ne (by omega) (by omega) q)]
          exact hJ x y hx hy (by omega)
      have hstep : ∀ k, mX10_lays_L18 (nI n) (nI c) (nI i) k (F2 + 1) (nI j) g = if n ≤ i then mX10_lays_L18 (nI n) (nI c) (nI i) k F2 (nI (j + 1)) (upd g (1 + (8 * i + j)) 0) else if n ≤ j then mX10_lays_L18 (nI n) (nI c) (nI i) k F2 (nI (j + 1)) (upd g (1 + (8 * i + j)) 0) else mX10_lays_L18 (nI n) (nI c) (nI i) k F2 (nI (j + 1)) (upd g (1 + (8 * i + j)) (nI (newT n c i j))) := by
        intro k
        rw [mX10_lays_L18, if_neg (show ¬ (8 : Int32) ≤ nI j from nI_ge (b := 8) hj (by omega)), m_at, bd_some, nI_1]
        by_cases q : n ≤ i
        · rw [if_pos (nI_le q (by omega)), if_pos q, gd_t (inb_nI (by omega) (by omega)), nI_clamp (by omega)]
        · rw [if_neg (nI_ge (by omega) (by omega)), if_neg q]
          by_cases w : n ≤ j
          · rw [if_pos (nI_le w (by omega)), if_pos w, gd_t (inb_nI (by omega) (by omega)), nI_clamp (by omega)]
          · rw [if_neg (nI_ge (by omega) (by omega)), if_neg w, gd_t (nzb_nI (by omega) (by omega)), gd_t (inb_nI (by omega) (by omega)), nI_clamp (by omega), new_ix h1 h2 h4 (by omega) (by omega)]
      by_cases q : n ≤ i
      · refine ⟨_, hK 0 (fun h _ => by omega), ?_⟩
        show mX10_lays_L18 _ _ _ _ (F2 + 1) _ _ = _
        rw [hstep, if_pos q]
      · by_cases w : n ≤ j
        · refine ⟨_, hK 0 (fun _ h => by omega), ?_⟩
          show mX10_lays_L18 _ _ _ _ (F2 + 1) _ _ = _
          rw [hstep, if_neg q, if_pos w]
        · refine ⟨_, hK _ (fun _ _ => rfl), ?_⟩
          show mX10_lays_L18 _ _ _ _ (F2 + 1) _ _ = _
          rw [hstep, if_neg q, if_neg w]) g ⟨hI0, fun x y hx hy h => hI x y hx hy (by omega)⟩
    refine ⟨g', ⟨hg0', fun x y hx hy h => hg' x y hx hy (by omega)⟩, ?_⟩
    show mX10_lays_L9 _ _ _ (F + 1) _ _ = _
    rw [mX10_lays_L9, if_neg (show ¬ (8 : Int32) ≤ nI i from nI_ge (b := 8) hi (by omega)), nI_1]
    refine Eq.trans e' ?_
    show mX10_lays_L18 _ _ _ _ (m + 1) _ _ = _
    rw [mX10_lays_L18, if_pos (show (8 : Int32) ≤ nI 8 from nI_le (a := 8) (Nat.le_refl _) (by omega))]) (upd s 0 (nI n)) ⟨upd_eq _ _ _, fun x y hx hy h => by omega⟩
  refine ⟨g, ?_, hg0, fun x y hx hy => hg x y hx hy (by omega)⟩
  refine Eq.trans e ?_
  show mX10_lays_L9 _ _ _ (m + 1) _ _ = _
  rw [mX10_lays_L9, if_pos (show (8 : Int32) ≤ nI 8 from nI_le (a := 8) (Nat.le_refl _) (by omega))]
