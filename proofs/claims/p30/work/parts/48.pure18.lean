/-! a sum with brackets: both readings go side by side -/
section SumText2
variable {n : Nat} {T : Nat → Nat → Nat} {f s g h : Nat → Int32} {L : Nat}
def SJ (n i d st : Nat) (W : Bool) (le ri to pc sf wp S sm pl : Nat → Int32) : Prop := d ≤ i ∧ st ≤ i ∧ (∀ l, l < d → LR n sf wp sm pl l) ∧ (W = true → LR n sf wp sm pl d) ∧ (W = false → ∃ a, a < n ∧ sf d = nI a ∧ sm d = nI a) ∧ StR st le ri to pc S
theorem LR_same {sf wp sm pl sf' wp' sm' pl' : Nat → Int32} {l : Nat} (e1 : sf' l = sf l) (e2 : wp' l = wp l) (e3 : sm' l = sm l) (e4 : pl' l = pl l) (hl : LR n sf wp sm pl l) : LR n sf' wp' sm' pl' l := by
  rcases hl with ⟨h1, h2⟩ | ⟨a, p, h1, h2, h3, h4, h5, h6⟩
  · exact Or.inl ⟨e1.trans h1, e4.trans h2⟩
  · exact Or.inr ⟨a, p, h1, h2, e1.trans h3, e3.trans h4, e2.trans h5, e4.trans h6⟩
/-- how the two readings end: both find no fault (and the value and the steps are the same), or both find the same fault -/
def SE (n : Nat) (A : Option (Int32 × (Nat → Int32) × (Nat → Int32) × (Nat → Int32) × (Nat → Int32) × (Nat → Int32) × (Nat → Int32) × Int32 × Int32 × Int32)) (B : Option (Int32 × (Nat → Int32) × Int32 × Int32 × (Nat → Int32) × (Nat → Int32))) : Prop :=
  (∃ sf wp le ri to pc st S sm pl d w a, A = some (-4, sf, wp, le, ri, to, pc, d, nI st, w) ∧ B = some (-1, S, nI st, nI a, sm, pl) ∧ st ≤ 80 ∧ sf 0 = nI a ∧ StR st le ri to pc S) ∨ (∃ k sf wp le ri to pc y1 S sm pl d w y2 v, k < 81 ∧ A = some (nI k, sf, wp, le, ri, to, pc, d, y1, w) ∧ B = some (nI k, S, y2, v, sm, pl))
theorem sum_both (hL : Lat n T) (ht : tF n T f) (hs : sF n T s) (hP : Pd g h L) (sf wp le ri to pc S sm pl : Nat → Int32) (v : Int32) : SE n (mX5_readFrom sf wp le ri to pc g (nI L) f (nI n)) (mX10_sumFault s h (nI L) S v sm pl) := by
  have h80 := hP.1
  have h8 := hL.2.1
  unfold mX5_readFrom mX10_sumFault
  rw [show mX9_put 81 sf 0 (-1) = some (upd sf 0 (-1)) from X9_put_ok (i := 0) (by omega) (by omega), bd_some]
  generalize hkA : (fun (x3_2 : Int32) (y_3 : Int32) (y_4 : Int32) (y_5 : Int32) (f_6 : Nat → Int32) (f_7 : Nat → Int32) (f_8 : Nat → Int32) (f_9 : Nat → Int32) (f_10 : Nat → Int32) (f_11 : Nat → Int32) => if y_5 = 0 then (if y_3 ≤ 0 then (some ((-4 : Int32), f_10, f_11, f_6, f_7, f_8, f_9, y_3, y_4, y_5)) else (bd (mX1_length (nI L)) (fun z_13 => some (z_13, f_10, f_11, f_6, f_7, f_8, f_9, y_3, y_4, y_5)))) else (bd (mX1_length (nI L)) (fun z_12 => some (z_12, f_10, f_11, f_6, f_7, f_8, f_9, y_3, y_4, y_5)))) = KA
  generalize hkB : (fun (x3_1 : Int32) (x2_2 : Int32) (x1_3 : Int32) (y_4 : Int32) (f_5 : Nat → Int32) (f_6 : Nat → Int32) (f_7 : Nat → Int32) => if x2_2 = 0 then (if x1_3 ≤ 0 then (some ((-1 : Int32), f_5, y_4, (f_6 (0 : Int32).toNatClampNeg), f_6, f_7)) else (some (nI L, f_5, y_4, (f_6 (0 : Int32).toNatClampNeg), f_6, f_7))) else (some (nI L, f_5, y_4, (f_6 (0 : Int32).toNatClampNeg), f_6, f_7))) = KB
  have key : ∀ e i F F' d st W (le ri to pc sf wp S sm pl : Nat → Int32), i + e = L → e < F → e < F' → SJ n i d st W le ri to pc sf wp S sm pl → SE n (mX5_readFrom_L26 g (nI L) f (nI n) KA F (nI i) (nI d) (nI st) (bI W) le ri to pc sf wp) (mX10_sumFault_L18 s h (nI L) v KB F' (nI i) (bI W) (nI d) (nI st) S sm pl) := by
    intro e
    induction e with
    | zero =>
      intro i F F' d st W le ri to pc sf wp S sm pl h1 h2 h3 ⟨j1, j2, j3, j4, j5, j6⟩
      have : i = L := by omega
      subst this
      obtain ⟨F, rfl⟩ : ∃ F1, F = F1 + 1 := ⟨F - 1, by omega⟩
      obtain ⟨F', rfl⟩ : ∃ F1, F' = F1 + 1 := ⟨F' - 1, by omega⟩
      rw [mX5_readFrom_L26, mX10_sumFault_L18]
      unfold mX1_length
      rw [bd_some, if_pos (nI_le (Nat.le_refl _) (by omega)), if_pos (nI_le (Nat.le_refl _) (by omega)), ← hkA, ← hkB]
      unfold mX1_length
      cases W with
      | true =>
        refine Or.inr ⟨i, sf, wp, le, ri, to, pc, nI st, S, sm, pl, nI d, 1, nI st, sm (0 : Int32).toNatClampNeg, by omega, ?_, ?_⟩
        · show (if bI true = 0 then _ else _) = _
          rw [if_neg (show ¬ bI true = 0 by decide), bd_some]; rfl
        · show (if bI true = 0 then _ else _) = _
          rw [if_neg (show ¬ bI true = 0 by decide)]
      | false =>
        rcases Nat.eq_zero_or_pos d with q | q
        · subst q
          obtain ⟨a, a1, a2, a3⟩ := j5 rfl
          refine Or.inl ⟨sf, wp, le, ri, to, pc, st, S, sm, pl, nI 0, 0, a, ?_, ?_, by omega, a2, j6⟩
          · show (if bI false = 0 then (if nI 0 ≤ (0 : Int32) then _ else _) else _) = _
            rw [if_pos (show bI false = 0 from rfl), if_pos (show nI 0 ≤ (0 : Int32) by decide)]; rfl
          · show (if bI false = 0 then (if nI 0 ≤ (0 : Int32) then _ else _) else _) = _
            rw [if_pos (show bI false = 0 from rfl), if_pos (show nI 0 ≤ (0 : Int32) by decide), show sm (0 : Int32).toNatClampNeg = nI a from a3]
        · refine Or.inr ⟨i, sf, wp, le, ri, to, pc, nI st, S, sm, pl, nI d, 0, nI st, sm (0 : Int32).toNatClampNeg, by omega, ?_, ?_⟩
          · show (if bI false = 0 then (if nI d ≤ (0 : Int32) then _ else _) else _) = _
            rw [if_pos (show bI false = 0 from rfl), if_neg (nI_nle q (by omega)), bd_some]; rfl
          · show (if bI false = 0 then (if nI d ≤ (0 : Int32) then _ else _) else _) = _
            rw [if_pos (show bI false = 0 from rfl), if_neg (nI_nle q (by omega))]
    | succ e ih =>
      intro i F F' d st W le ri to pc sf wp S sm pl h1 h2 h3 ⟨j1, j2, j3, j4, j5, j6⟩
      have hi : i < L := by omega
      obtain ⟨F, rfl⟩ : ∃ F1, F = F1 + 1 := ⟨F - 1, by omega⟩
      obtain ⟨F', rfl⟩ : ∃ F1, F' = F1 + 1 := ⟨F' - 1, by omega⟩
      cases W with
      | true =>
        rw [show bI true = 1 from rfl, kA1 hP KA hi (by omega), kB1 hP KB hi (by omega)]
        by_cases c : h i = 40
        · rw [if_pos c, if_pos c]
          refine ih (i + 1) F F' (d + 1) st true le ri to pc _ wp S sm _ (by omega) (by omega) (by omega) ⟨by omega, by omega, fun l hl => ?_, fun _ => Or.inl ⟨upd_eq _ _ _, upd_eq _ _ _⟩, fun w => (by cases w), j6⟩
          by_cases q : l = d
          · subst q; exact LR_same (upd_ne _ _ (by omega)) rfl rfl (upd_ne _ _ (by omega)) (j4 rfl)
          · exact LR_same (upd_ne _ _ (by omega)) rfl rfl (upd_ne _ _ (by omega)) (j3 l (by omega))
        · rw [if_neg c, if_neg c]
          rcases tok hL.1 hL.2.1 hs.1 (h i - 48) with ⟨t, t1, t2, e1, e2⟩ | ⟨_, e1, e2⟩
          · rw [e1, m_tokAt h80 hi (Or.inr rfl) e2, bd_some, bd_some, if_neg (by decide), if_neg (by decide), t2]
            obtain ⟨sf', le', ri', to', pc', st', S', sm', b1, b2, b3, b4, b5, b6⟩ := join_both hL ht hs (by omega) (by omega) t1 (j4 rfl) j6
            rw [b1, b2, bd_some, bd_some]
            refine ih (i + 1) F F' d st' false le' ri' to' pc' sf' wp S' sm' pl (by omega) (by omega) (by omega) ⟨by omega, by omega, fun l hl => ?_, fun w => (by cases w), fun _ => b4, b6⟩
            have := b5 l (by omega)
            exact LR_same this.1 rfl this.2 rfl (j3 l hl)
          · rw [e1, m_tokAt h80 hi (Or.inl rfl) e2, bd_some, bd_some, if_pos rfl, if_pos rfl]
            exact Or.inr ⟨i, sf, wp, le, ri, to, pc, nI st, S, sm, pl, nI d, 1, nI st, v, by omega, rfl, rfl⟩
      | false =>
        obtain ⟨a, a1, a2, a3⟩ := j5 rfl
        rw [show bI false = 0 from rfl, kA0 hP KA hi (by omega), kB0 hP KB hi (by omega)]
        by_cases c : h i = 43
        · rw [if_pos c, if_pos c]
          refine ih (i + 1) F F' d st true le ri to pc sf _ S sm _ (by omega) (by omega) (by omega) ⟨by omega, by omega, fun l hl => ?_, fun _ => Or.inr ⟨a, i, a1, by omega, a2, a3, upd_eq _ _ _, upd_eq _ _ _⟩, fun w => (by cases w), j6⟩
          exact LR_same rfl (upd_ne _ _ (by omega)) rfl (upd_ne _ _ (by omega)) (j3 l hl)
        · rw [if_neg c, if_neg c]
          by_cases c2 : h i = 41
          · rw [if_pos c2, if_pos c2]
            rcases Nat.eq_zero_or_pos d with q | q
            · rw [if_pos q, if_pos q]
              exact Or.inr ⟨i, sf, wp, le, ri, to, pc, nI st, S, sm, pl, nI d, 0, nI st, v, by omega, rfl, rfl⟩
            · rw [if_neg (by omega), if_neg (by omega), a2, a3]
              obtain ⟨sf', le', ri', to', pc', st', S', sm', b1, b2, b3, b4, b5, b6⟩ := join_both hL ht hs (by omega) (by omega) a1 (j3 (d - 1) (by omega)) j6
              rw [b1, b2, bd_some, bd_some]
              refine ih (i + 1) F F' (d - 1) st' false le' ri' to' pc' sf' wp S' sm' pl (by omega) (by omega) (by omega) ⟨by omega, by omega, fun l hl => ?_, fun w => (by cases w), fun _ => b4, b6⟩
              have := b5 l (by omega)
              exact LR_same this.1 rfl this.2 rfl (j3 l (by omega))
          · rw [if_neg c2, if_neg c2]
            exact Or.inr ⟨i, sf, wp, le, ri, to, pc, nI st, S, sm, pl, nI d, 0, nI st, v, by omega, rfl, rfl⟩
  have hF := FU_ge
  exact key L 0 FU FU 0 0 true le ri to pc _ wp S sm _ (by omega) (by omega) (by omega) ⟨by omega, by omega, fun l hl => absurd hl (Nat.not_lt_zero _), fun _ => Or.inl ⟨upd_eq _ _ _, upd_eq _ _ _⟩, fun w => (by cases w), fun k hk => absurd hk (Nat.not_lt_zero _)⟩
theorem nI_ne_m1 {k : Nat} (hk : k < 81) : ¬ nI k = -1 := nI_ne1 (by omega)
theorem nI_ne_m4 {k : Nat} (hk : k < 81) : ¬ nI k = -4 := fun e => by
  have h1 := congrArg Int32.toInt e
  rw [nI_toInt (by omega)] at h1
  have h2 : (-4 : Int32).toInt = -4 := rfl
  omega
theorem value_both {z : Int32} (hS : Sm f z s) (hP : Pd g h L) (sf wp le ri to pc S sm pl : Nat → Int32) (v : Int32) : ∃ r sf' wp' le' ri' to' pc' d' st' w' S' y' v' sm' pl', mX9_value f z g (nI L) sf wp le ri to pc = some (r, sf', wp', le', ri', to', pc', d', st', w') ∧ mX10_value s h (nI L) S v sm pl = some (r, S', y', v', sm', pl') := by
  obtain ⟨n, T, hL, rfl, ht, hs⟩ := hS
  unfold mX9_value mX10_value
  rcases sum_both hL ht hs hP sf wp le ri to pc S sm pl v with ⟨sf, wp, le, ri, to, pc, st, S, sm, pl, d, w, a, e1, e2, _, e4, _⟩ | ⟨k, sf, wp, le, ri, to, pc, y1, S, sm, pl, d, w, y2, v, hk, e1, e2⟩
  · refine ⟨nI a, sf, wp, le, ri, to, pc, d, nI st, w, S, nI st, nI a, sm, pl, ?_, ?_⟩
    · rw [e1, bd_some, if_pos rfl]
      unfold mX5_total
      rw [show mX9_get 81 sf 0 = some (sf 0) from X9_get_ok (i := 0) (by omega) (by omega), bd_some, bd_some, e4]
    · rw [e2, bd_some, if_pos rfl]
  · refine ⟨-2, sf, wp, le, ri, to, pc, d, y1, w, S, y2, v, sm, pl, ?_, ?_⟩
    · rw [e1, bd_some, if_neg (nI_ne_m4 hk)]
    · rw [e2, bd_some, if_neg (nI_ne_m1 hk)]
theorem step_both {z : Int32} (hS : Sm f z s) (hP : Pd g h L) (sf wp le ri to pc S sm pl : Nat → Int32) (v d0 s0 w0 m0 x y : Int32) : ∃ r sf' wp' le' ri' to' pc' d' st' w' S' y' v' sm' pl', mX9_step f z g (nI L) sf wp le ri to pc d0 s0 w0 x y = some (r, sf', wp', le', ri', to', pc', d', st', w') ∧ mX10_step s h (nI L) S m0 v sm pl x y = some (r, S', y', v', sm', pl') := by
  obtain ⟨n, T, hL, rfl, ht, hs⟩ := hS
  unfold mX9_step mX10_step
  rw [in_is]
  by_cases hx : x < 0
  · rw [if_pos hx, if_pos hx]
    exact ⟨_, _, _, _, _, _, _, _, _, _, _, _, _, _, _, rfl, rfl⟩
  · rw [if_neg hx, if_neg hx]
    rcases withn y (a := 0) (b := 3) (by omega) (by omega) with ⟨u, _, hu, rfl, e0⟩ | ⟨_, e0⟩
    · rw [show mX9_isWithin (nI u) 0 3 = some 1 from e0, bd_some, bd_some, if_neg (show ¬ (1 : Int32) = 0 by decide), if_neg (show ¬ (1 : Int32) = 0 by decide)]
      rcases sum_both hL ht hs hP sf wp le ri to pc S sm pl v with ⟨sf, wp, le, ri, to, pc, st, S, sm, pl, d, w, a, e1, e2, e3, e4, e5⟩ | ⟨k, sf, wp, le, ri, to, pc, y1, S, sm, pl, d, w, y2, v, hk, e1, e2⟩
      · rw [e1, e2, bd_some, bd_some, if_pos rfl, if_pos rfl]
        obtain ⟨ex, hx2⟩ := nJ_of hx
        generalize x.toNatClampNeg = j at ex hx2
        subst ex
        unfold mX5_stepAt
        show ∃ r sf' wp' le' ri' to' pc' d' st' w' S' y' v' sm' pl', bd (if nI j < 0 then some (-4) else if nI j < nI st then _ else some (-4)) _ = some (r, sf', wp', le', ri', to', pc', d', st', w') ∧ (if nI st ≤ nI j then some (-4, S, nI st, nI a, sm, pl) else _) = some (r, S', y', v', sm', pl')
        rw [if_neg hx]
        by_cases q : j < st
        · rw [if_pos (nI_lt q (by omega)), if_neg (nI_ge q (by omega))]
          obtain ⟨r1, r2, r3, r4⟩ := e5 j q
          rw [nI_4mul, nI_add, gd_t (inb_nI (by omega) (by omega)), nI_clamp (by omega), X9_get_ok (by omega) (by omega), X9_get_ok (by omega) (by omega), X9_get_ok (by omega) (by omega), X9_get_ok (by omega) (by omega), bd_some, bd_some, bd_some, bd_some]
          dsimp only
          rw [r1, r2, r3, r4]
          have a1 : ¬ nI 1 = 0 := by decide
          have a2 : ¬ nI 2 = 0 := by decide
          have a3 : ¬ nI 3 = 0 := by decide
          have b2 : ¬ nI 2 = 1 := by decide
          have b3 : ¬ nI 3 = 1 := by decide
          have c3 : ¬ nI 3 = 2 := by decide
          rcases (show u = 0 ∨ u = 1 ∨ u = 2 ∨ u = 3 by omega) with rfl | rfl | rfl | rfl
          · rw [if_pos (show nI 0 = 0 from rfl), bd_some]
            exact ⟨_, _, _, _, _, _, _, _, _, _, _, _, _, _, _, rfl, rfl⟩
          · rw [if_neg a1, if_pos (show nI 1 = 1 from rfl), bd_some]
            exact ⟨_, _, _, _, _, _, _, _, _, _, _, _, _, _, _, rfl, rfl⟩
          · rw [if_neg a2, if_neg b2, if_pos (show nI 2 = 2 from rfl), bd_some]
            exact ⟨_, _, _, _, _, _, _, _, _, _, _, _, _, _, _, rfl, rfl⟩
          · rw [if_neg a3, if_neg b3, if_neg c3, bd_some]
            exact ⟨_, _, _, _, _, _, _, _, _, _, _, _, _, _, _, rfl, rfl⟩
        · rw [if_neg (nI_nlt (by omega) hx2), if_pos (nI_le (by omega) hx2), bd_some]
          exact ⟨_, _, _, _, _, _, _, _, _, _, _, _, _, _, _, rfl, rfl⟩
      · rw [e1, e2, bd_some, bd_some, if_neg (nI_ne_m4 hk), if_neg (nI_ne_m1 hk)]
        exact ⟨_, _, _, _, _, _, _, _, _, _, _, _, _, _, _, rfl, rfl⟩
    · rw [show mX9_isWithin y 0 3 = some 0 from e0, bd_some, bd_some, if_pos rfl, if_pos rfl]
      exact ⟨_, _, _, _, _, _, _, _, _, _, _, _, _, _, _, rfl, rfl⟩
end SumText2
