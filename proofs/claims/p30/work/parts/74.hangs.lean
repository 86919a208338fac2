/-! hangs: it answers true over every table that is right -/
theorem sm_ge {g : Nat → Nat} : ∀ {n i : Nat}, i < n → g i ≤ sm g n
  | 0, i, h => absurd h (Nat.not_lt_zero _)
  | n + 1, i, h => by
    rw [sm_s]
    rcases Nat.lt_or_ge i n with q | q
    · have := sm_ge (g := g) q
      omega
    · have : i = n := by omega
      subst this; omega
theorem sm_one {g : Nat → Nat} : ∀ {n : Nat}, (∀ i, i < n → g i = 1) → sm g n = n
  | 0, _ => rfl
  | n + 1, h => by rw [sm_s, sm_one (fun i hi => h i (by omega)), h n (by omega)]
section Hangs
variable {n : Nat} {T : Nat → Nat → Nat} {f : Nat → Int32}
theorem rnds_in (hL : Lat n T) (a : Nat) : 1 ≤ rnds T n a ∧ rnds T n a ≤ n := by
  have h2 := hL.1
  unfold rnds
  constructor
  · have h : (fun x => if lor T n a x = true then 1 else 0) 0 ≤ sm (fun x => if lor T n a x = true then 1 else 0) n := sm_ge (g := fun x => if lor T n a x = true then 1 else 0) (n := n) (i := 0) (by omega)
    have e : lor T n a 0 = true := allB_iff.mpr (fun i _ => decide_eq_true (Nat.zero_le _))
    simp only [e, if_true] at h
    exact h
  · rw [sm_cn]; exact cn_le _ _
theorem neu_itr {e x : Nat} (h : neu T n e true = true) (hx : x < n) : ∀ k, itr T true e x k = x
  | 0 => rfl
  | k + 1 => by
    rw [itr_s, neu_itr h hx k]
    exact of_decide_eq_true (allB_iff.mp h x hx)
theorem rnds_neu {e : Nat} (h : neu T n e true = true) : rnds T n e = n := by
  unfold rnds
  refine sm_one (fun x hx => if_pos ?_)
  exact allB_iff.mpr (fun i _ => decide_eq_true (by rw [neu_itr h hx]; exact Nat.le_refl _))
theorem again_neu (hL : Lat n T) (ht : tF n T f) {e : Nat} (he : e < n) (h : neu T n e true = true) : mX9_token f (nI n) (nI e) 8 = some 1 := by
  obtain ⟨ρ, hρ⟩ := rtn_ex hL he
  obtain ⟨N, n1, _, _, n3, n4⟩ := X7_again_ok hL ht he hρ
  have : N = 1 := by
    rcases Nat.lt_or_ge 1 N with q | q
    · obtain ⟨x, hx, hne⟩ := n3 1 (Nat.le_refl _) q
      have h1 : ρ x = 1 := ret_one (hρ x hx).1 ⟨Nat.le_refl _, neu_itr h hx 1, fun j h1 h2 => by omega⟩
      rw [h1] at hne
      exact absurd rfl hne
    · omega
  subst this
  exact a_tok8 hL ht he n4
theorem neu_both (hL : Lat n T) {e d : Nat} (he : e < n) (hd : d < n) (h1 : neu T n e true = true) (h2 : neu T n d false = true) : e = d := by
  have a : T e d = d := of_decide_eq_true (allB_iff.mp h1 d hd)
  have b : T e d = e := of_decide_eq_true (allB_iff.mp h2 e he)
  exact b.symm.trans a
theorem hangs_L34 (hL : Lat n T) (ht : tF n T f) (k : Int32 → Int32 → Int32 → Int32 → Option (Int32 × (Nat → Int32) × Int32 × Int32 × Int32 × Int32 × Int32 × Int32)) : mL_hangs_L34 f (nI n) (nI n) k FU 0 0 0 0 = k (nI n) (nI (slfS T n)) (nI (assP T n)) (nI (comP T n)) := by
  have h8 := hL.2.1
  have hp := p2_le h8
  have hT := hL.2.2.1
  obtain ⟨m, e⟩ := lpU (fun F x (p : Int32 × Int32 × Int32) => mL_hangs_L34 f (nI n) (nI n) k F x p.1 p.2.1 p.2.2) n 0 (fun i => (nI (sm (fun a => if T a a = a then 1 else 0) i), nI (sm (assW T n) i), nI (sm (comW T n) i))) (by omega) (by omega) (fun F i _ hi => by
    have t1 := hT i i hi hi
    obtain ⟨r, hr, e5, _⟩ := a_tok5 hL ht hi
    have hr256 : r < 256 := Nat.lt_of_lt_of_le hr.1 hp
    have bi : r.testBit i = true := hr.2.1 i (by rw [Nat.testBit_two_pow]; exact decide_eq_true rfl)
    have bt : r.testBit (T i i) = true := cls_iff.mp hr.2.2.1 i i hi hi bi bi
    have r1 : 1 ≤ r := by
      rcases Nat.eq_zero_or_pos r with q | q
      · subst q; rw [Nat.zero_testBit] at bi; cases bi
      · exact q
    obtain ⟨q, q1, q2⟩ := a_ring hL ht (v := 2 ^ i) (Nat.two_pow_pos i) (Nat.pow_lt_pow_right (by omega) hi)
    have hq : q = r := isCl_one q1 hr
    subst hq
    have er : mX9_ring f (nI n) ((1 : Int32) <<< (nI i &&& 31)) = some (nI q) := by rw [bt_sh' (show i < 9 by omega)]; exact q2
    obtain ⟨n1, n2⟩ := rnds_in hL i
    have e7 := a_tok7 hL ht hi
    show mL_hangs_L34 _ _ _ _ (F + 1) _ _ _ _ = _
    rw [mL_hangs_L34]
    refine iq (nI_ge hi (by omega)) ((hangs_L54 hL ht hi _).trans ?_)
    refine bd_z e5 (ip (all_sub1 h8).symm (ip rfl (ip ((bt_has' hr256 (by omega)).trans (bI_1.mpr bi)) (bd_z (a_tok6 hL ht hi) (ip ((bt_has' hr256 (by omega)).trans (bI_1.mpr bt)) ?_)))))
    refine bd_z er (ip rfl (bd_z (a_ringOf hL ht r1 hr.1 hr.2.2.1) (ip rfl (bd_z e7 (iq (nI_nlt (b := 1) n1 (by omega)) (bd_z e7 (iq (nI_nlt n2 (by omega)) ?_)))))))
    refine bd_z (a_tok9 hL hi) (ip rfl (bd_z (a_tokm hL hi) (ip rfl (bd_z (a_tok0 hL ht hi) (bd_z (a_tok1 hL ht hi) (bd_z (a_tok6 hL ht hi) ?_))))))
    by_cases w : T i i = i
    · refine ip (by rw [w]) ?_
      have e1 : sm (fun a => if T a a = a then 1 else 0) (i + 1) = sm (fun a => if T a a = a then 1 else 0) i + 1 := by rw [sm_s, if_pos w]
      show mL_hangs_L34 _ _ _ _ F (nI i + 1) (nI (sm (fun a => if T a a = a then 1 else 0) i) + 1) (nI (sm (assW T n) i) + nI (assW T n i)) (nI (sm (comW T n) i) + nI (comW T n i)) = mL_hangs_L34 _ _ _ _ F (nI (i + 1)) (nI (sm (fun a => if T a a = a then 1 else 0) (i + 1))) _ _
      rw [e1, nI_1, nI_1, nI_add, nI_add]; rfl
    · refine iq (fun v => w ((nI_eq (by omega) (by omega)).mp v)) ?_
      have e1 : sm (fun a => if T a a = a then 1 else 0) (i + 1) = sm (fun a => if T a a = a then 1 else 0) i + 0 := by rw [sm_s, if_neg w]
      show mL_hangs_L34 _ _ _ _ F (nI i + 1) (nI (sm (fun a => if T a a = a then 1 else 0) i) + nI 0) (nI (sm (assW T n) i) + nI (assW T n i)) (nI (sm (comW T n) i) + nI (comW T n i)) = mL_hangs_L34 _ _ _ _ F (nI (i + 1)) (nI (sm (fun a => if T a a = a then 1 else 0) (i + 1))) _ _
      rw [e1, nI_1, nI_add, nI_add, nI_add]; rfl)
  refine Eq.trans e ?_
  show mL_hangs_L34 _ _ _ _ (m + 1) _ _ _ _ = _
  rw [mL_hangs_L34]
  exact ip (nI_le (Nat.le_refl _) (by omega)) rfl
set_option maxHeartbeats 1000000 in
theorem hangs_ok (hL : Lat n T) (ht : tF n T f) (hs pl : Int32) (g : Nat → Int32) (zg l1 l2 l3 l4 l5 : Int32) : ∃ y, mL_hangs f (nI n) hs pl g zg l1 l2 l3 l4 l5 = some (1, y) := by
  have h8 := hL.2.1
  have h2 := hL.1
  have hp := p2_le h8
  have hp0 := p2_ge h2
  have h0 := a_cnt0 hL ht hs pl
  obtain ⟨y, hJ⟩ := hangs_J715 hL ht hs pl g zg l1 l2 l3 l4 l5
  obtain ⟨r8, f8, e8⟩ := X2_leastSeeds_ok hL ht
  have c6 := a_cnt6 hs pl (X2_howMany_ok hL ht)
  have hR := rbl_255 hL
  have hRt := rbl_top hL
  obtain ⟨v, v1, v2⟩ := a_ring hL ht f8.1 f8.2.1
  have hv : v = 2 ^ n - 1 := isCl_one v1 f8.2.2.1
  subst hv
  have top : ∀ B : Option (Int32 × (Nat → Int32) × Int32 × Int32 × Int32 × Int32 × Int32 × Int32), (B = some (1, y)) → (bd (mX9_count f (nI n) hs pl 6) (fun z_11 => if z_11 < 1 then none else bd (mX9_count f (nI n) hs pl 6) (fun z_12 => bd (mX9_ringAt f (nI n) z_12) (fun z_13 => if z_13 = (-4) then bd (mX9_count f (nI n) hs pl 6) (fun z_14 => bd (mX9_ringAt f (nI n) (z_14 - 1)) (fun z_15 => if z_15 = nI (2 ^ n - 1) then bd (mX9_ring f (nI n) (nI r8)) (fun z_16 => if z_16 = nI (2 ^ n - 1) then bd (mX9_count f (nI n) hs pl 1) (fun z_17 => if z_17 = nI (comP T n) then bd (mX9_count f (nI n) hs pl 2) (fun z_18 => if z_18 = nI (assP T n) then bd (mX9_count f (nI n) hs pl 5) (fun z_19 => if z_19 = nI (slfS T n) then B else none) else none) else none) else none) else none)) else none)))) = some (1, y) := fun B hB =>
    bd_z c6 (iq (nI_nlt (b := 1) (by omega) (by omega)) (bd_z c6 (bd_z (ringAt_out hL ht) (ip rfl (bd_z c6 (bd_z (show mX9_ringAt f (nI n) (nI (rbl n T (2 ^ n)) - 1) = _ by rw [show rbl n T (2 ^ n) = rbl n T (2 ^ n) - 1 + 1 by omega, nI_pred]; exact ringAt_last hL ht) (ip rfl (bd_z v2 (ip rfl (bd_z (a_cnt1 hL ht hs pl) (ip rfl (bd_z (a_cnt2 hL ht hs pl) (ip rfl (bd_z (a_cnt5 hL ht hs pl) (ip rfl hB)))))))))))))))
  unfold mL_hangs
  refine ⟨y, bd_z h0 (iq (nI_ge (a := 1) (by omega) (by omega)) (iq (nI_ge (b := 9) (by omega) (by omega)) ((hangs_L34 hL ht _).trans ?_)))⟩
  rcases X8_neutralToken_ok hL ht true with ⟨a, ha, na, ea⟩ | ea
  · have w1 : ¬ nI a = -4 := nI_ne4 (by omega)
    have k7 : mX9_token f (nI n) (nI a) 7 = some (nI n) := by rw [a_tok7 hL ht ha, rnds_neu na]
    rcases X8_neutralToken_ok hL ht false with ⟨b, hb, nb, eb⟩ | eb
    · have w2 : ¬ nI b = -4 := nI_ne4 (by omega)
      have hab := neu_both hL ha hb na nb
      refine bd_z (a_cnt3 hs pl ea) (bd_z (a_cnt4 hs pl eb) (bd_z (a_cnt8 hs pl e8) ((hangs_L465 hL ht _).trans (ip (all_sub1 h8).symm (top _ ?_)))))
      exact iq w1 (bd_z (a_tok2 hL ht ha na) (ip rfl (bd_z k7 (ip rfl (bd_z (again_neu hL ht ha na) (ip rfl (iq w2 (bd_z (a_tok3 hL ht hb nb) (ip rfl (iq w1 (iq w2 (ip (by rw [hab]) hJ))))))))))))
    · refine bd_z (a_cnt3 hs pl ea) (bd_z (a_cnt4 hs pl eb) (bd_z (a_cnt8 hs pl e8) ((hangs_L465 hL ht _).trans (ip (all_sub1 h8).symm (top _ ?_)))))
      exact iq w1 (bd_z (a_tok2 hL ht ha na) (ip rfl (bd_z k7 (ip rfl (bd_z (again_neu hL ht ha na) (ip rfl (ip rfl (iq w1 (ip rfl hJ)))))))))
  · rcases X8_neutralToken_ok hL ht false with ⟨b, hb, nb, eb⟩ | eb
    · have w2 : ¬ nI b = -4 := nI_ne4 (by omega)
      refine bd_z (a_cnt3 hs pl ea) (bd_z (a_cnt4 hs pl eb) (bd_z (a_cnt8 hs pl e8) ((hangs_L465 hL ht _).trans (ip (all_sub1 h8).symm (top _ ?_)))))
      exact ip rfl (iq w2 (bd_z (a_tok3 hL ht hb nb) (ip rfl (ip rfl hJ))))
    · refine bd_z (a_cnt3 hs pl ea) (bd_z (a_cnt4 hs pl eb) (bd_z (a_cnt8 hs pl e8) ((hangs_L465 hL ht _).trans (ip (all_sub1 h8).symm (top _ ?_)))))
      exact ip rfl (ip rfl (ip rfl hJ))
end Hangs
