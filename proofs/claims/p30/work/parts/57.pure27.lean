/-! looks: both -/
section Looks
variable {n : Nat} {T : Nat → Nat → Nat} {f s : Nat → Int32}
theorem sum_look {z : Int32} (hS : Sm f z s) (x y : Int32) : ∃ r, mX9_sum f z x y = some r ∧ mX10_sum s x y = some r := by
  obtain ⟨n, T, hL, rfl, ht, hs⟩ := hS
  unfold mX9_sum mX10_sum
  rcases tok hL.1 hL.2.1 hs.1 x with ⟨a, ha, rfl, e1, e2⟩ | ⟨_, e1, e2⟩
  · rcases tok hL.1 hL.2.1 hs.1 y with ⟨b, hb, rfl, e3, e4⟩ | ⟨_, e3, e4⟩
    · refine ⟨nI (T a b), ?_, ?_⟩
      · rw [e1, e3, bd_some, bd_some, if_neg (show ¬ (1 : Int32) = 0 by decide), if_neg (show ¬ (1 : Int32) = 0 by decide), X6_at_ok hL.2.1 ht ha hb, bd_some]
      · rw [e2, e4, bd_some, bd_some, if_neg (show ¬ (1 : Int32) = 0 by decide), if_neg (show ¬ (1 : Int32) = 0 by decide), m_plain hL hs ha hb, bd_some]
    · refine ⟨-1, ?_, ?_⟩
      · rw [e1, e3, bd_some, bd_some, if_neg (show ¬ (1 : Int32) = 0 by decide), if_pos rfl]
      · rw [e2, e4, bd_some, bd_some, if_neg (show ¬ (1 : Int32) = 0 by decide), if_pos rfl]
  · exact ⟨-1, by rw [e1, bd_some, if_pos rfl], by rw [e2, bd_some, if_pos rfl]⟩
theorem between_look {z : Int32} (hS : Sm f z s) (x y : Int32) (lf : Bool) : ∃ r, mX9_between f z x y (bI lf) = some r ∧ mX10_between s x y (bI lf) = some r := by
  obtain ⟨n, T, hL, rfl, ht, hs⟩ := hS
  unfold mX9_between mX10_between
  rcases tok hL.1 hL.2.1 hs.1 x with ⟨a, ha, rfl, e1, e2⟩ | ⟨_, e1, e2⟩
  · rcases tok hL.1 hL.2.1 hs.1 y with ⟨b, hb, rfl, e3, e4⟩ | ⟨_, e3, e4⟩
    · obtain ⟨v, _, h1, h2⟩ := between_both hL ht hs lf ha hb
      refine ⟨nI v, ?_, ?_⟩
      · rw [e1, e3, bd_some, bd_some, if_neg (show ¬ (1 : Int32) = 0 by decide), if_neg (show ¬ (1 : Int32) = 0 by decide), h1, bd_some]
      · rw [e2, e4, bd_some, bd_some, if_neg (show ¬ (1 : Int32) = 0 by decide), if_neg (show ¬ (1 : Int32) = 0 by decide), h2]
    · refine ⟨-1, ?_, ?_⟩
      · rw [e1, e3, bd_some, bd_some, if_neg (show ¬ (1 : Int32) = 0 by decide), if_pos rfl]
      · rw [e2, e4, bd_some, bd_some, if_neg (show ¬ (1 : Int32) = 0 by decide), if_pos rfl]
  · exact ⟨-1, by rw [e1, bd_some, if_pos rfl], by rw [e2, bd_some, if_pos rfl]⟩
theorem returns_look {z : Int32} (hS : Sm f z s) (x y : Int32) (lf : Bool) : ∃ r, mX9_returns f z x y (bI lf) = some r ∧ mX10_returns s x y (bI lf) = some r := by
  obtain ⟨n, T, hL, rfl, ht, hs⟩ := hS
  unfold mX9_returns mX10_returns
  rcases tok hL.1 hL.2.1 hs.1 x with ⟨a, ha, rfl, e1, e2⟩ | ⟨_, e1, e2⟩
  · rcases tok hL.1 hL.2.1 hs.1 y with ⟨b, hb, rfl, e3, e4⟩ | ⟨_, e3, e4⟩
    · obtain ⟨v, h1, h2⟩ := ret_ex hL lf hb ha
      refine ⟨nI v, ?_, ?_⟩
      · rw [e1, e3, bd_some, bd_some, if_neg (show ¬ (1 : Int32) = 0 by decide), if_neg (show ¬ (1 : Int32) = 0 by decide), X7_timesToReturn_ok hL ht lf hb ha h1 h2, bd_some]
      · rw [e2, e4, bd_some, bd_some, if_neg (show ¬ (1 : Int32) = 0 by decide), if_neg (show ¬ (1 : Int32) = 0 by decide), m_roundOf hL hs lf hb ha h1 h2, bd_some]
    · refine ⟨-1, ?_, ?_⟩
      · rw [e1, e3, bd_some, bd_some, if_neg (show ¬ (1 : Int32) = 0 by decide), if_pos rfl]
      · rw [e2, e4, bd_some, bd_some, if_neg (show ¬ (1 : Int32) = 0 by decide), if_pos rfl]
  · exact ⟨-1, by rw [e1, bd_some, if_pos rfl], by rw [e2, bd_some, if_pos rfl]⟩
theorem ite_both {c : Prop} [Decidable c] {A A' B B' : Option Int32} (h1 : c → ∃ r, A = some r ∧ B = some r) (h2 : ¬ c → ∃ r, A' = some r ∧ B' = some r) : ∃ r, (if c then A else A') = some r ∧ (if c then B else B') = some r := by
  by_cases q : c
  · obtain ⟨r, e1, e2⟩ := h1 q
    exact ⟨r, by rw [if_pos q, e1], by rw [if_pos q, e2]⟩
  · obtain ⟨r, e1, e2⟩ := h2 q
    exact ⟨r, by rw [if_neg q, e1], by rw [if_neg q, e2]⟩
theorem token_look {z : Int32} (hS : Sm f z s) (x y : Int32) : ∃ r, mX9_token f z x y = some r ∧ mX10_token s x y = some r := by
  obtain ⟨n, T, hL, rfl, ht, hs⟩ := hS
  have h8 := hL.2.1
  have hp := p2_le h8
  unfold mX9_token mX10_token
  rcases tok hL.1 hL.2.1 hs.1 x with ⟨a, ha, rfl, e1, e2⟩ | ⟨_, e1, e2⟩
  · rw [e1, e2, bd_some, bd_some, if_neg (show ¬ (1 : Int32) = 0 by decide), if_neg (show ¬ (1 : Int32) = 0 by decide)]
    have ha2 : 2 ^ a < 2 ^ n := Nat.pow_lt_pow_right (by omega) ha
    obtain ⟨r, r1, _, r2, r3⟩ := ring_one hL ht hs (v := 2 ^ a) (Nat.two_pow_pos a) ha2
    rw [bt_sh' (show a < 9 by omega)]
    refine ite_both (fun _ => ⟨_, by rw [X8_commutingWith_ok hL ht ha, bd_some], by rw [m_commuteWith hL hs ha, bd_some]⟩) (fun _ => ?_)
    refine ite_both (fun _ => ⟨_, by rw [X8_pairsBehind_ok hL ht ha, bd_some], by rw [m_pairsOf hL hs ha, bd_some]⟩) (fun _ => ?_)
    refine ite_both (fun _ => ?_) (fun _ => ?_)
    · rw [show mX8_isNeutral f (nI n) (nI a) 1 = _ from X8_isNeutral_ok hL ht ha true, show mX10_isIdle s (nI a) 1 = _ from m_isIdle hL hs ha true, bd_some]
      exact ite_both (fun _ => ⟨0, rfl, rfl⟩) (fun _ => ⟨1, rfl, rfl⟩)
    refine ite_both (fun _ => ?_) (fun _ => ?_)
    · rw [show mX8_isNeutral f (nI n) (nI a) 0 = _ from X8_isNeutral_ok hL ht ha false, show mX10_isIdle s (nI a) 0 = _ from m_isIdle hL hs ha false, bd_some]
      exact ite_both (fun _ => ⟨0, rfl, rfl⟩) (fun _ => ⟨1, rfl, rfl⟩)
    refine ite_both (fun _ => ⟨nI (bits r), by rw [r2, bd_some, bt_cnt' r1, bd_some], by rw [r3, bd_some, m_bits r1, bd_some]⟩) (fun _ => ?_)
    refine ite_both (fun _ => ⟨nI r, by rw [r2, bd_some], by rw [r3, bd_some]⟩) (fun _ => ?_)
    refine ite_both (fun _ => ⟨_, by rw [X6_at_ok h8 ht ha ha, bd_some], by rw [m_plain hL hs ha ha, bd_some]⟩) (fun _ => ?_)
    refine ite_both (fun _ => ⟨_, by rw [X7_rounds_ok hL ht ha, bd_some], by rw [m_rounds hL hs ha, bd_some]⟩) (fun _ => ?_)
    refine ite_both (fun _ => ?_) (fun _ => ⟨-1, rfl, rfl⟩)
    obtain ⟨v, v1, v2⟩ := again_both hL ht hs ha
    exact ⟨v, by rw [v1, bd_some], by rw [v2, bd_some]⟩
  · exact ⟨-1, by rw [e1, bd_some, if_pos rfl], by rw [e2, bd_some, if_pos rfl]⟩
theorem ring_look {z : Int32} (hS : Sm f z s) (x : Int32) : ∃ r, mX9_ring f z x = some r ∧ mX10_ring s x = some r := by
  obtain ⟨n, T, hL, rfl, ht, hs⟩ := hS
  have h8 := hL.2.1
  have hp := p2_le h8
  have hp0 := p2_ge hL.1
  unfold mX9_ring mX10_ring
  rw [in_is, X6_allBits_ok h8, bd_some, m_s0 hs, all_sub1 h8]
  rcases withn x (a := 1) (b := 2 ^ n - 1) (by omega) (by omega) with ⟨v, h1, h2, rfl, e0⟩ | ⟨_, e0⟩
  · obtain ⟨r, r1, _, r2, r3⟩ := ring_one hL ht hs h1 (show v < 2 ^ n by omega)
    rw [show mX9_isWithin (nI v) 1 (nI (2 ^ n - 1)) = some 1 from e0, bd_some, bd_some, if_neg (show ¬ (1 : Int32) = 0 by decide), if_neg (show ¬ (1 : Int32) = 0 by decide)]
    exact ⟨nI r, by rw [r2, bd_some], by rw [r3, bd_some]⟩
  · rw [show mX9_isWithin x 1 (nI (2 ^ n - 1)) = some 0 from e0, bd_some, bd_some, if_pos rfl, if_pos rfl]
    exact ⟨-1, rfl, rfl⟩
theorem ringAt_look {z : Int32} (hS : Sm f z s) (x : Int32) : ∃ r, mX9_ringAt f z x = some r ∧ mX10_ringAt s x = some r := by
  obtain ⟨n, T, hL, rfl, ht, hs⟩ := hS
  exact ringAt_both hL ht hs x
theorem count_look {z : Int32} (hS : Sm f z s) (st len x : Int32) : ∃ r, mX9_count f z st len x = some r ∧ mX10_count s st len x = some r := by
  obtain ⟨n, T, hL, rfl, ht, hs⟩ := hS
  have h8 := hL.2.1
  unfold mX9_count mX10_count
  refine ite_both (fun _ => ⟨nI n, rfl, by rw [m_s0 hs]⟩) (fun _ => ?_)
  refine ite_both (fun _ => ⟨_, by rw [X8_commutingPairs_ok hL ht, bd_some], by rw [m_commute hL hs, bd_some]⟩) (fun _ => ?_)
  refine ite_both (fun _ => ⟨_, by rw [X8_associatingTriples_ok hL ht, bd_some], by rw [m_triples hL hs, bd_some]⟩) (fun _ => ?_)
  refine ite_both (fun _ => ?_) (fun _ => ?_)
  · obtain ⟨v, v1, v2⟩ := neutral_both hL ht hs true
    exact ⟨v, by rw [show mX8_neutralToken f (nI n) 1 = some v from v1, bd_some], by rw [show mX10_idle s 1 = some v from v2, bd_some]⟩
  refine ite_both (fun _ => ?_) (fun _ => ?_)
  · obtain ⟨v, v1, v2⟩ := neutral_both hL ht hs false
    exact ⟨v, by rw [show mX8_neutralToken f (nI n) 0 = some v from v1, bd_some], by rw [show mX10_idle s 0 = some v from v2, bd_some]⟩
  refine ite_both (fun _ => ⟨_, by rw [X8_selfSums_ok hL ht, bd_some], by rw [m_alone hL hs, bd_some]⟩) (fun _ => ?_)
  refine ite_both (fun _ => ?_) (fun _ => ?_)
  · obtain ⟨v, v1, v2⟩ := rings_both hL ht hs
    exact ⟨v, by rw [v1, bd_some], by rw [v2, bd_some]⟩
  obtain ⟨r, r1, r2, r3⟩ := fewest_both hL ht hs
  refine ite_both (fun _ => ⟨nI (bits r), by rw [r2, bd_some, bt_cnt' r1, bd_some], by rw [r3, bd_some, m_bits r1, bd_some]⟩) (fun _ => ?_)
  refine ite_both (fun _ => ⟨nI r, by rw [r2, bd_some], by rw [r3, bd_some]⟩) (fun _ => ?_)
  refine ite_both (fun _ => ⟨_, by rw [X4_howMany_ok hL ht, bd_some], by rw [m_squares hL hs, bd_some]⟩) (fun _ => ?_)
  refine ite_both (fun _ => ⟨len, rfl, rfl⟩) (fun _ => ?_)
  exact ite_both (fun _ => ⟨st, rfl, rfl⟩) (fun _ => ⟨-1, rfl, rfl⟩)
theorem ifSwapped_look {z zg : Int32} {g : Nat → Int32} (hS : Sm f z s) (x y v w u : Int32) : ∃ r g' zg', mX9_ifSwapped f z g zg x y v w u = some (r, g', zg') ∧ mX10_ifSwapped s x y v w u = some (r, s) := by
  obtain ⟨n, T, hL, rfl, ht, hs⟩ := hS
  have h8 := hL.2.1
  unfold mX9_ifSwapped mX10_ifSwapped mX10_bar
  rw [in_is]
  have n1 : ¬ (1 : Int32) = 0 := by decide
  rcases pair hL.1 h8 hs.1 x y with ⟨a, b, ha, hb, hab, rfl, rfl, e1, e2⟩ | ⟨e1, e2⟩
  · rcases pair hL.1 h8 hs.1 v w with ⟨c, d, hc, hd, hcd, rfl, rfl, e3, e4⟩ | ⟨e3, e4⟩
    · have q1 := X6_isLittleSquare_ok hL ht ha hb hc hd
      have q2 := m_isSquare hL hs ha hb hc hd
      rcases withn u (a := 0) (b := 2) (by omega) (by omega) with ⟨k, _, hk, rfl, e0⟩ | ⟨_, e0⟩
      · have e0' : mX9_isWithin (nI k) 0 2 = some 1 := e0
        by_cases q : isSq T a b c d
        · rw [bI_and_1 q] at q1 q2
          obtain ⟨g', h1, h2, _⟩ := X6_swapSquare_ok h8 (tF_cpy (h := g) h8 ht) ha hb hc hd hab
          obtain ⟨s', h4, h5, h6⟩ := m_swaps h8 hs ha hb hc hd hab
          have hU := Lat_sq hL ha hb hc hd hab q
          obtain ⟨r, r1, r2⟩ := rings_both hU h2 h5
          rw [e1, e2, e3, e4, e0', q1, q2]
          simp only [bd_some, if_neg n1, if_true, if_neg (show ¬ (0 : Int32) = -1 by decide), X6_copyFrom_ok, h1, h4, h6]
          by_cases k0 : nI k = 0
          · refine ⟨nI (comP (sqX T a b c d) n), g', nI n, ?_, ?_⟩
            · rw [if_pos k0, X8_commutingPairs_ok hU h2, bd_some]
            · rw [if_pos k0, m_commute hU h5, bd_some]
          · by_cases k1 : nI k = 1
            · refine ⟨nI (assP (sqX T a b c d) n), g', nI n, ?_, ?_⟩
              · rw [if_neg k0, if_pos k1, X8_associatingTriples_ok hU h2, bd_some]
              · rw [if_neg k0, if_pos k1, m_triples hU h5, bd_some]
            · refine ⟨r, g', nI n, ?_, ?_⟩
              · rw [if_neg k0, if_neg k1, r1, bd_some]
              · rw [if_neg k0, if_neg k1, r2, bd_some]
        · rw [bI_and_0 q] at q1 q2
          rw [e1, e2, e3, e4, e0', q1, q2]
          simp only [bd_some, if_neg n1, if_true, if_neg (show ¬ (-2 : Int32) = -1 by decide), if_neg (show ¬ (-2 : Int32) = 0 by decide)]
          exact ⟨_, _, _, rfl, rfl⟩
      · have e0' : mX9_isWithin u 0 2 = some 0 := e0
        by_cases q : isSq T a b c d
        · rw [bI_and_1 q] at q1 q2
          rw [e1, e2, e3, e4, e0', q2]
          simp only [bd_some, if_neg n1, if_true, if_neg (show ¬ (0 : Int32) = -1 by decide)]
          exact ⟨_, _, _, rfl, rfl⟩
        · rw [bI_and_0 q] at q1 q2
          rw [e1, e2, e3, e4, e0', q2]
          simp only [bd_some, if_neg n1, if_true, if_neg (show ¬ (-2 : Int32) = -1 by decide)]
          exact ⟨_, _, _, rfl, rfl⟩
    · rw [e1, e2, e3, e4]
      simp only [bd_some, if_neg n1, if_true]
      exact ⟨_, _, _, rfl, rfl⟩
  · rw [e1, e2]
    simp only [bd_some, if_true]
    exact ⟨_, _, _, rfl, rfl⟩
end Looks
