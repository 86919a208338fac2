/-! a table in the pad: what the class asks of each place -/
section TableText
variable {n : Nat} {f g h s : Nat → Int32} {L : Nat}
theorem X6_isTaken_ok {a b : Nat} {v : Int32} (ha : a < 8) (hb : b < 8) : mX6_isTaken f (nI a) (nI b) v = some (bI (!(allB (fun x => !decide (f (8 * a + x) = v)) b && allB (fun x => !decide (f (8 * x + b) = v)) a))) := by
  unfold mX6_isTaken
  have kA : ∀ F x, x < b → mX6_isTaken_L3 f (nI a) (nI b) v (fun (x4_1 : Int32) => mX6_isTaken_L31 f (nI a) (nI b) v (fun (x4_2 : Int32) => some (0)) FU 0) (F + 1) (nI x) = if f (8 * a + x) = v then some 1 else mX6_isTaken_L3 f (nI a) (nI b) v (fun (x4_1 : Int32) => mX6_isTaken_L31 f (nI a) (nI b) v (fun (x4_2 : Int32) => some (0)) FU 0) F (nI (x + 1)) := by
    intro F x hx
    rw [mX6_isTaken_L3, if_neg (nI_ge hx (by omega)), X6_at_ix ha (by omega), bd_some, nI_1]
  have kB : ∀ F x, x < a → mX6_isTaken_L31 f (nI a) (nI b) v (fun (x4_2 : Int32) => some (0)) (F + 1) (nI x) = if f (8 * x + b) = v then some 1 else mX6_isTaken_L31 f (nI a) (nI b) v (fun (x4_2 : Int32) => some (0)) F (nI (x + 1)) := by
    intro F x hx
    rw [mX6_isTaken_L31, if_neg (nI_ge hx (by omega)), X6_at_ix (by omega) hb, bd_some, nI_1]
  rcases lpF (fun F x => mX6_isTaken_L3 f (nI a) (nI b) v (fun (x4_1 : Int32) => mX6_isTaken_L31 f (nI a) (nI b) v (fun (x4_2 : Int32) => some (0)) FU 0) F x) b 0 (fun x => decide (f (8 * a + x) = v)) (fun _ => some 1) (by omega) (by omega) (fun F i _ hi hp => by
      show mX6_isTaken_L3 _ _ _ _ _ (F + 1) _ = _
      rw [kA F i hi, if_neg (of_decide_eq_false hp)]) (fun F i _ hi hp => by
      show mX6_isTaken_L3 _ _ _ _ _ (F + 1) _ = _
      rw [kA F i hi, if_pos (of_decide_eq_true hp)]) with ⟨i, _, hi, hp, _, e⟩ | ⟨h0, m, e⟩
  · refine Eq.trans e ?_
    rw [show allB (fun x => !decide (f (8 * a + x) = v)) b = false from allB_not.mpr ⟨i, hi, by simp only [hp]; rfl⟩, Bool.false_and]; rfl
  · refine Eq.trans e ?_
    show mX6_isTaken_L3 _ _ _ _ _ (m + 1) _ = _
    rw [mX6_isTaken_L3, if_pos (nI_le (Nat.le_refl _) (by omega)), show allB (fun x => !decide (f (8 * a + x) = v)) b = true from allB_iff.mpr fun i hi => by rw [h0 i (by omega) hi]; rfl, Bool.true_and]
    rcases lpF (fun F x => mX6_isTaken_L31 f (nI a) (nI b) v (fun (x4_2 : Int32) => some (0)) F x) a 0 (fun x => decide (f (8 * x + b) = v)) (fun _ => some 1) (by omega) (by omega) (fun F i _ hi hp => by
        show mX6_isTaken_L31 _ _ _ _ _ (F + 1) _ = _
        rw [kB F i hi, if_neg (of_decide_eq_false hp)]) (fun F i _ hi hp => by
        show mX6_isTaken_L31 _ _ _ _ _ (F + 1) _ = _
        rw [kB F i hi, if_pos (of_decide_eq_true hp)]) with ⟨i, _, hi, hp, _, e⟩ | ⟨h0, m, e⟩
    · refine Eq.trans e ?_
      rw [show allB (fun x => !decide (f (8 * x + b) = v)) a = false from allB_not.mpr ⟨i, hi, by simp only [hp]; rfl⟩]; rfl
    · refine Eq.trans e ?_
      show mX6_isTaken_L31 _ _ _ _ _ (m + 1) _ = _
      rw [mX6_isTaken_L31, if_pos (nI_le (Nat.le_refl _) (by omega)), show allB (fun x => !decide (f (8 * x + b) = v)) a = true from allB_iff.mpr fun i hi => by rw [h0 i (by omega) hi]; rfl]; rfl
end TableText
