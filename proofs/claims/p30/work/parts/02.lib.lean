/-! the small words that the walks and the pure functions are written in: a guard, a bind, and the two kinds of contract (one that only reads, one that writes its own cells) -/
def gd {α : Type} (b : Bool) (k : Option α) : Option α := if b = true then k else none
theorem gd_ok {α : Type} {b : Bool} {k : Option α} {z : α} (h : gd b k = some z) : b = true ∧ k = some z := by
  unfold gd at h
  by_cases hb : b = true
  · rw [if_pos hb] at h; exact ⟨hb, h⟩
  · rw [if_neg hb] at h; cases h
def bd {α β : Type} (o : Option α) (k : α → Option β) : Option β := match o with
  | some a => k a
  | none => none
theorem bd_ok {α β : Type} {o : Option α} {k : α → Option β} {z : β} (h : bd o k = some z) : ∃ a, o = some a ∧ k a = some z := by
  cases o with
  | none => cases h
  | some a => exact ⟨a, rfl, h⟩
def inb (i : Int32) (n : Nat) : Bool := decide (0 ≤ i.toInt ∧ i.toInt < (n : Int))
theorem inb_ok {i : Int32} {n : Nat} (h : inb i n = true) : vp_in i n := vp_in_iff.mpr (of_decide_eq_true h)
def nzb (y : Int32) : Bool := decide (¬ y = 0)
theorem nzb_ok {y : Int32} (h : nzb y = true) : ¬ y = 0 := of_decide_eq_true h
def nbz (r : Int32) : Bool := decide (r = 0 ∨ r = 1)
theorem nbz_ok {r : Int32} (h : nbz r = true) : narrow .boolean (.int r) = .int r := by
  rcases of_decide_eq_true h with rfl | rfl <;> rfl
def nch (r : Int32) : Bool := decide ((r.toUInt32 % 65536).toInt32 = r)
theorem nch_ok {r : Int32} (h : nch r = true) : narrow .char (.int r) = .int r := by
  have e := of_decide_eq_true h
  rw [← e]; exact pk_nc r
def nnan (r : UInt64) : Bool := decide (r &&& 0x7fffffffffffffff ≤ 0x7ff0000000000000)
theorem it_t {α : Sort _} {c : Prop} [Decidable c] {a b z : α} (hc : c) (h : (if c then a else b) = z) : a = z := by rw [if_pos hc] at h; exact h
theorem it_f {α : Sort _} {c : Prop} [Decidable c] {a b z : α} (hc : ¬ c) (h : (if c then a else b) = z) : b = z := by rw [if_neg hc] at h; exact h
theorem sw_ne {x : Int32} (v : Int32) (n : Int) (hn : v.toInt = n) (h : ¬ x = v) : x.toInt ≠ n := fun e => h (Int32.toInt_inj.mp (e.trans hn.symm))
/-- how far a loop may run: some number from 5000 on (which one, nobody can unfold) -/
noncomputable def FU : Nat := Classical.choose (⟨5000, Nat.le_refl _⟩ : ∃ n : Nat, 5000 ≤ n)
theorem FU_ge : 5000 ≤ FU := Classical.choose_spec (⟨5000, Nat.le_refl _⟩ : ∃ n : Nat, 5000 ≤ n)
/-- an array of references that holds these -/
def kf (L : List Nat) : Nat → Option Nat := fun i => L[i]?
theorem kf_up (L : List Nat) (i q : Nat) (h : i < L.length) : va_up (kf L) i (some q) = kf (L.set i q) := by
  funext j
  by_cases e : j = i
  · subst e
    rw [va_up_self]
    simp [kf, h]
  · rw [va_up_ne _ _ e]
    simp [kf, Ne.symm e]
/-- what every method asks of the tables: the classes, and the links to the private methods of the outer class -/
def eNest (U : State) : Prop := va_Nw (.methodLinkNest RX2 21 yX9_hasBit RX9) U ∧ va_Nw (.methodLinkNest RX3 37 yX9_put RX9) U ∧ va_Nw (.methodLinkNest RX3 52 yX9_get RX9) U ∧ va_Nw (.methodLinkNest RX5 41 yX9_put RX9) U ∧ va_Nw (.methodLinkNest RX5 58 yX9_get RX9) U ∧ va_Nw (.methodLinkNest RX6 19 yX9_put RX9) U ∧ va_Nw (.methodLinkNest RX6 27 yX9_get RX9) U ∧ va_AO "CrookedSums$Table" U
theorem eNest.warm {s U : State} (hW : s.WarmedH U.vm) (h : eNest s) : eNest U := ⟨va_Nw.warmM hW h.1, va_Nw.warmM hW h.2.1, va_Nw.warmM hW h.2.2.1, va_Nw.warmM hW h.2.2.2.1, va_Nw.warmM hW h.2.2.2.2.1, va_Nw.warmM hW h.2.2.2.2.2.1, va_Nw.warmM hW h.2.2.2.2.2.2.1, va_AO.moved hW.alike h.2.2.2.2.2.2.2⟩
theorem eNest.same {u U : State} (e : u.vm = U.vm) (h : eNest u) : eNest U := ⟨va_Nw.same rfl e h.1, va_Nw.same rfl e h.2.1, va_Nw.same rfl e h.2.2.1, va_Nw.same rfl e h.2.2.2.1, va_Nw.same rfl e h.2.2.2.2.1, va_Nw.same rfl e h.2.2.2.2.2.1, va_Nw.same rfl e h.2.2.2.2.2.2.1, va_AO.moved (by rw [e]; exact Vm.Alike.refl _) h.2.2.2.2.2.2.2⟩
abbrev eTys (cI cC cT : ClassId) : List (ClassId × FieldType) := [(cI, .int), (cC, .char), (cT, .object "CrookedSums$Table")]
def eK (D : va_G) (cI cC cT : ClassId) (U : State) : Prop := va_K D vwCl (eTys cI cC cT) U ∧ eNest U
theorem eK.warm {D : va_G} {cI cC cT : ClassId} {s U : State} (hW : s.WarmedH U.vm) (h : eK D cI cC cT s) : eK D cI cC cT U := ⟨va_K.moved hW.alike h.1, h.2.warm hW⟩
theorem eK.call {D : va_G} {cI cC cT : ClassId} {U : State} {g : JFrame} {mk : MethodId} {a : Array Value} (h : eK D cI cC cT U) : eK D cI cC cT (U.calling g mk a) := ⟨va_K.moved (u := U) (U := U.calling g mk a) (Vm.Alike.refl U.vm) h.1, eNest.same (u := U) (U := U.calling g mk a) rfl h.2⟩
/-- a method that only reads: what it asks, and its end -/
def rP (D : va_G) (cI cC cT : ClassId) (ws : va_W) : State → Prop := fun U => va_P D vwCl ws U.heap ∧ eK D cI cC cT U
def rQ (v : Option Value) : Array Value → State → Outcome → State → Prop := fun _ st oc t => oc = .returned v ∧ t.heap = st.heap
/-- a method that writes: what it asks, and its end -/
def wP (D : va_G) (cI cC cT : ClassId) (ws : va_W) (sz : Nat) : State → Prop := fun U => U.heap.size = sz ∧ va_P D vwCl ws U.heap ∧ eK D cI cC cT U ∧ va_D (fun _ => True) ws
def wQ {S : Type} (D : va_G) (v : Option Value) (A : Nat → Prop) (w1 : S → va_W) : Array Value → State → Outcome → State → Prop := fun _ st oc t => (∃ u : S, oc = .returned v ∧ va_P D vwCl (w1 u) t.heap ∧ va_D A (w1 u)) ∧ va_F A st t
theorem rP_blind {D : va_G} {cI cC cT : ClassId} {ws : va_W} {av : List Value} : FrameBlind (va_Pc av (rP D cI cC cT ws)) := fun _ _ _ _ q => ⟨q.1, q.2.1, q.2.2.call⟩
theorem wP_blind {D : va_G} {cI cC cT : ClassId} {ws : va_W} {sz : Nat} {av : List Value} : FrameBlind (va_Pc av (wP D cI cC cT ws sz)) := fun _ _ _ _ q => ⟨q.1, q.2.1, q.2.2.1, q.2.2.2.1.call, q.2.2.2.2⟩
theorem wr_end {S : Type} {D : va_G} {v : Option Value} {A : Nat → Prop} {w1 : S → va_W} {av : Array Value} {s t : State} {H : Heap} {locs : List Loc} (u : S) (ht : t.heap = H) (hP : va_P D vwCl (w1 u) H) (hD : va_D A (w1 u)) (hS : va_S A s.heap H locs) : wQ D v A w1 av s (.returned v) t := ⟨⟨u, rfl, by rw [ht]; exact hP, hD⟩, hS.F ht⟩
section CallRows
variable {p : Program} {l : Launch} {e : Env} {R : Room} {s : State} {m : MethodId} {args : Array Value} {below : List Frame} {meth : Method} {c : Code} {H : Heap} {locs : List Loc} {cells slots : Nat} {Q : State → Prop}
variable {pc : Nat} {ls : Array Slot} {rest st0 As : List Value} {a : Array Value} {A : Nat → Prop} {mc ms : Nat} {free : Addr → Prop} {D : va_G} {cI cC cT : ClassId} {ws wc wr : va_W} {Ts wM : List Cond} {own C : String} {index n maxL nL : Nat} {y : MethodName} {bytes cc : ByteArray} {ret : Option FieldType} {rm : Room} {b : Addr}
theorem cv_top {x y : Int32} (h : x = y) (k : W p l e R s m args below meth c H locs cells slots Q (F0 m pc ls (.int y :: rest))) : W p l e R s m args below meth c H locs cells slots Q (F0 m pc ls (.int x :: rest)) := by subst h; exact k
theorem ro_go {v0 : Option Value} (hr : va_Run p l e R s m args below meth c H locs cells slots 0 0 (F0 m pc ls st0) rest (rQ v0 a) (fun _ => False)) (kk : W p l e R s m args below meth c H locs cells slots Q (F0 m (pc + 3) ls (v0.toList ++ rest))) : W p l e R s m args below meth c H locs cells slots Q (F0 m pc ls st0) := by
  intro T hT X
  obtain ⟨v, st₀, t, T', L, h0, X', hL, e1, e2, ⟨hv, hh⟩, st⟩ := hr T hT X
  cases hv
  have hL0 : L = [] := by
    cases L with
    | nil => rfl
    | cons q L => exact (hL q List.mem_cons_self).elim
  subst hL0
  rw [List.append_nil] at X'
  obtain ⟨t2, a1, b1⟩ := kk T' (e1.trans (hh.trans h0)) X'
  exact ⟨t2, st t2 a1, b1⟩
theorem wr_go {S : Type} {v0 : Option Value} {w1 : S → va_W} (hr : va_Run p l e R s m args below meth c H locs cells slots mc ms (F0 m pc ls st0) rest (wQ D v0 (va_A wc H.size) w1 a) (va_A wc H.size)) (hP : va_P D vwCl ws H) (hD : va_D A ws) (hS : va_S A s.heap H locs) (hA : ∀ q, s.heap.size ≤ q → A q) (isC isR : List Nat) (hC : isC.map (fun i => ws[i]?) = wc.map some) (hR : isR.map (fun i => ws[i]?) = wr.map some) (hn : va_nd isR = true) (hdis : isR.all (fun i => !isC.contains i) = true) (kk : ∀ (u : S) (H1 : Heap) (locs1 : List Loc), va_P D vwCl (wr ++ w1 u) H1 → va_D A (wr ++ w1 u) → va_S A s.heap H1 locs1 → W p l e R s m args below meth c H1 locs1 (cells + mc) (slots + ms) Q (F0 m (pc + 3) ls (v0.toList ++ rest))) : W p l e R s m args below meth c H locs cells slots Q (F0 m pc ls st0) := by
  intro T hT X
  have hF := va_free hD hS hA isC hC
  obtain ⟨v, st₀, t, T', L, h0, X', hL, e1, e2, ⟨⟨u, hv, hp, hd⟩, hz, hk⟩, st⟩ := hr T hT X
  cases hv
  rw [h0] at hz hk
  rw [← e1] at hz hk hp
  have hdis' : ∀ i ∈ isR, i ∉ isC := fun i hi hc => by
    have := List.all_eq_true.mp hdis i hi
    simp [List.contains_iff_mem, hc] at this
  obtain ⟨hP2, hD2⟩ := va_join hP hD isC isR hC hR hn hdis' hk hF hp hd
  obtain ⟨t2, a1, b1⟩ := kk u T'.heap (locs ++ L) hP2 hD2 ⟨Nat.le_trans hS.1 hz, fun q h1 h2 => by
      rw [hk q (Nat.lt_of_lt_of_le h1 hS.1) (fun z => h2 (hF q z))]; exact hS.2.1 q h1 h2, fun q hq => by
      rcases List.mem_append.mp hq with h | h
      · exact hS.2.2 q h
      · exact hF _ (hL q h)⟩ T' rfl X'
  exact ⟨t2, st t2 a1, b1⟩
theorem ro_V {v0 : Option Value} (S : CallFix p m c cc nL s args Ts own) (hM : Met l y wM rm (va_Pc (.ref b :: As) (rP D cI cC cT wc)) (rQ v0) 0 0 (fun _ => False)) (cw : CallW R s args own C index y bytes maxL ret wM rm 0 0 n) (hE : eK D cI cC cT s) (hPc : va_P D vwCl wc H) (hrec : ∃ cell : Cell, H[b]? = some cell ∧ cell.vm.isStatics = false ∧ s.vm.findClass C = some cell.cls) (hn : As.length = n) (hsize : ls.size = nL) (hst : st0 = As.reverse ++ .ref b :: rest) (hW : (rest.map fun v => v.category).sum ≤ 8) (hdg : decode cc pc = .ok (.invokevirtual index, 3)) (hf : cells ≤ R.cells ∧ slots ≤ R.slots) (kk : W p l e R s m args below meth c H locs cells slots Q (F0 m (pc + 3) ls (v0.toList ++ rest))) : W p l e R s m args below meth c H locs cells slots Q (F0 m pc ls st0) :=
  ro_go (va_runV (g := F0 m pc ls st0) S hM cw ⟨rP_blind, hrec, fun U hU hW => ⟨rfl, by rw [hU]; exact hPc, hE.warm hW⟩⟩ rfl hn hsize hst (lv_room hW) hdg hf) kk
theorem ro_S {v0 : Option Value} (S : CallFix p m c cc nL s args Ts own) (hM : Met l y wM rm (va_Pc As (rP D cI cC cT wc)) (rQ v0) 0 0 (fun _ => False)) (cw : CallB R s args own index y bytes maxL ret wM rm 0 0 n ∧ (Cond.static y).before args s = true) (hE : eK D cI cC cT s) (hPc : va_P D vwCl wc H) (hn : As.length = n) (hsize : ls.size = nL) (hst : st0 = As.reverse ++ rest) (hW : (rest.map fun v => v.category).sum ≤ 8) (hdg : decode cc pc = .ok (.invokestatic index, 3)) (hf : cells ≤ R.cells ∧ slots ≤ R.slots) (kk : W p l e R s m args below meth c H locs cells slots Q (F0 m (pc + 3) ls (v0.toList ++ rest))) : W p l e R s m args below meth c H locs cells slots Q (F0 m pc ls st0) :=
  ro_go (va_runS (g := F0 m pc ls st0) S hM cw ⟨rP_blind, fun U hU hW => ⟨rfl, by rw [hU]; exact hPc, hE.warm hW⟩⟩ rfl hn hsize hst (lv_room hW) hdg hf) kk
theorem ro_SN {host : String} {v0 : Option Value} (S : CallFix p m c cc nL s args Ts own) (hM : Met l y wM rm (va_Pc As (rP D cI cC cT wc)) (rQ v0) 0 0 (fun _ => False)) (cw : va_CN R s args own index y host bytes maxL ret wM rm 0 0 n ∧ (Cond.static y).before args s = true ∧ True) (hE : eK D cI cC cT s) (hPc : va_P D vwCl wc H) (hn : As.length = n) (hsize : ls.size = nL) (hst : st0 = As.reverse ++ rest) (hW : (rest.map fun v => v.category).sum ≤ 8) (hdg : decode cc pc = .ok (.invokestatic index, 3)) (hf : cells ≤ R.cells ∧ slots ≤ R.slots) (kk : W p l e R s m args below meth c H locs cells slots Q (F0 m (pc + 3) ls (v0.toList ++ rest))) : W p l e R s m args below meth c H locs cells slots Q (F0 m pc ls st0) :=
  ro_go (va_runSN (g := F0 m pc ls st0) S hM cw ⟨rP_blind, fun U hU hW => ⟨rfl, by rw [hU]; exact hPc, hE.warm hW⟩⟩ rfl hn hsize hst (lv_room hW) hdg hf) kk
theorem wr_V {S0 : Type} {v0 : Option Value} {w1 : S0 → va_W} (S : CallFix p m c cc nL s args Ts own) (hM : Met l y wM rm (va_Pc (.ref b :: As) (wP D cI cC cT wc H.size)) (wQ D v0 (va_A wc H.size) w1) 0 0 (va_A wc H.size)) (cw : CallW R s args own C index y bytes maxL ret wM rm 0 0 n) (hE : eK D cI cC cT s) (hP : va_P D vwCl ws H) (hD : va_D A ws) (hS : va_S A s.heap H locs) (hA : ∀ q, s.heap.size ≤ q → A q) (isC isR : List Nat) (hPc : va_P D vwCl wc H) (hDc : va_D A wc) (hrec : ∃ cell : Cell, H[b]? = some cell ∧ cell.vm.isStatics = false ∧ s.vm.findClass C = some cell.cls) (hC : isC.map (fun i => ws[i]?) = wc.map some) (hR : isR.map (fun i => ws[i]?) = wr.map some) (hnd : va_nd isR = true) (hdis : isR.all (fun i => !isC.contains i) = true) (hn : As.length = n) (hsize : ls.size = nL) (hst : st0 = As.reverse ++ .ref b :: rest) (hW : (rest.map fun v => v.category).sum ≤ 8) (hdg : decode cc pc = .ok (.invokevirtual index, 3)) (hf : cells ≤ R.cells ∧ slots ≤ R.slots) (kk : ∀ (u : S0) (H1 : Heap) (locs1 : List Loc), va_P D vwCl (wr ++ w1 u) H1 → va_D A (wr ++ w1 u) → va_S A s.heap H1 locs1 → W p l e R s m args below meth c H1 locs1 cells slots Q (F0 m (pc + 3) ls (v0.toList ++ rest))) : W p l e R s m args below meth c H locs cells slots Q (F0 m pc ls st0) :=
  wr_go (va_runV (g := F0 m pc ls st0) S hM cw ⟨wP_blind, hrec, fun U hU hW => ⟨rfl, by rw [hU], by rw [hU]; exact hPc, hE.warm hW, hDc.weaken (fun _ _ _ _ => trivial)⟩⟩ rfl hn hsize hst (lv_room hW) hdg hf) hP hD hS hA isC isR hC hR hnd hdis kk
theorem wr_S {S0 : Type} {v0 : Option Value} {w1 : S0 → va_W} (S : CallFix p m c cc nL s args Ts own) (hM : Met l y wM rm (va_Pc As (wP D cI cC cT wc H.size)) (wQ D v0 (va_A wc H.size) w1) 0 0 (va_A wc H.size)) (cw : CallB R s args own index y bytes maxL ret wM rm 0 0 n ∧ (Cond.static y).before args s = true) (hE : eK D cI cC cT s) (hP : va_P D vwCl ws H) (hD : va_D A ws) (hS : va_S A s.heap H locs) (hA : ∀ q, s.heap.size ≤ q → A q) (isC isR : List Nat) (hPc : va_P D vwCl wc H) (hDc : va_D A wc) (hC : isC.map (fun i => ws[i]?) = wc.map some) (hR : isR.map (fun i => ws[i]?) = wr.map some) (hnd : va_nd isR = true) (hdis : isR.all (fun i => !isC.contains i) = true) (hn : As.length = n) (hsize : ls.size = nL) (hst : st0 = As.reverse ++ rest) (hW : (rest.map fun v => v.category).sum ≤ 8) (hdg : decode cc pc = .ok (.invokestatic index, 3)) (hf : cells ≤ R.cells ∧ slots ≤ R.slots) (kk : ∀ (u : S0) (H1 : Heap) (locs1 : List Loc), va_P D vwCl (wr ++ w1 u) H1 → va_D A (wr ++ w1 u) → va_S A s.heap H1 locs1 → W p l e R s m args below meth c H1 locs1 cells slots Q (F0 m (pc + 3) ls (v0.toList ++ rest))) : W p l e R s m args below meth c H locs cells slots Q (F0 m pc ls st0) :=
  wr_go (va_runS (g := F0 m pc ls st0) S hM cw ⟨wP_blind, fun U hU hW => ⟨rfl, by rw [hU], by rw [hU]; exact hPc, hE.warm hW, hDc.weaken (fun _ _ _ _ => trivial)⟩⟩ rfl hn hsize hst (lv_room hW) hdg hf) hP hD hS hA isC isR hC hR hnd hdis kk
theorem wr_SN {host : String} {S0 : Type} {v0 : Option Value} {w1 : S0 → va_W} (S : CallFix p m c cc nL s args Ts own) (hM : Met l y wM rm (va_Pc As (wP D cI cC cT wc H.size)) (wQ D v0 (va_A wc H.size) w1) 0 0 (va_A wc H.size)) (cw : va_CN R s args own index y host bytes maxL ret wM rm 0 0 n ∧ (Cond.static y).before args s = true ∧ True) (hE : eK D cI cC cT s) (hP : va_P D vwCl ws H) (hD : va_D A ws) (hS : va_S A s.heap H locs) (hA : ∀ q, s.heap.size ≤ q → A q) (isC isR : List Nat) (hPc : va_P D vwCl wc H) (hDc : va_D A wc) (hC : isC.map (fun i => ws[i]?) = wc.map some) (hR : isR.map (fun i => ws[i]?) = wr.map some) (hnd : va_nd isR = true) (hdis : isR.all (fun i => !isC.contains i) = true) (hn : As.length = n) (hsize : ls.size = nL) (hst : st0 = As.reverse ++ rest) (hW : (rest.map fun v => v.category).sum ≤ 8) (hdg : decode cc pc = .ok (.invokestatic index, 3)) (hf : cells ≤ R.cells ∧ slots ≤ R.slots) (kk : ∀ (u : S0) (H1 : Heap) (locs1 : List Loc), va_P D vwCl (wr ++ w1 u) H1 → va_D A (wr ++ w1 u) → va_S A s.heap H1 locs1 → W p l e R s m args below meth c H1 locs1 cells slots Q (F0 m (pc + 3) ls (v0.toList ++ rest))) : W p l e R s m args below meth c H locs cells slots Q (F0 m pc ls st0) :=
  wr_go (va_runSN (g := F0 m pc ls st0) S hM cw ⟨wP_blind, fun U hU hW => ⟨rfl, by rw [hU], by rw [hU]; exact hPc, hE.warm hW, hDc.weaken (fun _ _ _ _ => trivial)⟩⟩ rfl hn hsize hst (lv_room hW) hdg hf) hP hD hS hA isC isR hC hR hnd hdis kk
theorem wr_I {S0 : Type} {w1 : S0 → va_W} (S : CallFix p m c cc nL s args Ts own) (hM : Met l y wM rm (va_Pc (.ref b :: As) (wP D cI cC cT wc H.size)) (wQ D none (va_A wc H.size) w1) mc ms (va_A wc H.size)) (cw : CallB R s args own index y bytes maxL none wM rm mc ms n ∧ y.name = "<init>" ∧ (Cond.instanceMethod y).before args s = true) (hE : eK D cI cC cT s) (hP : va_P D vwCl ws H) (hD : va_D A ws) (hS : va_S A s.heap H locs) (hA : ∀ q, s.heap.size ≤ q → A q) (isC isR : List Nat) (hPc : va_P D vwCl wc H) (hDc : va_D A wc) (hC : isC.map (fun i => ws[i]?) = wc.map some) (hR : isR.map (fun i => ws[i]?) = wr.map some) (hnd : va_nd isR = true) (hdis : isR.all (fun i => !isC.contains i) = true) (hn : As.length = n) (hsize : ls.size = nL) (hst : st0 = As.reverse ++ .ref b :: rest) (hW : (rest.map fun v => v.category).sum ≤ 8) (hdg : decode cc pc = .ok (.invokespecial index, 3)) (hf : cells + mc ≤ R.cells ∧ slots + ms ≤ R.slots) (kk : ∀ (u : S0) (H1 : Heap) (locs1 : List Loc), va_P D vwCl (wr ++ w1 u) H1 → va_D A (wr ++ w1 u) → va_S A s.heap H1 locs1 → W p l e R s m args below meth c H1 locs1 (cells + mc) (slots + ms) Q (F0 m (pc + 3) ls rest)) : W p l e R s m args below meth c H locs cells slots Q (F0 m pc ls st0) :=
  wr_go (v0 := none) (va_runI (g := F0 m pc ls st0) S hM cw ⟨wP_blind, fun U hU hW => ⟨rfl, by rw [hU], by rw [hU]; exact hPc, hE.warm hW, hDc.weaken (fun _ _ _ _ => trivial)⟩⟩ rfl hn hsize hst (lv_room hW) hdg hf) hP hD hS hA isC isR hC hR hnd hdis kk
end CallRows
theorem eK_int {D : va_G} {cI cC cT cA : ClassId} {s : State} (h : va_K D vwCl (eTys cI cC cT) s) (h2 : va_K D vwCl (eTys cI cC cT ++ [(cA, .int)]) s) : cI = cA :=
  Option.some.inj ((h.2 0 _ rfl).2.symm.trans (h2.2 3 _ rfl).2)
theorem eK_char {D : va_G} {cI cC cT cA : ClassId} {s : State} (h : va_K D vwCl (eTys cI cC cT) s) (h2 : va_K D vwCl (eTys cI cC cT ++ [(cA, .char)]) s) : cC = cA :=
  Option.some.inj ((h.2 1 _ rfl).2.symm.trans (h2.2 3 _ rfl).2)
theorem eK_tab {D : va_G} {cI cC cT cA : ClassId} {s : State} (h : va_K D vwCl (eTys cI cC cT) s) (h2 : va_K D vwCl (eTys cI cC cT ++ [(cA, .object "CrookedSums$Table")]) s) : cT = cA := by
  obtain ⟨_, _, _, _, _, h4⟩ := (h.2 2 _ rfl).2
  obtain ⟨_, _, _, _, _, g4⟩ := (h2.2 3 _ rfl).2
  exact Option.some.inj (h4.symm.trans g4)
theorem kf4 (a b c d : Nat) : va_up (va_up (va_up (va_up (fun _ => none) 0 (some a)) 1 (some b)) 2 (some c)) 3 (some d) = kf [a, b, c, d] := by
  funext i
  match i with
  | 0 => rfl
  | 1 => rfl
  | 2 => rfl
  | 3 => rfl
  | n + 4 => simp [va_up, kf]
theorem nnan_ok {r : UInt64} (h : nnan r = true) : vf_n64 r := by
  unfold nnan at h
  unfold vf_n64
  exact of_decide_eq_true h
theorem Met.wimp {l : Launch} {y : MethodName} {ws : List Cond} {rm : Room} {Pc : Array Value → State → Prop} {Qc Qc' : Array Value → State → Outcome → State → Prop} {mc ms : Nat} {free : Addr → Prop} (h : Met l y ws rm Pc Qc mc ms free) (hi : ∀ a st o t, Qc a st o t → Qc' a st o t) : Met l y ws rm Pc Qc' mc ms free :=
  MetFree.mono h (fun _ _ h => h) (fun _ _ _ _ _ h => h) (fun _ _ _ _ _ h => ⟨hi _ _ _ _ h.1, h.2⟩)
theorem wQ_imp {S : Type} {D : va_G} {v : Option Value} {A : Nat → Prop} {w0 : va_W} {w1 : S → va_W} (u : S) (e : w0 = w1 u) {a : Array Value} {st : State} {o : Outcome} {t : State} (h : wQ D v A (fun (_ : Unit) => w0) a st o t) : wQ D v A w1 a st o t := by
  subst e
  obtain ⟨⟨_, h1, h2, h3⟩, h4⟩ := h
  exact ⟨⟨u, h1, h2, h3⟩, h4⟩
