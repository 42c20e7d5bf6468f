/-! the law's walk: methods with handlers, the law's world (LW: the object, its state, the law's own arrays), goals that hold in every such world (GL) -/
section WRAP0
/-- a method with a table of handlers -/
def MCH (E : gE) (Y : gY) (hh : List (Nat × Nat × Nat × Nat)) (as : List Value) (sh : Sh) (sz : Nat) (V : Vl) (P : gP) : Prop :=
  vx_Met E.1 Y.1 (Cond.codeWith Y.1 Y.2.1 Y.2.2.1 Y.2.2.2.1 hh :: gW) Y.2.2.2.2 (gPc E as sh sz V) (gQ E P) (gX E P) Y.2.2.2.2.cells Y.2.2.2.2.slots (gN E)
theorem MCH.of {E : gE} {Y : gY} {hh : List (Nat × Nat × Nat × Nat)} {as : List Value} {sh : Sh} {sz : Nat} {V : Vl} {P : gP} (own nm : String) (hcls : Y.1.cls = own) (hy : plainName Y.1.cls = true) (hnm : Y.1.name = nm) (k : Nat) (L : List (Option Value)) (hL : lin as ++ List.replicate k none = L) (hlen : (lg_sl as).length ≤ Y.2.2.1)
    (kk : G E (Y.2.1, Y.2.2.1, own, Y.2.2.2.1, tableOf hh, nm, Y.2.2.2.2) P sh sz V 0 0 0 L []) : MCH E Y hh as sh sz V P := by
  refine vx_ofWH (hh := hh) hy rfl ?_
  intro p e s m args below meth c s₁ B hml hv
  obtain ⟨rfl, hK, hR⟩ := hv
  have hl := lv_entry as (n := Y.2.2.1) hlen
  rw [← asc_lin as k 0, hL] at hl
  rw [lg_entry_eq]
  obtain ⟨n1, n2⟩ := name_of_methodNamed B.named B.method
  have ht : c.exceptionTable.toList = tableOf hh := vx_table (x := Y.1) B (atoms_spec B.pre _ List.mem_cons_self)
  refine kk p e s m as.toArray below meth c ⟨B.exec, B.bytes, hml, hcls ▸ findClass_of_methodNamed B.named, fun w hw => atoms_spec B.pre w (List.mem_cons_of_mem _ hw), B.returns, B.notSynchronized, ht, by rw [n1]; exact hnm, hK, by rw [hR.1]; exact hR.2.1, hR.2.2.1⟩ s.heap [] _ ⟨hl, hR, fun _ h => (nomatch h), by rw [hR.1]; exact Nat.le_refl _⟩
theorem gIn_SH {own : String} {idx n : Nat} {y : MethodName} {cc : ByteArray} {ret : Option FieldType} {hh : List (Nat × Nat × Nat × Nat)} (h1 : Cond.methodLink own idx y ∈ gW) (h2 : Cond.static y ∈ gW) (h4 : Cond.initialized y.cls ∈ gW) (h5 : Cond.codeWith y cc n ret hh ∈ gW) : GoodIn gW (va_wsS own idx y (Cond.codeWith y cc n ret hh :: gW)) :=
  gIn_cons h1 (gIn_cons h2 (gIn_cons h4 (gIn_cons h5 gIn_self)))
variable {E : gE} {M : gM} {P : gP} {sh : Sh} {sz : Nat} {V : Vl} {cu su pc : Nat} {L : List (Option Value)} {rest : List Value}
theorem g_callSH {Y : gY} {hh : List (Nat × Nat × Nat × Nat)} {idx n : Nat} (hs : GoodIn gW (va_wsS M.2.2.1 idx Y.1 (Cond.codeWith Y.1 Y.2.1 Y.2.2.1 Y.2.2.2.1 hh :: gW))) (hy : gName Y.1 n) (hdg : decode M.1 pc = .ok (.invokestatic idx, 3))
    {As S : List Value} {P2 : gP} (hc : MCH E Y hh As sh sz V P2) (hn : As.length = n) (hS : S = As.reverse ++ rest) (hroom : gRoom Y M cu su) (hcat : (rest.map fun v => v.category).sum ≤ 8)
    (hz : ∀ o sh' sz' V', P2 o sh' sz' V' → sz ≤ sz') (hx : ∀ C sh' sz' V', ¬ P2 (.inr C) sh' sz' V')
    (kk : ∀ v sh' sz' V', P2 (.inl v) sh' sz' V' → G E M P sh' sz' V' (cu + Y.2.2.2.2.cells) (su + Y.2.2.2.2.slots) (pc + 3) L (v.toList ++ rest)) : G E M P sh sz V cu su pc L S := by
  subst hS
  intro p e s m args below meth c C0 H locs ls D
  refine vx_any (vx_runSX (rest := rest) (hh := hh) ⟨C0.1, C0.2.1, C0.2.2.1, C0.2.2.2.1, C0.2.2.2.2.1⟩ hc (vx_cwSW n C0.2.2.2.2.1 hs rfl rfl rfl hy ⟨hroom.1, hroom.2.1⟩) ⟨gPc_blind, fun U hU hW => ⟨rfl, C0.2.2.2.2.2.2.2.2.2.1.warm hW, by rw [hU]; exact D.2.1⟩⟩ rfl hn D.1.1 rfl (lv_room hcat) hdg ⟨hroom.2.2.1, hroom.2.2.2⟩) ?_ ?_
  · rintro v st t L2 hL ⟨v', sh', sz', V', hv, hR, hP⟩
    cases hv
    exact kk v sh' sz' V' hP p e s m args below meth c C0 t.heap _ ls (HR.mono_sz D hR (hz _ _ _ _ hP) hL)
  · rintro C9 ce q st t L2 hL ⟨sh', sz', V', hR, hP⟩ h1 h2 h3
    exact absurd hP (hx _ _ _ _)
/-- caught here -/
theorem g_catch {C : String} (pre : List ExceptionTableEntry) (x : ExceptionTableEntry) (suf : List ExceptionTableEntry) (hsplit : M.2.2.2.2.1 = pre ++ x :: suf) (hpass : ∀ z ∈ pre, covers z pc = false ∨ (z.catchType ≠ 0 ∧ ∃ nm, Cond.classLink M.2.2.1 z.catchType nm ∈ gW ∧ nm ∈ gEx5 ∧ C ≠ nm)) (hC : C ∈ gEx) (hx : covers x pc = true) (h0 : x.catchType ≠ 0) (hlink : Cond.classLink M.2.2.1 x.catchType C ∈ gW) (hcast : Cond.castable C C ∈ gNw)
    (kk : ∀ q, G E M P sh sz V cu su x.handlerPc L [.ref q]) : Gt E M P sh sz V cu su pc L C := by
  intro p e s m args below meth c C0 H locs ls D q ce rest h1 h2 h3
  have hK := C0.2.2.2.2.2.2.2.2.2.1
  refine vx_catch C0.2.2.2.1 pre x suf (C0.2.2.2.2.2.2.2.1.trans hsplit) (fun z hz => ?_) hx h0 (C0.2.2.2.2.1 _ hlink) ((hK.2.2.2.2.2.2.1 _ hcast).use rfl) h1 h2 h3 (kk q p e s m args below meth c C0 H locs ls D)
  rcases hpass z hz with h | ⟨h, nm, a, b, d⟩
  · exact Or.inl h
  · exact Or.inr ⟨h, nm, C0.2.2.2.2.1 _ a, hK.2.2.2.2.2.2.2.1.2.2 _ hC _ b d⟩
theorem exs1 {k : Nat} {C A : String} (h : k ≠ 0) (h2 : ([A] : List String)[k - 1]? = some C) : k = 1 ∧ C = A := by
  rcases Nat.lt_or_ge k 2 with q | q
  · have : k = 1 := by omega
    subst this
    exact ⟨rfl, (Option.some.inj h2).symm⟩
  · rw [List.getElem?_eq_none (by show 1 ≤ k - 1; omega)] at h2
    cases h2
theorem exs2 {k : Nat} {C A B : String} (h : k ≠ 0) (h2 : ([A, B] : List String)[k - 1]? = some C) : (k = 1 ∧ C = A) ∨ (k = 2 ∧ C = B) := by
  rcases Nat.lt_or_ge k 3 with q | q
  · rcases (show k = 1 ∨ k = 2 by omega) with rfl | rfl
    · exact Or.inl ⟨rfl, (Option.some.inj h2).symm⟩
    · exact Or.inr ⟨rfl, (Option.some.inj h2).symm⟩
  · rw [List.getElem?_eq_none (by show 2 ≤ k - 1; omega)] at h2
    cases h2
theorem exs3 {k : Nat} {C A B D : String} (h : k ≠ 0) (h2 : ([A, B, D] : List String)[k - 1]? = some C) : (k = 1 ∧ C = A) ∨ (k = 2 ∧ C = B) ∨ (k = 3 ∧ C = D) := by
  rcases Nat.lt_or_ge k 4 with q | q
  · rcases (show k = 1 ∨ k = 2 ∨ k = 3 by omega) with rfl | rfl | rfl
    · exact Or.inl ⟨rfl, (Option.some.inj h2).symm⟩
    · exact Or.inr (Or.inl ⟨rfl, (Option.some.inj h2).symm⟩)
    · exact Or.inr (Or.inr ⟨rfl, (Option.some.inj h2).symm⟩)
  · rw [List.getElem?_eq_none (by show 3 ≤ k - 1; omega)] at h2
    cases h2
/-- what a call of the class comes to -/
def P6 (x : Nat) (sh : Sh) (sz : Nat) (V : Vl) (exs : List String) (q : Sp) : gP := fun o sh' sz' V' => Ext x sh sz V sh' sz' V' ∧ CS sh' V' x q.2.2 ∧ match o with
  | .inl v => q.1 = 0 ∧ v = some q.2.1
  | .inr C => q.1 ≠ 0 ∧ exs[q.1 - 1]? = some C
theorem cp6 {x : Nat} {exs : List String} {q : Sp} : CP x sh sz V exs q (P6 x sh sz V exs q) := fun _ _ _ h1 h2 => ⟨fun h => ⟨h1, h2, h, rfl⟩, fun _ h h3 => ⟨h1, h2, h, h3⟩⟩
theorem CAt.keep {V' : Vl} {x : Nat} {f : Fl} {sn : Option Fl} {H : Nat → Fl} {cn : Nat} {tx : Nat → Int32} {ln : Nat} {er : Int32} {rf : Int32 × Int32} (hC : CAt sh V x f sn H cn tx ln er rf) (hV : ∀ a, x ≤ a → a < x + 284 → V' a = V a) (hT : Tr sh V V') : CAt sh V' x f sn H cn tx ln er rf := by
  obtain ⟨h1, h2, ⟨g3, h3⟩, ⟨g4, h4, h4'⟩, ⟨K, nx, h5, h5'⟩, h6⟩ := hC
  refine ⟨?_, h2.keep (fun a p q => hV a (by omega) (by omega)) hT, ⟨g3, h3.keep (fun a p q => hV a (by omega) (by omega)) hT⟩, ⟨g4, h4.keep (fun a p q => hV a (by omega) (by omega)) hT, h4'⟩, ⟨K, nx, h5.keep (fun a p q => hV a (by omega) (by omega)) hT, h5'⟩, h6.keep (fun a p q => hV a (by omega) (by omega))⟩
  unfold ObAt at h1 ⊢
  rw [hV x (by omega) (by omega)]
  exact h1
theorem bud_vf {t : Int32 × Int32 × Int32} (h : okT t) : vf_n32 (bud t) := by
  obtain ⟨-, ⟨w, w1, w2, hw⟩, y, y1, y2, hy⟩ := h
  unfold bud
  rw [hw, hy]
  split
  · exact vf32 (FP.Core.i2f_fin _).notNaN
  · exact (fp_bud w (by omega) y (by omega)).2
/-- the law's own cells: where, what kind, what in them -/
abbrev La : Type := List (Nat × (Nat × Nat) × (Nat → Value))
def LW (x : Nat) (S : St) (A : La) (sh : Sh) (sz : Nat) (V : Vl) : Prop := CS sh V x S ∧ InvS S ∧ Wf sh sz ∧ x + 284 ≤ sz ∧ ∀ q ∈ A, x + 284 ≤ q.1 ∧ q.1 < sz ∧ sh q.1 = q.2.1 ∧ V q.1 = q.2.2
theorem LW.ext {x : Nat} {S S' : St} {A : La} {sh' : Sh} {sz' : Nat} {V' : Vl} (h : LW x S A sh sz V) (hE : Ext x sh sz V sh' sz' V') (hC : CS sh' V' x S') (hI : InvS S') : LW x S' A sh' sz' V' :=
  ⟨hC, hI, hE.2.2, Nat.le_trans h.2.2.2.1 hE.1, fun q hq => by
    obtain ⟨a, b, c, d⟩ := h.2.2.2.2 q hq
    exact ⟨a, Nat.lt_of_lt_of_le b hE.1, ((hE.2.1 _ b).1).trans c, ((hE.2.1 _ b).2 (by omega)).trans d⟩⟩
theorem LW.sub {x : Nat} {S : St} {A B : La} (h : LW x S A sh sz V) (hs : ∀ q ∈ B, q ∈ A) : LW x S B sh sz V := ⟨h.1, h.2.1, h.2.2.1, h.2.2.2.1, fun q hq => h.2.2.2.2 q (hs q hq)⟩
theorem LW.s9 {x : Nat} {S : St} {A : La} (h : LW x S A sh sz V) : (sh x).1 = 9 := h.1.1.1
theorem LW.sB {x : Nat} {S : St} {A : La} (h : LW x S A sh sz V) : InvB S.1 := h.2.1.1.1
/-- a new array of the law's own -/
theorem LW.new {x : Nat} {S : St} {A : La} {t : Nat × Nat} {F : Nat → Value} (h : LW x S A sh sz V) : LW x S ((sz, t, F) :: A) (hs sh sz t) (sz + 1) (hn V sz F) := by
  obtain ⟨h1, h2, h3, h4, h5⟩ := h
  refine ⟨CAt.grow h1 (sz := sz) h3 (fun a ha => ⟨hs_ne _ _ (by omega), hn_ne _ _ (by omega)⟩), h2, fun a ha => by rw [hs_ne _ _ (by omega)]; exact h3 a (by omega), by omega, fun q hq => ?_⟩
  rcases List.mem_cons.mp hq with rfl | hq
  · exact ⟨h4, Nat.lt_succ_self _, hs_at _ _ _, hn_at _ _ _⟩
  · obtain ⟨a, b, c, d⟩ := h5 q hq
    exact ⟨a, by omega, (hs_ne _ _ (by omega)).trans c, (hn_ne _ _ (by omega)).trans d⟩
/-- .. the first of them written -/
theorem LW.put {x a k : Nat} {S : St} {A : La} {t : Nat × Nat} {F : Nat → Value} {v : Value} (h : LW x S ((a, t, F) :: A) sh sz V) (hA : ∀ q ∈ A, q.1 ≠ a) (h8 : ¬ t.1 = 8) : LW x S ((a, t, updV F k v) :: A) sh sz (hu V a k v) := by
  obtain ⟨h1, h2, h3, h4, h5⟩ := h
  obtain ⟨a1, a2, a3, a4⟩ := h5 _ List.mem_cons_self
  have a1 : x + 284 ≤ a := a1
  have a3 : sh a = t := a3
  refine ⟨CAt.keep h1 (fun b b1 b2 => hu_ne _ _ _ (fun e => by omega)) (fun q hq => hu_ne _ _ _ (fun e => h8 (by rw [← a3, ← e]; exact hq))), h2, h3, h4, fun q hq => ?_⟩
  rcases List.mem_cons.mp hq with rfl | hq
  · refine ⟨a1, a2, a3, ?_⟩
    show hu V a k v a = _
    unfold hu
    rw [if_pos rfl, show V a = F from a4]
  · obtain ⟨b1, b2, b3, b4⟩ := h5 q (List.mem_cons_of_mem _ hq)
    exact ⟨b1, b2, b3, (hu_ne _ _ _ (hA q hq)).trans b4⟩
/-- what a call leaves: the object in the state S', the law's own arrays as they were, the answer -/
def PLs (x : Nat) (A : La) (sz : Nat) (S' : St) (v : Value) : gP := fun r sh' sz' V' => sz ≤ sz' ∧ LW x S' A sh' sz' V' ∧ r = .inl (some v)
/-- .. where the state isn't told to the letter -/
def PLx (x : Nat) (A : La) (sz : Nat) (Q : St → Value → Prop) : gP := fun r sh' sz' V' => sz ≤ sz' ∧ ∃ S' v, LW x S' A sh' sz' V' ∧ Q S' v ∧ r = .inl (some v)
theorem LW.cp {x : Nat} {S : St} {A : La} {q : Sp} {exs : List String} (h : LW x S A sh sz V) (h0 : q.1 = 0) (hI : InvS q.2.2) : CP x sh sz V exs q (PLs x A sz q.2.2 q.2.1) := fun _ _ _ h1 h2 => ⟨fun _ => ⟨h1.1, h.ext h1 h2 hI, rfl⟩, fun _ hn => absurd h0 hn⟩
/-- what a wrapped call answers -/
def rv (cs : List Int32) (q : Sp) : Value := if q.1 = 0 then q.2.1 else .int (cs.getD (q.1 - 1) 0)
theorem rv_0 {cs : List Int32} {v : Value} {S : St} : rv cs (0, v, S) = v := rfl
/-- a goal of the law's walk that holds in every world of the law's: z was the heap's size at the entry, u units of room are taken -/
def GL (E : gE) (M : gM) (P : gP) (x : Nat) (S : St) (A : La) (z u pc : Nat) (L : List (Option Value)) (st : List Value) : Prop :=
  ∀ sh sz V cu su, LW x S A sh sz V → (z ≤ sz ∧ cu ≤ u ∧ su ≤ 6 * u) → G E M P sh sz V cu su pc L st
theorem GL.go {x z u w : Nat} {S : St} {A : La} {st : List Value} (h : GL E M P x S A z w pc L st) (hA : LW x S A sh sz V) (hb : z ≤ sz ∧ cu ≤ u ∧ su ≤ 6 * u) (hu : u ≤ w) : G E M P sh sz V cu su pc L st := h sh sz V cu su hA ⟨hb.1, by omega, by omega⟩
theorem GL.le {x z u w : Nat} {S : St} {A : La} {st : List Value} (h : GL E M P x S A z w pc L st) (hu : u ≤ w) : GL E M P x S A z u pc L st := fun sh sz V cu su hA hb => h sh sz V cu su hA ⟨hb.1, by omega, by omega⟩
/-- room for a call of at most k units, u taken so far -/
def lRm (Y : gY) (M : gM) (k u : Nat) : Prop := (Y.2.2.2.2.frames + 1 ≤ M.2.2.2.2.2.2.frames ∧ 8 + (Y.2.2.1 + 11) + Y.2.2.2.2.locals ≤ M.2.2.2.2.2.2.locals) ∧ (Y.2.2.2.2.cells ≤ k ∧ Y.2.2.2.2.slots ≤ 6 * k) ∧ u + k ≤ M.2.2.2.2.2.2.cells ∧ 6 * (u + k) ≤ M.2.2.2.2.2.2.slots
def lRmB (Y : gY) (M : gM) (k : Nat) : Bool := Nat.ble (Y.2.2.2.2.frames + 1) M.2.2.2.2.2.2.frames && (Nat.ble (8 + (Y.2.2.1 + 11) + Y.2.2.2.2.locals) M.2.2.2.2.2.2.locals && (Nat.ble Y.2.2.2.2.cells k && Nat.ble Y.2.2.2.2.slots (6 * k)))
theorem lRm_of {Y : gY} {k u : Nat} (h : lRmB Y M k = true) (hu : u + k ≤ M.2.2.2.2.2.2.cells ∧ 6 * (u + k) ≤ M.2.2.2.2.2.2.slots) : lRm Y M k u := by
  simp only [lRmB, Bool.and_eq_true] at h
  exact ⟨⟨Nat.le_of_ble_eq_true h.1, Nat.le_of_ble_eq_true h.2.1⟩, ⟨Nat.le_of_ble_eq_true h.2.2.1, Nat.le_of_ble_eq_true h.2.2.2⟩, hu⟩
theorem lRm.g {Y : gY} {k u : Nat} (h : lRm Y M k u) (h1 : cu ≤ u) (h2 : su ≤ 6 * u) : gRoom Y M cu su := ⟨h.1.1, h.1.2, Nat.le_trans (Nat.add_le_add h1 h.2.1.1) h.2.2.1, by have := h.2.1.2; have := h.2.2.2; omega⟩
theorem lRm.b {Y : gY} {k u z sz' : Nat} (h : lRm Y M k u) (hb : z ≤ sz ∧ cu ≤ u ∧ su ≤ 6 * u) (hz : sz ≤ sz') : z ≤ sz' ∧ cu + Y.2.2.2.2.cells ≤ u + k ∧ su + Y.2.2.2.2.slots ≤ 6 * (u + k) := ⟨Nat.le_trans hb.1 hz, Nat.add_le_add hb.2.1 h.2.1.1, by have := h.2.1.2; have := hb.2.2; omega⟩
/-- a call of the law's own method with handlers -/
theorem g_lcH {x z u : Nat} {S' : St} {A : La} (k : Nat) {Y : gY} {hh : List (Nat × Nat × Nat × Nat)} {idx n : Nat} (hs : GoodIn gW (va_wsS M.2.2.1 idx Y.1 (Cond.codeWith Y.1 Y.2.1 Y.2.2.1 Y.2.2.2.1 hh :: gW))) (hy : gName Y.1 n) (hdg : decode M.1 pc = .ok (.invokestatic idx, 3))
    {As st : List Value} {v : Value} (hb : z ≤ sz ∧ cu ≤ u ∧ su ≤ 6 * u) (hr : lRm Y M k u) (hc : MCH E Y hh As sh sz V (PLs x A sz S' v)) (hn : As.length = n) (hS : st = As.reverse ++ rest) (hcat : (rest.map fun v => v.category).sum ≤ 8)
    (kk : GL E M P x S' A z (u + k) (pc + 3) L (v :: rest)) : G E M P sh sz V cu su pc L st :=
  g_callSH hs hy hdg hc hn hS (hr.g hb.2.1 hb.2.2) hcat (fun _ _ _ _ h => h.1) (fun _ _ _ _ h => nomatch h.2.2) (fun w sh' sz' V' h => by
    obtain ⟨h0, h3, h4⟩ := h
    cases h4
    exact kk sh' sz' V' _ _ h3 (hr.b hb h0))
theorem g_lcHX {x z u : Nat} {A : La} {Q : St → Value → Prop} (k : Nat) {Y : gY} {hh : List (Nat × Nat × Nat × Nat)} {idx n : Nat} (hs : GoodIn gW (va_wsS M.2.2.1 idx Y.1 (Cond.codeWith Y.1 Y.2.1 Y.2.2.1 Y.2.2.2.1 hh :: gW))) (hy : gName Y.1 n) (hdg : decode M.1 pc = .ok (.invokestatic idx, 3))
    {As st : List Value} (hb : z ≤ sz ∧ cu ≤ u ∧ su ≤ 6 * u) (hr : lRm Y M k u) (hc : MCH E Y hh As sh sz V (PLx x A sz Q)) (hn : As.length = n) (hS : st = As.reverse ++ rest) (hcat : (rest.map fun v => v.category).sum ≤ 8)
    (kk : ∀ S' v, Q S' v → GL E M P x S' A z (u + k) (pc + 3) L (v :: rest)) : G E M P sh sz V cu su pc L st :=
  g_callSH hs hy hdg hc hn hS (hr.g hb.2.1 hb.2.2) hcat (fun _ _ _ _ h => h.1) (fun _ _ _ _ h => by obtain ⟨-, S', v, -, -, h4⟩ := h; cases h4) (fun w sh' sz' V' h => by
    obtain ⟨h0, S', v, h3, h5, h4⟩ := h
    cases h4
    exact kk S' v h5 sh' sz' V' _ _ h3 (hr.b hb h0))
/-- .. without handlers -/
theorem g_lcS {x z u : Nat} {S' : St} {A : La} (k : Nat) {Y : gY} {idx n : Nat} (hs : GoodIn gW (va_wsS M.2.2.1 idx Y.1 (Cond.code Y.1 Y.2.1 Y.2.2.1 Y.2.2.2.1 :: gW))) (hy : gName Y.1 n) (hdg : decode M.1 pc = .ok (.invokestatic idx, 3))
    {As st : List Value} {v : Value} (hb : z ≤ sz ∧ cu ≤ u ∧ su ≤ 6 * u) (hr : lRm Y M k u) (hc : MC E Y As sh sz V (PLs x A sz S' v)) (hn : As.length = n) (hS : st = As.reverse ++ rest) (hcat : (rest.map fun v => v.category).sum ≤ 8)
    (kk : GL E M P x S' A z (u + k) (pc + 3) L (v :: rest)) : G E M P sh sz V cu su pc L st :=
  g_callS hs hy hdg hc hn hS (hr.g hb.2.1 hb.2.2) hcat (fun _ _ _ _ h => h.1) (fun w sh' sz' V' h => by
    obtain ⟨h0, h3, h4⟩ := h
    cases h4
    exact kk sh' sz' V' _ _ h3 (hr.b hb h0)) (fun _ _ _ _ h => nomatch h.2.2)
theorem g_lcX {x z u : Nat} {A : La} {Q : St → Value → Prop} (k : Nat) {Y : gY} {idx n : Nat} (hs : GoodIn gW (va_wsS M.2.2.1 idx Y.1 (Cond.code Y.1 Y.2.1 Y.2.2.1 Y.2.2.2.1 :: gW))) (hy : gName Y.1 n) (hdg : decode M.1 pc = .ok (.invokestatic idx, 3))
    {As st : List Value} (hb : z ≤ sz ∧ cu ≤ u ∧ su ≤ 6 * u) (hr : lRm Y M k u) (hc : MC E Y As sh sz V (PLx x A sz Q)) (hn : As.length = n) (hS : st = As.reverse ++ rest) (hcat : (rest.map fun v => v.category).sum ≤ 8)
    (kk : ∀ S' v, Q S' v → GL E M P x S' A z (u + k) (pc + 3) L (v :: rest)) : G E M P sh sz V cu su pc L st :=
  g_callS hs hy hdg hc hn hS (hr.g hb.2.1 hb.2.2) hcat (fun _ _ _ _ h => h.1) (fun w sh' sz' V' h => by
    obtain ⟨h0, S', v, h3, h5, h4⟩ := h
    cases h4
    exact kk S' v h5 sh' sz' V' _ _ h3 (hr.b hb h0)) (fun _ _ _ _ h => by obtain ⟨-, S', v, -, -, h4⟩ := h; cases h4)
/-- a call of the object's -/
theorem g_lcV {x z u : Nat} {S' : St} {A : La} (k : Nat) {Y : gY} {idx n : Nat} {C : String} (hs : GoodIn gW (wsV M.2.2.1 idx C Y.1 (Cond.code Y.1 Y.2.1 Y.2.2.1 Y.2.2.2.1 :: gW))) (hC : Y.1.cls = C) (hy : gName Y.1 n) (ci : Nat) {r : vw_C} (hci : ci < 19) (hcl : vwCl[ci]? = some r) (hrC : r.1 = C) (hdg : decode M.1 pc = .ok (.invokevirtual idx, 3))
    {As st : List Value} {b : Nat} {v : Value} (hb : z ≤ sz ∧ cu ≤ u ∧ su ≤ 6 * u) (hr : lRm Y M k u) (hc : MC E Y (.ref b :: As) sh sz V (PLs x A sz S' v)) (hb9 : (sh b).1 = ci + 1) (hn : As.length = n) (hS : st = As.reverse ++ .ref b :: rest) (hcat : (rest.map fun v => v.category).sum ≤ 8)
    (kk : GL E M P x S' A z (u + k) (pc + 3) L (v :: rest)) : G E M P sh sz V cu su pc L st :=
  g_callV hs hC hy ci hci hcl hrC hdg hc hb9 hn hS (hr.g hb.2.1 hb.2.2) hcat (fun _ _ _ _ h => h.1) (fun w sh' sz' V' h => by
    obtain ⟨h0, h3, h4⟩ := h
    cases h4
    exact kk sh' sz' V' _ _ h3 (hr.b hb h0)) (fun _ _ _ _ h => nomatch h.2.2)
/-- a pure static call -/
theorem g_lcP {z u : Nat} {Y : gY} {idx n : Nat} (hs : GoodIn gW (va_wsS M.2.2.1 idx Y.1 (Cond.code Y.1 Y.2.1 Y.2.2.1 Y.2.2.2.1 :: gW))) (hy : gName Y.1 n) (hdg : decode M.1 pc = .ok (.invokestatic idx, 3))
    {As st : List Value} {v : Value} (hb : z ≤ sz ∧ cu ≤ u ∧ su ≤ 6 * u) (hr : lRm Y M 0 u) (hc : MC E Y As sh sz V (pR (some v) sh sz V)) (hn : As.length = n) (hS : st = As.reverse ++ rest) (hcat : (rest.map fun v => v.category).sum ≤ 8)
    (kk : G E M P sh sz V cu su (pc + 3) L (v :: rest)) : G E M P sh sz V cu su pc L st :=
  g_callS hs hy hdg hc hn hS (hr.g hb.2.1 hb.2.2) hcat (fun _ _ _ _ h => Nat.le_of_eq h.2.2.1.symm) (fun w sh' sz' V' h => by
    obtain ⟨h1, rfl, rfl, rfl⟩ := h
    cases h1
    have c0 : Y.2.2.2.2.cells = 0 := Nat.le_zero.mp hr.2.1.1
    have s0 : Y.2.2.2.2.slots = 0 := by have := hr.2.1.2; omega
    rw [c0, s0]
    exact kk) (fun _ _ _ _ h => nomatch h.1)
theorem rm_c {u k C D : Nat} (h : u + k ≤ C) (h2 : 6 * C ≤ D) : u + k ≤ C ∧ 6 * (u + k) ≤ D := ⟨h, by omega⟩
end WRAP0


