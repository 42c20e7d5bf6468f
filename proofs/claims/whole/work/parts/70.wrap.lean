/-! the law's calls of the class: what it answers goes to an array, what it throws is caught by its kind -/
section WRAP0
/-- a method with a table of handlers -/
def MCH (E : gE) (Y : gY) (hh : List (Nat × Nat × Nat × Nat)) (as : List Value) (sh : Sh) (sz : Nat) (V : Vl) (P : gP) : Prop :=
  vx_Met E.1 Y.1 (Cond.codeWith Y.1 Y.2.1 Y.2.2.1 Y.2.2.2.1 hh :: gW) Y.2.2.2.2 (gPc E as sh sz V) (gQ E P) (gX E P) Y.2.2.2.2.cells Y.2.2.2.2.slots (gN E)
theorem MCH.of {E : gE} {Y : gY} {hh : List (Nat × Nat × Nat × Nat)} {as : List Value} {sh : Sh} {sz : Nat} {V : Vl} {P : gP} (own nm : String) (hcls : Y.1.cls = own) (hy : plainName Y.1.cls = true) (hnm : Y.1.name = nm) (k : Nat) (L : List (Option Value)) (hL : lin as ++ List.replicate k none = L) (hlen : (lg_sl as).length ≤ Y.2.2.1)
    (kk : G E (Y.2.1, Y.2.2.1, own, Y.2.2.2.1, tableOf hh, nm, Y.2.2.2.2) P sh sz V 0 0 0 L []) : MCH E Y hh as sh sz V P := by
  refine vx_ofWH (hh := hh) hy rfl ?_
  intro p e s m args below meth c s₁ B hml hv
  obtain ⟨rfl, hK, hR⟩ := hv
  have hl := lv_entry as (n := Y.2.2.1) hlen
  rw [← asc_lin as k 0, hL] at hl
  rw [lg_entry_eq]
  obtain ⟨n1, n2⟩ := name_of_methodNamed B.named B.method
  have ht : c.exceptionTable.toList = tableOf hh := vx_table (x := Y.1) B (atoms_spec B.pre _ List.mem_cons_self)
  refine kk p e s m as.toArray below meth c ⟨B.exec, B.bytes, hml, hcls ▸ findClass_of_methodNamed B.named, fun w hw => atoms_spec B.pre w (List.mem_cons_of_mem _ hw), B.returns, B.notSynchronized, ht, by rw [n1]; exact hnm, hK, by rw [hR.1]; exact hR.2.1, hR.2.2.1⟩ s.heap [] _ ⟨hl, hR, fun _ h => (nomatch h), by rw [hR.1]; exact Nat.le_refl _⟩
theorem gIn_SH {own : String} {idx n : Nat} {y : MethodName} {cc : ByteArray} {ret : Option FieldType} {hh : List (Nat × Nat × Nat × Nat)} (h1 : Cond.methodLink own idx y ∈ gW) (h2 : Cond.static y ∈ gW) (h4 : Cond.initialized y.cls ∈ gW) (h5 : Cond.codeWith y cc n ret hh ∈ gW) : GoodIn gW (va_wsS own idx y (Cond.codeWith y cc n ret hh :: gW)) :=
  gIn_cons h1 (gIn_cons h2 (gIn_cons h4 (gIn_cons h5 gIn_self)))
variable {E : gE} {M : gM} {P : gP} {sh : Sh} {sz : Nat} {V : Vl} {cu su pc : Nat} {L : List (Option Value)} {rest : List Value}
theorem g_callSH {Y : gY} {hh : List (Nat × Nat × Nat × Nat)} {idx n : Nat} (hs : GoodIn gW (va_wsS M.2.2.1 idx Y.1 (Cond.codeWith Y.1 Y.2.1 Y.2.2.1 Y.2.2.2.1 hh :: gW))) (hy : gName Y.1 n) (hdg : decode M.1 pc = .ok (.invokestatic idx, 3))
    {As S : List Value} {P2 : gP} (hc : MCH E Y hh As sh sz V P2) (hn : As.length = n) (hS : S = As.reverse ++ rest) (hroom : gRoom Y M cu su) (hcat : (rest.map fun v => v.category).sum ≤ 8)
    (hz : ∀ o sh' sz' V', P2 o sh' sz' V' → sz ≤ sz') (hx : ∀ C sh' sz' V', ¬ P2 (.inr C) sh' sz' V')
    (kk : ∀ v sh' sz' V', P2 (.inl v) sh' sz' V' → G E M P sh' sz' V' (cu + Y.2.2.2.2.cells) (su + Y.2.2.2.2.slots) (pc + 3) L (v.toList ++ rest)) : G E M P sh sz V cu su pc L S := by
  subst hS
  intro p e s m args below meth c C0 H locs ls D
  refine vx_any (vx_runSX (rest := rest) (hh := hh) ⟨C0.1, C0.2.1, C0.2.2.1, C0.2.2.2.1, C0.2.2.2.2.1⟩ hc (vx_cwSW n C0.2.2.2.2.1 hs rfl rfl rfl hy ⟨hroom.1, hroom.2.1⟩) ⟨gPc_blind, fun U hU hW => ⟨rfl, C0.2.2.2.2.2.2.2.2.2.1.warm hW, by rw [hU]; exact D.2.1⟩⟩ rfl hn D.1.1 rfl (lv_room hcat) hdg ⟨hroom.2.2.1, hroom.2.2.2⟩) ?_ ?_
  · rintro v st t L2 hL ⟨v', sh', sz', V', hv, hR, hP⟩
    cases hv
    exact kk v sh' sz' V' hP p e s m args below meth c C0 t.heap _ ls (HR.mono_sz D hR (hz _ _ _ _ hP) hL)
  · rintro C9 ce q st t L2 hL ⟨sh', sz', V', hR, hP⟩ h1 h2 h3
    exact absurd hP (hx _ _ _ _)
/-- caught here -/
theorem g_catch {C : String} (pre : List ExceptionTableEntry) (x : ExceptionTableEntry) (suf : List ExceptionTableEntry) (hsplit : M.2.2.2.2.1 = pre ++ x :: suf) (hpass : ∀ z ∈ pre, covers z pc = false ∨ (z.catchType ≠ 0 ∧ ∃ nm, Cond.classLink M.2.2.1 z.catchType nm ∈ gW ∧ nm ∈ gEx ∧ C ≠ nm)) (hC : C ∈ gEx) (hx : covers x pc = true) (h0 : x.catchType ≠ 0) (hlink : Cond.classLink M.2.2.1 x.catchType C ∈ gW) (hcast : Cond.castable C C ∈ gNw)
    (kk : ∀ q, G E M P sh sz V cu su x.handlerPc L [.ref q]) : Gt E M P sh sz V cu su pc L C := by
  intro p e s m args below meth c C0 H locs ls D q ce rest h1 h2 h3
  have hK := C0.2.2.2.2.2.2.2.2.2.1
  refine vx_catch C0.2.2.2.1 pre x suf (C0.2.2.2.2.2.2.2.1.trans hsplit) (fun z hz => ?_) hx h0 (C0.2.2.2.2.1 _ hlink) ((hK.2.2.2.2.2.2.1 _ hcast).use rfl) h1 h2 h3 (kk q p e s m args below meth c C0 H locs ls D)
  rcases hpass z hz with h | ⟨h, nm, a, b, d⟩
  · exact Or.inl h
  · exact Or.inr ⟨h, nm, C0.2.2.2.2.1 _ a, hK.2.2.2.2.2.2.2.1.2.2 _ hC _ b d⟩
theorem exs1 {k : Nat} {C A : String} (h : k ≠ 0) (h2 : ([A] : List String)[k - 1]? = some C) : k = 1 ∧ C = A := by
  rcases Nat.lt_or_ge k 2 with q | q
  · have : k = 1 := by omega
    subst this
    exact ⟨rfl, (Option.some.inj h2).symm⟩
  · rw [List.getElem?_eq_none (by show 1 ≤ k - 1; omega)] at h2
    cases h2
theorem exs2 {k : Nat} {C A B : String} (h : k ≠ 0) (h2 : ([A, B] : List String)[k - 1]? = some C) : (k = 1 ∧ C = A) ∨ (k = 2 ∧ C = B) := by
  rcases Nat.lt_or_ge k 3 with q | q
  · rcases (show k = 1 ∨ k = 2 by omega) with rfl | rfl
    · exact Or.inl ⟨rfl, (Option.some.inj h2).symm⟩
    · exact Or.inr ⟨rfl, (Option.some.inj h2).symm⟩
  · rw [List.getElem?_eq_none (by show 2 ≤ k - 1; omega)] at h2
    cases h2
theorem exs3 {k : Nat} {C A B D : String} (h : k ≠ 0) (h2 : ([A, B, D] : List String)[k - 1]? = some C) : (k = 1 ∧ C = A) ∨ (k = 2 ∧ C = B) ∨ (k = 3 ∧ C = D) := by
  rcases Nat.lt_or_ge k 4 with q | q
  · rcases (show k = 1 ∨ k = 2 ∨ k = 3 by omega) with rfl | rfl | rfl
    · exact Or.inl ⟨rfl, (Option.some.inj h2).symm⟩
    · exact Or.inr (Or.inl ⟨rfl, (Option.some.inj h2).symm⟩)
    · exact Or.inr (Or.inr ⟨rfl, (Option.some.inj h2).symm⟩)
  · rw [List.getElem?_eq_none (by show 3 ≤ k - 1; omega)] at h2
    cases h2
/-- what a call of the class comes to -/
def P6 (x : Nat) (sh : Sh) (sz : Nat) (V : Vl) (exs : List String) (q : Sp) : gP := fun o sh' sz' V' => Ext x sh sz V sh' sz' V' ∧ CS sh' V' x q.2.2 ∧ match o with
  | .inl v => q.1 = 0 ∧ v = some q.2.1
  | .inr C => q.1 ≠ 0 ∧ exs[q.1 - 1]? = some C
theorem cp6 {x : Nat} {exs : List String} {q : Sp} : CP x sh sz V exs q (P6 x sh sz V exs q) := fun _ _ _ h1 h2 => ⟨fun h => ⟨h1, h2, h, rfl⟩, fun _ h h3 => ⟨h1, h2, h, h3⟩⟩
/-- .. and what a wrapped one may change -/
def Wo (x o : Nat) (sh : Sh) (sz : Nat) (V : Vl) (sh' : Sh) (sz' : Nat) (V' : Vl) : Prop := sz ≤ sz' ∧ (∀ a, a < sz → sh' a = sh a ∧ (¬ (x ≤ a ∧ a < x + 284) → a ≠ o → V' a = V a)) ∧ Wf sh' sz'
def WI (x o : Nat) (sh : Sh) (sz : Nat) (V : Vl) (q : Sp) : gP := fun r sh' sz' V' => Wo x o sh sz V sh' sz' V' ∧ CS sh' V' x q.2.2 ∧ (∀ w, q.1 = 0 → q.2.1 = .int w → V' o 0 = .long w.toInt64) ∧ r = .inl (some (.int (nI q.1)))
def WF (x o : Nat) (sh : Sh) (sz : Nat) (V : Vl) (q : Sp) : gP := fun r sh' sz' V' => Wo x o sh sz V sh' sz' V' ∧ CS sh' V' x q.2.2 ∧ (∀ w, q.1 = 0 → q.2.1 = .float w → V' o 0 = .double (FP.f2d w)) ∧ r = .inl (some (.int (nI q.1)))
theorem Ext.wo {x o : Nat} {sh' : Sh} {sz' : Nat} {V' : Vl} (h : Ext x sh sz V sh' sz' V') : Wo x o sh sz V sh' sz' V' := ⟨h.1, fun a ha => ⟨(h.2.1 a ha).1, fun h1 _ => (h.2.1 a ha).2 h1⟩, h.2.2⟩
theorem Wo.put {x o k : Nat} {v : Value} {sh' : Sh} {sz' : Nat} {V' : Vl} (h : Wo x o sh sz V sh' sz' V') : Wo x o sh sz V sh' sz' (hu V' o k v) := ⟨h.1, fun a ha => ⟨(h.2.1 a ha).1, fun h1 h2 => (hu_ne _ _ _ h2).trans ((h.2.1 a ha).2 h1 h2)⟩, h.2.2⟩
theorem CAt.keep {V' : Vl} {x : Nat} {f : Fl} {sn : Option Fl} {H : Nat → Fl} {cn : Nat} {tx : Nat → Int32} {ln : Nat} {er : Int32} {rf : Int32 × Int32} (hC : CAt sh V x f sn H cn tx ln er rf) (hV : ∀ a, x ≤ a → a < x + 284 → V' a = V a) (hT : Tr sh V V') : CAt sh V' x f sn H cn tx ln er rf := by
  obtain ⟨h1, h2, ⟨g3, h3⟩, ⟨g4, h4, h4'⟩, ⟨K, nx, h5, h5'⟩, h6⟩ := hC
  refine ⟨?_, h2.keep (fun a p q => hV a (by omega) (by omega)) hT, ⟨g3, h3.keep (fun a p q => hV a (by omega) (by omega)) hT⟩, ⟨g4, h4.keep (fun a p q => hV a (by omega) (by omega)) hT, h4'⟩, ⟨K, nx, h5.keep (fun a p q => hV a (by omega) (by omega)) hT, h5'⟩, h6.keep (fun a p q => hV a (by omega) (by omega))⟩
  unfold ObAt at h1 ⊢
  rw [hV x (by omega) (by omega)]
  exact h1
theorem CS.out {x o k : Nat} {v : Value} {S : St} (h : CS sh V x S) (hox : ¬ (x ≤ o ∧ o < x + 284)) (ho : ¬ (sh o).1 = 8) : CS sh (hu V o k v) x S :=
  CAt.keep h (fun a h1 h2 => hu_ne _ _ _ (fun e => hox (by omega))) (fun q hq => hu_ne _ _ _ (fun e => ho (by rw [← e]; exact hq)))
theorem bud_vf {t : Int32 × Int32 × Int32} (h : okT t) : vf_n32 (bud t) := by
  obtain ⟨-, ⟨w, w1, w2, hw⟩, y, y1, y2, hy⟩ := h
  unfold bud
  rw [hw, hy]
  split
  · exact vf32 (FP.Core.i2f_fin _).notNaN
  · exact (fp_bud w (by omega) y (by omega)).2
end WRAP0

theorem cl_L_13 : Cond.classLink RL 13 "java/lang/IllegalArgumentException" ∈ gW := gW_at 379 (by decide +kernel) (by decide +kernel)
theorem ca_xIA : Cond.castable "java/lang/IllegalArgumentException" "java/lang/IllegalArgumentException" ∈ gNw := gNw_at 396 (by decide +kernel) (by decide +kernel)
theorem cl_L_22 : Cond.classLink RL 22 "java/lang/IndexOutOfBoundsException" ∈ gW := gW_at 485 (by decide +kernel) (by decide +kernel)
theorem ca_xIO : Cond.castable "java/lang/IndexOutOfBoundsException" "java/lang/IndexOutOfBoundsException" ∈ gNw := gNw_at 516 (by decide +kernel) (by decide +kernel)
theorem cl_L_27 : Cond.classLink RL 27 "java/util/NoSuchElementException" ∈ gW := gW_at 538 (by decide +kernel) (by decide +kernel)
theorem ca_nsC : Cond.castable "java/util/NoSuchElementException" "java/util/NoSuchElementException" ∈ gNw := gNw_at 545 (by decide +kernel) (by decide +kernel)
theorem cl_L_47 : Cond.classLink RL 47 "java/lang/UnsupportedOperationException" ∈ gW := gW_at 600 (by decide +kernel) (by decide +kernel)
theorem ca_xUO : Cond.castable "java/lang/UnsupportedOperationException" "java/lang/UnsupportedOperationException" ∈ gNw := gNw_at 619 (by decide +kernel) (by decide +kernel)
theorem cl_L_101 : Cond.classLink RL 101 "java/lang/IllegalStateException" ∈ gW := gW_at 900 (by decide +kernel) (by decide +kernel)
theorem ca_xIS : Cond.castable "java/lang/IllegalStateException" "java/lang/IllegalStateException" ∈ gNw := gNw_at 907 (by decide +kernel) (by decide +kernel)
theorem cl_L_118 : Cond.classLink RL 118 "java/lang/ArithmeticException" ∈ gW := gW_at 1034 (by decide +kernel) (by decide +kernel)
theorem ca_xAR : Cond.castable "java/lang/ArithmeticException" "java/lang/ArithmeticException" ∈ gNw := gNw_at 1046 (by decide +kernel) (by decide +kernel)
section WRAP
variable {E : gE} {sh : Sh} {sz : Nat} {V : Vl} {x o : Nat} {S : St}
theorem v_set {w v : Int32} : ∃ zz, (sp_set S w v).2.1 = .int zz := by
  unfold sp_set
  repeat' split
  all_goals exact ⟨_, rfl⟩
theorem w_set {w v : Int32} (hC : CS sh V x S) (hI : InvS S) (hW : Wf sh sz) (ho : sh o = (22, 1)) (hox : ¬ (x ≤ o ∧ o < x + 284)) (hos : o < sz) : MCH E YL_set [(0, 10, 13, 13)] [.ref x, .int w, .int v, .ref o] sh sz V (WI x o sh sz V (sp_set S w v)) := by
  have hx9 : (sh x).1 = 9 := hC.1.1
  have hm := m_set (E := E) hC hW (cp6 (exs := [xIA]) (q := sp_set S w v))
  have hv := v_set (S := S)  (w := w) (v := v)
  generalize sp_set S w v = q at hm hv ⊢
  refine MCH.of (hh := [(0, 10, 13, 13)]) RL "set" rfl (by decide +kernel) rfl 1 [some (.ref x), some (.int w), some (.int v), some (.ref o), none] rfl (Nat.le_of_ble_eq_true rfl) ?_
  show G E ML_set _ _ _ _ _ _ _ _ _
  refine g_aload_n dL_set_0 rfl ?_
  refine g_iconst (v := nI 0) dL_set_1 (by decide) ?_
  refine g_aload_n dL_set_2 rfl ?_
  refine g_iload_n dL_set_3 rfl ?_
  refine g_iload_n dL_set_4 rfl ?_
  refine g_callV (M := ML_set) (pc := 5) (Y := YX6_set) sv_L_7 rfl yn_X6_set 8 (by decide) rfl rfl dL_set_5 hm hx9 rfl rfl (gRoom_of rfl) (Nat.le_of_ble_eq_true rfl) (fun _ _ _ _ h => h.1.1) ?_ ?_
  · rintro v sh' sz' V' ⟨hE, hS, hq, rfl⟩
    obtain ⟨w, hw⟩ := hv
    have ho2 := ((hE.2.1 o hos).1).trans ho
    rw [hw]
    show G _ _ _ _ _ _ _ _ _ _ [.int w, .int (nI 0), .ref o]
    refine g_i2l dL_set_8 rfl ?_
    refine g_lastore dL_set_9 ho2 (vp_in_nI (by decide) (by decide)) ?_
    refine g_jump (tgt := 17) dL_set_10 (by decide) ?_
    refine g_iconst (v := nI 0) dL_set_17 (by decide) ?_
    exact g_iret rfl (nr_int _) dL_set_18 (by decide) ⟨hE.wo.put, hS.out hox (by rw [ho2]; decide), fun w2 _ h2 => by rw [hw] at h2; cases h2; exact hu_at _ _ _ _, by rw [hq]⟩
  · rintro C sh' sz' V' ⟨hE, hS, hq, hC2⟩
    obtain ⟨e1, rfl⟩ := exs1 hq hC2
    refine g_catch [] ⟨0, 10, 13, 13⟩ [] rfl (fun z hz => nomatch hz) (by decide +kernel) (by decide) (by decide) cl_L_13 ca_xIA (fun q => ?_)
    refine g_astore dL_set_13 (by decide) rfl ?_
    show G _ _ _ _ _ _ _ _ _ [_, _, _, _, _] _
    refine g_iconst (v := nI 1) dL_set_15 (by decide) ?_
    exact g_iret rfl (nr_int _) dL_set_16 (by decide) ⟨hE.wo, hS, fun w2 h2 => absurd h2 hq, by rw [e1]⟩
theorem v_setting {w : Int32} : ∃ zz, (sp_setting S w).2.1 = .int zz := by
  unfold sp_setting
  repeat' split
  all_goals exact ⟨_, rfl⟩
theorem w_setting {w : Int32} (hC : CS sh V x S) (hI : InvS S) (hW : Wf sh sz) (ho : sh o = (22, 1)) (hox : ¬ (x ≤ o ∧ o < x + 284)) (hos : o < sz) : MCH E YL_setting [(0, 9, 12, 13)] [.ref x, .int w, .ref o] sh sz V (WI x o sh sz V (sp_setting S w)) := by
  have hx9 : (sh x).1 = 9 := hC.1.1
  have hm := m_setting (E := E) hC hW (cp6 (exs := [xIA]) (q := sp_setting S w))
  have hv := v_setting (S := S)  (w := w)
  generalize sp_setting S w = q at hm hv ⊢
  refine MCH.of (hh := [(0, 9, 12, 13)]) RL "setting" rfl (by decide +kernel) rfl 1 [some (.ref x), some (.int w), some (.ref o), none] rfl (Nat.le_of_ble_eq_true rfl) ?_
  show G E ML_setting _ _ _ _ _ _ _ _ _
  refine g_aload_n dL_setting_0 rfl ?_
  refine g_iconst (v := nI 0) dL_setting_1 (by decide) ?_
  refine g_aload_n dL_setting_2 rfl ?_
  refine g_iload_n dL_setting_3 rfl ?_
  refine g_callV (M := ML_setting) (pc := 4) (Y := YX6_setting) sv_L_15 rfl yn_X6_setting 8 (by decide) rfl rfl dL_setting_4 hm hx9 rfl rfl (gRoom_of rfl) (Nat.le_of_ble_eq_true rfl) (fun _ _ _ _ h => h.1.1) ?_ ?_
  · rintro v sh' sz' V' ⟨hE, hS, hq, rfl⟩
    obtain ⟨w, hw⟩ := hv
    have ho2 := ((hE.2.1 o hos).1).trans ho
    rw [hw]
    show G _ _ _ _ _ _ _ _ _ _ [.int w, .int (nI 0), .ref o]
    refine g_i2l dL_setting_7 rfl ?_
    refine g_lastore dL_setting_8 ho2 (vp_in_nI (by decide) (by decide)) ?_
    refine g_jump (tgt := 15) dL_setting_9 (by decide) ?_
    refine g_iconst (v := nI 0) dL_setting_15 (by decide) ?_
    exact g_iret rfl (nr_int _) dL_setting_16 (by decide) ⟨hE.wo.put, hS.out hox (by rw [ho2]; decide), fun w2 _ h2 => by rw [hw] at h2; cases h2; exact hu_at _ _ _ _, by rw [hq]⟩
  · rintro C sh' sz' V' ⟨hE, hS, hq, hC2⟩
    obtain ⟨e1, rfl⟩ := exs1 hq hC2
    refine g_catch [] ⟨0, 9, 12, 13⟩ [] rfl (fun z hz => nomatch hz) (by decide +kernel) (by decide) (by decide) cl_L_13 ca_xIA (fun q => ?_)
    refine g_astore_n dL_setting_12 (by decide) rfl ?_
    show G _ _ _ _ _ _ _ _ _ [_, _, _, _] _
    refine g_iconst (v := nI 1) dL_setting_13 (by decide) ?_
    exact g_iret rfl (nr_int _) dL_setting_14 (by decide) ⟨hE.wo, hS, fun w2 h2 => absurd h2 hq, by rw [e1]⟩
theorem v_drill {a : Int32} : ∃ zz, (sp_drill S a).2.1 = .int zz := by
  unfold sp_drill
  repeat' split
  all_goals exact ⟨_, rfl⟩
theorem w_drill {a : Int32} (hC : CS sh V x S) (hI : InvS S) (hW : Wf sh sz) (ho : sh o = (22, 1)) (hox : ¬ (x ≤ o ∧ o < x + 284)) (hos : o < sz) : MCH E YL_drill [(0, 9, 12, 22)] [.ref x, .int a, .ref o] sh sz V (WI x o sh sz V (sp_drill S a)) := by
  have hx9 : (sh x).1 = 9 := hC.1.1
  have hm := m_drill (E := E) hC hI.1.1 hW (cp6 (exs := [xIO]) (q := sp_drill S a))
  have hv := v_drill (S := S)  (a := a)
  generalize sp_drill S a = q at hm hv ⊢
  refine MCH.of (hh := [(0, 9, 12, 22)]) RL "drill" rfl (by decide +kernel) rfl 1 [some (.ref x), some (.int a), some (.ref o), none] rfl (Nat.le_of_ble_eq_true rfl) ?_
  show G E ML_drill _ _ _ _ _ _ _ _ _
  refine g_aload_n dL_drill_0 rfl ?_
  refine g_iconst (v := nI 0) dL_drill_1 (by decide) ?_
  refine g_aload_n dL_drill_2 rfl ?_
  refine g_iload_n dL_drill_3 rfl ?_
  refine g_callV (M := ML_drill) (pc := 4) (Y := YX6_drill) sv_L_19 rfl yn_X6_drill 8 (by decide) rfl rfl dL_drill_4 hm hx9 rfl rfl (gRoom_of rfl) (Nat.le_of_ble_eq_true rfl) (fun _ _ _ _ h => h.1.1) ?_ ?_
  · rintro v sh' sz' V' ⟨hE, hS, hq, rfl⟩
    obtain ⟨w, hw⟩ := hv
    have ho2 := ((hE.2.1 o hos).1).trans ho
    rw [hw]
    show G _ _ _ _ _ _ _ _ _ _ [.int w, .int (nI 0), .ref o]
    refine g_i2l dL_drill_7 rfl ?_
    refine g_lastore dL_drill_8 ho2 (vp_in_nI (by decide) (by decide)) ?_
    refine g_jump (tgt := 15) dL_drill_9 (by decide) ?_
    refine g_iconst (v := nI 0) dL_drill_15 (by decide) ?_
    exact g_iret rfl (nr_int _) dL_drill_16 (by decide) ⟨hE.wo.put, hS.out hox (by rw [ho2]; decide), fun w2 _ h2 => by rw [hw] at h2; cases h2; exact hu_at _ _ _ _, by rw [hq]⟩
  · rintro C sh' sz' V' ⟨hE, hS, hq, hC2⟩
    obtain ⟨e1, rfl⟩ := exs1 hq hC2
    refine g_catch [] ⟨0, 9, 12, 22⟩ [] rfl (fun z hz => nomatch hz) (by decide +kernel) (by decide) (by decide) cl_L_22 ca_xIO (fun q => ?_)
    refine g_astore_n dL_drill_12 (by decide) rfl ?_
    show G _ _ _ _ _ _ _ _ _ [_, _, _, _] _
    refine g_iconst (v := nI 1) dL_drill_13 (by decide) ?_
    exact g_iret rfl (nr_int _) dL_drill_14 (by decide) ⟨hE.wo, hS, fun w2 h2 => absurd h2 hq, by rw [e1]⟩
theorem v_drilled {a : Int32} : ∃ zz, (sp_drilled S a).2.1 = .int zz := by
  unfold sp_drilled
  repeat' split
  all_goals exact ⟨_, rfl⟩
theorem w_drilled {a : Int32} (hC : CS sh V x S) (hI : InvS S) (hW : Wf sh sz) (ho : sh o = (22, 1)) (hox : ¬ (x ≤ o ∧ o < x + 284)) (hos : o < sz) : MCH E YL_drilled [(0, 9, 12, 22), (0, 9, 15, 27)] [.ref x, .int a, .ref o] sh sz V (WI x o sh sz V (sp_drilled S a)) := by
  have hx9 : (sh x).1 = 9 := hC.1.1
  have hm := m_drilled (E := E) hC hI.1.1 hW (cp6 (exs := [xIO, nsC]) (q := sp_drilled S a))
  have hv := v_drilled (S := S)  (a := a)
  generalize sp_drilled S a = q at hm hv ⊢
  refine MCH.of (hh := [(0, 9, 12, 22), (0, 9, 15, 27)]) RL "drilled" rfl (by decide +kernel) rfl 1 [some (.ref x), some (.int a), some (.ref o), none] rfl (Nat.le_of_ble_eq_true rfl) ?_
  show G E ML_drilled _ _ _ _ _ _ _ _ _
  refine g_aload_n dL_drilled_0 rfl ?_
  refine g_iconst (v := nI 0) dL_drilled_1 (by decide) ?_
  refine g_aload_n dL_drilled_2 rfl ?_
  refine g_iload_n dL_drilled_3 rfl ?_
  refine g_callV (M := ML_drilled) (pc := 4) (Y := YX6_drilled) sv_L_24 rfl yn_X6_drilled 8 (by decide) rfl rfl dL_drilled_4 hm hx9 rfl rfl (gRoom_of rfl) (Nat.le_of_ble_eq_true rfl) (fun _ _ _ _ h => h.1.1) ?_ ?_
  · rintro v sh' sz' V' ⟨hE, hS, hq, rfl⟩
    obtain ⟨w, hw⟩ := hv
    have ho2 := ((hE.2.1 o hos).1).trans ho
    rw [hw]
    show G _ _ _ _ _ _ _ _ _ _ [.int w, .int (nI 0), .ref o]
    refine g_i2l dL_drilled_7 rfl ?_
    refine g_lastore dL_drilled_8 ho2 (vp_in_nI (by decide) (by decide)) ?_
    refine g_jump (tgt := 18) dL_drilled_9 (by decide) ?_
    refine g_iconst (v := nI 0) dL_drilled_18 (by decide) ?_
    exact g_iret rfl (nr_int _) dL_drilled_19 (by decide) ⟨hE.wo.put, hS.out hox (by rw [ho2]; decide), fun w2 _ h2 => by rw [hw] at h2; cases h2; exact hu_at _ _ _ _, by rw [hq]⟩
  · rintro C sh' sz' V' ⟨hE, hS, hq, hC2⟩
    rcases exs2 hq hC2 with ⟨e1, rfl⟩ | ⟨e1, rfl⟩
    · refine g_catch [] ⟨0, 9, 12, 22⟩ [⟨0, 9, 15, 27⟩] rfl (fun z hz => nomatch hz) (by decide +kernel) (by decide) (by decide) cl_L_22 ca_xIO (fun q => ?_)
      refine g_astore_n dL_drilled_12 (by decide) rfl ?_
      show G _ _ _ _ _ _ _ _ _ [_, _, _, _] _
      refine g_iconst (v := nI 1) dL_drilled_13 (by decide) ?_
      exact g_iret rfl (nr_int _) dL_drilled_14 (by decide) ⟨hE.wo, hS, fun w2 h2 => absurd h2 hq, by rw [e1]⟩
    · refine g_catch [⟨0, 9, 12, 22⟩] ⟨0, 9, 15, 27⟩ [] rfl (List.forall_mem_cons.mpr ⟨Or.inr ⟨by decide, _, cl_L_22, by decide +kernel, by decide +kernel⟩, (fun z hz => nomatch hz)⟩) (by decide +kernel) (by decide) (by decide) cl_L_27 ca_nsC (fun q => ?_)
      refine g_astore_n dL_drilled_15 (by decide) rfl ?_
      show G _ _ _ _ _ _ _ _ _ [_, _, _, _] _
      refine g_iconst (v := nI 2) dL_drilled_16 (by decide) ?_
      exact g_iret rfl (nr_int _) dL_drilled_17 (by decide) ⟨hE.wo, hS, fun w2 h2 => absurd h2 hq, by rw [e1]⟩
theorem v_mileOf {a w : Int32} : ∃ zz, (sp_mileOf S a w).2.1 = .int zz := by
  unfold sp_mileOf
  repeat' split
  all_goals exact ⟨_, rfl⟩
theorem w_mileOf {a w : Int32} (hC : CS sh V x S) (hI : InvS S) (hW : Wf sh sz) (ho : sh o = (22, 1)) (hox : ¬ (x ≤ o ∧ o < x + 284)) (hos : o < sz) : MCH E YL_mileOf [(0, 10, 13, 22), (0, 10, 17, 13)] [.ref x, .int a, .int w, .ref o] sh sz V (WI x o sh sz V (sp_mileOf S a w)) := by
  have hx9 : (sh x).1 = 9 := hC.1.1
  have hm := m_mileOf (E := E) hC hW (cp6 (exs := [xIO, xIA]) (q := sp_mileOf S a w))
  have hv := v_mileOf (S := S)  (a := a) (w := w)
  generalize sp_mileOf S a w = q at hm hv ⊢
  refine MCH.of (hh := [(0, 10, 13, 22), (0, 10, 17, 13)]) RL "mileOf" rfl (by decide +kernel) rfl 1 [some (.ref x), some (.int a), some (.int w), some (.ref o), none] rfl (Nat.le_of_ble_eq_true rfl) ?_
  show G E ML_mileOf _ _ _ _ _ _ _ _ _
  refine g_aload_n dL_mileOf_0 rfl ?_
  refine g_iconst (v := nI 0) dL_mileOf_1 (by decide) ?_
  refine g_aload_n dL_mileOf_2 rfl ?_
  refine g_iload_n dL_mileOf_3 rfl ?_
  refine g_iload_n dL_mileOf_4 rfl ?_
  refine g_callV (M := ML_mileOf) (pc := 5) (Y := YX6_mileOf) sv_L_29 rfl yn_X6_mileOf 8 (by decide) rfl rfl dL_mileOf_5 hm hx9 rfl rfl (gRoom_of rfl) (Nat.le_of_ble_eq_true rfl) (fun _ _ _ _ h => h.1.1) ?_ ?_
  · rintro v sh' sz' V' ⟨hE, hS, hq, rfl⟩
    obtain ⟨w, hw⟩ := hv
    have ho2 := ((hE.2.1 o hos).1).trans ho
    rw [hw]
    show G _ _ _ _ _ _ _ _ _ _ [.int w, .int (nI 0), .ref o]
    refine g_i2l dL_mileOf_8 rfl ?_
    refine g_lastore dL_mileOf_9 ho2 (vp_in_nI (by decide) (by decide)) ?_
    refine g_jump (tgt := 21) dL_mileOf_10 (by decide) ?_
    refine g_iconst (v := nI 0) dL_mileOf_21 (by decide) ?_
    exact g_iret rfl (nr_int _) dL_mileOf_22 (by decide) ⟨hE.wo.put, hS.out hox (by rw [ho2]; decide), fun w2 _ h2 => by rw [hw] at h2; cases h2; exact hu_at _ _ _ _, by rw [hq]⟩
  · rintro C sh' sz' V' ⟨hE, hS, hq, hC2⟩
    rcases exs2 hq hC2 with ⟨e1, rfl⟩ | ⟨e1, rfl⟩
    · refine g_catch [] ⟨0, 10, 13, 22⟩ [⟨0, 10, 17, 13⟩] rfl (fun z hz => nomatch hz) (by decide +kernel) (by decide) (by decide) cl_L_22 ca_xIO (fun q => ?_)
      refine g_astore dL_mileOf_13 (by decide) rfl ?_
      show G _ _ _ _ _ _ _ _ _ [_, _, _, _, _] _
      refine g_iconst (v := nI 1) dL_mileOf_15 (by decide) ?_
      exact g_iret rfl (nr_int _) dL_mileOf_16 (by decide) ⟨hE.wo, hS, fun w2 h2 => absurd h2 hq, by rw [e1]⟩
    · refine g_catch [⟨0, 10, 13, 22⟩] ⟨0, 10, 17, 13⟩ [] rfl (List.forall_mem_cons.mpr ⟨Or.inr ⟨by decide, _, cl_L_22, by decide +kernel, by decide +kernel⟩, (fun z hz => nomatch hz)⟩) (by decide +kernel) (by decide) (by decide) cl_L_13 ca_xIA (fun q => ?_)
      refine g_astore dL_mileOf_17 (by decide) rfl ?_
      show G _ _ _ _ _ _ _ _ _ [_, _, _, _, _] _
      refine g_iconst (v := nI 2) dL_mileOf_19 (by decide) ?_
      exact g_iret rfl (nr_int _) dL_mileOf_20 (by decide) ⟨hE.wo, hS, fun w2 h2 => absurd h2 hq, by rw [e1]⟩
theorem v_ice {a : Int32} (hI : InvB S.1) : (sp_ice S a).1 = 0 → ∃ w, (sp_ice S a).2.1 = .float w ∧ vf_n32 w := by
  unfold sp_ice
  by_cases z : isM a
  · rw [if_pos z]
    obtain ⟨j, hj, rfl⟩ := isM_nI z
    rw [nI_clamp (by omega)]
    exact fun _ => ⟨_, rfl, vf32 (hI.2.2.2.1 j hj).1.n.nn⟩
  · rw [if_neg z]
    exact fun h => absurd h (Nat.succ_ne_zero 0)
theorem w_ice {a : Int32} (hC : CS sh V x S) (hI : InvS S) (hW : Wf sh sz) (ho : sh o = (23, 1)) (hox : ¬ (x ≤ o ∧ o < x + 284)) (hos : o < sz) : MCH E YL_ice [(0, 9, 12, 22)] [.ref x, .int a, .ref o] sh sz V (WF x o sh sz V (sp_ice S a)) := by
  have hx9 : (sh x).1 = 9 := hC.1.1
  have hm := m_ice (E := E) hC hW (cp6 (exs := [xIO]) (q := sp_ice S a))
  have hv := v_ice (S := S) hI.1.1 (a := a)
  generalize sp_ice S a = q at hm hv ⊢
  refine MCH.of (hh := [(0, 9, 12, 22)]) RL "ice" rfl (by decide +kernel) rfl 1 [some (.ref x), some (.int a), some (.ref o), none] rfl (Nat.le_of_ble_eq_true rfl) ?_
  show G E ML_ice _ _ _ _ _ _ _ _ _
  refine g_aload_n dL_ice_0 rfl ?_
  refine g_iconst (v := nI 0) dL_ice_1 (by decide) ?_
  refine g_aload_n dL_ice_2 rfl ?_
  refine g_iload_n dL_ice_3 rfl ?_
  refine g_callV (M := ML_ice) (pc := 4) (Y := YX6_ice) sv_L_32 rfl yn_X6_ice 8 (by decide) rfl rfl dL_ice_4 hm hx9 rfl rfl (gRoom_of rfl) (Nat.le_of_ble_eq_true rfl) (fun _ _ _ _ h => h.1.1) ?_ ?_
  · rintro v sh' sz' V' ⟨hE, hS, hq, rfl⟩
    obtain ⟨w, hw, hnn⟩ := hv hq
    have ho2 := ((hE.2.1 o hos).1).trans ho
    rw [hw]
    show G _ _ _ _ _ _ _ _ _ _ [.float w, .int (nI 0), .ref o]
    refine g_f2d dL_ice_7 (vfd hnn) ?_
    refine g_dastore dL_ice_8 ho2 (vp_in_nI (by decide) (by decide)) ?_
    refine g_jump (tgt := 15) dL_ice_9 (by decide) ?_
    refine g_iconst (v := nI 0) dL_ice_15 (by decide) ?_
    exact g_iret rfl (nr_int _) dL_ice_16 (by decide) ⟨hE.wo.put, hS.out hox (by rw [ho2]; decide), fun w2 _ h2 => by rw [hw] at h2; cases h2; exact hu_at _ _ _ _, by rw [hq]⟩
  · rintro C sh' sz' V' ⟨hE, hS, hq, hC2⟩
    obtain ⟨e1, rfl⟩ := exs1 hq hC2
    refine g_catch [] ⟨0, 9, 12, 22⟩ [] rfl (fun z hz => nomatch hz) (by decide +kernel) (by decide) (by decide) cl_L_22 ca_xIO (fun q => ?_)
    refine g_astore_n dL_ice_12 (by decide) rfl ?_
    show G _ _ _ _ _ _ _ _ _ [_, _, _, _] _
    refine g_iconst (v := nI 1) dL_ice_13 (by decide) ?_
    exact g_iret rfl (nr_int _) dL_ice_14 (by decide) ⟨hE.wo, hS, fun w2 h2 => absurd h2 hq, by rw [e1]⟩
theorem v_bears {a : Int32} : ∃ zz, (sp_bears S a).2.1 = .int zz := by
  unfold sp_bears
  repeat' split
  all_goals exact ⟨_, rfl⟩
theorem w_bears {a : Int32} (hC : CS sh V x S) (hI : InvS S) (hW : Wf sh sz) (ho : sh o = (22, 1)) (hox : ¬ (x ≤ o ∧ o < x + 284)) (hos : o < sz) : MCH E YL_bears [(0, 9, 12, 22)] [.ref x, .int a, .ref o] sh sz V (WI x o sh sz V (sp_bears S a)) := by
  have hx9 : (sh x).1 = 9 := hC.1.1
  have hm := m_bears (E := E) hC hI.1.1 hW (cp6 (exs := [xIO]) (q := sp_bears S a))
  have hv := v_bears (S := S)  (a := a)
  generalize sp_bears S a = q at hm hv ⊢
  refine MCH.of (hh := [(0, 9, 12, 22)]) RL "bears" rfl (by decide +kernel) rfl 1 [some (.ref x), some (.int a), some (.ref o), none] rfl (Nat.le_of_ble_eq_true rfl) ?_
  show G E ML_bears _ _ _ _ _ _ _ _ _
  refine g_aload_n dL_bears_0 rfl ?_
  refine g_iconst (v := nI 0) dL_bears_1 (by decide) ?_
  refine g_aload_n dL_bears_2 rfl ?_
  refine g_iload_n dL_bears_3 rfl ?_
  refine g_callV (M := ML_bears) (pc := 4) (Y := YX6_bears) sv_L_36 rfl yn_X6_bears 8 (by decide) rfl rfl dL_bears_4 hm hx9 rfl rfl (gRoom_of rfl) (Nat.le_of_ble_eq_true rfl) (fun _ _ _ _ h => h.1.1) ?_ ?_
  · rintro v sh' sz' V' ⟨hE, hS, hq, rfl⟩
    obtain ⟨w, hw⟩ := hv
    have ho2 := ((hE.2.1 o hos).1).trans ho
    rw [hw]
    show G _ _ _ _ _ _ _ _ _ _ [.int w, .int (nI 0), .ref o]
    refine g_i2l dL_bears_7 rfl ?_
    refine g_lastore dL_bears_8 ho2 (vp_in_nI (by decide) (by decide)) ?_
    refine g_jump (tgt := 15) dL_bears_9 (by decide) ?_
    refine g_iconst (v := nI 0) dL_bears_15 (by decide) ?_
    exact g_iret rfl (nr_int _) dL_bears_16 (by decide) ⟨hE.wo.put, hS.out hox (by rw [ho2]; decide), fun w2 _ h2 => by rw [hw] at h2; cases h2; exact hu_at _ _ _ _, by rw [hq]⟩
  · rintro C sh' sz' V' ⟨hE, hS, hq, hC2⟩
    obtain ⟨e1, rfl⟩ := exs1 hq hC2
    refine g_catch [] ⟨0, 9, 12, 22⟩ [] rfl (fun z hz => nomatch hz) (by decide +kernel) (by decide) (by decide) cl_L_22 ca_xIO (fun q => ?_)
    refine g_astore_n dL_bears_12 (by decide) rfl ?_
    show G _ _ _ _ _ _ _ _ _ [_, _, _, _] _
    refine g_iconst (v := nI 1) dL_bears_13 (by decide) ?_
    exact g_iret rfl (nr_int _) dL_bears_14 (by decide) ⟨hE.wo, hS, fun w2 h2 => absurd h2 hq, by rw [e1]⟩
theorem v_sign {a : Int32} : ∃ zz, (sp_sign S a).2.1 = .int zz := by
  unfold sp_sign
  repeat' split
  all_goals exact ⟨_, rfl⟩
theorem w_sign {a : Int32} (hC : CS sh V x S) (hI : InvS S) (hW : Wf sh sz) (ho : sh o = (22, 1)) (hox : ¬ (x ≤ o ∧ o < x + 284)) (hos : o < sz) : MCH E YL_sign [(0, 9, 12, 22)] [.ref x, .int a, .ref o] sh sz V (WI x o sh sz V (sp_sign S a)) := by
  have hx9 : (sh x).1 = 9 := hC.1.1
  have hm := m_sign (E := E) hC hI.1.1 hW (cp6 (exs := [xIO]) (q := sp_sign S a))
  have hv := v_sign (S := S)  (a := a)
  generalize sp_sign S a = q at hm hv ⊢
  refine MCH.of (hh := [(0, 9, 12, 22)]) RL "sign" rfl (by decide +kernel) rfl 1 [some (.ref x), some (.int a), some (.ref o), none] rfl (Nat.le_of_ble_eq_true rfl) ?_
  show G E ML_sign _ _ _ _ _ _ _ _ _
  refine g_aload_n dL_sign_0 rfl ?_
  refine g_iconst (v := nI 0) dL_sign_1 (by decide) ?_
  refine g_aload_n dL_sign_2 rfl ?_
  refine g_iload_n dL_sign_3 rfl ?_
  refine g_callV (M := ML_sign) (pc := 4) (Y := YX6_sign) sv_L_39 rfl yn_X6_sign 8 (by decide) rfl rfl dL_sign_4 hm hx9 rfl rfl (gRoom_of rfl) (Nat.le_of_ble_eq_true rfl) (fun _ _ _ _ h => h.1.1) ?_ ?_
  · rintro v sh' sz' V' ⟨hE, hS, hq, rfl⟩
    obtain ⟨w, hw⟩ := hv
    have ho2 := ((hE.2.1 o hos).1).trans ho
    rw [hw]
    show G _ _ _ _ _ _ _ _ _ _ [.int w, .int (nI 0), .ref o]
    refine g_i2l dL_sign_7 rfl ?_
    refine g_lastore dL_sign_8 ho2 (vp_in_nI (by decide) (by decide)) ?_
    refine g_jump (tgt := 15) dL_sign_9 (by decide) ?_
    refine g_iconst (v := nI 0) dL_sign_15 (by decide) ?_
    exact g_iret rfl (nr_int _) dL_sign_16 (by decide) ⟨hE.wo.put, hS.out hox (by rw [ho2]; decide), fun w2 _ h2 => by rw [hw] at h2; cases h2; exact hu_at _ _ _ _, by rw [hq]⟩
  · rintro C sh' sz' V' ⟨hE, hS, hq, hC2⟩
    obtain ⟨e1, rfl⟩ := exs1 hq hC2
    refine g_catch [] ⟨0, 9, 12, 22⟩ [] rfl (fun z hz => nomatch hz) (by decide +kernel) (by decide) (by decide) cl_L_22 ca_xIO (fun q => ?_)
    refine g_astore_n dL_sign_12 (by decide) rfl ?_
    show G _ _ _ _ _ _ _ _ _ [_, _, _, _] _
    refine g_iconst (v := nI 1) dL_sign_13 (by decide) ?_
    exact g_iret rfl (nr_int _) dL_sign_14 (by decide) ⟨hE.wo, hS, fun w2 h2 => absurd h2 hq, by rw [e1]⟩
theorem v_truck {kd w ax r : Int32} : ∃ zz, (sp_truck S kd w ax r).2.1 = .int zz := by
  unfold sp_truck
  repeat' split
  all_goals exact ⟨_, rfl⟩
theorem w_truck {kd w ax r : Int32} (hC : CS sh V x S) (hI : InvS S) (hW : Wf sh sz) (ho : sh o = (22, 1)) (hox : ¬ (x ≤ o ∧ o < x + 284)) (hos : o < sz) : MCH E YL_truck [(0, 14, 17, 22), (0, 14, 21, 13), (0, 14, 25, 47)] [.ref x, .int kd, .int w, .int ax, .int r, .ref o] sh sz V (WI x o sh sz V (sp_truck S kd w ax r)) := by
  have hx9 : (sh x).1 = 9 := hC.1.1
  have hm := m_truck (E := E) hC hW (cp6 (exs := [xIO, xIA, xUO]) (q := sp_truck S kd w ax r))
  have hv := v_truck (S := S)  (kd := kd) (w := w) (ax := ax) (r := r)
  generalize sp_truck S kd w ax r = q at hm hv ⊢
  refine MCH.of (hh := [(0, 14, 17, 22), (0, 14, 21, 13), (0, 14, 25, 47)]) RL "truck" rfl (by decide +kernel) rfl 1 [some (.ref x), some (.int kd), some (.int w), some (.int ax), some (.int r), some (.ref o), none] rfl (Nat.le_of_ble_eq_true rfl) ?_
  show G E ML_truck _ _ _ _ _ _ _ _ _
  refine g_aload dL_truck_0 rfl ?_
  refine g_iconst (v := nI 0) dL_truck_2 (by decide) ?_
  refine g_aload_n dL_truck_3 rfl ?_
  refine g_iload_n dL_truck_4 rfl ?_
  refine g_iload_n dL_truck_5 rfl ?_
  refine g_iload_n dL_truck_6 rfl ?_
  refine g_iload dL_truck_7 rfl ?_
  refine g_callV (M := ML_truck) (pc := 9) (Y := YX6_truck) sv_L_43 rfl yn_X6_truck 8 (by decide) rfl rfl dL_truck_9 hm hx9 rfl rfl (gRoom_of rfl) (Nat.le_of_ble_eq_true rfl) (fun _ _ _ _ h => h.1.1) ?_ ?_
  · rintro v sh' sz' V' ⟨hE, hS, hq, rfl⟩
    obtain ⟨w, hw⟩ := hv
    have ho2 := ((hE.2.1 o hos).1).trans ho
    rw [hw]
    show G _ _ _ _ _ _ _ _ _ _ [.int w, .int (nI 0), .ref o]
    refine g_i2l dL_truck_12 rfl ?_
    refine g_lastore dL_truck_13 ho2 (vp_in_nI (by decide) (by decide)) ?_
    refine g_jump (tgt := 29) dL_truck_14 (by decide) ?_
    refine g_iconst (v := nI 0) dL_truck_29 (by decide) ?_
    exact g_iret rfl (nr_int _) dL_truck_30 (by decide) ⟨hE.wo.put, hS.out hox (by rw [ho2]; decide), fun w2 _ h2 => by rw [hw] at h2; cases h2; exact hu_at _ _ _ _, by rw [hq]⟩
  · rintro C sh' sz' V' ⟨hE, hS, hq, hC2⟩
    rcases exs3 hq hC2 with ⟨e1, rfl⟩ | ⟨e1, rfl⟩ | ⟨e1, rfl⟩
    · refine g_catch [] ⟨0, 14, 17, 22⟩ [⟨0, 14, 21, 13⟩, ⟨0, 14, 25, 47⟩] rfl (fun z hz => nomatch hz) (by decide +kernel) (by decide) (by decide) cl_L_22 ca_xIO (fun q => ?_)
      refine g_astore dL_truck_17 (by decide) rfl ?_
      show G _ _ _ _ _ _ _ _ _ [_, _, _, _, _, _, _] _
      refine g_iconst (v := nI 1) dL_truck_19 (by decide) ?_
      exact g_iret rfl (nr_int _) dL_truck_20 (by decide) ⟨hE.wo, hS, fun w2 h2 => absurd h2 hq, by rw [e1]⟩
    · refine g_catch [⟨0, 14, 17, 22⟩] ⟨0, 14, 21, 13⟩ [⟨0, 14, 25, 47⟩] rfl (List.forall_mem_cons.mpr ⟨Or.inr ⟨by decide, _, cl_L_22, by decide +kernel, by decide +kernel⟩, (fun z hz => nomatch hz)⟩) (by decide +kernel) (by decide) (by decide) cl_L_13 ca_xIA (fun q => ?_)
      refine g_astore dL_truck_21 (by decide) rfl ?_
      show G _ _ _ _ _ _ _ _ _ [_, _, _, _, _, _, _] _
      refine g_iconst (v := nI 2) dL_truck_23 (by decide) ?_
      exact g_iret rfl (nr_int _) dL_truck_24 (by decide) ⟨hE.wo, hS, fun w2 h2 => absurd h2 hq, by rw [e1]⟩
    · refine g_catch [⟨0, 14, 17, 22⟩, ⟨0, 14, 21, 13⟩] ⟨0, 14, 25, 47⟩ [] rfl (List.forall_mem_cons.mpr ⟨Or.inr ⟨by decide, _, cl_L_22, by decide +kernel, by decide +kernel⟩, (List.forall_mem_cons.mpr ⟨Or.inr ⟨by decide, _, cl_L_13, by decide +kernel, by decide +kernel⟩, (fun z hz => nomatch hz)⟩)⟩) (by decide +kernel) (by decide) (by decide) cl_L_47 ca_xUO (fun q => ?_)
      refine g_astore dL_truck_25 (by decide) rfl ?_
      show G _ _ _ _ _ _ _ _ _ [_, _, _, _, _, _, _] _
      refine g_iconst (v := nI 3) dL_truck_27 (by decide) ?_
      exact g_iret rfl (nr_int _) dL_truck_28 (by decide) ⟨hE.wo, hS, fun w2 h2 => absurd h2 hq, by rw [e1]⟩
theorem v_inRow {r p w : Int32} : ∃ zz, (sp_inRow S r p w).2.1 = .int zz := by
  unfold sp_inRow
  repeat' split
  all_goals exact ⟨_, rfl⟩
theorem w_inRow {r p w : Int32} (hC : CS sh V x S) (hI : InvS S) (hW : Wf sh sz) (ho : sh o = (22, 1)) (hox : ¬ (x ≤ o ∧ o < x + 284)) (hos : o < sz) : MCH E YL_inRow [(0, 12, 15, 22), (0, 12, 19, 27), (0, 12, 23, 13)] [.ref x, .int r, .int p, .int w, .ref o] sh sz V (WI x o sh sz V (sp_inRow S r p w)) := by
  have hx9 : (sh x).1 = 9 := hC.1.1
  have hm := m_inRow (E := E) hC hW (cp6 (exs := [xIO, nsC, xIA]) (q := sp_inRow S r p w))
  have hv := v_inRow (S := S)  (r := r) (p := p) (w := w)
  generalize sp_inRow S r p w = q at hm hv ⊢
  refine MCH.of (hh := [(0, 12, 15, 22), (0, 12, 19, 27), (0, 12, 23, 13)]) RL "inRow" rfl (by decide +kernel) rfl 1 [some (.ref x), some (.int r), some (.int p), some (.int w), some (.ref o), none] rfl (Nat.le_of_ble_eq_true rfl) ?_
  show G E ML_inRow _ _ _ _ _ _ _ _ _
  refine g_aload dL_inRow_0 rfl ?_
  refine g_iconst (v := nI 0) dL_inRow_2 (by decide) ?_
  refine g_aload_n dL_inRow_3 rfl ?_
  refine g_iload_n dL_inRow_4 rfl ?_
  refine g_iload_n dL_inRow_5 rfl ?_
  refine g_iload_n dL_inRow_6 rfl ?_
  refine g_callV (M := ML_inRow) (pc := 7) (Y := YX6_inRow) sv_L_49 rfl yn_X6_inRow 8 (by decide) rfl rfl dL_inRow_7 hm hx9 rfl rfl (gRoom_of rfl) (Nat.le_of_ble_eq_true rfl) (fun _ _ _ _ h => h.1.1) ?_ ?_
  · rintro v sh' sz' V' ⟨hE, hS, hq, rfl⟩
    obtain ⟨w, hw⟩ := hv
    have ho2 := ((hE.2.1 o hos).1).trans ho
    rw [hw]
    show G _ _ _ _ _ _ _ _ _ _ [.int w, .int (nI 0), .ref o]
    refine g_i2l dL_inRow_10 rfl ?_
    refine g_lastore dL_inRow_11 ho2 (vp_in_nI (by decide) (by decide)) ?_
    refine g_jump (tgt := 27) dL_inRow_12 (by decide) ?_
    refine g_iconst (v := nI 0) dL_inRow_27 (by decide) ?_
    exact g_iret rfl (nr_int _) dL_inRow_28 (by decide) ⟨hE.wo.put, hS.out hox (by rw [ho2]; decide), fun w2 _ h2 => by rw [hw] at h2; cases h2; exact hu_at _ _ _ _, by rw [hq]⟩
  · rintro C sh' sz' V' ⟨hE, hS, hq, hC2⟩
    rcases exs3 hq hC2 with ⟨e1, rfl⟩ | ⟨e1, rfl⟩ | ⟨e1, rfl⟩
    · refine g_catch [] ⟨0, 12, 15, 22⟩ [⟨0, 12, 19, 27⟩, ⟨0, 12, 23, 13⟩] rfl (fun z hz => nomatch hz) (by decide +kernel) (by decide) (by decide) cl_L_22 ca_xIO (fun q => ?_)
      refine g_astore dL_inRow_15 (by decide) rfl ?_
      show G _ _ _ _ _ _ _ _ _ [_, _, _, _, _, _] _
      refine g_iconst (v := nI 1) dL_inRow_17 (by decide) ?_
      exact g_iret rfl (nr_int _) dL_inRow_18 (by decide) ⟨hE.wo, hS, fun w2 h2 => absurd h2 hq, by rw [e1]⟩
    · refine g_catch [⟨0, 12, 15, 22⟩] ⟨0, 12, 19, 27⟩ [⟨0, 12, 23, 13⟩] rfl (List.forall_mem_cons.mpr ⟨Or.inr ⟨by decide, _, cl_L_22, by decide +kernel, by decide +kernel⟩, (fun z hz => nomatch hz)⟩) (by decide +kernel) (by decide) (by decide) cl_L_27 ca_nsC (fun q => ?_)
      refine g_astore dL_inRow_19 (by decide) rfl ?_
      show G _ _ _ _ _ _ _ _ _ [_, _, _, _, _, _] _
      refine g_iconst (v := nI 2) dL_inRow_21 (by decide) ?_
      exact g_iret rfl (nr_int _) dL_inRow_22 (by decide) ⟨hE.wo, hS, fun w2 h2 => absurd h2 hq, by rw [e1]⟩
    · refine g_catch [⟨0, 12, 15, 22⟩, ⟨0, 12, 19, 27⟩] ⟨0, 12, 23, 13⟩ [] rfl (List.forall_mem_cons.mpr ⟨Or.inr ⟨by decide, _, cl_L_22, by decide +kernel, by decide +kernel⟩, (List.forall_mem_cons.mpr ⟨Or.inr ⟨by decide, _, cl_L_27, by decide +kernel, by decide +kernel⟩, (fun z hz => nomatch hz)⟩)⟩) (by decide +kernel) (by decide) (by decide) cl_L_13 ca_xIA (fun q => ?_)
      refine g_astore dL_inRow_23 (by decide) rfl ?_
      show G _ _ _ _ _ _ _ _ _ [_, _, _, _, _, _] _
      refine g_iconst (v := nI 3) dL_inRow_25 (by decide) ?_
      exact g_iret rfl (nr_int _) dL_inRow_26 (by decide) ⟨hE.wo, hS, fun w2 h2 => absurd h2 hq, by rw [e1]⟩
theorem v_convoy {g : Int32} : ∃ zz, (sp_convoy S g).2.1 = .int zz := by
  unfold sp_convoy
  repeat' split
  all_goals exact ⟨_, rfl⟩
theorem w_convoy {g : Int32} (hC : CS sh V x S) (hI : InvS S) (hW : Wf sh sz) (ho : sh o = (22, 1)) (hox : ¬ (x ≤ o ∧ o < x + 284)) (hos : o < sz) : MCH E YL_convoy [(0, 9, 12, 13), (0, 9, 15, 47)] [.ref x, .int g, .ref o] sh sz V (WI x o sh sz V (sp_convoy S g)) := by
  have hx9 : (sh x).1 = 9 := hC.1.1
  have hm := m_convoy (E := E) hC hI.1.1 hW (cp6 (exs := [xIA, xUO]) (q := sp_convoy S g))
  have hv := v_convoy (S := S)  (g := g)
  generalize sp_convoy S g = q at hm hv ⊢
  refine MCH.of (hh := [(0, 9, 12, 13), (0, 9, 15, 47)]) RL "convoy" rfl (by decide +kernel) rfl 1 [some (.ref x), some (.int g), some (.ref o), none] rfl (Nat.le_of_ble_eq_true rfl) ?_
  show G E ML_convoy _ _ _ _ _ _ _ _ _
  refine g_aload_n dL_convoy_0 rfl ?_
  refine g_iconst (v := nI 0) dL_convoy_1 (by decide) ?_
  refine g_aload_n dL_convoy_2 rfl ?_
  refine g_iload_n dL_convoy_3 rfl ?_
  refine g_callV (M := ML_convoy) (pc := 4) (Y := YX6_convoy) sv_L_53 rfl yn_X6_convoy 8 (by decide) rfl rfl dL_convoy_4 hm hx9 rfl rfl (gRoom_of rfl) (Nat.le_of_ble_eq_true rfl) (fun _ _ _ _ h => h.1.1) ?_ ?_
  · rintro v sh' sz' V' ⟨hE, hS, hq, rfl⟩
    obtain ⟨w, hw⟩ := hv
    have ho2 := ((hE.2.1 o hos).1).trans ho
    rw [hw]
    show G _ _ _ _ _ _ _ _ _ _ [.int w, .int (nI 0), .ref o]
    refine g_i2l dL_convoy_7 rfl ?_
    refine g_lastore dL_convoy_8 ho2 (vp_in_nI (by decide) (by decide)) ?_
    refine g_jump (tgt := 18) dL_convoy_9 (by decide) ?_
    refine g_iconst (v := nI 0) dL_convoy_18 (by decide) ?_
    exact g_iret rfl (nr_int _) dL_convoy_19 (by decide) ⟨hE.wo.put, hS.out hox (by rw [ho2]; decide), fun w2 _ h2 => by rw [hw] at h2; cases h2; exact hu_at _ _ _ _, by rw [hq]⟩
  · rintro C sh' sz' V' ⟨hE, hS, hq, hC2⟩
    rcases exs2 hq hC2 with ⟨e1, rfl⟩ | ⟨e1, rfl⟩
    · refine g_catch [] ⟨0, 9, 12, 13⟩ [⟨0, 9, 15, 47⟩] rfl (fun z hz => nomatch hz) (by decide +kernel) (by decide) (by decide) cl_L_13 ca_xIA (fun q => ?_)
      refine g_astore_n dL_convoy_12 (by decide) rfl ?_
      show G _ _ _ _ _ _ _ _ _ [_, _, _, _] _
      refine g_iconst (v := nI 1) dL_convoy_13 (by decide) ?_
      exact g_iret rfl (nr_int _) dL_convoy_14 (by decide) ⟨hE.wo, hS, fun w2 h2 => absurd h2 hq, by rw [e1]⟩
    · refine g_catch [⟨0, 9, 12, 13⟩] ⟨0, 9, 15, 47⟩ [] rfl (List.forall_mem_cons.mpr ⟨Or.inr ⟨by decide, _, cl_L_13, by decide +kernel, by decide +kernel⟩, (fun z hz => nomatch hz)⟩) (by decide +kernel) (by decide) (by decide) cl_L_47 ca_xUO (fun q => ?_)
      refine g_astore_n dL_convoy_15 (by decide) rfl ?_
      show G _ _ _ _ _ _ _ _ _ [_, _, _, _] _
      refine g_iconst (v := nI 2) dL_convoy_16 (by decide) ?_
      exact g_iret rfl (nr_int _) dL_convoy_17 (by decide) ⟨hE.wo, hS, fun w2 h2 => absurd h2 hq, by rw [e1]⟩
theorem v_join {c r p : Int32} : ∃ zz, (sp_join S c r p).2.1 = .int zz := by
  unfold sp_join
  repeat' split
  all_goals exact ⟨_, rfl⟩
theorem w_join {c r p : Int32} (hC : CS sh V x S) (hI : InvS S) (hW : Wf sh sz) (ho : sh o = (22, 1)) (hox : ¬ (x ≤ o ∧ o < x + 284)) (hos : o < sz) : MCH E YL_join [(0, 12, 15, 22), (0, 12, 19, 27), (0, 12, 23, 47)] [.ref x, .int c, .int r, .int p, .ref o] sh sz V (WI x o sh sz V (sp_join S c r p)) := by
  have hx9 : (sh x).1 = 9 := hC.1.1
  have hm := m_join (E := E) hC hI.1.1 hW (cp6 (exs := [xIO, nsC, xUO]) (q := sp_join S c r p))
  have hv := v_join (S := S)  (c := c) (r := r) (p := p)
  generalize sp_join S c r p = q at hm hv ⊢
  refine MCH.of (hh := [(0, 12, 15, 22), (0, 12, 19, 27), (0, 12, 23, 47)]) RL "join" rfl (by decide +kernel) rfl 1 [some (.ref x), some (.int c), some (.int r), some (.int p), some (.ref o), none] rfl (Nat.le_of_ble_eq_true rfl) ?_
  show G E ML_join _ _ _ _ _ _ _ _ _
  refine g_aload dL_join_0 rfl ?_
  refine g_iconst (v := nI 0) dL_join_2 (by decide) ?_
  refine g_aload_n dL_join_3 rfl ?_
  refine g_iload_n dL_join_4 rfl ?_
  refine g_iload_n dL_join_5 rfl ?_
  refine g_iload_n dL_join_6 rfl ?_
  refine g_callV (M := ML_join) (pc := 7) (Y := YX6_join) sv_L_56 rfl yn_X6_join 8 (by decide) rfl rfl dL_join_7 hm hx9 rfl rfl (gRoom_of rfl) (Nat.le_of_ble_eq_true rfl) (fun _ _ _ _ h => h.1.1) ?_ ?_
  · rintro v sh' sz' V' ⟨hE, hS, hq, rfl⟩
    obtain ⟨w, hw⟩ := hv
    have ho2 := ((hE.2.1 o hos).1).trans ho
    rw [hw]
    show G _ _ _ _ _ _ _ _ _ _ [.int w, .int (nI 0), .ref o]
    refine g_i2l dL_join_10 rfl ?_
    refine g_lastore dL_join_11 ho2 (vp_in_nI (by decide) (by decide)) ?_
    refine g_jump (tgt := 27) dL_join_12 (by decide) ?_
    refine g_iconst (v := nI 0) dL_join_27 (by decide) ?_
    exact g_iret rfl (nr_int _) dL_join_28 (by decide) ⟨hE.wo.put, hS.out hox (by rw [ho2]; decide), fun w2 _ h2 => by rw [hw] at h2; cases h2; exact hu_at _ _ _ _, by rw [hq]⟩
  · rintro C sh' sz' V' ⟨hE, hS, hq, hC2⟩
    rcases exs3 hq hC2 with ⟨e1, rfl⟩ | ⟨e1, rfl⟩ | ⟨e1, rfl⟩
    · refine g_catch [] ⟨0, 12, 15, 22⟩ [⟨0, 12, 19, 27⟩, ⟨0, 12, 23, 47⟩] rfl (fun z hz => nomatch hz) (by decide +kernel) (by decide) (by decide) cl_L_22 ca_xIO (fun q => ?_)
      refine g_astore dL_join_15 (by decide) rfl ?_
      show G _ _ _ _ _ _ _ _ _ [_, _, _, _, _, _] _
      refine g_iconst (v := nI 1) dL_join_17 (by decide) ?_
      exact g_iret rfl (nr_int _) dL_join_18 (by decide) ⟨hE.wo, hS, fun w2 h2 => absurd h2 hq, by rw [e1]⟩
    · refine g_catch [⟨0, 12, 15, 22⟩] ⟨0, 12, 19, 27⟩ [⟨0, 12, 23, 47⟩] rfl (List.forall_mem_cons.mpr ⟨Or.inr ⟨by decide, _, cl_L_22, by decide +kernel, by decide +kernel⟩, (fun z hz => nomatch hz)⟩) (by decide +kernel) (by decide) (by decide) cl_L_27 ca_nsC (fun q => ?_)
      refine g_astore dL_join_19 (by decide) rfl ?_
      show G _ _ _ _ _ _ _ _ _ [_, _, _, _, _, _] _
      refine g_iconst (v := nI 2) dL_join_21 (by decide) ?_
      exact g_iret rfl (nr_int _) dL_join_22 (by decide) ⟨hE.wo, hS, fun w2 h2 => absurd h2 hq, by rw [e1]⟩
    · refine g_catch [⟨0, 12, 15, 22⟩, ⟨0, 12, 19, 27⟩] ⟨0, 12, 23, 47⟩ [] rfl (List.forall_mem_cons.mpr ⟨Or.inr ⟨by decide, _, cl_L_22, by decide +kernel, by decide +kernel⟩, (List.forall_mem_cons.mpr ⟨Or.inr ⟨by decide, _, cl_L_27, by decide +kernel, by decide +kernel⟩, (fun z hz => nomatch hz)⟩)⟩) (by decide +kernel) (by decide) (by decide) cl_L_47 ca_xUO (fun q => ?_)
      refine g_astore dL_join_23 (by decide) rfl ?_
      show G _ _ _ _ _ _ _ _ _ [_, _, _, _, _, _] _
      refine g_iconst (v := nI 3) dL_join_25 (by decide) ?_
      exact g_iret rfl (nr_int _) dL_join_26 (by decide) ⟨hE.wo, hS, fun w2 h2 => absurd h2 hq, by rw [e1]⟩
theorem v_start {c : Int32} : ∃ zz, (sp_start S c).2.1 = .int zz := by
  unfold sp_start
  repeat' split
  all_goals exact ⟨_, rfl⟩
theorem w_start {c : Int32} (hC : CS sh V x S) (hI : InvS S) (hW : Wf sh sz) (ho : sh o = (22, 1)) (hox : ¬ (x ≤ o ∧ o < x + 284)) (hos : o < sz) : MCH E YL_start [(0, 9, 12, 22), (0, 9, 15, 47)] [.ref x, .int c, .ref o] sh sz V (WI x o sh sz V (sp_start S c)) := by
  have hx9 : (sh x).1 = 9 := hC.1.1
  have hm := m_start (E := E) hC hI.1.1 hW (cp6 (exs := [xIO, xUO]) (q := sp_start S c))
  have hv := v_start (S := S)  (c := c)
  generalize sp_start S c = q at hm hv ⊢
  refine MCH.of (hh := [(0, 9, 12, 22), (0, 9, 15, 47)]) RL "start" rfl (by decide +kernel) rfl 1 [some (.ref x), some (.int c), some (.ref o), none] rfl (Nat.le_of_ble_eq_true rfl) ?_
  show G E ML_start _ _ _ _ _ _ _ _ _
  refine g_aload_n dL_start_0 rfl ?_
  refine g_iconst (v := nI 0) dL_start_1 (by decide) ?_
  refine g_aload_n dL_start_2 rfl ?_
  refine g_iload_n dL_start_3 rfl ?_
  refine g_callV (M := ML_start) (pc := 4) (Y := YX6_start) sv_L_59 rfl yn_X6_start 8 (by decide) rfl rfl dL_start_4 hm hx9 rfl rfl (gRoom_of rfl) (Nat.le_of_ble_eq_true rfl) (fun _ _ _ _ h => h.1.1) ?_ ?_
  · rintro v sh' sz' V' ⟨hE, hS, hq, rfl⟩
    obtain ⟨w, hw⟩ := hv
    have ho2 := ((hE.2.1 o hos).1).trans ho
    rw [hw]
    show G _ _ _ _ _ _ _ _ _ _ [.int w, .int (nI 0), .ref o]
    refine g_i2l dL_start_7 rfl ?_
    refine g_lastore dL_start_8 ho2 (vp_in_nI (by decide) (by decide)) ?_
    refine g_jump (tgt := 18) dL_start_9 (by decide) ?_
    refine g_iconst (v := nI 0) dL_start_18 (by decide) ?_
    exact g_iret rfl (nr_int _) dL_start_19 (by decide) ⟨hE.wo.put, hS.out hox (by rw [ho2]; decide), fun w2 _ h2 => by rw [hw] at h2; cases h2; exact hu_at _ _ _ _, by rw [hq]⟩
  · rintro C sh' sz' V' ⟨hE, hS, hq, hC2⟩
    rcases exs2 hq hC2 with ⟨e1, rfl⟩ | ⟨e1, rfl⟩
    · refine g_catch [] ⟨0, 9, 12, 22⟩ [⟨0, 9, 15, 47⟩] rfl (fun z hz => nomatch hz) (by decide +kernel) (by decide) (by decide) cl_L_22 ca_xIO (fun q => ?_)
      refine g_astore_n dL_start_12 (by decide) rfl ?_
      show G _ _ _ _ _ _ _ _ _ [_, _, _, _] _
      refine g_iconst (v := nI 1) dL_start_13 (by decide) ?_
      exact g_iret rfl (nr_int _) dL_start_14 (by decide) ⟨hE.wo, hS, fun w2 h2 => absurd h2 hq, by rw [e1]⟩
    · refine g_catch [⟨0, 9, 12, 22⟩] ⟨0, 9, 15, 47⟩ [] rfl (List.forall_mem_cons.mpr ⟨Or.inr ⟨by decide, _, cl_L_22, by decide +kernel, by decide +kernel⟩, (fun z hz => nomatch hz)⟩) (by decide +kernel) (by decide) (by decide) cl_L_47 ca_xUO (fun q => ?_)
      refine g_astore_n dL_start_15 (by decide) rfl ?_
      show G _ _ _ _ _ _ _ _ _ [_, _, _, _] _
      refine g_iconst (v := nI 2) dL_start_16 (by decide) ?_
      exact g_iret rfl (nr_int _) dL_start_17 (by decide) ⟨hE.wo, hS, fun w2 h2 => absurd h2 hq, by rw [e1]⟩
theorem v_roll {c : Int32} : ∃ zz, (sp_roll S c).2.1 = .int zz := by
  unfold sp_roll
  repeat' split
  all_goals exact ⟨_, rfl⟩
theorem w_roll {c : Int32} (hC : CS sh V x S) (hI : InvS S) (hW : Wf sh sz) (ho : sh o = (22, 1)) (hox : ¬ (x ≤ o ∧ o < x + 284)) (hos : o < sz) : MCH E YL_roll [(0, 9, 12, 22), (0, 9, 15, 47)] [.ref x, .int c, .ref o] sh sz V (WI x o sh sz V (sp_roll S c)) := by
  have hx9 : (sh x).1 = 9 := hC.1.1
  have hm := m_roll (E := E) hC hI.1.1 hW (cp6 (exs := [xIO, xUO]) (q := sp_roll S c))
  have hv := v_roll (S := S)  (c := c)
  generalize sp_roll S c = q at hm hv ⊢
  refine MCH.of (hh := [(0, 9, 12, 22), (0, 9, 15, 47)]) RL "roll" rfl (by decide +kernel) rfl 1 [some (.ref x), some (.int c), some (.ref o), none] rfl (Nat.le_of_ble_eq_true rfl) ?_
  show G E ML_roll _ _ _ _ _ _ _ _ _
  refine g_aload_n dL_roll_0 rfl ?_
  refine g_iconst (v := nI 0) dL_roll_1 (by decide) ?_
  refine g_aload_n dL_roll_2 rfl ?_
  refine g_iload_n dL_roll_3 rfl ?_
  refine g_callV (M := ML_roll) (pc := 4) (Y := YX6_roll) sv_L_62 rfl yn_X6_roll 8 (by decide) rfl rfl dL_roll_4 hm hx9 rfl rfl (gRoom_of rfl) (Nat.le_of_ble_eq_true rfl) (fun _ _ _ _ h => h.1.1) ?_ ?_
  · rintro v sh' sz' V' ⟨hE, hS, hq, rfl⟩
    obtain ⟨w, hw⟩ := hv
    have ho2 := ((hE.2.1 o hos).1).trans ho
    rw [hw]
    show G _ _ _ _ _ _ _ _ _ _ [.int w, .int (nI 0), .ref o]
    refine g_i2l dL_roll_7 rfl ?_
    refine g_lastore dL_roll_8 ho2 (vp_in_nI (by decide) (by decide)) ?_
    refine g_jump (tgt := 18) dL_roll_9 (by decide) ?_
    refine g_iconst (v := nI 0) dL_roll_18 (by decide) ?_
    exact g_iret rfl (nr_int _) dL_roll_19 (by decide) ⟨hE.wo.put, hS.out hox (by rw [ho2]; decide), fun w2 _ h2 => by rw [hw] at h2; cases h2; exact hu_at _ _ _ _, by rw [hq]⟩
  · rintro C sh' sz' V' ⟨hE, hS, hq, hC2⟩
    rcases exs2 hq hC2 with ⟨e1, rfl⟩ | ⟨e1, rfl⟩
    · refine g_catch [] ⟨0, 9, 12, 22⟩ [⟨0, 9, 15, 47⟩] rfl (fun z hz => nomatch hz) (by decide +kernel) (by decide) (by decide) cl_L_22 ca_xIO (fun q => ?_)
      refine g_astore_n dL_roll_12 (by decide) rfl ?_
      show G _ _ _ _ _ _ _ _ _ [_, _, _, _] _
      refine g_iconst (v := nI 1) dL_roll_13 (by decide) ?_
      exact g_iret rfl (nr_int _) dL_roll_14 (by decide) ⟨hE.wo, hS, fun w2 h2 => absurd h2 hq, by rw [e1]⟩
    · refine g_catch [⟨0, 9, 12, 22⟩] ⟨0, 9, 15, 47⟩ [] rfl (List.forall_mem_cons.mpr ⟨Or.inr ⟨by decide, _, cl_L_22, by decide +kernel, by decide +kernel⟩, (fun z hz => nomatch hz)⟩) (by decide +kernel) (by decide) (by decide) cl_L_47 ca_xUO (fun q => ?_)
      refine g_astore_n dL_roll_15 (by decide) rfl ?_
      show G _ _ _ _ _ _ _ _ _ [_, _, _, _] _
      refine g_iconst (v := nI 2) dL_roll_16 (by decide) ?_
      exact g_iret rfl (nr_int _) dL_roll_17 (by decide) ⟨hE.wo, hS, fun w2 h2 => absurd h2 hq, by rw [e1]⟩
theorem v_why {c d : Int32} : ∃ zz, (sp_why S c d).2.1 = .int zz := by
  unfold sp_why
  repeat' split
  all_goals exact ⟨_, rfl⟩
theorem w_why {c d : Int32} (hC : CS sh V x S) (hI : InvS S) (hW : Wf sh sz) (ho : sh o = (22, 1)) (hox : ¬ (x ≤ o ∧ o < x + 284)) (hos : o < sz) : MCH E YL_why [(0, 10, 13, 22)] [.ref x, .int c, .int d, .ref o] sh sz V (WI x o sh sz V (sp_why S c d)) := by
  have hx9 : (sh x).1 = 9 := hC.1.1
  have hm := m_why (E := E) hC hI.1.1 hW (cp6 (exs := [xIO]) (q := sp_why S c d))
  have hv := v_why (S := S)  (c := c) (d := d)
  generalize sp_why S c d = q at hm hv ⊢
  refine MCH.of (hh := [(0, 10, 13, 22)]) RL "why" rfl (by decide +kernel) rfl 1 [some (.ref x), some (.int c), some (.int d), some (.ref o), none] rfl (Nat.le_of_ble_eq_true rfl) ?_
  show G E ML_why _ _ _ _ _ _ _ _ _
  refine g_aload_n dL_why_0 rfl ?_
  refine g_iconst (v := nI 0) dL_why_1 (by decide) ?_
  refine g_aload_n dL_why_2 rfl ?_
  refine g_iload_n dL_why_3 rfl ?_
  refine g_iload_n dL_why_4 rfl ?_
  refine g_callV (M := ML_why) (pc := 5) (Y := YX6_why) sv_L_65 rfl yn_X6_why 8 (by decide) rfl rfl dL_why_5 hm hx9 rfl rfl (gRoom_of rfl) (Nat.le_of_ble_eq_true rfl) (fun _ _ _ _ h => h.1.1) ?_ ?_
  · rintro v sh' sz' V' ⟨hE, hS, hq, rfl⟩
    obtain ⟨w, hw⟩ := hv
    have ho2 := ((hE.2.1 o hos).1).trans ho
    rw [hw]
    show G _ _ _ _ _ _ _ _ _ _ [.int w, .int (nI 0), .ref o]
    refine g_i2l dL_why_8 rfl ?_
    refine g_lastore dL_why_9 ho2 (vp_in_nI (by decide) (by decide)) ?_
    refine g_jump (tgt := 17) dL_why_10 (by decide) ?_
    refine g_iconst (v := nI 0) dL_why_17 (by decide) ?_
    exact g_iret rfl (nr_int _) dL_why_18 (by decide) ⟨hE.wo.put, hS.out hox (by rw [ho2]; decide), fun w2 _ h2 => by rw [hw] at h2; cases h2; exact hu_at _ _ _ _, by rw [hq]⟩
  · rintro C sh' sz' V' ⟨hE, hS, hq, hC2⟩
    obtain ⟨e1, rfl⟩ := exs1 hq hC2
    refine g_catch [] ⟨0, 10, 13, 22⟩ [] rfl (fun z hz => nomatch hz) (by decide +kernel) (by decide) (by decide) cl_L_22 ca_xIO (fun q => ?_)
    refine g_astore dL_why_13 (by decide) rfl ?_
    show G _ _ _ _ _ _ _ _ _ [_, _, _, _, _] _
    refine g_iconst (v := nI 1) dL_why_15 (by decide) ?_
    exact g_iret rfl (nr_int _) dL_why_16 (by decide) ⟨hE.wo, hS, fun w2 h2 => absurd h2 hq, by rw [e1]⟩
theorem v_convoyOf {c w : Int32} : ∃ zz, (sp_convoyOf S c w).2.1 = .int zz := by
  unfold sp_convoyOf
  repeat' split
  all_goals exact ⟨_, rfl⟩
theorem w_convoyOf {c w : Int32} (hC : CS sh V x S) (hI : InvS S) (hW : Wf sh sz) (ho : sh o = (22, 1)) (hox : ¬ (x ≤ o ∧ o < x + 284)) (hos : o < sz) : MCH E YL_convoyOf [(0, 10, 13, 22), (0, 10, 17, 13)] [.ref x, .int c, .int w, .ref o] sh sz V (WI x o sh sz V (sp_convoyOf S c w)) := by
  have hx9 : (sh x).1 = 9 := hC.1.1
  have hm := m_convoyOf (E := E) hC hI.1.1 hW (cp6 (exs := [xIO, xIA]) (q := sp_convoyOf S c w))
  have hv := v_convoyOf (S := S)  (c := c) (w := w)
  generalize sp_convoyOf S c w = q at hm hv ⊢
  refine MCH.of (hh := [(0, 10, 13, 22), (0, 10, 17, 13)]) RL "convoyOf" rfl (by decide +kernel) rfl 1 [some (.ref x), some (.int c), some (.int w), some (.ref o), none] rfl (Nat.le_of_ble_eq_true rfl) ?_
  show G E ML_convoyOf _ _ _ _ _ _ _ _ _
  refine g_aload_n dL_convoyOf_0 rfl ?_
  refine g_iconst (v := nI 0) dL_convoyOf_1 (by decide) ?_
  refine g_aload_n dL_convoyOf_2 rfl ?_
  refine g_iload_n dL_convoyOf_3 rfl ?_
  refine g_iload_n dL_convoyOf_4 rfl ?_
  refine g_callV (M := ML_convoyOf) (pc := 5) (Y := YX6_convoyOf) sv_L_69 rfl yn_X6_convoyOf 8 (by decide) rfl rfl dL_convoyOf_5 hm hx9 rfl rfl (gRoom_of rfl) (Nat.le_of_ble_eq_true rfl) (fun _ _ _ _ h => h.1.1) ?_ ?_
  · rintro v sh' sz' V' ⟨hE, hS, hq, rfl⟩
    obtain ⟨w, hw⟩ := hv
    have ho2 := ((hE.2.1 o hos).1).trans ho
    rw [hw]
    show G _ _ _ _ _ _ _ _ _ _ [.int w, .int (nI 0), .ref o]
    refine g_i2l dL_convoyOf_8 rfl ?_
    refine g_lastore dL_convoyOf_9 ho2 (vp_in_nI (by decide) (by decide)) ?_
    refine g_jump (tgt := 21) dL_convoyOf_10 (by decide) ?_
    refine g_iconst (v := nI 0) dL_convoyOf_21 (by decide) ?_
    exact g_iret rfl (nr_int _) dL_convoyOf_22 (by decide) ⟨hE.wo.put, hS.out hox (by rw [ho2]; decide), fun w2 _ h2 => by rw [hw] at h2; cases h2; exact hu_at _ _ _ _, by rw [hq]⟩
  · rintro C sh' sz' V' ⟨hE, hS, hq, hC2⟩
    rcases exs2 hq hC2 with ⟨e1, rfl⟩ | ⟨e1, rfl⟩
    · refine g_catch [] ⟨0, 10, 13, 22⟩ [⟨0, 10, 17, 13⟩] rfl (fun z hz => nomatch hz) (by decide +kernel) (by decide) (by decide) cl_L_22 ca_xIO (fun q => ?_)
      refine g_astore dL_convoyOf_13 (by decide) rfl ?_
      show G _ _ _ _ _ _ _ _ _ [_, _, _, _, _] _
      refine g_iconst (v := nI 1) dL_convoyOf_15 (by decide) ?_
      exact g_iret rfl (nr_int _) dL_convoyOf_16 (by decide) ⟨hE.wo, hS, fun w2 h2 => absurd h2 hq, by rw [e1]⟩
    · refine g_catch [⟨0, 10, 13, 22⟩] ⟨0, 10, 17, 13⟩ [] rfl (List.forall_mem_cons.mpr ⟨Or.inr ⟨by decide, _, cl_L_22, by decide +kernel, by decide +kernel⟩, (fun z hz => nomatch hz)⟩) (by decide +kernel) (by decide) (by decide) cl_L_13 ca_xIA (fun q => ?_)
      refine g_astore dL_convoyOf_17 (by decide) rfl ?_
      show G _ _ _ _ _ _ _ _ _ [_, _, _, _, _] _
      refine g_iconst (v := nI 2) dL_convoyOf_19 (by decide) ?_
      exact g_iret rfl (nr_int _) dL_convoyOf_20 (by decide) ⟨hE.wo, hS, fun w2 h2 => absurd h2 hq, by rw [e1]⟩
theorem v_truckOf {c p w : Int32} : ∃ zz, (sp_truckOf S c p w).2.1 = .int zz := by
  unfold sp_truckOf
  repeat' split
  all_goals exact ⟨_, rfl⟩
theorem w_truckOf {c p w : Int32} (hC : CS sh V x S) (hI : InvS S) (hW : Wf sh sz) (ho : sh o = (22, 1)) (hox : ¬ (x ≤ o ∧ o < x + 284)) (hos : o < sz) : MCH E YL_truckOf [(0, 12, 15, 22), (0, 12, 19, 13)] [.ref x, .int c, .int p, .int w, .ref o] sh sz V (WI x o sh sz V (sp_truckOf S c p w)) := by
  have hx9 : (sh x).1 = 9 := hC.1.1
  have hm := m_truckOf (E := E) hC hI.1.1 hW (cp6 (exs := [xIO, xIA]) (q := sp_truckOf S c p w))
  have hv := v_truckOf (S := S)  (c := c) (p := p) (w := w)
  generalize sp_truckOf S c p w = q at hm hv ⊢
  refine MCH.of (hh := [(0, 12, 15, 22), (0, 12, 19, 13)]) RL "truckOf" rfl (by decide +kernel) rfl 1 [some (.ref x), some (.int c), some (.int p), some (.int w), some (.ref o), none] rfl (Nat.le_of_ble_eq_true rfl) ?_
  show G E ML_truckOf _ _ _ _ _ _ _ _ _
  refine g_aload dL_truckOf_0 rfl ?_
  refine g_iconst (v := nI 0) dL_truckOf_2 (by decide) ?_
  refine g_aload_n dL_truckOf_3 rfl ?_
  refine g_iload_n dL_truckOf_4 rfl ?_
  refine g_iload_n dL_truckOf_5 rfl ?_
  refine g_iload_n dL_truckOf_6 rfl ?_
  refine g_callV (M := ML_truckOf) (pc := 7) (Y := YX6_truckOf) sv_L_72 rfl yn_X6_truckOf 8 (by decide) rfl rfl dL_truckOf_7 hm hx9 rfl rfl (gRoom_of rfl) (Nat.le_of_ble_eq_true rfl) (fun _ _ _ _ h => h.1.1) ?_ ?_
  · rintro v sh' sz' V' ⟨hE, hS, hq, rfl⟩
    obtain ⟨w, hw⟩ := hv
    have ho2 := ((hE.2.1 o hos).1).trans ho
    rw [hw]
    show G _ _ _ _ _ _ _ _ _ _ [.int w, .int (nI 0), .ref o]
    refine g_i2l dL_truckOf_10 rfl ?_
    refine g_lastore dL_truckOf_11 ho2 (vp_in_nI (by decide) (by decide)) ?_
    refine g_jump (tgt := 23) dL_truckOf_12 (by decide) ?_
    refine g_iconst (v := nI 0) dL_truckOf_23 (by decide) ?_
    exact g_iret rfl (nr_int _) dL_truckOf_24 (by decide) ⟨hE.wo.put, hS.out hox (by rw [ho2]; decide), fun w2 _ h2 => by rw [hw] at h2; cases h2; exact hu_at _ _ _ _, by rw [hq]⟩
  · rintro C sh' sz' V' ⟨hE, hS, hq, hC2⟩
    rcases exs2 hq hC2 with ⟨e1, rfl⟩ | ⟨e1, rfl⟩
    · refine g_catch [] ⟨0, 12, 15, 22⟩ [⟨0, 12, 19, 13⟩] rfl (fun z hz => nomatch hz) (by decide +kernel) (by decide) (by decide) cl_L_22 ca_xIO (fun q => ?_)
      refine g_astore dL_truckOf_15 (by decide) rfl ?_
      show G _ _ _ _ _ _ _ _ _ [_, _, _, _, _, _] _
      refine g_iconst (v := nI 1) dL_truckOf_17 (by decide) ?_
      exact g_iret rfl (nr_int _) dL_truckOf_18 (by decide) ⟨hE.wo, hS, fun w2 h2 => absurd h2 hq, by rw [e1]⟩
    · refine g_catch [⟨0, 12, 15, 22⟩] ⟨0, 12, 19, 13⟩ [] rfl (List.forall_mem_cons.mpr ⟨Or.inr ⟨by decide, _, cl_L_22, by decide +kernel, by decide +kernel⟩, (fun z hz => nomatch hz)⟩) (by decide +kernel) (by decide) (by decide) cl_L_13 ca_xIA (fun q => ?_)
      refine g_astore dL_truckOf_19 (by decide) rfl ?_
      show G _ _ _ _ _ _ _ _ _ [_, _, _, _, _, _] _
      refine g_iconst (v := nI 2) dL_truckOf_21 (by decide) ?_
      exact g_iret rfl (nr_int _) dL_truckOf_22 (by decide) ⟨hE.wo, hS, fun w2 h2 => absurd h2 hq, by rw [e1]⟩
theorem v_load {c p : Int32} (hI : InvB S.1) : (sp_load S c p).1 = 0 → ∃ w, (sp_load S c p).2.1 = .float w ∧ vf_n32 w := by
  unfold sp_load
  by_cases z : isT S.1 c p
  · rw [if_pos z]
    obtain ⟨d, hd, rfl⟩ := isC_of hI z.1
    obtain ⟨k, hk, rfl⟩ := in_nI z.2.1 z.2.2 (by have := (hI.cv hd).2.2.1; have := hI.1.2; rw [nI_clamp (by omega)]; omega)
    have := hI.1.2
    rw [nI_clamp (by omega)] at hk
    have h4 := (hI.cv hd).2.2.1
    rw [nI_clamp (by omega), nI_clamp (by omega)]
    exact fun _ => ⟨_, rfl, bud_vf ((hI.cv hd).2.2.2.2 k hk)⟩
  · rw [if_neg z]
    exact fun h => absurd h (Nat.succ_ne_zero 0)
theorem w_load {c p : Int32} (hC : CS sh V x S) (hI : InvS S) (hW : Wf sh sz) (ho : sh o = (23, 1)) (hox : ¬ (x ≤ o ∧ o < x + 284)) (hos : o < sz) : MCH E YL_load [(0, 10, 13, 22)] [.ref x, .int c, .int p, .ref o] sh sz V (WF x o sh sz V (sp_load S c p)) := by
  have hx9 : (sh x).1 = 9 := hC.1.1
  have hm := m_load (E := E) hC hI.1.1 hW (cp6 (exs := [xIO]) (q := sp_load S c p))
  have hv := v_load (S := S) hI.1.1 (c := c) (p := p)
  generalize sp_load S c p = q at hm hv ⊢
  refine MCH.of (hh := [(0, 10, 13, 22)]) RL "load" rfl (by decide +kernel) rfl 1 [some (.ref x), some (.int c), some (.int p), some (.ref o), none] rfl (Nat.le_of_ble_eq_true rfl) ?_
  show G E ML_load _ _ _ _ _ _ _ _ _
  refine g_aload_n dL_load_0 rfl ?_
  refine g_iconst (v := nI 0) dL_load_1 (by decide) ?_
  refine g_aload_n dL_load_2 rfl ?_
  refine g_iload_n dL_load_3 rfl ?_
  refine g_iload_n dL_load_4 rfl ?_
  refine g_callV (M := ML_load) (pc := 5) (Y := YX6_load) sv_L_75 rfl yn_X6_load 8 (by decide) rfl rfl dL_load_5 hm hx9 rfl rfl (gRoom_of rfl) (Nat.le_of_ble_eq_true rfl) (fun _ _ _ _ h => h.1.1) ?_ ?_
  · rintro v sh' sz' V' ⟨hE, hS, hq, rfl⟩
    obtain ⟨w, hw, hnn⟩ := hv hq
    have ho2 := ((hE.2.1 o hos).1).trans ho
    rw [hw]
    show G _ _ _ _ _ _ _ _ _ _ [.float w, .int (nI 0), .ref o]
    refine g_f2d dL_load_8 (vfd hnn) ?_
    refine g_dastore dL_load_9 ho2 (vp_in_nI (by decide) (by decide)) ?_
    refine g_jump (tgt := 17) dL_load_10 (by decide) ?_
    refine g_iconst (v := nI 0) dL_load_17 (by decide) ?_
    exact g_iret rfl (nr_int _) dL_load_18 (by decide) ⟨hE.wo.put, hS.out hox (by rw [ho2]; decide), fun w2 _ h2 => by rw [hw] at h2; cases h2; exact hu_at _ _ _ _, by rw [hq]⟩
  · rintro C sh' sz' V' ⟨hE, hS, hq, hC2⟩
    obtain ⟨e1, rfl⟩ := exs1 hq hC2
    refine g_catch [] ⟨0, 10, 13, 22⟩ [] rfl (fun z hz => nomatch hz) (by decide +kernel) (by decide) (by decide) cl_L_22 ca_xIO (fun q => ?_)
    refine g_astore dL_load_13 (by decide) rfl ?_
    show G _ _ _ _ _ _ _ _ _ [_, _, _, _, _] _
    refine g_iconst (v := nI 1) dL_load_15 (by decide) ?_
    exact g_iret rfl (nr_int _) dL_load_16 (by decide) ⟨hE.wo, hS, fun w2 h2 => absurd h2 hq, by rw [e1]⟩
theorem v_at {a : Int32} : ∃ zz, (sp_at S a).2.1 = .int zz := by
  unfold sp_at
  repeat' split
  all_goals exact ⟨_, rfl⟩
theorem w_at {a : Int32} (hC : CS sh V x S) (hI : InvS S) (hW : Wf sh sz) (ho : sh o = (22, 1)) (hox : ¬ (x ≤ o ∧ o < x + 284)) (hos : o < sz) : MCH E YL_at [(0, 9, 12, 22), (0, 9, 15, 27)] [.ref x, .int a, .ref o] sh sz V (WI x o sh sz V (sp_at S a)) := by
  have hx9 : (sh x).1 = 9 := hC.1.1
  have hm := m_at (E := E) hC hI.1.1 hW (cp6 (exs := [xIO, nsC]) (q := sp_at S a))
  have hv := v_at (S := S)  (a := a)
  generalize sp_at S a = q at hm hv ⊢
  refine MCH.of (hh := [(0, 9, 12, 22), (0, 9, 15, 27)]) RL "at" rfl (by decide +kernel) rfl 1 [some (.ref x), some (.int a), some (.ref o), none] rfl (Nat.le_of_ble_eq_true rfl) ?_
  show G E ML_at _ _ _ _ _ _ _ _ _
  refine g_aload_n dL_at_0 rfl ?_
  refine g_iconst (v := nI 0) dL_at_1 (by decide) ?_
  refine g_aload_n dL_at_2 rfl ?_
  refine g_iload_n dL_at_3 rfl ?_
  refine g_callV (M := ML_at) (pc := 4) (Y := YX6_at) sv_L_79 rfl yn_X6_at 8 (by decide) rfl rfl dL_at_4 hm hx9 rfl rfl (gRoom_of rfl) (Nat.le_of_ble_eq_true rfl) (fun _ _ _ _ h => h.1.1) ?_ ?_
  · rintro v sh' sz' V' ⟨hE, hS, hq, rfl⟩
    obtain ⟨w, hw⟩ := hv
    have ho2 := ((hE.2.1 o hos).1).trans ho
    rw [hw]
    show G _ _ _ _ _ _ _ _ _ _ [.int w, .int (nI 0), .ref o]
    refine g_i2l dL_at_7 rfl ?_
    refine g_lastore dL_at_8 ho2 (vp_in_nI (by decide) (by decide)) ?_
    refine g_jump (tgt := 18) dL_at_9 (by decide) ?_
    refine g_iconst (v := nI 0) dL_at_18 (by decide) ?_
    exact g_iret rfl (nr_int _) dL_at_19 (by decide) ⟨hE.wo.put, hS.out hox (by rw [ho2]; decide), fun w2 _ h2 => by rw [hw] at h2; cases h2; exact hu_at _ _ _ _, by rw [hq]⟩
  · rintro C sh' sz' V' ⟨hE, hS, hq, hC2⟩
    rcases exs2 hq hC2 with ⟨e1, rfl⟩ | ⟨e1, rfl⟩
    · refine g_catch [] ⟨0, 9, 12, 22⟩ [⟨0, 9, 15, 27⟩] rfl (fun z hz => nomatch hz) (by decide +kernel) (by decide) (by decide) cl_L_22 ca_xIO (fun q => ?_)
      refine g_astore_n dL_at_12 (by decide) rfl ?_
      show G _ _ _ _ _ _ _ _ _ [_, _, _, _] _
      refine g_iconst (v := nI 1) dL_at_13 (by decide) ?_
      exact g_iret rfl (nr_int _) dL_at_14 (by decide) ⟨hE.wo, hS, fun w2 h2 => absurd h2 hq, by rw [e1]⟩
    · refine g_catch [⟨0, 9, 12, 22⟩] ⟨0, 9, 15, 27⟩ [] rfl (List.forall_mem_cons.mpr ⟨Or.inr ⟨by decide, _, cl_L_22, by decide +kernel, by decide +kernel⟩, (fun z hz => nomatch hz)⟩) (by decide +kernel) (by decide) (by decide) cl_L_27 ca_nsC (fun q => ?_)
      refine g_astore_n dL_at_15 (by decide) rfl ?_
      show G _ _ _ _ _ _ _ _ _ [_, _, _, _] _
      refine g_iconst (v := nI 2) dL_at_16 (by decide) ?_
      exact g_iret rfl (nr_int _) dL_at_17 (by decide) ⟨hE.wo, hS, fun w2 h2 => absurd h2 hq, by rw [e1]⟩
theorem v_rolls {c : Int32} : ∃ zz, (sp_rolls S c).2.1 = .int zz := by
  unfold sp_rolls
  repeat' split
  all_goals exact ⟨_, rfl⟩
theorem w_rolls {c : Int32} (hC : CS sh V x S) (hI : InvS S) (hW : Wf sh sz) (ho : sh o = (22, 1)) (hox : ¬ (x ≤ o ∧ o < x + 284)) (hos : o < sz) : MCH E YL_rolls [(0, 9, 12, 22)] [.ref x, .int c, .ref o] sh sz V (WI x o sh sz V (sp_rolls S c)) := by
  have hx9 : (sh x).1 = 9 := hC.1.1
  have hm := m_rolls (E := E) hC hI.1.1 hW (cp6 (exs := [xIO]) (q := sp_rolls S c))
  have hv := v_rolls (S := S)  (c := c)
  generalize sp_rolls S c = q at hm hv ⊢
  refine MCH.of (hh := [(0, 9, 12, 22)]) RL "rolls" rfl (by decide +kernel) rfl 1 [some (.ref x), some (.int c), some (.ref o), none] rfl (Nat.le_of_ble_eq_true rfl) ?_
  show G E ML_rolls _ _ _ _ _ _ _ _ _
  refine g_aload_n dL_rolls_0 rfl ?_
  refine g_iconst (v := nI 0) dL_rolls_1 (by decide) ?_
  refine g_aload_n dL_rolls_2 rfl ?_
  refine g_iload_n dL_rolls_3 rfl ?_
  refine g_callV (M := ML_rolls) (pc := 4) (Y := YX6_rolls) sv_L_82 rfl yn_X6_rolls 8 (by decide) rfl rfl dL_rolls_4 hm hx9 rfl rfl (gRoom_of rfl) (Nat.le_of_ble_eq_true rfl) (fun _ _ _ _ h => h.1.1) ?_ ?_
  · rintro v sh' sz' V' ⟨hE, hS, hq, rfl⟩
    obtain ⟨w, hw⟩ := hv
    have ho2 := ((hE.2.1 o hos).1).trans ho
    rw [hw]
    show G _ _ _ _ _ _ _ _ _ _ [.int w, .int (nI 0), .ref o]
    refine g_i2l dL_rolls_7 rfl ?_
    refine g_lastore dL_rolls_8 ho2 (vp_in_nI (by decide) (by decide)) ?_
    refine g_jump (tgt := 15) dL_rolls_9 (by decide) ?_
    refine g_iconst (v := nI 0) dL_rolls_15 (by decide) ?_
    exact g_iret rfl (nr_int _) dL_rolls_16 (by decide) ⟨hE.wo.put, hS.out hox (by rw [ho2]; decide), fun w2 _ h2 => by rw [hw] at h2; cases h2; exact hu_at _ _ _ _, by rw [hq]⟩
  · rintro C sh' sz' V' ⟨hE, hS, hq, hC2⟩
    obtain ⟨e1, rfl⟩ := exs1 hq hC2
    refine g_catch [] ⟨0, 9, 12, 22⟩ [] rfl (fun z hz => nomatch hz) (by decide +kernel) (by decide) (by decide) cl_L_22 ca_xIO (fun q => ?_)
    refine g_astore_n dL_rolls_12 (by decide) rfl ?_
    show G _ _ _ _ _ _ _ _ _ [_, _, _, _] _
    refine g_iconst (v := nI 1) dL_rolls_13 (by decide) ?_
    exact g_iret rfl (nr_int _) dL_rolls_14 (by decide) ⟨hE.wo, hS, fun w2 h2 => absurd h2 hq, by rw [e1]⟩
theorem v_rollsAgain {c : Int32} : ∃ zz, (sp_rolls S c).2.1 = .int zz := by
  unfold sp_rolls
  repeat' split
  all_goals exact ⟨_, rfl⟩
theorem w_rollsAgain {c : Int32} (hC : CS sh V x S) (hI : InvS S) (hW : Wf sh sz) (ho : sh o = (22, 1)) (hox : ¬ (x ≤ o ∧ o < x + 284)) (hos : o < sz) : MCH E YL_rollsAgain [(0, 9, 12, 22)] [.ref x, .int c, .ref o] sh sz V (WI x o sh sz V (sp_rolls S c)) := by
  have hx9 : (sh x).1 = 9 := hC.1.1
  have hm := m_rollsAgain (E := E) hC hI.1.1 hW (cp6 (exs := [xIO]) (q := sp_rolls S c))
  have hv := v_rollsAgain (S := S)  (c := c)
  generalize sp_rolls S c = q at hm hv ⊢
  refine MCH.of (hh := [(0, 9, 12, 22)]) RL "rollsAgain" rfl (by decide +kernel) rfl 1 [some (.ref x), some (.int c), some (.ref o), none] rfl (Nat.le_of_ble_eq_true rfl) ?_
  show G E ML_rollsAgain _ _ _ _ _ _ _ _ _
  refine g_aload_n dL_rollsAgain_0 rfl ?_
  refine g_iconst (v := nI 0) dL_rollsAgain_1 (by decide) ?_
  refine g_aload_n dL_rollsAgain_2 rfl ?_
  refine g_iload_n dL_rollsAgain_3 rfl ?_
  refine g_callV (M := ML_rollsAgain) (pc := 4) (Y := YX6_rollsAgain) sv_L_85 rfl yn_X6_rollsAgain 8 (by decide) rfl rfl dL_rollsAgain_4 hm hx9 rfl rfl (gRoom_of rfl) (Nat.le_of_ble_eq_true rfl) (fun _ _ _ _ h => h.1.1) ?_ ?_
  · rintro v sh' sz' V' ⟨hE, hS, hq, rfl⟩
    obtain ⟨w, hw⟩ := hv
    have ho2 := ((hE.2.1 o hos).1).trans ho
    rw [hw]
    show G _ _ _ _ _ _ _ _ _ _ [.int w, .int (nI 0), .ref o]
    refine g_i2l dL_rollsAgain_7 rfl ?_
    refine g_lastore dL_rollsAgain_8 ho2 (vp_in_nI (by decide) (by decide)) ?_
    refine g_jump (tgt := 15) dL_rollsAgain_9 (by decide) ?_
    refine g_iconst (v := nI 0) dL_rollsAgain_15 (by decide) ?_
    exact g_iret rfl (nr_int _) dL_rollsAgain_16 (by decide) ⟨hE.wo.put, hS.out hox (by rw [ho2]; decide), fun w2 _ h2 => by rw [hw] at h2; cases h2; exact hu_at _ _ _ _, by rw [hq]⟩
  · rintro C sh' sz' V' ⟨hE, hS, hq, hC2⟩
    obtain ⟨e1, rfl⟩ := exs1 hq hC2
    refine g_catch [] ⟨0, 9, 12, 22⟩ [] rfl (fun z hz => nomatch hz) (by decide +kernel) (by decide) (by decide) cl_L_22 ca_xIO (fun q => ?_)
    refine g_astore_n dL_rollsAgain_12 (by decide) rfl ?_
    show G _ _ _ _ _ _ _ _ _ [_, _, _, _] _
    refine g_iconst (v := nI 1) dL_rollsAgain_13 (by decide) ?_
    exact g_iret rfl (nr_int _) dL_rollsAgain_14 (by decide) ⟨hE.wo, hS, fun w2 h2 => absurd h2 hq, by rw [e1]⟩
theorem v_iceIn {a d : Int32} : ∃ zz, (sp_iceIn S a d).2.1 = .int zz := by
  unfold sp_iceIn
  repeat' split
  all_goals exact ⟨_, rfl⟩
theorem w_iceIn {a d : Int32} (hC : CS sh V x S) (hI : InvS S) (hW : Wf sh sz) (ho : sh o = (22, 1)) (hox : ¬ (x ≤ o ∧ o < x + 284)) (hos : o < sz) : MCH E YL_iceIn [(0, 10, 13, 22), (0, 10, 17, 13)] [.ref x, .int a, .int d, .ref o] sh sz V (WI x o sh sz V (sp_iceIn S a d)) := by
  have hx9 : (sh x).1 = 9 := hC.1.1
  have hm := m_iceIn (E := E) hC hI.1.1 hW (cp6 (exs := [xIO, xIA]) (q := sp_iceIn S a d))
  have hv := v_iceIn (S := S)  (a := a) (d := d)
  generalize sp_iceIn S a d = q at hm hv ⊢
  refine MCH.of (hh := [(0, 10, 13, 22), (0, 10, 17, 13)]) RL "iceIn" rfl (by decide +kernel) rfl 1 [some (.ref x), some (.int a), some (.int d), some (.ref o), none] rfl (Nat.le_of_ble_eq_true rfl) ?_
  show G E ML_iceIn _ _ _ _ _ _ _ _ _
  refine g_aload_n dL_iceIn_0 rfl ?_
  refine g_iconst (v := nI 0) dL_iceIn_1 (by decide) ?_
  refine g_aload_n dL_iceIn_2 rfl ?_
  refine g_iload_n dL_iceIn_3 rfl ?_
  refine g_iload_n dL_iceIn_4 rfl ?_
  refine g_callV (M := ML_iceIn) (pc := 5) (Y := YX6_iceIn) sv_L_88 rfl yn_X6_iceIn 8 (by decide) rfl rfl dL_iceIn_5 hm hx9 rfl rfl (gRoom_of rfl) (Nat.le_of_ble_eq_true rfl) (fun _ _ _ _ h => h.1.1) ?_ ?_
  · rintro v sh' sz' V' ⟨hE, hS, hq, rfl⟩
    obtain ⟨w, hw⟩ := hv
    have ho2 := ((hE.2.1 o hos).1).trans ho
    rw [hw]
    show G _ _ _ _ _ _ _ _ _ _ [.int w, .int (nI 0), .ref o]
    refine g_i2l dL_iceIn_8 rfl ?_
    refine g_lastore dL_iceIn_9 ho2 (vp_in_nI (by decide) (by decide)) ?_
    refine g_jump (tgt := 21) dL_iceIn_10 (by decide) ?_
    refine g_iconst (v := nI 0) dL_iceIn_21 (by decide) ?_
    exact g_iret rfl (nr_int _) dL_iceIn_22 (by decide) ⟨hE.wo.put, hS.out hox (by rw [ho2]; decide), fun w2 _ h2 => by rw [hw] at h2; cases h2; exact hu_at _ _ _ _, by rw [hq]⟩
  · rintro C sh' sz' V' ⟨hE, hS, hq, hC2⟩
    rcases exs2 hq hC2 with ⟨e1, rfl⟩ | ⟨e1, rfl⟩
    · refine g_catch [] ⟨0, 10, 13, 22⟩ [⟨0, 10, 17, 13⟩] rfl (fun z hz => nomatch hz) (by decide +kernel) (by decide) (by decide) cl_L_22 ca_xIO (fun q => ?_)
      refine g_astore dL_iceIn_13 (by decide) rfl ?_
      show G _ _ _ _ _ _ _ _ _ [_, _, _, _, _] _
      refine g_iconst (v := nI 1) dL_iceIn_15 (by decide) ?_
      exact g_iret rfl (nr_int _) dL_iceIn_16 (by decide) ⟨hE.wo, hS, fun w2 h2 => absurd h2 hq, by rw [e1]⟩
    · refine g_catch [⟨0, 10, 13, 22⟩] ⟨0, 10, 17, 13⟩ [] rfl (List.forall_mem_cons.mpr ⟨Or.inr ⟨by decide, _, cl_L_22, by decide +kernel, by decide +kernel⟩, (fun z hz => nomatch hz)⟩) (by decide +kernel) (by decide) (by decide) cl_L_13 ca_xIA (fun q => ?_)
      refine g_astore dL_iceIn_17 (by decide) rfl ?_
      show G _ _ _ _ _ _ _ _ _ [_, _, _, _, _] _
      refine g_iconst (v := nI 2) dL_iceIn_19 (by decide) ?_
      exact g_iret rfl (nr_int _) dL_iceIn_20 (by decide) ⟨hE.wo, hS, fun w2 h2 => absurd h2 hq, by rw [e1]⟩
theorem v_bearsIn {a t : Int32} : ∃ zz, (sp_bearsIn S a t).2.1 = .int zz := by
  unfold sp_bearsIn
  repeat' split
  all_goals exact ⟨_, rfl⟩
theorem w_bearsIn {a t : Int32} (hC : CS sh V x S) (hI : InvS S) (hW : Wf sh sz) (ho : sh o = (22, 1)) (hox : ¬ (x ≤ o ∧ o < x + 284)) (hos : o < sz) : MCH E YL_bearsIn [(0, 10, 13, 22), (0, 10, 17, 13), (0, 10, 21, 27)] [.ref x, .int a, .int t, .ref o] sh sz V (WI x o sh sz V (sp_bearsIn S a t)) := by
  have hx9 : (sh x).1 = 9 := hC.1.1
  have hm := m_bearsIn (E := E) hC hI.1.1 hW (cp6 (exs := [xIO, xIA, nsC]) (q := sp_bearsIn S a t))
  have hv := v_bearsIn (S := S)  (a := a) (t := t)
  generalize sp_bearsIn S a t = q at hm hv ⊢
  refine MCH.of (hh := [(0, 10, 13, 22), (0, 10, 17, 13), (0, 10, 21, 27)]) RL "bearsIn" rfl (by decide +kernel) rfl 1 [some (.ref x), some (.int a), some (.int t), some (.ref o), none] rfl (Nat.le_of_ble_eq_true rfl) ?_
  show G E ML_bearsIn _ _ _ _ _ _ _ _ _
  refine g_aload_n dL_bearsIn_0 rfl ?_
  refine g_iconst (v := nI 0) dL_bearsIn_1 (by decide) ?_
  refine g_aload_n dL_bearsIn_2 rfl ?_
  refine g_iload_n dL_bearsIn_3 rfl ?_
  refine g_iload_n dL_bearsIn_4 rfl ?_
  refine g_callV (M := ML_bearsIn) (pc := 5) (Y := YX6_bearsIn) sv_L_91 rfl yn_X6_bearsIn 8 (by decide) rfl rfl dL_bearsIn_5 hm hx9 rfl rfl (gRoom_of rfl) (Nat.le_of_ble_eq_true rfl) (fun _ _ _ _ h => h.1.1) ?_ ?_
  · rintro v sh' sz' V' ⟨hE, hS, hq, rfl⟩
    obtain ⟨w, hw⟩ := hv
    have ho2 := ((hE.2.1 o hos).1).trans ho
    rw [hw]
    show G _ _ _ _ _ _ _ _ _ _ [.int w, .int (nI 0), .ref o]
    refine g_i2l dL_bearsIn_8 rfl ?_
    refine g_lastore dL_bearsIn_9 ho2 (vp_in_nI (by decide) (by decide)) ?_
    refine g_jump (tgt := 25) dL_bearsIn_10 (by decide) ?_
    refine g_iconst (v := nI 0) dL_bearsIn_25 (by decide) ?_
    exact g_iret rfl (nr_int _) dL_bearsIn_26 (by decide) ⟨hE.wo.put, hS.out hox (by rw [ho2]; decide), fun w2 _ h2 => by rw [hw] at h2; cases h2; exact hu_at _ _ _ _, by rw [hq]⟩
  · rintro C sh' sz' V' ⟨hE, hS, hq, hC2⟩
    rcases exs3 hq hC2 with ⟨e1, rfl⟩ | ⟨e1, rfl⟩ | ⟨e1, rfl⟩
    · refine g_catch [] ⟨0, 10, 13, 22⟩ [⟨0, 10, 17, 13⟩, ⟨0, 10, 21, 27⟩] rfl (fun z hz => nomatch hz) (by decide +kernel) (by decide) (by decide) cl_L_22 ca_xIO (fun q => ?_)
      refine g_astore dL_bearsIn_13 (by decide) rfl ?_
      show G _ _ _ _ _ _ _ _ _ [_, _, _, _, _] _
      refine g_iconst (v := nI 1) dL_bearsIn_15 (by decide) ?_
      exact g_iret rfl (nr_int _) dL_bearsIn_16 (by decide) ⟨hE.wo, hS, fun w2 h2 => absurd h2 hq, by rw [e1]⟩
    · refine g_catch [⟨0, 10, 13, 22⟩] ⟨0, 10, 17, 13⟩ [⟨0, 10, 21, 27⟩] rfl (List.forall_mem_cons.mpr ⟨Or.inr ⟨by decide, _, cl_L_22, by decide +kernel, by decide +kernel⟩, (fun z hz => nomatch hz)⟩) (by decide +kernel) (by decide) (by decide) cl_L_13 ca_xIA (fun q => ?_)
      refine g_astore dL_bearsIn_17 (by decide) rfl ?_
      show G _ _ _ _ _ _ _ _ _ [_, _, _, _, _] _
      refine g_iconst (v := nI 2) dL_bearsIn_19 (by decide) ?_
      exact g_iret rfl (nr_int _) dL_bearsIn_20 (by decide) ⟨hE.wo, hS, fun w2 h2 => absurd h2 hq, by rw [e1]⟩
    · refine g_catch [⟨0, 10, 13, 22⟩, ⟨0, 10, 17, 13⟩] ⟨0, 10, 21, 27⟩ [] rfl (List.forall_mem_cons.mpr ⟨Or.inr ⟨by decide, _, cl_L_22, by decide +kernel, by decide +kernel⟩, (List.forall_mem_cons.mpr ⟨Or.inr ⟨by decide, _, cl_L_13, by decide +kernel, by decide +kernel⟩, (fun z hz => nomatch hz)⟩)⟩) (by decide +kernel) (by decide) (by decide) cl_L_27 ca_nsC (fun q => ?_)
      refine g_astore dL_bearsIn_21 (by decide) rfl ?_
      show G _ _ _ _ _ _ _ _ _ [_, _, _, _, _] _
      refine g_iconst (v := nI 3) dL_bearsIn_23 (by decide) ?_
      exact g_iret rfl (nr_int _) dL_bearsIn_24 (by decide) ⟨hE.wo, hS, fun w2 h2 => absurd h2 hq, by rw [e1]⟩
theorem v_pass {d : Int32} : ∃ zz, (sp_pass S d).2.1 = .int zz := by
  unfold sp_pass
  repeat' split
  all_goals exact ⟨_, rfl⟩
theorem w_pass {d : Int32} (hC : CS sh V x S) (hI : InvS S) (hW : Wf sh sz) (ho : sh o = (22, 1)) (hox : ¬ (x ≤ o ∧ o < x + 284)) (hos : o < sz) : MCH E YL_pass [(0, 9, 12, 13)] [.ref x, .int d, .ref o] sh sz V (WI x o sh sz V (sp_pass S d)) := by
  have hx9 : (sh x).1 = 9 := hC.1.1
  have hm := m_pass (E := E) hC hI.1.1 hW (cp6 (exs := [xIA]) (q := sp_pass S d))
  have hv := v_pass (S := S)  (d := d)
  generalize sp_pass S d = q at hm hv ⊢
  refine MCH.of (hh := [(0, 9, 12, 13)]) RL "pass" rfl (by decide +kernel) rfl 1 [some (.ref x), some (.int d), some (.ref o), none] rfl (Nat.le_of_ble_eq_true rfl) ?_
  show G E ML_pass _ _ _ _ _ _ _ _ _
  refine g_aload_n dL_pass_0 rfl ?_
  refine g_iconst (v := nI 0) dL_pass_1 (by decide) ?_
  refine g_aload_n dL_pass_2 rfl ?_
  refine g_iload_n dL_pass_3 rfl ?_
  refine g_callV (M := ML_pass) (pc := 4) (Y := YX6_pass) sv_L_94 rfl yn_X6_pass 8 (by decide) rfl rfl dL_pass_4 hm hx9 rfl rfl (gRoom_of rfl) (Nat.le_of_ble_eq_true rfl) (fun _ _ _ _ h => h.1.1) ?_ ?_
  · rintro v sh' sz' V' ⟨hE, hS, hq, rfl⟩
    obtain ⟨w, hw⟩ := hv
    have ho2 := ((hE.2.1 o hos).1).trans ho
    rw [hw]
    show G _ _ _ _ _ _ _ _ _ _ [.int w, .int (nI 0), .ref o]
    refine g_i2l dL_pass_7 rfl ?_
    refine g_lastore dL_pass_8 ho2 (vp_in_nI (by decide) (by decide)) ?_
    refine g_jump (tgt := 15) dL_pass_9 (by decide) ?_
    refine g_iconst (v := nI 0) dL_pass_15 (by decide) ?_
    exact g_iret rfl (nr_int _) dL_pass_16 (by decide) ⟨hE.wo.put, hS.out hox (by rw [ho2]; decide), fun w2 _ h2 => by rw [hw] at h2; cases h2; exact hu_at _ _ _ _, by rw [hq]⟩
  · rintro C sh' sz' V' ⟨hE, hS, hq, hC2⟩
    obtain ⟨e1, rfl⟩ := exs1 hq hC2
    refine g_catch [] ⟨0, 9, 12, 13⟩ [] rfl (fun z hz => nomatch hz) (by decide +kernel) (by decide) (by decide) cl_L_13 ca_xIA (fun q => ?_)
    refine g_astore_n dL_pass_12 (by decide) rfl ?_
    show G _ _ _ _ _ _ _ _ _ [_, _, _, _] _
    refine g_iconst (v := nI 1) dL_pass_13 (by decide) ?_
    exact g_iret rfl (nr_int _) dL_pass_14 (by decide) ⟨hE.wo, hS, fun w2 h2 => absurd h2 hq, by rw [e1]⟩
theorem v_append {c : Int32} : ∃ zz, (sp_append S c).2.1 = .int zz := by
  unfold sp_append
  repeat' split
  all_goals exact ⟨_, rfl⟩
theorem w_append {c : Int32} (hc : vp_nar .char c = c) (hC : CS sh V x S) (hI : InvS S) (hW : Wf sh sz) (ho : sh o = (22, 1)) (hox : ¬ (x ≤ o ∧ o < x + 284)) (hos : o < sz) : MCH E YL_append [(0, 9, 12, 101)] [.ref x, .int c, .ref o] sh sz V (WI x o sh sz V (sp_append S c)) := by
  have hx9 : (sh x).1 = 9 := hC.1.1
  have hm := m_append (E := E) hc hC hI.2.2.2.2.2 hW (cp6 (exs := [xIS]) (q := sp_append S c))
  have hv := v_append (S := S)  (c := c)
  generalize sp_append S c = q at hm hv ⊢
  refine MCH.of (hh := [(0, 9, 12, 101)]) RL "append" rfl (by decide +kernel) rfl 1 [some (.ref x), some (.int c), some (.ref o), none] rfl (Nat.le_of_ble_eq_true rfl) ?_
  show G E ML_append _ _ _ _ _ _ _ _ _
  refine g_aload_n dL_append_0 rfl ?_
  refine g_iconst (v := nI 0) dL_append_1 (by decide) ?_
  refine g_aload_n dL_append_2 rfl ?_
  refine g_iload_n dL_append_3 rfl ?_
  refine g_callV (M := ML_append) (pc := 4) (Y := YX6_append) sv_L_97 rfl yn_X6_append 8 (by decide) rfl rfl dL_append_4 hm hx9 rfl rfl (gRoom_of rfl) (Nat.le_of_ble_eq_true rfl) (fun _ _ _ _ h => h.1.1) ?_ ?_
  · rintro v sh' sz' V' ⟨hE, hS, hq, rfl⟩
    obtain ⟨w, hw⟩ := hv
    have ho2 := ((hE.2.1 o hos).1).trans ho
    rw [hw]
    show G _ _ _ _ _ _ _ _ _ _ [.int w, .int (nI 0), .ref o]
    refine g_i2l dL_append_7 rfl ?_
    refine g_lastore dL_append_8 ho2 (vp_in_nI (by decide) (by decide)) ?_
    refine g_jump (tgt := 15) dL_append_9 (by decide) ?_
    refine g_iconst (v := nI 0) dL_append_15 (by decide) ?_
    exact g_iret rfl (nr_int _) dL_append_16 (by decide) ⟨hE.wo.put, hS.out hox (by rw [ho2]; decide), fun w2 _ h2 => by rw [hw] at h2; cases h2; exact hu_at _ _ _ _, by rw [hq]⟩
  · rintro C sh' sz' V' ⟨hE, hS, hq, hC2⟩
    obtain ⟨e1, rfl⟩ := exs1 hq hC2
    refine g_catch [] ⟨0, 9, 12, 101⟩ [] rfl (fun z hz => nomatch hz) (by decide +kernel) (by decide) (by decide) cl_L_101 ca_xIS (fun q => ?_)
    refine g_astore_n dL_append_12 (by decide) rfl ?_
    show G _ _ _ _ _ _ _ _ _ [_, _, _, _] _
    refine g_iconst (v := nI 1) dL_append_13 (by decide) ?_
    exact g_iret rfl (nr_int _) dL_append_14 (by decide) ⟨hE.wo, hS, fun w2 h2 => absurd h2 hq, by rw [e1]⟩
theorem v_read : ∃ zz, (sp_read S).2.1 = .int zz := by
  unfold sp_read
  repeat' split
  all_goals exact ⟨_, rfl⟩
theorem w_read (hC : CS sh V x S) (hI : InvS S) (hW : Wf sh sz) (ho : sh o = (22, 1)) (hox : ¬ (x ≤ o ∧ o < x + 284)) (hos : o < sz) : MCH E YL_read [(0, 8, 11, 13), (0, 8, 14, 47)] [.ref x, .ref o] sh sz V (WI x o sh sz V (sp_read S)) := by
  have hx9 : (sh x).1 = 9 := hC.1.1
  have hm := m_read (E := E) hC hI.1.1 hW (cp6 (exs := [xIA, xUO]) (q := sp_read S))
  have hv := v_read (S := S) 
  generalize sp_read S = q at hm hv ⊢
  refine MCH.of (hh := [(0, 8, 11, 13), (0, 8, 14, 47)]) RL "read" rfl (by decide +kernel) rfl 1 [some (.ref x), some (.ref o), none] rfl (Nat.le_of_ble_eq_true rfl) ?_
  show G E ML_read _ _ _ _ _ _ _ _ _
  refine g_aload_n dL_read_0 rfl ?_
  refine g_iconst (v := nI 0) dL_read_1 (by decide) ?_
  refine g_aload_n dL_read_2 rfl ?_
  refine g_callV (M := ML_read) (pc := 3) (Y := YX6_read) sv_L_103 rfl yn_X6_read 8 (by decide) rfl rfl dL_read_3 hm hx9 rfl rfl (gRoom_of rfl) (Nat.le_of_ble_eq_true rfl) (fun _ _ _ _ h => h.1.1) ?_ ?_
  · rintro v sh' sz' V' ⟨hE, hS, hq, rfl⟩
    obtain ⟨w, hw⟩ := hv
    have ho2 := ((hE.2.1 o hos).1).trans ho
    rw [hw]
    show G _ _ _ _ _ _ _ _ _ _ [.int w, .int (nI 0), .ref o]
    refine g_i2l dL_read_6 rfl ?_
    refine g_lastore dL_read_7 ho2 (vp_in_nI (by decide) (by decide)) ?_
    refine g_jump (tgt := 17) dL_read_8 (by decide) ?_
    refine g_iconst (v := nI 0) dL_read_17 (by decide) ?_
    exact g_iret rfl (nr_int _) dL_read_18 (by decide) ⟨hE.wo.put, hS.out hox (by rw [ho2]; decide), fun w2 _ h2 => by rw [hw] at h2; cases h2; exact hu_at _ _ _ _, by rw [hq]⟩
  · rintro C sh' sz' V' ⟨hE, hS, hq, hC2⟩
    rcases exs2 hq hC2 with ⟨e1, rfl⟩ | ⟨e1, rfl⟩
    · refine g_catch [] ⟨0, 8, 11, 13⟩ [⟨0, 8, 14, 47⟩] rfl (fun z hz => nomatch hz) (by decide +kernel) (by decide) (by decide) cl_L_13 ca_xIA (fun q => ?_)
      refine g_astore_n dL_read_11 (by decide) rfl ?_
      show G _ _ _ _ _ _ _ _ _ [_, _, _] _
      refine g_iconst (v := nI 1) dL_read_12 (by decide) ?_
      exact g_iret rfl (nr_int _) dL_read_13 (by decide) ⟨hE.wo, hS, fun w2 h2 => absurd h2 hq, by rw [e1]⟩
    · refine g_catch [⟨0, 8, 11, 13⟩] ⟨0, 8, 14, 47⟩ [] rfl (List.forall_mem_cons.mpr ⟨Or.inr ⟨by decide, _, cl_L_13, by decide +kernel, by decide +kernel⟩, (fun z hz => nomatch hz)⟩) (by decide +kernel) (by decide) (by decide) cl_L_47 ca_xUO (fun q => ?_)
      refine g_astore_n dL_read_14 (by decide) rfl ?_
      show G _ _ _ _ _ _ _ _ _ [_, _, _] _
      refine g_iconst (v := nI 2) dL_read_15 (by decide) ?_
      exact g_iret rfl (nr_int _) dL_read_16 (by decide) ⟨hE.wo, hS, fun w2 h2 => absurd h2 hq, by rw [e1]⟩
theorem v_refusal {d : Int32} : ∃ zz, (sp_refusal S d).2.1 = .int zz := by
  unfold sp_refusal
  repeat' split
  all_goals exact ⟨_, rfl⟩
theorem w_refusal {d : Int32} (hC : CS sh V x S) (hI : InvS S) (hW : Wf sh sz) (ho : sh o = (22, 1)) (hox : ¬ (x ≤ o ∧ o < x + 284)) (hos : o < sz) : MCH E YL_refusal [(0, 9, 12, 27)] [.ref x, .int d, .ref o] sh sz V (WI x o sh sz V (sp_refusal S d)) := by
  have hx9 : (sh x).1 = 9 := hC.1.1
  have hm := m_refusal (E := E) hC hI.2.2.2.2.1 hW (cp6 (exs := [nsC]) (q := sp_refusal S d))
  have hv := v_refusal (S := S)  (d := d)
  generalize sp_refusal S d = q at hm hv ⊢
  refine MCH.of (hh := [(0, 9, 12, 27)]) RL "refusal" rfl (by decide +kernel) rfl 1 [some (.ref x), some (.int d), some (.ref o), none] rfl (Nat.le_of_ble_eq_true rfl) ?_
  show G E ML_refusal _ _ _ _ _ _ _ _ _
  refine g_aload_n dL_refusal_0 rfl ?_
  refine g_iconst (v := nI 0) dL_refusal_1 (by decide) ?_
  refine g_aload_n dL_refusal_2 rfl ?_
  refine g_iload_n dL_refusal_3 rfl ?_
  refine g_callV (M := ML_refusal) (pc := 4) (Y := YX6_refusal) sv_L_107 rfl yn_X6_refusal 8 (by decide) rfl rfl dL_refusal_4 hm hx9 rfl rfl (gRoom_of rfl) (Nat.le_of_ble_eq_true rfl) (fun _ _ _ _ h => h.1.1) ?_ ?_
  · rintro v sh' sz' V' ⟨hE, hS, hq, rfl⟩
    obtain ⟨w, hw⟩ := hv
    have ho2 := ((hE.2.1 o hos).1).trans ho
    rw [hw]
    show G _ _ _ _ _ _ _ _ _ _ [.int w, .int (nI 0), .ref o]
    refine g_i2l dL_refusal_7 rfl ?_
    refine g_lastore dL_refusal_8 ho2 (vp_in_nI (by decide) (by decide)) ?_
    refine g_jump (tgt := 15) dL_refusal_9 (by decide) ?_
    refine g_iconst (v := nI 0) dL_refusal_15 (by decide) ?_
    exact g_iret rfl (nr_int _) dL_refusal_16 (by decide) ⟨hE.wo.put, hS.out hox (by rw [ho2]; decide), fun w2 _ h2 => by rw [hw] at h2; cases h2; exact hu_at _ _ _ _, by rw [hq]⟩
  · rintro C sh' sz' V' ⟨hE, hS, hq, hC2⟩
    obtain ⟨e1, rfl⟩ := exs1 hq hC2
    refine g_catch [] ⟨0, 9, 12, 27⟩ [] rfl (fun z hz => nomatch hz) (by decide +kernel) (by decide) (by decide) cl_L_27 ca_nsC (fun q => ?_)
    refine g_astore_n dL_refusal_12 (by decide) rfl ?_
    show G _ _ _ _ _ _ _ _ _ [_, _, _, _] _
    refine g_iconst (v := nI 1) dL_refusal_13 (by decide) ?_
    exact g_iret rfl (nr_int _) dL_refusal_14 (by decide) ⟨hE.wo, hS, fun w2 h2 => absurd h2 hq, by rw [e1]⟩
theorem v_account {w : Int32} : ∃ zz, (sp_account S w).2.1 = .int zz := by
  unfold sp_account
  repeat' split
  all_goals exact ⟨_, rfl⟩
theorem w_account {w : Int32} (hC : CS sh V x S) (hI : InvS S) (hW : Wf sh sz) (ho : sh o = (22, 1)) (hox : ¬ (x ≤ o ∧ o < x + 284)) (hos : o < sz) : MCH E YL_account [(0, 9, 12, 13)] [.ref x, .int w, .ref o] sh sz V (WI x o sh sz V (sp_account S w)) := by
  have hx9 : (sh x).1 = 9 := hC.1.1
  have hm := m_account (E := E) hC hI.1.1 hW (cp6 (exs := [xIA]) (q := sp_account S w))
  have hv := v_account (S := S)  (w := w)
  generalize sp_account S w = q at hm hv ⊢
  refine MCH.of (hh := [(0, 9, 12, 13)]) RL "account" rfl (by decide +kernel) rfl 1 [some (.ref x), some (.int w), some (.ref o), none] rfl (Nat.le_of_ble_eq_true rfl) ?_
  show G E ML_account _ _ _ _ _ _ _ _ _
  refine g_aload_n dL_account_0 rfl ?_
  refine g_iconst (v := nI 0) dL_account_1 (by decide) ?_
  refine g_aload_n dL_account_2 rfl ?_
  refine g_iload_n dL_account_3 rfl ?_
  refine g_callV (M := ML_account) (pc := 4) (Y := YX6_account) sv_L_111 rfl yn_X6_account 8 (by decide) rfl rfl dL_account_4 hm hx9 rfl rfl (gRoom_of rfl) (Nat.le_of_ble_eq_true rfl) (fun _ _ _ _ h => h.1.1) ?_ ?_
  · rintro v sh' sz' V' ⟨hE, hS, hq, rfl⟩
    obtain ⟨w, hw⟩ := hv
    have ho2 := ((hE.2.1 o hos).1).trans ho
    rw [hw]
    show G _ _ _ _ _ _ _ _ _ _ [.int w, .int (nI 0), .ref o]
    refine g_i2l dL_account_7 rfl ?_
    refine g_lastore dL_account_8 ho2 (vp_in_nI (by decide) (by decide)) ?_
    refine g_jump (tgt := 15) dL_account_9 (by decide) ?_
    refine g_iconst (v := nI 0) dL_account_15 (by decide) ?_
    exact g_iret rfl (nr_int _) dL_account_16 (by decide) ⟨hE.wo.put, hS.out hox (by rw [ho2]; decide), fun w2 _ h2 => by rw [hw] at h2; cases h2; exact hu_at _ _ _ _, by rw [hq]⟩
  · rintro C sh' sz' V' ⟨hE, hS, hq, hC2⟩
    obtain ⟨e1, rfl⟩ := exs1 hq hC2
    refine g_catch [] ⟨0, 9, 12, 13⟩ [] rfl (fun z hz => nomatch hz) (by decide +kernel) (by decide) (by decide) cl_L_13 ca_xIA (fun q => ?_)
    refine g_astore_n dL_account_12 (by decide) rfl ?_
    show G _ _ _ _ _ _ _ _ _ [_, _, _, _] _
    refine g_iconst (v := nI 1) dL_account_13 (by decide) ?_
    exact g_iret rfl (nr_int _) dL_account_14 (by decide) ⟨hE.wo, hS, fun w2 h2 => absurd h2 hq, by rw [e1]⟩
theorem v_share : (sp_share S).1 = 0 → ∃ w, (sp_share S).2.1 = .float w ∧ vf_n32 w := by
  unfold sp_share
  by_cases z : S.1 3 = 0
  · rw [if_pos z]
    exact fun h => absurd h (Nat.succ_ne_zero 0)
  · rw [if_neg z]
    exact fun _ => ⟨_, rfl, fp_share z⟩
theorem w_share (hC : CS sh V x S) (hI : InvS S) (hW : Wf sh sz) (ho : sh o = (23, 1)) (hox : ¬ (x ≤ o ∧ o < x + 284)) (hos : o < sz) : MCH E YL_share [(0, 8, 11, 118)] [.ref x, .ref o] sh sz V (WF x o sh sz V (sp_share S)) := by
  have hx9 : (sh x).1 = 9 := hC.1.1
  have hm := m_share (E := E) hC hW (cp6 (exs := [xAR]) (q := sp_share S))
  have hv := v_share (S := S) 
  generalize sp_share S = q at hm hv ⊢
  refine MCH.of (hh := [(0, 8, 11, 118)]) RL "share" rfl (by decide +kernel) rfl 1 [some (.ref x), some (.ref o), none] rfl (Nat.le_of_ble_eq_true rfl) ?_
  show G E ML_share _ _ _ _ _ _ _ _ _
  refine g_aload_n dL_share_0 rfl ?_
  refine g_iconst (v := nI 0) dL_share_1 (by decide) ?_
  refine g_aload_n dL_share_2 rfl ?_
  refine g_callV (M := ML_share) (pc := 3) (Y := YX6_share) sv_L_114 rfl yn_X6_share 8 (by decide) rfl rfl dL_share_3 hm hx9 rfl rfl (gRoom_of rfl) (Nat.le_of_ble_eq_true rfl) (fun _ _ _ _ h => h.1.1) ?_ ?_
  · rintro v sh' sz' V' ⟨hE, hS, hq, rfl⟩
    obtain ⟨w, hw, hnn⟩ := hv hq
    have ho2 := ((hE.2.1 o hos).1).trans ho
    rw [hw]
    show G _ _ _ _ _ _ _ _ _ _ [.float w, .int (nI 0), .ref o]
    refine g_f2d dL_share_6 (vfd hnn) ?_
    refine g_dastore dL_share_7 ho2 (vp_in_nI (by decide) (by decide)) ?_
    refine g_jump (tgt := 14) dL_share_8 (by decide) ?_
    refine g_iconst (v := nI 0) dL_share_14 (by decide) ?_
    exact g_iret rfl (nr_int _) dL_share_15 (by decide) ⟨hE.wo.put, hS.out hox (by rw [ho2]; decide), fun w2 _ h2 => by rw [hw] at h2; cases h2; exact hu_at _ _ _ _, by rw [hq]⟩
  · rintro C sh' sz' V' ⟨hE, hS, hq, hC2⟩
    obtain ⟨e1, rfl⟩ := exs1 hq hC2
    refine g_catch [] ⟨0, 8, 11, 118⟩ [] rfl (fun z hz => nomatch hz) (by decide +kernel) (by decide) (by decide) cl_L_118 ca_xAR (fun q => ?_)
    refine g_astore_n dL_share_11 (by decide) rfl ?_
    show G _ _ _ _ _ _ _ _ _ [_, _, _] _
    refine g_iconst (v := nI 1) dL_share_12 (by decide) ?_
    exact g_iret rfl (nr_int _) dL_share_13 (by decide) ⟨hE.wo, hS, fun w2 h2 => absurd h2 hq, by rw [e1]⟩
theorem v_undo : ∃ zz, (sp_undo S).2.1 = .int zz := by
  unfold sp_undo
  repeat' split
  all_goals exact ⟨_, rfl⟩
theorem w_undo (hC : CS sh V x S) (hI : InvS S) (hW : Wf sh sz) (ho : sh o = (22, 1)) (hox : ¬ (x ≤ o ∧ o < x + 284)) (hos : o < sz) : MCH E YL_undo [(0, 8, 11, 101)] [.ref x, .ref o] sh sz V (WI x o sh sz V (sp_undo S)) := by
  have hx9 : (sh x).1 = 9 := hC.1.1
  have hm := m_undo (E := E) hC hW (cp6 (exs := [xIS]) (q := sp_undo S))
  have hv := v_undo (S := S) 
  generalize sp_undo S = q at hm hv ⊢
  refine MCH.of (hh := [(0, 8, 11, 101)]) RL "undo" rfl (by decide +kernel) rfl 1 [some (.ref x), some (.ref o), none] rfl (Nat.le_of_ble_eq_true rfl) ?_
  show G E ML_undo _ _ _ _ _ _ _ _ _
  refine g_aload_n dL_undo_0 rfl ?_
  refine g_iconst (v := nI 0) dL_undo_1 (by decide) ?_
  refine g_aload_n dL_undo_2 rfl ?_
  refine g_callV (M := ML_undo) (pc := 3) (Y := YX6_undo) sv_L_120 rfl yn_X6_undo 8 (by decide) rfl rfl dL_undo_3 hm hx9 rfl rfl (gRoom_of rfl) (Nat.le_of_ble_eq_true rfl) (fun _ _ _ _ h => h.1.1) ?_ ?_
  · rintro v sh' sz' V' ⟨hE, hS, hq, rfl⟩
    obtain ⟨w, hw⟩ := hv
    have ho2 := ((hE.2.1 o hos).1).trans ho
    rw [hw]
    show G _ _ _ _ _ _ _ _ _ _ [.int w, .int (nI 0), .ref o]
    refine g_i2l dL_undo_6 rfl ?_
    refine g_lastore dL_undo_7 ho2 (vp_in_nI (by decide) (by decide)) ?_
    refine g_jump (tgt := 14) dL_undo_8 (by decide) ?_
    refine g_iconst (v := nI 0) dL_undo_14 (by decide) ?_
    exact g_iret rfl (nr_int _) dL_undo_15 (by decide) ⟨hE.wo.put, hS.out hox (by rw [ho2]; decide), fun w2 _ h2 => by rw [hw] at h2; cases h2; exact hu_at _ _ _ _, by rw [hq]⟩
  · rintro C sh' sz' V' ⟨hE, hS, hq, hC2⟩
    obtain ⟨e1, rfl⟩ := exs1 hq hC2
    refine g_catch [] ⟨0, 8, 11, 101⟩ [] rfl (fun z hz => nomatch hz) (by decide +kernel) (by decide) (by decide) cl_L_101 ca_xIS (fun q => ?_)
    refine g_astore_n dL_undo_11 (by decide) rfl ?_
    show G _ _ _ _ _ _ _ _ _ [_, _, _] _
    refine g_iconst (v := nI 1) dL_undo_12 (by decide) ?_
    exact g_iret rfl (nr_int _) dL_undo_13 (by decide) ⟨hE.wo, hS, fun w2 h2 => absurd h2 hq, by rw [e1]⟩
theorem v_restore : ∃ zz, (sp_restore S).2.1 = .int zz := by
  unfold sp_restore
  repeat' split
  all_goals exact ⟨_, rfl⟩
theorem w_restore (hC : CS sh V x S) (hI : InvS S) (hW : Wf sh sz) (ho : sh o = (22, 1)) (hox : ¬ (x ≤ o ∧ o < x + 284)) (hos : o < sz) : MCH E YL_restore [(0, 8, 11, 101)] [.ref x, .ref o] sh sz V (WI x o sh sz V (sp_restore S)) := by
  have hx9 : (sh x).1 = 9 := hC.1.1
  have hm := m_restore (E := E) hC hW (cp6 (exs := [xIS]) (q := sp_restore S))
  have hv := v_restore (S := S) 
  generalize sp_restore S = q at hm hv ⊢
  refine MCH.of (hh := [(0, 8, 11, 101)]) RL "restore" rfl (by decide +kernel) rfl 1 [some (.ref x), some (.ref o), none] rfl (Nat.le_of_ble_eq_true rfl) ?_
  show G E ML_restore _ _ _ _ _ _ _ _ _
  refine g_aload_n dL_restore_0 rfl ?_
  refine g_iconst (v := nI 0) dL_restore_1 (by decide) ?_
  refine g_aload_n dL_restore_2 rfl ?_
  refine g_callV (M := ML_restore) (pc := 3) (Y := YX6_restore) sv_L_123 rfl yn_X6_restore 8 (by decide) rfl rfl dL_restore_3 hm hx9 rfl rfl (gRoom_of rfl) (Nat.le_of_ble_eq_true rfl) (fun _ _ _ _ h => h.1.1) ?_ ?_
  · rintro v sh' sz' V' ⟨hE, hS, hq, rfl⟩
    obtain ⟨w, hw⟩ := hv
    have ho2 := ((hE.2.1 o hos).1).trans ho
    rw [hw]
    show G _ _ _ _ _ _ _ _ _ _ [.int w, .int (nI 0), .ref o]
    refine g_i2l dL_restore_6 rfl ?_
    refine g_lastore dL_restore_7 ho2 (vp_in_nI (by decide) (by decide)) ?_
    refine g_jump (tgt := 14) dL_restore_8 (by decide) ?_
    refine g_iconst (v := nI 0) dL_restore_14 (by decide) ?_
    exact g_iret rfl (nr_int _) dL_restore_15 (by decide) ⟨hE.wo.put, hS.out hox (by rw [ho2]; decide), fun w2 _ h2 => by rw [hw] at h2; cases h2; exact hu_at _ _ _ _, by rw [hq]⟩
  · rintro C sh' sz' V' ⟨hE, hS, hq, hC2⟩
    obtain ⟨e1, rfl⟩ := exs1 hq hC2
    refine g_catch [] ⟨0, 8, 11, 101⟩ [] rfl (fun z hz => nomatch hz) (by decide +kernel) (by decide) (by decide) cl_L_101 ca_xIS (fun q => ?_)
    refine g_astore_n dL_restore_11 (by decide) rfl ?_
    show G _ _ _ _ _ _ _ _ _ [_, _, _] _
    refine g_iconst (v := nI 1) dL_restore_12 (by decide) ?_
    exact g_iret rfl (nr_int _) dL_restore_13 (by decide) ⟨hE.wo, hS, fun w2 h2 => absurd h2 hq, by rw [e1]⟩
end WRAP

