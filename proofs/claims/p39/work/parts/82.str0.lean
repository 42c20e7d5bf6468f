section LDCS
theorem lv_ldcsw {p : Program} {l : Launch} {e : Env} {R : Room} {s : State} {m : MethodId} {args : Array Value} {below : List Frame} {meth : Method} {c : Code} {H : Heap} {locs : List Loc} {cells slots : Nat} {Q : State → Prop} {cc : ByteArray} {pc : Nat} {ls : Array Slot} {rest : List Value} (hexec : p.tables.exec = Jvm.exec) (hb : c.code = cc) {own tx : String} {index a : Nat} (hown : s.vm.findClass own = some m.cls) (hr : vk_R own index tx a s) (hdg : decode cc pc = .ok (.ldc_w index, 3)) (k : W p l e R s m args below meth c H locs cells slots Q (F0 m (pc + 3) ls (.ref a :: rest))) : W p l e R s m args below meth c H locs cells slots Q (F0 m pc ls rest) := by
  intro T hT X
  obtain ⟨t, a1, b1⟩ := k T hT X
  obtain ⟨k, cf, i, a', hk, hcf, hcp, -, hr2, hev'⟩ := Cond.stringRef_spec hown hr.1
  cases hr.2.symm.trans hev'
  obtain ⟨k', hk', he⟩ := X.warmed.alike.2.2 _ _ hk
  have hr' : k'.resolved[index]? = some (some (.string a)) := by
    rcases X.warmed.entry hk hk' index with h | ⟨h, -⟩
    · rw [h]; exact hr2
    · rw [hr2] at h; cases h
  refine ⟨t, ?_, b1⟩
  subst hb
  jvm_step X.here [hexec, hdg, ldc_w.wp_string (e := e) (s := T) (f := F0 m pc ls rest) X.here.top hk' (by rw [he]; exact hcf) hcp hr']
  exact a1
end LDCS
/-! texts: strings of the claim's own and constants, StringBuilder's calls -/
section STR0
variable {E : gE} {M : gM} {P : gP} {sh : Sh} {sz : Nat} {V : Vl} {cu su pc : Nat} {L : List (Option Value)} {rest : List Value}
/-- a call of a method that a superclass declares, no override -/
theorem g_callU {Y : gY} {idx n : Nat} {C owner : String} {xm : MethodName} (hs : GoodIn gW (va_wsU M.2.2.1 idx C owner xm Y.1 (Cond.code Y.1 Y.2.1 Y.2.2.1 Y.2.2.2.1 :: gW))) (hyx : Y.1 = ⟨owner, xm.name, xm.desc⟩) (hd : owner ≠ "java/lang/invoke/MethodHandle" ∧ owner ≠ "java/lang/invoke/VarHandle" ∧ (parseMethodDescriptor xm.desc).map (fun d => d.parameters.length) = some n) (ci : Nat) {r : vw_C} (hci : ci < 19) (hcl : vwCl[ci]? = some r) (hrC : r.1 = C) (hdg : decode M.1 pc = .ok (.invokevirtual idx, 3))
    {b : Nat} {As S : List Value} {P2 : gP} (hc : MC E Y (.ref b :: As) sh sz V P2) (hb : (sh b).1 = ci + 1) (hn : As.length = n) (hS : S = As.reverse ++ .ref b :: rest) (hroom : gRoom Y M cu su) (hcat : (rest.map fun v => v.category).sum ≤ 8)
    (hz : ∀ o sh' sz' V', P2 o sh' sz' V' → sz ≤ sz') (hx : ∀ C sh' sz' V', ¬ P2 (.inr C) sh' sz' V')
    (kk : ∀ v sh' sz' V', P2 (.inl v) sh' sz' V' → G E M P sh' sz' V' (cu + Y.2.2.2.2.cells) (su + Y.2.2.2.2.slots) (pc + 3) L (v.toList ++ rest)) : G E M P sh sz V cu su pc L S := by
  subst hS
  intro p e s m args below meth c C0 H locs ls D
  obtain ⟨cell, q1, q2, q3, q4⟩ := D.2.1.obj hb hcl hci
  have hfc := (C0.2.2.2.2.2.2.2.2.2.1.kn hcl).2.1
  rw [hrC] at hfc
  refine va_any2 (va_runU (rest := rest) ⟨C0.1, C0.2.1, C0.2.2.1, C0.2.2.2.1, C0.2.2.2.2.1⟩ (hc.met hx) (va_cwU n C0.2.2.2.2.1 hs rfl rfl rfl hyx hd ⟨hroom.1, hroom.2.1⟩) ⟨gPc_blind, ⟨cell, q1, by rw [q3]; rfl, by rw [q2]; exact hfc⟩, fun U hU hW => ⟨rfl, C0.2.2.2.2.2.2.2.2.2.1.warm hW, by rw [hU]; exact D.2.1⟩⟩ rfl hn D.1.1 rfl (lv_room hcat) hdg ⟨hroom.2.2.1, hroom.2.2.2⟩) ?_
  rintro v st t L2 hL ⟨v', sh', sz', V', hv, hR, hP⟩
  cases hv
  exact kk v sh' sz' V' hP p e s m args below meth c C0 t.heap _ ls (HR.mono_sz D hR (hz _ _ _ _ hP) hL)
/-- .. that the object's class overrides -/
theorem g_callO {Y : gY} {idx n : Nat} {C owner : String} {xm : MethodName} (hs : GoodIn gW (va_wsO M.2.2.1 idx C owner xm Y.1 (Cond.code Y.1 Y.2.1 Y.2.2.1 Y.2.2.2.1 :: gW))) {b0 : ByteArray} {m0 : Nat} {r0 : Option FieldType} (h0 : Cond.code ⟨owner, xm.name, xm.desc⟩ b0 m0 r0 ∈ gW) (hd : owner ≠ "java/lang/invoke/MethodHandle" ∧ owner ≠ "java/lang/invoke/VarHandle" ∧ (parseMethodDescriptor xm.desc).map (fun d => d.parameters.length) = some n) (ci : Nat) {r : vw_C} (hci : ci < 19) (hcl : vwCl[ci]? = some r) (hrC : r.1 = C) (hdg : decode M.1 pc = .ok (.invokevirtual idx, 3))
    {b : Nat} {As S : List Value} {P2 : gP} (hc : MC E Y (.ref b :: As) sh sz V P2) (hb : (sh b).1 = ci + 1) (hn : As.length = n) (hS : S = As.reverse ++ .ref b :: rest) (hroom : gRoom Y M cu su) (hcat : (rest.map fun v => v.category).sum ≤ 8)
    (hz : ∀ o sh' sz' V', P2 o sh' sz' V' → sz ≤ sz') (hx : ∀ C sh' sz' V', ¬ P2 (.inr C) sh' sz' V')
    (kk : ∀ v sh' sz' V', P2 (.inl v) sh' sz' V' → G E M P sh' sz' V' (cu + Y.2.2.2.2.cells) (su + Y.2.2.2.2.slots) (pc + 3) L (v.toList ++ rest)) : G E M P sh sz V cu su pc L S := by
  subst hS
  intro p e s m args below meth c C0 H locs ls D
  obtain ⟨cell, q1, q2, q3, q4⟩ := D.2.1.obj hb hcl hci
  have hfc := (C0.2.2.2.2.2.2.2.2.2.1.kn hcl).2.1
  rw [hrC] at hfc
  refine va_any2 (va_runU (rest := rest) ⟨C0.1, C0.2.1, C0.2.2.1, C0.2.2.2.1, C0.2.2.2.2.1⟩ (hc.met hx) (va_cwO n C0.2.2.2.2.1 hs rfl rfl rfl h0 hd ⟨hroom.1, hroom.2.1⟩) ⟨gPc_blind, ⟨cell, q1, by rw [q3]; rfl, by rw [q2]; exact hfc⟩, fun U hU hW => ⟨rfl, C0.2.2.2.2.2.2.2.2.2.1.warm hW, by rw [hU]; exact D.2.1⟩⟩ rfl hn D.1.1 rfl (lv_room hcat) hdg ⟨hroom.2.2.1, hroom.2.2.2⟩) ?_
  rintro v st t L2 hL ⟨v', sh', sz', V', hv, hR, hP⟩
  cases hv
  exact kk v sh' sz' V' hP p e s m args below meth c C0 t.heap _ ls (HR.mono_sz D hR (hz _ _ _ _ hP) hL)
/-- super.method(..) -/
theorem g_callSU {Y : gY} {idx n : Nat} {C : String} (hs : GoodIn gW (va_wsSU M.2.2.1 idx Y.1 (Cond.code Y.1 Y.2.1 Y.2.2.1 Y.2.2.2.1 :: gW))) (hd : Y.1.name ≠ "<init>" ∧ (parseMethodDescriptor Y.1.desc).map (fun d => d.parameters.length) = some n) (ci : Nat) {r : vw_C} (hci : ci < 19) (hcl : vwCl[ci]? = some r) (hrC : r.1 = C) (hdg : decode M.1 pc = .ok (.invokespecial idx, 3))
    {b : Nat} {As S : List Value} {P2 : gP} (hc : MC E Y (.ref b :: As) sh sz V P2) (hb : (sh b).1 = ci + 1) (hn : As.length = n) (hS : S = As.reverse ++ .ref b :: rest) (hroom : gRoom Y M cu su) (hcat : (rest.map fun v => v.category).sum ≤ 8)
    (hz : ∀ o sh' sz' V', P2 o sh' sz' V' → sz ≤ sz') (hx : ∀ C sh' sz' V', ¬ P2 (.inr C) sh' sz' V')
    (kk : ∀ v sh' sz' V', P2 (.inl v) sh' sz' V' → G E M P sh' sz' V' (cu + Y.2.2.2.2.cells) (su + Y.2.2.2.2.slots) (pc + 3) L (v.toList ++ rest)) : G E M P sh sz V cu su pc L S := by
  subst hS
  intro p e s m args below meth c C0 H locs ls D
  obtain ⟨cell, q1, q2, q3, q4⟩ := D.2.1.obj hb hcl hci
  have hca := (C0.2.2.2.2.2.2.2.2.2.1.kn hcl).2
  have hfc := hca.1
  refine va_any2 (va_runSU (rest := rest) hca ⟨C0.1, C0.2.1, C0.2.2.1, C0.2.2.2.1, C0.2.2.2.2.1⟩ (hc.met hx) (va_cwSU n C0.2.2.2.2.1 hs rfl rfl rfl hd ⟨hroom.1, hroom.2.1⟩) ⟨gPc_blind, ⟨cell, q1, by rw [q3]; rfl, by rw [q2]; exact hfc⟩, fun U hU hW => ⟨rfl, C0.2.2.2.2.2.2.2.2.2.1.warm hW, by rw [hU]; exact D.2.1⟩⟩ rfl hn D.1.1 rfl (lv_room hcat) hdg ⟨hroom.2.2.1, hroom.2.2.2⟩) ?_
  rintro v st t L2 hL ⟨v', sh', sz', V', hv, hR, hP⟩
  cases hv
  exact kk v sh' sz' V' hP p e s m args below meth c C0 t.heap _ ls (HR.mono_sz D hR (hz _ _ _ _ hP) hL)

variable {b n : Nat} {As S : List Value}
theorem g_callUp {Y : gY} {idx n : Nat} {C owner : String} {xm : MethodName} {v : Value} (hs : GoodIn gW (va_wsU M.2.2.1 idx C owner xm Y.1 (Cond.code Y.1 Y.2.1 Y.2.2.1 Y.2.2.2.1 :: gW))) (hyx : Y.1 = ⟨owner, xm.name, xm.desc⟩) (hd : owner ≠ "java/lang/invoke/MethodHandle" ∧ owner ≠ "java/lang/invoke/VarHandle" ∧ (parseMethodDescriptor xm.desc).map (fun d => d.parameters.length) = some n) (ci : Nat) {r : vw_C} (hci : ci < 19) (hcl : vwCl[ci]? = some r) (hrC : r.1 = C) (hdg : decode M.1 pc = .ok (.invokevirtual idx, 3))
    (hc : MC E Y (.ref b :: As) sh sz V (pR (some v) sh sz V)) (hb : (sh b).1 = ci + 1) (hn : As.length = n) (hS : S = As.reverse ++ .ref b :: rest) (hroom : gRoomB Y M cu su = true) (hcat : (rest.map fun v => v.category).sum ≤ 8) (h0 : Y.2.2.2.2.cells = 0 ∧ Y.2.2.2.2.slots = 0)
    (kk : G E M P sh sz V cu su (pc + 3) L (v :: rest)) : G E M P sh sz V cu su pc L S :=
  g_callU hs hyx hd ci hci hcl hrC hdg hc hb hn hS (gRoom_of hroom) hcat (fun _ _ _ _ h => Nat.le_of_eq h.2.2.1.symm) (fun _ _ _ _ h => nomatch h.1) (fun v' sh' sz' V' h => by obtain ⟨h1, rfl, rfl, rfl⟩ := h; cases h1; rw [h0.1, h0.2]; exact kk)
theorem g_callUn {Y : gY} {idx n : Nat} {C owner : String} {xm : MethodName} (hs : GoodIn gW (va_wsU M.2.2.1 idx C owner xm Y.1 (Cond.code Y.1 Y.2.1 Y.2.2.1 Y.2.2.2.1 :: gW))) (hyx : Y.1 = ⟨owner, xm.name, xm.desc⟩) (hd : owner ≠ "java/lang/invoke/MethodHandle" ∧ owner ≠ "java/lang/invoke/VarHandle" ∧ (parseMethodDescriptor xm.desc).map (fun d => d.parameters.length) = some n) (ci : Nat) {r : vw_C} (hci : ci < 19) (hcl : vwCl[ci]? = some r) (hrC : r.1 = C) (hdg : decode M.1 pc = .ok (.invokevirtual idx, 3))
    (hc : MC E Y (.ref b :: As) sh sz V (pR none sh sz V)) (hb : (sh b).1 = ci + 1) (hn : As.length = n) (hS : S = As.reverse ++ .ref b :: rest) (hroom : gRoomB Y M cu su = true) (hcat : (rest.map fun v => v.category).sum ≤ 8) (h0 : Y.2.2.2.2.cells = 0 ∧ Y.2.2.2.2.slots = 0)
    (kk : G E M P sh sz V cu su (pc + 3) L rest) : G E M P sh sz V cu su pc L S :=
  g_callU hs hyx hd ci hci hcl hrC hdg hc hb hn hS (gRoom_of hroom) hcat (fun _ _ _ _ h => Nat.le_of_eq h.2.2.1.symm) (fun _ _ _ _ h => nomatch h.1) (fun v' sh' sz' V' h => by obtain ⟨h1, rfl, rfl, rfl⟩ := h; cases h1; rw [h0.1, h0.2]; exact kk)
theorem g_callUv {Y : gY} {idx n : Nat} {C owner : String} {xm : MethodName} {Q : Vl → Prop} (hs : GoodIn gW (va_wsU M.2.2.1 idx C owner xm Y.1 (Cond.code Y.1 Y.2.1 Y.2.2.1 Y.2.2.2.1 :: gW))) (hyx : Y.1 = ⟨owner, xm.name, xm.desc⟩) (hd : owner ≠ "java/lang/invoke/MethodHandle" ∧ owner ≠ "java/lang/invoke/VarHandle" ∧ (parseMethodDescriptor xm.desc).map (fun d => d.parameters.length) = some n) (ci : Nat) {r : vw_C} (hci : ci < 19) (hcl : vwCl[ci]? = some r) (hrC : r.1 = C) (hdg : decode M.1 pc = .ok (.invokevirtual idx, 3))
    (hc : MC E Y (.ref b :: As) sh sz V (pV Q sh sz)) (hb : (sh b).1 = ci + 1) (hn : As.length = n) (hS : S = As.reverse ++ .ref b :: rest) (hroom : gRoomB Y M cu su = true) (hcat : (rest.map fun v => v.category).sum ≤ 8) (h0 : Y.2.2.2.2.cells = 0 ∧ Y.2.2.2.2.slots = 0)
    (kk : ∀ V', Q V' → G E M P sh sz V' cu su (pc + 3) L rest) : G E M P sh sz V cu su pc L S :=
  g_callU hs hyx hd ci hci hcl hrC hdg hc hb hn hS (gRoom_of hroom) hcat (fun _ _ _ _ h => Nat.le_of_eq h.2.2.1.symm) (fun _ _ _ _ h => nomatch h.1) (fun v' sh' sz' V' h => by obtain ⟨h1, rfl, rfl, h2⟩ := h; cases h1; rw [h0.1, h0.2]; exact kk V' h2)
theorem g_callOp {Y : gY} {idx n : Nat} {C owner : String} {xm : MethodName} {v : Value} (hs : GoodIn gW (va_wsO M.2.2.1 idx C owner xm Y.1 (Cond.code Y.1 Y.2.1 Y.2.2.1 Y.2.2.2.1 :: gW))) {b0 : ByteArray} {m0 : Nat} {r0 : Option FieldType} (h00 : Cond.code ⟨owner, xm.name, xm.desc⟩ b0 m0 r0 ∈ gW) (hd : owner ≠ "java/lang/invoke/MethodHandle" ∧ owner ≠ "java/lang/invoke/VarHandle" ∧ (parseMethodDescriptor xm.desc).map (fun d => d.parameters.length) = some n) (ci : Nat) {r : vw_C} (hci : ci < 19) (hcl : vwCl[ci]? = some r) (hrC : r.1 = C) (hdg : decode M.1 pc = .ok (.invokevirtual idx, 3))
    (hc : MC E Y (.ref b :: As) sh sz V (pR (some v) sh sz V)) (hb : (sh b).1 = ci + 1) (hn : As.length = n) (hS : S = As.reverse ++ .ref b :: rest) (hroom : gRoomB Y M cu su = true) (hcat : (rest.map fun v => v.category).sum ≤ 8) (h0 : Y.2.2.2.2.cells = 0 ∧ Y.2.2.2.2.slots = 0)
    (kk : G E M P sh sz V cu su (pc + 3) L (v :: rest)) : G E M P sh sz V cu su pc L S :=
  g_callO hs h00 hd ci hci hcl hrC hdg hc hb hn hS (gRoom_of hroom) hcat (fun _ _ _ _ h => Nat.le_of_eq h.2.2.1.symm) (fun _ _ _ _ h => nomatch h.1) (fun v' sh' sz' V' h => by obtain ⟨h1, rfl, rfl, rfl⟩ := h; cases h1; rw [h0.1, h0.2]; exact kk)
theorem g_callSp2 {Y : gY} {idx n : Nat} {C : String} {v : Value} (hs : GoodIn gW (va_wsSU M.2.2.1 idx Y.1 (Cond.code Y.1 Y.2.1 Y.2.2.1 Y.2.2.2.1 :: gW))) (hd : Y.1.name ≠ "<init>" ∧ (parseMethodDescriptor Y.1.desc).map (fun d => d.parameters.length) = some n) (ci : Nat) {r : vw_C} (hci : ci < 19) (hcl : vwCl[ci]? = some r) (hrC : r.1 = C) (hdg : decode M.1 pc = .ok (.invokespecial idx, 3))
    (hc : MC E Y (.ref b :: As) sh sz V (pR (some v) sh sz V)) (hb : (sh b).1 = ci + 1) (hn : As.length = n) (hS : S = As.reverse ++ .ref b :: rest) (hroom : gRoomB Y M cu su = true) (hcat : (rest.map fun v => v.category).sum ≤ 8) (h0 : Y.2.2.2.2.cells = 0 ∧ Y.2.2.2.2.slots = 0)
    (kk : G E M P sh sz V cu su (pc + 3) L (v :: rest)) : G E M P sh sz V cu su pc L S :=
  g_callSU hs hd ci hci hcl hrC hdg hc hb hn hS (gRoom_of hroom) hcat (fun _ _ _ _ h => Nat.le_of_eq h.2.2.1.symm) (fun _ _ _ _ h => nomatch h.1) (fun v' sh' sz' V' h => by obtain ⟨h1, rfl, rfl, rfl⟩ := h; cases h1; rw [h0.1, h0.2]; exact kk)
theorem g_callSw2 {Y : gY} {idx n : Nat} {C : String} {Q : Value → Vl → Prop} (hs : GoodIn gW (va_wsSU M.2.2.1 idx Y.1 (Cond.code Y.1 Y.2.1 Y.2.2.1 Y.2.2.2.1 :: gW))) (hd : Y.1.name ≠ "<init>" ∧ (parseMethodDescriptor Y.1.desc).map (fun d => d.parameters.length) = some n) (ci : Nat) {r : vw_C} (hci : ci < 19) (hcl : vwCl[ci]? = some r) (hrC : r.1 = C) (hdg : decode M.1 pc = .ok (.invokespecial idx, 3))
    (hc : MC E Y (.ref b :: As) sh sz V (pW Q sh sz)) (hb : (sh b).1 = ci + 1) (hn : As.length = n) (hS : S = As.reverse ++ .ref b :: rest) (hroom : gRoomB Y M cu su = true) (hcat : (rest.map fun v => v.category).sum ≤ 8) (h0 : Y.2.2.2.2.cells = 0 ∧ Y.2.2.2.2.slots = 0)
    (kk : ∀ v V', Q v V' → G E M P sh sz V' cu su (pc + 3) L (v :: rest)) : G E M P sh sz V cu su pc L S :=
  g_callSU hs hd ci hci hcl hrC hdg hc hb hn hS (gRoom_of hroom) hcat (fun _ _ _ _ h => by obtain ⟨v, -, -, h, -⟩ := h; exact Nat.le_of_eq h.symm) (fun _ _ _ _ h => by obtain ⟨v, h, -⟩ := h; exact nomatch h) (fun v' sh' sz' V' h => by obtain ⟨v, h1, rfl, rfl, h2⟩ := h; cases h1; rw [h0.1, h0.2]; exact kk v V' h2)
theorem gIn_U {own C owner : String} {idx n : Nat} {x y : MethodName} {cc : ByteArray} {ret : Option FieldType} (h1 : Cond.methodLink own idx x ∈ gW) (h2 : Cond.sameMethod x.cls owner x.name x.desc ∈ gW) (h3 : Cond.selects C x y ∈ gW) (h4 : Cond.instanceMethod y ∈ gW) (h5 : Cond.initialized y.cls ∈ gW) (h6 : Cond.code y cc n ret ∈ gW) : GoodIn gW (va_wsU own idx C owner x y (Cond.code y cc n ret :: gW)) :=
  gIn_cons h1 (gIn_cons h2 (gIn_cons h3 (gIn_cons h4 (gIn_cons h5 (gIn_cons h6 gIn_self)))))
theorem gIn_O {own C owner : String} {idx n : Nat} {x y : MethodName} {cc : ByteArray} {ret : Option FieldType} (h1 : Cond.methodLink own idx x ∈ gW) (h2 : Cond.sameMethod x.cls owner x.name x.desc ∈ gW) (h0 : Cond.instanceMethod ⟨owner, x.name, x.desc⟩ ∈ gW) (h3 : Cond.selects C x y ∈ gW) (h4 : Cond.instanceMethod y ∈ gW) (h5 : Cond.initialized y.cls ∈ gW) (h6 : Cond.code y cc n ret ∈ gW) : GoodIn gW (va_wsO own idx C owner x y (Cond.code y cc n ret :: gW)) :=
  gIn_cons h1 (gIn_cons h2 (gIn_cons h0 (gIn_cons h3 (gIn_cons h4 (gIn_cons h5 (gIn_cons h6 gIn_self))))))
theorem gIn_SU {own : String} {idx n : Nat} {y : MethodName} {cc : ByteArray} {ret : Option FieldType} (h1 : Cond.methodLink own idx y ∈ gW) (h2 : Cond.sameMethod y.cls y.cls y.name y.desc ∈ gW) (h3 : Cond.superclass own y.cls ∈ gW) (h4 : Cond.instanceMethod y ∈ gW) (h5 : Cond.initialized y.cls ∈ gW) (h6 : Cond.code y cc n ret ∈ gW) : GoodIn gW (va_wsSU own idx y (Cond.code y cc n ret :: gW)) :=
  gIn_cons h1 (gIn_cons h2 (gIn_cons h3 (gIn_cons h4 (gIn_cons h5 (gIn_cons h6 gIn_self)))))
theorem ini_J5 : Cond.initialized RJ5 ∈ gW := gW_at 31 (by decide +kernel) (by decide +kernel)
theorem wsup_J4 : Cond.superclass RJ4 RJ5 ∈ gW := gW_at 1017 (by decide +kernel) (by decide +kernel)
theorem wse_len : Cond.selects RJ4 yJ5_length_8abf5 yJ4_length_8abf5 ∈ gW := gW_at 1184 (by decide +kernel) (by decide +kernel)
theorem yd_J5_ensureCapacityInternal_d00df : RJ5 ≠ "java/lang/invoke/MethodHandle" ∧ RJ5 ≠ "java/lang/invoke/VarHandle" ∧ (parseMethodDescriptor yJ5_ensureCapacityInternal_d00df.desc).map (fun d => d.parameters.length) = some 1 := ⟨by decide +kernel, by decide +kernel, by decide +kernel⟩
theorem yd_J5_putStringAt_47b60 : RJ5 ≠ "java/lang/invoke/MethodHandle" ∧ RJ5 ≠ "java/lang/invoke/VarHandle" ∧ (parseMethodDescriptor yJ5_putStringAt_47b60.desc).map (fun d => d.parameters.length) = some 2 := ⟨by decide +kernel, by decide +kernel, by decide +kernel⟩
theorem yd_J5_inflateIfNeededFor_a7421 : RJ5 ≠ "java/lang/invoke/MethodHandle" ∧ RJ5 ≠ "java/lang/invoke/VarHandle" ∧ (parseMethodDescriptor yJ5_inflateIfNeededFor_a7421.desc).map (fun d => d.parameters.length) = some 1 := ⟨by decide +kernel, by decide +kernel, by decide +kernel⟩
theorem yd_J5_isLatin1_aae02 : RJ5 ≠ "java/lang/invoke/MethodHandle" ∧ RJ5 ≠ "java/lang/invoke/VarHandle" ∧ (parseMethodDescriptor yJ5_isLatin1_aae02.desc).map (fun d => d.parameters.length) = some 0 := ⟨by decide +kernel, by decide +kernel, by decide +kernel⟩
theorem yd_J5_getValue_6d5f1 : RJ5 ≠ "java/lang/invoke/MethodHandle" ∧ RJ5 ≠ "java/lang/invoke/VarHandle" ∧ (parseMethodDescriptor yJ5_getValue_6d5f1.desc).map (fun d => d.parameters.length) = some 0 := ⟨by decide +kernel, by decide +kernel, by decide +kernel⟩
theorem yd_J5_length_8abf5 : RJ5 ≠ "java/lang/invoke/MethodHandle" ∧ RJ5 ≠ "java/lang/invoke/VarHandle" ∧ (parseMethodDescriptor yJ5_length_8abf5.desc).map (fun d => d.parameters.length) = some 0 := ⟨by decide +kernel, by decide +kernel, by decide +kernel⟩
theorem yd2_J5_append_cf1ce : yJ5_append_cf1ce.name ≠ "<init>" ∧ (parseMethodDescriptor yJ5_append_cf1ce.desc).map (fun d => d.parameters.length) = some 1 := ⟨by decide +kernel, by decide +kernel⟩
theorem yd2_J5_append_c97b9 : yJ5_append_c97b9.name ≠ "<init>" ∧ (parseMethodDescriptor yJ5_append_c97b9.desc).map (fun d => d.parameters.length) = some 1 := ⟨by decide +kernel, by decide +kernel⟩
theorem yd2_J5_length_8abf5 : yJ5_length_8abf5.name ≠ "<init>" ∧ (parseMethodDescriptor yJ5_length_8abf5.desc).map (fun d => d.parameters.length) = some 0 := ⟨by decide +kernel, by decide +kernel⟩
/-! strings -/
def Byt (V : Vl) (t n : Nat) : Prop := ∀ j, j < n → ∃ y, V t j = .int y ∧ fits .byte (.int y) = true
/-- at k lies a String whose w bytes lie at v: a constant of the law's, or one that was made -/
def StrA (E : gE) (sh : Sh) (V : Vl) (k v w : Nat) : Prop := w ≤ 60 ∧ ((∃ i, i < 4 ∧ k = E.2.2.2.2.1 (100 + i) ∧ v = E.2.2.2.2.1 (200 + i) ∧ w = (gsb i).length) ∨ ((sh k).1 = 1 ∧ V k 0 = .ref v ∧ V k 1 = .int (nI 0) ∧ sh v = (23, w) ∧ Byt V v w))
theorem KI.str {s : State} (h : KI E s) {i : Nat} (hi : i < 4) : va_O "java/lang/String" (E.2.2.2.2.1 (100 + i)) (gN E) s E.2.2.1 ∧ va_OF "java/lang/String" "coder" "B" (.int 0) (E.2.2.2.2.1 (100 + i)) (gN E) s E.2.2.1 ∧ va_OF "java/lang/String" "value" "[B" (.ref (E.2.2.2.2.1 (200 + i))) (E.2.2.2.2.1 (100 + i)) (gN E) s E.2.2.1 ∧ va_T .byte (E.2.2.2.2.1 (200 + i)) (gsb i).length (fun j => .int ((gsb i).getD j 0)) (gN E) s E.2.2.1 :=
  ((h.2.2.2.2.2.2.2.1.1.1 i hi).2).1 0 (by decide)
theorem gsb_fit : ∀ i, i < 4 → ∀ j, j < (gsb i).length → fits .byte (.int ((gsb i).getD j 0)) = true := by decide +kernel
/-- ldc of one of them -/
theorem g_ldcs (i : Nat) (hi : i < 4) {index : Nat} (hown : M.2.2.1 = RL) (hix : (gsl.getD i (0, "")).1 = index) (hdg : decode M.1 pc = .ok (.ldc_w index, 3)) (kk : G E M P sh sz V cu su (pc + 3) L (.ref (E.2.2.2.2.1 (100 + i)) :: rest)) : G E M P sh sz V cu su pc L rest := by
  subst hix
  intro p e s m args below meth c C0 H locs ls D
  have hr := (C0.2.2.2.2.2.2.2.2.2.1.2.2.2.2.2.2.2.1.1.1 i hi).1
  exact lv_ldcsw C0.1 C0.2.1 (by rw [← hown]; exact C0.2.2.2.1) hr hdg (kk p e s m args below meth c C0 H locs ls D)
theorem g_sval {index k v w : Nat} (hS : StrA E sh V k v w) (hlink : Cond.fieldLink M.2.2.1 index (TJ0 0).1 (TJ0 0).2.1 (TJ0 0).2.2.1 ∈ gW) (hdg : decode M.1 pc = .ok (.getfield index, 3)) (kk : G E M P sh sz V cu su (pc + 3) L (.ref v :: rest)) : G E M P sh sz V cu su pc L (.ref k :: rest) := by
  rcases hS with ⟨-, ⟨i, hi, rfl, rfl, rfl⟩ | ⟨h1, h2, -⟩⟩
  · intro p e s m args below meth c C0 H locs ls D
    obtain ⟨cf, k, j, f, cell, h1, h2, h3, h4, h5, h6⟩ := (C0.2.2.2.2.2.2.2.2.2.1.str hi).2.2.1
    exact W.getf C0.1 C0.2.1 C0.2.2.2.1 (C0.2.2.2.2.1 _ hlink) h1 h2 (by rw [va_S_of C0.2.2.2.2.2.2.2.2.2.2.2 D.2.1 _ h6]; exact h3) h4 h5 rfl rfl hdg (kk p e s m args below meth c C0 H locs ls D)
  · exact g_get 0 rfl (by decide) inJ0 0 (by decide) hlink hdg h1 h2 kk
theorem g_scod {index k v w : Nat} (hS : StrA E sh V k v w) (hlink : Cond.fieldLink M.2.2.1 index (TJ0 1).1 (TJ0 1).2.1 (TJ0 1).2.2.1 ∈ gW) (hdg : decode M.1 pc = .ok (.getfield index, 3)) (kk : G E M P sh sz V cu su (pc + 3) L (.int (nI 0) :: rest)) : G E M P sh sz V cu su pc L (.ref k :: rest) := by
  rcases hS with ⟨-, ⟨i, hi, rfl, rfl, rfl⟩ | ⟨h1, -, h2, -⟩⟩
  · intro p e s m args below meth c C0 H locs ls D
    obtain ⟨cf, k, j, f, cell, h1, h2, h3, h4, h5, h6⟩ := (C0.2.2.2.2.2.2.2.2.2.1.str hi).2.1
    exact W.getf C0.1 C0.2.1 C0.2.2.2.1 (C0.2.2.2.2.1 _ hlink) h1 h2 (by rw [va_S_of C0.2.2.2.2.2.2.2.2.2.2.2 D.2.1 _ h6]; exact h3) h4 h5 rfl rfl hdg (kk p e s m args below meth c C0 H locs ls D)
  · exact g_get 0 rfl (by decide) inJ0 1 (by decide) hlink hdg h1 h2 kk
theorem g_slenS {k v w : Nat} (hS : StrA E sh V k v w) (hdg : decode M.1 pc = .ok (.arraylength, 1)) (kk : G E M P sh sz V cu su (pc + 1) L (.int (nI w) :: rest)) : G E M P sh sz V cu su pc L (.ref v :: rest) := by
  rcases hS with ⟨-, ⟨i, hi, rfl, rfl, rfl⟩ | ⟨h1, -, -, h2, -⟩⟩
  · intro p e s m args below meth c C0 H locs ls D
    obtain ⟨cell, h1, h2, h3, h4, h5, h6, h7⟩ := (C0.2.2.2.2.2.2.2.2.2.1.str hi).2.2.2
    exact W.alen (n := nI (gsb i).length) C0.1 C0.2.1 (by rw [va_S_of C0.2.2.2.2.2.2.2.2.2.2.2 D.2.1 _ h7]; exact h1) h2 h5 rfl rfl hdg (kk p e s m args below meth c C0 H locs ls D)
  · exact g_alen hdg h2 (by decide) (by decide) rfl kk
theorem g_sbald {k v w j : Nat} (hS : StrA E sh V k v w) (hj : j < w) (hdg : decode M.1 pc = .ok (.baload, 1)) (kk : ∀ y, G E M P sh sz V cu su (pc + 1) L (.int y :: rest)) : G E M P sh sz V cu su pc L (.int (nI j) :: .ref v :: rest) := by
  rcases hS with ⟨hw, ⟨i, hi, rfl, rfl, rfl⟩ | ⟨h1, -, -, h2, h3⟩⟩
  · intro p e s m args below meth c C0 H locs ls D
    obtain ⟨cell, h1, h2, h3, h4, h5, h6, h7⟩ := (C0.2.2.2.2.2.2.2.2.2.1.str hi).2.2.2
    have ej : (nI j).toNatClampNeg = j := nI_clamp (by omega)
    exact W.bald C0.1 C0.2.1 (by rw [va_S_of C0.2.2.2.2.2.2.2.2.2.2.2 D.2.1 _ h7]; exact h1) h2 h3 (fun q => by
      rcases q with q | q
      · exact nI_pos (by omega) q
      · rw [ej] at q
        omega) (by rw [ej]; exact h6 j hj) rfl rfl hdg (kk _ p e s m args below meth c C0 H locs ls D)
  · obtain ⟨y, hy, -⟩ := h3 j hj
    exact g_baload hdg h2 (vp_in_nI hj (by omega)) (by rw [nI_clamp (by omega)]; exact hy) (kk y)
/-- a call at a String, no change -/
theorem g_scallV {Y : gY} {idx n k v9 w : Nat} (hS9 : StrA E sh V k v9 w) (hs : GoodIn gW (wsV M.2.2.1 idx RJ0 Y.1 (Cond.code Y.1 Y.2.1 Y.2.2.1 Y.2.2.2.1 :: gW))) (hC : Y.1.cls = RJ0) (hy : gName Y.1 n) (hdg : decode M.1 pc = .ok (.invokevirtual idx, 3))
    {As S : List Value} {P2 : gP} (hc : MC E Y (.ref k :: As) sh sz V P2) (hn : As.length = n) (hS : S = As.reverse ++ .ref k :: rest) (hroom : gRoom Y M cu su) (hcat : (rest.map fun v => v.category).sum ≤ 8)
    (hz : ∀ o sh' sz' V', P2 o sh' sz' V' → sz ≤ sz') (hx : ∀ C sh' sz' V', ¬ P2 (.inr C) sh' sz' V')
    (kk : ∀ v sh' sz' V', P2 (.inl v) sh' sz' V' → G E M P sh' sz' V' (cu + Y.2.2.2.2.cells) (su + Y.2.2.2.2.slots) (pc + 3) L (v.toList ++ rest)) : G E M P sh sz V cu su pc L S := by
  rcases hS9 with ⟨-, ⟨i, hi, rfl, rfl, rfl⟩ | ⟨h1, -, -, h2, -⟩⟩
  · subst hS
    intro p e s m args below meth c C0 H locs ls D
    obtain ⟨cell, q1, q2, q3, q4⟩ := (C0.2.2.2.2.2.2.2.2.2.1.str hi).1
    refine vx_any (vx_runV (rest := rest) ⟨C0.1, C0.2.1, C0.2.2.1, C0.2.2.2.1, C0.2.2.2.2.1⟩ hc (cwV n C0.2.2.2.2.1 hs rfl rfl rfl ⟨hC, hy⟩ ⟨hroom.1, hroom.2.1⟩) ⟨gPc_blind, ⟨cell, by rw [va_S_of C0.2.2.2.2.2.2.2.2.2.2.2 D.2.1 _ q4]; exact q1, q2, q3⟩, fun U hU hW => ⟨rfl, C0.2.2.2.2.2.2.2.2.2.1.warm hW, by rw [hU]; exact D.2.1⟩⟩ rfl hn D.1.1 rfl (lv_room hcat) hdg ⟨hroom.2.2.1, hroom.2.2.2⟩) ?_ ?_
    · rintro v st t L2 hL ⟨v', sh', sz', V', hv, hR, hP⟩
      cases hv
      exact kk v sh' sz' V' hP p e s m args below meth c C0 t.heap _ ls (HR.mono_sz D hR (hz _ _ _ _ hP) hL)
    · rintro C9 ce q st t L2 hL ⟨sh', sz', V', hR, hP⟩ h1 h2 h3
      exact absurd hP (hx _ _ _ _)
  · exact g_callV hs hC hy 0 (by decide) rfl rfl hdg hc h1 hn hS hroom hcat hz kk (fun _ _ _ _ h => absurd h (hx _ _ _ _))
theorem g_scallVp {Y : gY} {idx n k v9 w : Nat} {As S : List Value} {v : Value} (hS9 : StrA E sh V k v9 w) (hs : GoodIn gW (wsV M.2.2.1 idx RJ0 Y.1 (Cond.code Y.1 Y.2.1 Y.2.2.1 Y.2.2.2.1 :: gW))) (hC : Y.1.cls = RJ0) (hy : gName Y.1 n) (hdg : decode M.1 pc = .ok (.invokevirtual idx, 3))
    (hc : MC E Y (.ref k :: As) sh sz V (pR (some v) sh sz V)) (hn : As.length = n) (hS : S = As.reverse ++ .ref k :: rest) (hroom : gRoomB Y M cu su = true) (hcat : (rest.map fun v => v.category).sum ≤ 8) (h0 : Y.2.2.2.2.cells = 0 ∧ Y.2.2.2.2.slots = 0)
    (kk : G E M P sh sz V cu su (pc + 3) L (v :: rest)) : G E M P sh sz V cu su pc L S :=
  g_scallV hS9 hs hC hy hdg hc hn hS (gRoom_of hroom) hcat (fun _ _ _ _ h => Nat.le_of_eq h.2.2.1.symm) (fun _ _ _ _ h => nomatch h.1) (fun v' sh' sz' V' h => by obtain ⟨h1, rfl, rfl, rfl⟩ := h; cases h1; rw [h0.1, h0.2]; exact kk)
theorem g_scallVv {Y : gY} {idx n k v9 w : Nat} {As S : List Value} {Q : Vl → Prop} (hS9 : StrA E sh V k v9 w) (hs : GoodIn gW (wsV M.2.2.1 idx RJ0 Y.1 (Cond.code Y.1 Y.2.1 Y.2.2.1 Y.2.2.2.1 :: gW))) (hC : Y.1.cls = RJ0) (hy : gName Y.1 n) (hdg : decode M.1 pc = .ok (.invokevirtual idx, 3))
    (hc : MC E Y (.ref k :: As) sh sz V (pV Q sh sz)) (hn : As.length = n) (hS : S = As.reverse ++ .ref k :: rest) (hroom : gRoomB Y M cu su = true) (hcat : (rest.map fun v => v.category).sum ≤ 8) (h0 : Y.2.2.2.2.cells = 0 ∧ Y.2.2.2.2.slots = 0)
    (kk : ∀ V', Q V' → G E M P sh sz V' cu su (pc + 3) L rest) : G E M P sh sz V cu su pc L S :=
  g_scallV hS9 hs hC hy hdg hc hn hS (gRoom_of hroom) hcat (fun _ _ _ _ h => Nat.le_of_eq h.2.2.1.symm) (fun _ _ _ _ h => nomatch h.1) (fun v' sh' sz' V' h => by obtain ⟨h1, rfl, rfl, h2⟩ := h; cases h1; rw [h0.1, h0.2]; exact kk V' h2)
theorem g_comp {index : Nat} (hlink : Cond.fieldLink M.2.2.1 index "java/lang/String" "COMPACT_STRINGS" "Z" ∈ gW) (hdg : decode M.1 pc = .ok (.getstatic index, 3)) (kk : G E M P sh sz V cu su (pc + 3) L (.int (nI 1) :: rest)) : G E M P sh sz V cu su pc L rest := by
  intro p e s m args below meth c C0 H locs ls D
  obtain ⟨cf, kf, fi, f, a, cell, h1, h2, h3, h4, h5, h6, h7, h8⟩ := C0.2.2.2.2.2.2.2.2.2.1.2.2.2.2.2.2.2.1.1.2.1
  exact W.gets C0.1 C0.2.1 C0.2.2.2.1 (C0.2.2.2.2.1 _ hlink) h1 h2 h3 h4 (by rw [va_S_of C0.2.2.2.2.2.2.2.2.2.2.2 D.2.1 a h8]; exact h5) (fun e9 => by rw [e9] at h6; cases h6) h7 rfl hdg (kk p e s m args below meth c C0 H locs ls D)
/-- what formats a wrong index: some reference, or null -/
theorem g_sio {index : Nat} (hlink : Cond.fieldLink M.2.2.1 index "jdk/internal/util/Preconditions" "SIOOBE_FORMATTER" "Ljava/util/function/BiFunction;" ∈ gW) (hdg : decode M.1 pc = .ok (.getstatic index, 3)) (kk : ∀ v, (v = .null ∨ ∃ a, v = .ref a) → G E M P sh sz V cu su (pc + 3) L (v :: rest)) : G E M P sh sz V cu su pc L rest := by
  intro p e s m args below meth c C0 H locs ls D
  obtain ⟨v, hv, cf, kf, fi, f, a, cell, h1, h2, h3, h4, h5, h6, h7, h8⟩ := C0.2.2.2.2.2.2.2.2.2.1.2.2.2.2.2.2.2.1.1.2.2.2.2
  exact W.gets C0.1 C0.2.1 C0.2.2.2.1 (C0.2.2.2.2.1 _ hlink) h1 h2 h3 h4 (by rw [va_S_of C0.2.2.2.2.2.2.2.2.2.2.2 D.2.1 a h8]; exact h5) (fun e9 => by rw [e9] at h6; cases h6) h7 rfl hdg (kk v hv p e s m args below meth c C0 H locs ls D)
/-- a digit's letter: getstatic, iload_0, ineg, baload -/
theorem g_dig {C n d : String} {index i : Nat} {x : Int32} {f : Nat → Value} (hlink : Cond.fieldLink M.2.2.1 index C n d ∈ gW) (hK : ∀ s, KI E s → ∃ t : Nat, va_Z C n d (.ref t) (gN E) s E.2.2.1 ∧ va_T .byte t 100 f (gN E) s E.2.2.1) (d0 : decode M.1 pc = .ok (.getstatic index, 3)) (d3 : decode M.1 (pc + 3) = .ok (.iload_n 0, 1)) (hl : lg L 0 = some (.int x)) (d4 : decode M.1 (pc + 4) = .ok (.ineg, 1)) (hx : -x = nI i) (hi : i < 100) (d5 : decode M.1 (pc + 5) = .ok (.baload, 1)) (kk : G E M P sh sz V cu su (pc + 6) L (f i :: rest)) : G E M P sh sz V cu su pc L rest := by
  refine g_gets hlink d0 hK fun t p e s m args below meth c C0 hT H locs ls D => ?_
  obtain ⟨cell, h1, h2, h3, h4, h5, h6, h7⟩ := hT
  refine lv_iload_n C0.1 C0.2.1 d3 rfl (lg_has D.1 hl) ?_
  refine lv_ineg C0.1 C0.2.1 d4 ?_
  rw [hx]
  have ej : (nI i).toNatClampNeg = i := nI_clamp (by omega)
  exact W.bald C0.1 C0.2.1 (by rw [va_S_of C0.2.2.2.2.2.2.2.2.2.2.2 D.2.1 _ h7]; exact h1) h2 h3 (fun q => by
    rcases q with q | q
    · exact nI_pos (by omega) q
    · rw [ej] at q
      omega) (by rw [ej]; exact h6 i hi) rfl rfl d5 (kk p e s m args below meth c C0 H locs ls D)
/-- System.arraycopy of bytes out of cs into an array of the claim's own -/
theorem g_bcopyC {index n1 a0 a sp dp n w : Nat} (hlink : Cond.methodLink M.2.2.1 index arraycopyName ∈ gW) (hnat : Cond.native arraycopyName ∈ gW) (hstat : Cond.static arraycopyName ∈ gW) (hini : Cond.initialized "java/lang/System" ∈ gW) (hdg : decode M.1 pc = .ok (.invokestatic index, 3))
    (f : Nat → Int32) (hsrc : ∀ (s : State) (H : Heap), KI E s → (∀ q : Nat, q < E.2.1 → s.heap[q]? = E.2.2.1[q]?) → HR E sh sz V H → ∃ cs : Cell, H[a0]? = some cs ∧ s.isArrayOf cs .byte ∧ cs.vm ≠ .unknown ∧ w ≤ cs.slots.size ∧ ∀ j, j < w → cs.slots[j]? = some (.int (f j))) (hf : ∀ j, j < w → fits .byte (.int (f j)) = true)
    (hs1 : sh a = (23, n1)) (g : Nat → Int32) (hg : V a = fun j => .int (g j)) (h4 : sp + n ≤ w) (h5 : dp + n ≤ n1) (hw : w < 2 ^ 30) (hn1 : n1 < 2 ^ 30)
    (hfr : 1 ≤ M.2.2.2.2.2.2.frames) (hlo : (rest.map fun v => v.category).sum + (nativeFrameWords "java/lang/System" "arraycopy" 5 + 11) ≤ M.2.2.2.2.2.2.locals) (kk : G E M P sh sz (hn V a (fun j => .int (va_cpy f g sp dp n j))) cu su (pc + 3) L rest) : G E M P sh sz V cu su pc L (.int (nI n) :: .int (nI dp) :: .ref a :: .int (nI sp) :: .ref a0 :: rest) := by
  intro p e s m args below meth c C0 H locs ls D T hT X
  obtain ⟨cs, hc0, hcb, hcu, hcw, hcv⟩ := hsrc s H C0.2.2.2.2.2.2.2.2.2.1 C0.2.2.2.2.2.2.2.2.2.2.2 D.2.1
  have hc1 := D.2.1.arr hs1 (by decide)
  have e1 : (nI sp).toNatClampNeg = sp := nI_clamp (by omega)
  have e2 : (nI dp).toNatClampNeg = dp := nI_clamp (by omega)
  have e3 : (nI n).toNatClampNeg = n := nI_clamp (by omega)
  have p1 : ¬ nI sp < 0 := nI_pos (by omega)
  have p2 : ¬ nI dp < 0 := nI_pos (by omega)
  have p3 : ¬ nI n < 0 := nI_pos (by omega)
  obtain ⟨hs6, k0, hk0, cm0, hkk0⟩ := hcb
  obtain ⟨-, k1, hk1, cm1, hkk1⟩ := (C0.2.2.2.2.2.2.2.2.2.1.2.1 23 (by decide) (by decide)).1 n1 (V a)
  obtain ⟨vm', X', step⟩ := X.arraycopy C0.1 C0.2.2.2.1 (C0.2.2.2.2.1 _ hlink) (C0.2.2.2.2.1 _ hnat) (C0.2.2.2.2.1 _ hstat) (C0.2.2.2.2.1 _ hini) (src := a0) (dst := a) (cs := cs) (cd := arrV (E.2.2.2.2.1 23) n1 (V a)) (srcPos := nI sp) (destPos := nI dp) (n := nI n) (by rw [hT]; exact hc0) (by rw [hT]; exact hc1)
    hs6 (fun _ h => by cases h) hcu (fun h => by cases h) hk0 hk1 hkk0 hkk1 (by decide) p1 p2 p3
    (by rw [nn_int p1, nn_int p3, e1, e3]; omega)
    (by rw [nn_int p2, nn_int p3, e2, e3, arrV_size]; omega)
    (fun vm₁ _ i hi => by
      rw [e3] at hi
      rw [e1]
      have e : cs.slots.getD (sp + i) .null = .int (f (sp + i)) := by
        rw [Array.getD_eq_getD_getElem?, hcv _ (by omega)]
        rfl
      rw [e]
      exact ⟨hf _ (by omega), trivial⟩)
    (g := F0 m pc ls (.int (nI n) :: .int (nI dp) :: .ref a :: .int (nI sp) :: .ref a0 :: rest)) rfl (by rw [C0.2.2.1]; exact D.1.1) (rest := rest) rfl (by rw [C0.2.1]; exact hdg) hfr (by show 2 * 0 + _ + _ ≤ _; omega)
  have ec : copied cs (arrV (E.2.2.2.2.1 23) n1 (V a)) (nI sp) (nI dp) (nI n) = arrV (E.2.2.2.2.1 23) n1 (fun j => .int (va_cpy f g sp dp n j)) := by
    rw [hg]
    have := va_copiedX (fun v : Int32 => Value.int v) cs (E.2.2.2.2.1 23) (n0 := w) (n1 := n1) (sp := (nI sp).toNatClampNeg) (dp := (nI dp).toNatClampNeg) (n := (nI n).toNatClampNeg) f g hcv (by rw [e1, e3]; exact h4)
    rw [e1, e2, e3] at this
    rw [← this]
    unfold copied
    rw [e1, e2, e3]
  rw [ec] at X' step
  have hl : a < H.size := (Array.getElem?_eq_some_iff.mp hc1).1
  have hheap : ((T.setVm vm').setCell a (arrV (E.2.2.2.2.1 23) n1 (fun j => .int (va_cpy f g sp dp n j)))).heap = H.setIfInBounds a (arrV (E.2.2.2.2.1 23) n1 (fun j => .int (va_cpy f g sp dp n j))) := by rw [← hT]; rfl
  have oq : ∀ q : Nat, q ≠ a → (H.setIfInBounds a (arrV (E.2.2.2.2.1 23) n1 (fun j => .int (va_cpy f g sp dp n j))))[q]? = H[q]? := fun q hq => by simp [Array.getElem?_setIfInBounds, Ne.symm hq]
  have hat := D.2.1.at (a := a) (by rw [hs1]; show 23 ≠ 0; omega)
  obtain ⟨t, b1, b2⟩ := kk p e s m args below meth c C0 _ _ ls ⟨D.1, D.2.1.updN (by simp) oq hat.1 (by
      rw [hs1]
      exact cell_arr (by decide) (by simp [Array.getElem?_setIfInBounds, hl])), fun q hq => by
      rcases List.mem_append.mp hq with h | h
      · exact D.2.2.1 q h
      · obtain ⟨z, -, hz⟩ := List.mem_map.mp h
        rw [← hz]
        exact hat.1, D.2.2.2⟩ _ hheap X'
  exact ⟨t, step t b1, b2⟩
theorem cpy_fit {f g : Nat → Int32} {sp dp n w N : Nat} (hf : ∀ j, j < w → fits .byte (.int (f j)) = true) (hg : ∀ j, j < N → fits .byte (.int (g j)) = true) (h : sp + n ≤ w) : ∀ j, j < N → fits .byte (.int (va_cpy f g sp dp n j)) = true := by
  intro j hj
  unfold va_cpy
  by_cases q : dp ≤ j ∧ j < dp + n
  · rw [if_pos q]
    exact hf _ (by omega)
  · rw [if_neg q]
    exact hg j hj
/-- the source of a copy: a String's bytes -/
theorem StrA.src {k v w : Nat} (hS : StrA E sh V k v w) : ∃ f : Nat → Int32, (∀ (s : State) (H : Heap), KI E s → (∀ q : Nat, q < E.2.1 → s.heap[q]? = E.2.2.1[q]?) → HR E sh sz V H → ∃ cs : Cell, H[v]? = some cs ∧ s.isArrayOf cs .byte ∧ cs.vm ≠ .unknown ∧ w ≤ cs.slots.size ∧ ∀ j, j < w → cs.slots[j]? = some (.int (f j))) ∧ ∀ j, j < w → fits .byte (.int (f j)) = true := by
  rcases hS with ⟨-, ⟨i, hi, rfl, rfl, rfl⟩ | ⟨h1, -, -, h2, h3⟩⟩
  · refine ⟨fun j => (gsb i).getD j 0, fun s H hK hH hR => ?_, gsb_fit i hi⟩
    obtain ⟨cell, h1, h2, h3, h4, h5, h6, h7⟩ := (hK.str hi).2.2.2
    exact ⟨cell, by rw [va_S_of hH hR _ h7]; exact h1, h2, h3, h4, h6⟩
  · have hx : ∀ j, ∃ y : Int32, j < w → V v j = .int y ∧ fits .byte (.int y) = true := fun j => by
      by_cases q : j < w
      · obtain ⟨y, a, b⟩ := h3 j q
        exact ⟨y, fun _ => ⟨a, b⟩⟩
      · exact ⟨0, fun z => absurd z q⟩
    obtain ⟨g, hg⟩ := Classical.axiomOfChoice hx
    refine ⟨g, fun s H hK hH hR => ?_, fun j hj => (hg j hj).2⟩
    refine ⟨_, hR.arr h2 (by decide), (hK.2.1 23 (by decide) (by decide)).1 w _, (fun q => by cases q), by rw [arrV_size]; exact Nat.le_refl _, fun j hj => ?_⟩
    rw [arrV_read _ _ hj, (hg j hj).1]
end STR0

