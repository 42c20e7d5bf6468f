/-! posts, and calls by them -/
section GP
/-- answers v, changes nothing -/
def pR (v : Option Value) (sh : Sh) (sz : Nat) (V : Vl) : gP := fun o sh' sz' V' => o = .inl v ∧ sh' = sh ∧ sz' = sz ∧ V' = V
/-- answers nothing; the heap's contents as Q says -/
def pV (Q : Vl → Prop) (sh : Sh) (sz : Nat) : gP := fun o sh' sz' V' => o = .inl none ∧ sh' = sh ∧ sz' = sz ∧ Q V'
/-- answers a value; the heap's contents as Q says -/
def pW (Q : Value → Vl → Prop) (sh : Sh) (sz : Nat) : gP := fun o sh' sz' V' => ∃ v, o = .inl (some v) ∧ sh' = sh ∧ sz' = sz ∧ Q v V'
variable {E : gE} {M : gM} {P : gP} {sh : Sh} {sz : Nat} {V : Vl} {cu su pc : Nat} {L : List (Option Value)} {rest : List Value}
theorem g_callVp {Y : gY} {idx n : Nat} {C : String} {b : Nat} {As S : List Value} {v : Value} (hs : GoodIn gW (wsV M.2.2.1 idx C Y.1 (Cond.code Y.1 Y.2.1 Y.2.2.1 Y.2.2.2.1 :: gW))) (hC : Y.1.cls = C) (hy : gName Y.1 n) (ci : Nat) {r : vw_C} (hci : ci < 19) (hcl : vwCl[ci]? = some r) (hrC : r.1 = C) (hdg : decode M.1 pc = .ok (.invokevirtual idx, 3))
    (hc : MC E Y (.ref b :: As) sh sz V (pR (some v) sh sz V)) (hb : (sh b).1 = ci + 1) (hn : As.length = n) (hS : S = As.reverse ++ .ref b :: rest) (hroom : gRoomB Y M cu su = true) (hcat : (rest.map fun v => v.category).sum ≤ 8) (h0 : Y.2.2.2.2.cells = 0 ∧ Y.2.2.2.2.slots = 0)
    (kk : G E M P sh sz V cu su (pc + 3) L (v :: rest)) : G E M P sh sz V cu su pc L S :=
  g_callV hs hC hy ci hci hcl hrC hdg hc hb hn hS (gRoom_of hroom) hcat (fun _ _ _ _ h => Nat.le_of_eq h.2.2.1.symm) (fun v' sh' sz' V' h => by obtain ⟨h1, rfl, rfl, rfl⟩ := h; cases h1; rw [h0.1, h0.2]; exact kk) (fun _ _ _ _ h => nomatch h.1)
theorem g_callVv {Y : gY} {idx n : Nat} {C : String} {b : Nat} {As S : List Value} {Q : Vl → Prop} (hs : GoodIn gW (wsV M.2.2.1 idx C Y.1 (Cond.code Y.1 Y.2.1 Y.2.2.1 Y.2.2.2.1 :: gW))) (hC : Y.1.cls = C) (hy : gName Y.1 n) (ci : Nat) {r : vw_C} (hci : ci < 19) (hcl : vwCl[ci]? = some r) (hrC : r.1 = C) (hdg : decode M.1 pc = .ok (.invokevirtual idx, 3))
    (hc : MC E Y (.ref b :: As) sh sz V (pV Q sh sz)) (hb : (sh b).1 = ci + 1) (hn : As.length = n) (hS : S = As.reverse ++ .ref b :: rest) (hroom : gRoomB Y M cu su = true) (hcat : (rest.map fun v => v.category).sum ≤ 8) (h0 : Y.2.2.2.2.cells = 0 ∧ Y.2.2.2.2.slots = 0)
    (kk : ∀ V', Q V' → G E M P sh sz V' cu su (pc + 3) L rest) : G E M P sh sz V cu su pc L S :=
  g_callV hs hC hy ci hci hcl hrC hdg hc hb hn hS (gRoom_of hroom) hcat (fun _ _ _ _ h => Nat.le_of_eq h.2.2.1.symm) (fun v' sh' sz' V' h => by obtain ⟨h1, rfl, rfl, h2⟩ := h; cases h1; rw [h0.1, h0.2]; exact kk V' h2) (fun _ _ _ _ h => nomatch h.1)
theorem g_callVw {Y : gY} {idx n : Nat} {C : String} {b : Nat} {As S : List Value} {Q : Value → Vl → Prop} (hs : GoodIn gW (wsV M.2.2.1 idx C Y.1 (Cond.code Y.1 Y.2.1 Y.2.2.1 Y.2.2.2.1 :: gW))) (hC : Y.1.cls = C) (hy : gName Y.1 n) (ci : Nat) {r : vw_C} (hci : ci < 19) (hcl : vwCl[ci]? = some r) (hrC : r.1 = C) (hdg : decode M.1 pc = .ok (.invokevirtual idx, 3))
    (hc : MC E Y (.ref b :: As) sh sz V (pW Q sh sz)) (hb : (sh b).1 = ci + 1) (hn : As.length = n) (hS : S = As.reverse ++ .ref b :: rest) (hroom : gRoomB Y M cu su = true) (hcat : (rest.map fun v => v.category).sum ≤ 8) (h0 : Y.2.2.2.2.cells = 0 ∧ Y.2.2.2.2.slots = 0)
    (kk : ∀ v V', Q v V' → G E M P sh sz V' cu su (pc + 3) L (v :: rest)) : G E M P sh sz V cu su pc L S :=
  g_callV hs hC hy ci hci hcl hrC hdg hc hb hn hS (gRoom_of hroom) hcat (fun _ _ _ _ h => by obtain ⟨v, -, -, h, -⟩ := h; exact Nat.le_of_eq h.symm) (fun v' sh' sz' V' h => by obtain ⟨v, h1, rfl, rfl, h2⟩ := h; cases h1; rw [h0.1, h0.2]; exact kk v V' h2) (fun _ _ _ _ h => by obtain ⟨v, h, -⟩ := h; exact nomatch h)
theorem g_callSp {Y : gY} {idx n : Nat} {As S : List Value} {v : Value} (hs : GoodIn gW (va_wsS M.2.2.1 idx Y.1 (Cond.code Y.1 Y.2.1 Y.2.2.1 Y.2.2.2.1 :: gW))) (hy : gName Y.1 n) (hdg : decode M.1 pc = .ok (.invokestatic idx, 3))
    (hc : MC E Y As sh sz V (pR (some v) sh sz V)) (hn : As.length = n) (hS : S = As.reverse ++ rest) (hroom : gRoomB Y M cu su = true) (hcat : (rest.map fun v => v.category).sum ≤ 8) (h0 : Y.2.2.2.2.cells = 0 ∧ Y.2.2.2.2.slots = 0)
    (kk : G E M P sh sz V cu su (pc + 3) L (v :: rest)) : G E M P sh sz V cu su pc L S :=
  g_callS hs hy hdg hc hn hS (gRoom_of hroom) hcat (fun _ _ _ _ h => Nat.le_of_eq h.2.2.1.symm) (fun v' sh' sz' V' h => by obtain ⟨h1, rfl, rfl, rfl⟩ := h; cases h1; rw [h0.1, h0.2]; exact kk) (fun _ _ _ _ h => nomatch h.1)
theorem g_callSv {Y : gY} {idx n : Nat} {As S : List Value} {Q : Vl → Prop} (hs : GoodIn gW (va_wsS M.2.2.1 idx Y.1 (Cond.code Y.1 Y.2.1 Y.2.2.1 Y.2.2.2.1 :: gW))) (hy : gName Y.1 n) (hdg : decode M.1 pc = .ok (.invokestatic idx, 3))
    (hc : MC E Y As sh sz V (pV Q sh sz)) (hn : As.length = n) (hS : S = As.reverse ++ rest) (hroom : gRoomB Y M cu su = true) (hcat : (rest.map fun v => v.category).sum ≤ 8) (h0 : Y.2.2.2.2.cells = 0 ∧ Y.2.2.2.2.slots = 0)
    (kk : ∀ V', Q V' → G E M P sh sz V' cu su (pc + 3) L rest) : G E M P sh sz V cu su pc L S :=
  g_callS hs hy hdg hc hn hS (gRoom_of hroom) hcat (fun _ _ _ _ h => Nat.le_of_eq h.2.2.1.symm) (fun v' sh' sz' V' h => by obtain ⟨h1, rfl, rfl, h2⟩ := h; cases h1; rw [h0.1, h0.2]; exact kk V' h2) (fun _ _ _ _ h => nomatch h.1)
theorem g_callSw {Y : gY} {idx n : Nat} {As S : List Value} {Q : Value → Vl → Prop} (hs : GoodIn gW (va_wsS M.2.2.1 idx Y.1 (Cond.code Y.1 Y.2.1 Y.2.2.1 Y.2.2.2.1 :: gW))) (hy : gName Y.1 n) (hdg : decode M.1 pc = .ok (.invokestatic idx, 3))
    (hc : MC E Y As sh sz V (pW Q sh sz)) (hn : As.length = n) (hS : S = As.reverse ++ rest) (hroom : gRoomB Y M cu su = true) (hcat : (rest.map fun v => v.category).sum ≤ 8) (h0 : Y.2.2.2.2.cells = 0 ∧ Y.2.2.2.2.slots = 0)
    (kk : ∀ v V', Q v V' → G E M P sh sz V' cu su (pc + 3) L (v :: rest)) : G E M P sh sz V cu su pc L S :=
  g_callS hs hy hdg hc hn hS (gRoom_of hroom) hcat (fun _ _ _ _ h => by obtain ⟨v, -, -, h, -⟩ := h; exact Nat.le_of_eq h.symm) (fun v' sh' sz' V' h => by obtain ⟨v, h1, rfl, rfl, h2⟩ := h; cases h1; rw [h0.1, h0.2]; exact kk v V' h2) (fun _ _ _ _ h => by obtain ⟨v, h, -⟩ := h; exact nomatch h)
theorem g_callSNp {Y : gY} {idx n : Nat} {host : String} {As S : List Value} {v : Value} (h5 : Cond.code Y.1 Y.2.1 Y.2.2.1 Y.2.2.2.1 ∈ gW) (hl : Cond.methodLinkNest M.2.2.1 idx Y.1 host ∈ gNw) (h2 : Cond.static Y.1 ∈ gW) (hini : Cond.initialized Y.1.cls ∈ gW) (hy : gName Y.1 n) (hdg : decode M.1 pc = .ok (.invokestatic idx, 3))
    (hc : MC E Y As sh sz V (pR (some v) sh sz V)) (hn : As.length = n) (hS : S = As.reverse ++ rest) (hroom : gRoomB Y M cu su = true) (hcat : (rest.map fun v => v.category).sum ≤ 8) (h0 : Y.2.2.2.2.cells = 0 ∧ Y.2.2.2.2.slots = 0)
    (kk : G E M P sh sz V cu su (pc + 3) L (v :: rest)) : G E M P sh sz V cu su pc L S :=
  g_callSN h5 hl h2 hini hy hdg hc hn hS (gRoom_of hroom) hcat (fun _ _ _ _ h => Nat.le_of_eq h.2.2.1.symm) (fun _ _ _ _ h => nomatch h.1) (fun v' sh' sz' V' h => by obtain ⟨h1, rfl, rfl, rfl⟩ := h; cases h1; rw [h0.1, h0.2]; exact kk)
/-! members of the library by rows of their own -/
theorem g_mmin {index : Nat} {x y : Int32} (hl : Cond.methodLink M.2.2.1 index Lib.Math.min.name ∈ gW) (h1 : Cond.static Lib.Math.min.name ∈ gW) (h2 : Cond.initialized "java/lang/Math" ∈ gW) (h3 : Cond.code Lib.Math.min.name Lib.Math.min.code 2 (some .int) ∈ gW) (hdg : decode M.1 pc = .ok (.invokestatic index, 3)) (hf : 1 ≤ M.2.2.2.2.2.2.frames) (hlo : (rest.map fun v => v.category).sum + 13 ≤ M.2.2.2.2.2.2.locals) (hm : cu ≤ M.2.2.2.2.2.2.cells ∧ su ≤ M.2.2.2.2.2.2.slots) (kk : G E M P sh sz V cu su (pc + 3) L (.int (if y < x then y else x) :: rest)) : G E M P sh sz V cu su pc L (.int y :: .int x :: rest) :=
  fun p e s m args below meth c C0 H locs ls D => va_mmin C0.1 C0.2.1 (by rw [C0.2.2.1]; exact D.1.1.symm) C0.2.2.2.1 (C0.2.2.2.2.1 _ hl) (C0.2.2.2.2.1 _ h1) (C0.2.2.2.2.1 _ h2) (C0.2.2.2.2.1 _ h3) hf hlo hm.1 hm.2 hdg (kk p e s m args below meth c C0 H locs ls D)
theorem g_mmax {index : Nat} {x y : Int32} (hl : Cond.methodLink M.2.2.1 index Lib.Math.max.name ∈ gW) (h1 : Cond.static Lib.Math.max.name ∈ gW) (h2 : Cond.initialized "java/lang/Math" ∈ gW) (h3 : Cond.code Lib.Math.max.name Lib.Math.max.code 2 (some .int) ∈ gW) (hdg : decode M.1 pc = .ok (.invokestatic index, 3)) (hf : 1 ≤ M.2.2.2.2.2.2.frames) (hlo : (rest.map fun v => v.category).sum + 13 ≤ M.2.2.2.2.2.2.locals) (hm : cu ≤ M.2.2.2.2.2.2.cells ∧ su ≤ M.2.2.2.2.2.2.slots) (kk : G E M P sh sz V cu su (pc + 3) L (.int (if x < y then y else x) :: rest)) : G E M P sh sz V cu su pc L (.int y :: .int x :: rest) :=
  fun p e s m args below meth c C0 H locs ls D => va_mmax C0.1 C0.2.1 (by rw [C0.2.2.1]; exact D.1.1.symm) C0.2.2.2.1 (C0.2.2.2.2.1 _ hl) (C0.2.2.2.2.1 _ h1) (C0.2.2.2.2.1 _ h2) (C0.2.2.2.2.1 _ h3) hf hlo hm.1 hm.2 hdg (kk p e s m args below meth c C0 H locs ls D)
theorem g_mabs {index : Nat} {x : Int32} (hl : Cond.methodLink M.2.2.1 index Lib.Math.abs.name ∈ gW) (h1 : Cond.static Lib.Math.abs.name ∈ gW) (h2 : Cond.initialized "java/lang/Math" ∈ gW) (h3 : Cond.code Lib.Math.abs.name Lib.Math.abs.code 1 (some .int) ∈ gW) (hdg : decode M.1 pc = .ok (.invokestatic index, 3)) (hf : 1 ≤ M.2.2.2.2.2.2.frames) (hlo : (rest.map fun v => v.category).sum + 13 ≤ M.2.2.2.2.2.2.locals) (hm : cu ≤ M.2.2.2.2.2.2.cells ∧ su ≤ M.2.2.2.2.2.2.slots) (kk : G E M P sh sz V cu su (pc + 3) L (.int (if 0 ≤ x then x else 0 - x) :: rest)) : G E M P sh sz V cu su pc L (.int x :: rest) :=
  fun p e s m args below meth c C0 H locs ls D => va_mabs C0.1 C0.2.1 (by rw [C0.2.2.1]; exact D.1.1.symm) C0.2.2.2.1 (C0.2.2.2.2.1 _ hl) (C0.2.2.2.2.1 _ h1) (C0.2.2.2.2.1 _ h2) (C0.2.2.2.2.1 _ h3) hf hlo hm.1 hm.2 hdg (kk p e s m args below meth c C0 H locs ls D)
/-! static arrays: getstatic, the index, iaload -/
theorem va_S_of {s : State} {H : Heap} (hH : ∀ q : Nat, q < E.2.1 → s.heap[q]? = E.2.2.1[q]?) (hR : HR E sh sz V H) : ∀ q : Nat, ¬ gN E q → H[q]? = E.2.2.1[q]? := fun q hq => hR.2.2.1 q (Nat.lt_of_not_le hq)
theorem g_gets {C n d : String} {index : Nat} (hlink : Cond.fieldLink M.2.2.1 index C n d ∈ gW) (hdg : decode M.1 pc = .ok (.getstatic index, 3)) {X : Nat → State → Prop} (hK : ∀ s, KI E s → ∃ t : Nat, va_Z C n d (.ref t) (gN E) s E.2.2.1 ∧ X t s)
    (kk : ∀ t : Nat, ∀ p e s m args below meth c, Ctx E M p e s m args below meth c → X t s → ∀ H locs ls, Dyn E M sh sz V L s H locs ls → W p E.1 e M.2.2.2.2.2.2 s m args below meth c H locs cu su (vx_MQ below (gQ E P) (gX E P) args s M.2.2.2.2.2.2.cells M.2.2.2.2.2.2.slots (gN E)) (F0 m (pc + 3) ls (.ref t :: rest))) : G E M P sh sz V cu su pc L rest := by
  intro p e s m args below meth c C0 H locs ls D
  obtain ⟨t, hZ, hX⟩ := hK s C0.2.2.2.2.2.2.2.2.2.1
  obtain ⟨cf, kf, fi, f, a, cell, h1, h2, h3, h4, h5, h6, h7, h8⟩ := hZ
  exact W.gets C0.1 C0.2.1 C0.2.2.2.1 (C0.2.2.2.2.1 _ hlink) h1 h2 h3 h4 (by rw [va_S_of C0.2.2.2.2.2.2.2.2.2.2.2 D.2.1 a h8]; exact h5) (fun e9 => by rw [e9] at h6; cases h6) h7 rfl hdg (kk t p e s m args below meth c C0 hX H locs ls D)
theorem w_ti {p : Program} {e : Env} {s : State} {m : MethodId} {args : Array Value} {below : List Frame} {meth : Method} {c : Code} {H : Heap} {locs : List Loc} {ls : Array Slot} {Q : State → Prop} {t N : Nat} {f : Nat → Value} (C0 : Ctx E M p e s m args below meth c) (D : Dyn E M sh sz V L s H locs ls) (hT : va_T .int t N f (gN E) s E.2.2.1) {i : Int32} (hin : vp_in i N) {v : Value} (hv : f i.toNatClampNeg = v) (hdg : decode M.1 pc = .ok (.iaload, 1))
    (kk : W p E.1 e M.2.2.2.2.2.2 s m args below meth c H locs cu su Q (F0 m (pc + 1) ls (v :: rest))) : W p E.1 e M.2.2.2.2.2.2 s m args below meth c H locs cu su Q (F0 m pc ls (.int i :: .ref t :: rest)) := by
  obtain ⟨cell, h1, h2, h3, h4, h5, h6, h7⟩ := hT
  have hlt : i.toNatClampNeg < N := Nat.not_le.mp fun q => hin (Or.inr q)
  have hin' : ¬ (i < 0 ∨ cell.slots.size ≤ i.toNatClampNeg) := by
    intro q
    rcases q with q | q
    · exact hin (Or.inl q)
    · omega
  exact W.iald (v := v) C0.1 C0.2.1 (by rw [va_S_of C0.2.2.2.2.2.2.2.2.2.2.2 D.2.1 t h7]; exact h1) h2 h3 hin' (by rw [h6 _ hlt, hv]) rfl rfl hdg kk
/-- getstatic; iload_0; iaload over an array of three ints that never changes -/
theorem g_stat3 {C n d : String} {index : Nat} {xs : List Int32} {k : Fin 4} {i : Int32} (hlink : Cond.fieldLink M.2.2.1 index C n d ∈ gW) (hK : ∀ s, KI E s → ∃ t : Nat, va_Z C n d (.ref t) (gN E) s E.2.2.1 ∧ va_T .int t 3 (fun j => .int (xs.getD j 0)) (gN E) s E.2.2.1) (d0 : decode M.1 pc = .ok (.getstatic index, 3)) (d3 : decode M.1 (pc + 3) = .ok (.iload_n k, 1)) (hl : lg L (k : Nat) = some (.int i)) (hin : vp_in i 3) (d4 : decode M.1 (pc + 4) = .ok (.iaload, 1)) (kk : G E M P sh sz V cu su (pc + 5) L (.int (xs.getD i.toNatClampNeg 0) :: rest)) : G E M P sh sz V cu su pc L rest := by
  refine g_gets hlink d0 hK fun t p e s m args below meth c C0 hT H locs ls D => ?_
  refine lv_iload_n C0.1 C0.2.1 d3 rfl (lg_has D.1 hl) ?_
  exact w_ti C0 D hT hin rfl d4 (kk p e s m args below meth c C0 H locs ls D)
/-- getstatic; arraylength -/
theorem g_statlen {C n d : String} {index : Nat} {xs : List Int32} (hlink : Cond.fieldLink M.2.2.1 index C n d ∈ gW) (hK : ∀ s, KI E s → ∃ t : Nat, va_Z C n d (.ref t) (gN E) s E.2.2.1 ∧ va_T .int t 3 (fun j => .int (xs.getD j 0)) (gN E) s E.2.2.1) (d0 : decode M.1 pc = .ok (.getstatic index, 3)) (d3 : decode M.1 (pc + 3) = .ok (.arraylength, 1)) (kk : G E M P sh sz V cu su (pc + 4) L (.int (nI 3) :: rest)) : G E M P sh sz V cu su pc L rest := by
  refine g_gets hlink d0 hK fun t p e s m args below meth c C0 hT H locs ls D => ?_
  obtain ⟨cell, h1, h2, h3, h4, h5, h6, h7⟩ := hT
  exact W.alen (n := nI 3) C0.1 C0.2.1 (by rw [va_S_of C0.2.2.2.2.2.2.2.2.2.2.2 D.2.1 t h7]; exact h1) h2 h5 rfl rfl d3 (kk p e s m args below meth c C0 H locs ls D)
/-! throws -/
theorem g_throw {cls text : String} {names : List String} {ik is ic : Nat} (hcls : Bundle.fit cls = true) (hnames : ∀ n ∈ names, Bundle.fit n = true) (hk : Cond.classLink M.2.2.1 ik cls ∈ gW) (hini : Cond.initialized cls ∈ gW) (hstr : (M.2.2.1, is, text) ∈ gstr)
    (hat : ∀ s args, KI E s → (∀ w ∈ gW, w.before args s = true) → ∀ w ∈ vx_atS M.2.2.1 ic cls names, w.before args s = true) (hgood : ∀ w ∈ vx_atS M.2.2.1 ic cls names, vx_ot w = true)
    (d0 : decode M.1 pc = .ok (.new ik, 3)) (d3 : decode M.1 (pc + 3) = .ok (.dup, 1)) (d4 : decode M.1 (pc + 4) = .ok (.ldc is, 2)) (d6 : decode M.1 (pc + 6) = .ok (.invokespecial ic, 3)) (d9 : decode M.1 (pc + 9) = .ok (.athrow, 1))
    (ht : M.2.2.2.2.1 = []) (hf : names.length + 3 < M.2.2.2.2.2.2.frames) (hlo : (rest.map fun v => v.category).sum + (13 * (names.length + 1) + 43) ≤ M.2.2.2.2.2.2.locals) (hm : cu + 1 ≤ M.2.2.2.2.2.2.cells ∧ su + 6 ≤ M.2.2.2.2.2.2.slots)
    (h : ∀ sz', sz ≤ sz' → P (.inr cls) sh sz' V) : G E M P sh sz V cu su pc L rest := by
  intro p e s m args below meth c C0 H locs ls D
  have hKI := C0.2.2.2.2.2.2.2.2.2.1
  obtain ⟨sa, hsa⟩ := hKI.2.2.2.2.2.1 _ hstr
  obtain ⟨hU, hN⟩ := hKI.2.2.2.2.1
  have hs0 := C0.2.2.2.2.2.2.2.2.2.2
  have hsH : ∀ a : Nat, a < E.2.2.1.size → ¬ gN E a → s.heap[a]? = E.2.2.1[a]? := fun a _ h2 => hs0.2 a (Nat.lt_of_not_le h2)
  have hSS : va_S (gN E) s.heap H locs := ⟨by rw [D.2.1.1]; exact D.2.2.2, fun q _ h2 => by rw [D.2.1.2.2.1 q (Nat.lt_of_not_le h2), hs0.2 q (Nat.lt_of_not_le h2)], D.2.2.1⟩
  refine vx_throwS (A := gN E) C0.1 C0.2.1 hKI.2.2.2.2.2.2.2.2 C0.2.2.2.1 hcls hnames (C0.2.2.2.2.1 _ hk) (C0.2.2.2.2.1 _ hini) hsa (hat s args hKI C0.2.2.2.2.1) (fun w hw => ?_) (vx_Zq.kept hU hsH) (vx_Zq.kept hN hsH) hSS (by rw [C0.2.2.1]; exact D.1.1) d0 d3 d4 d6 d9 (fun x hx => by rw [C0.2.2.2.2.2.2.2.1, ht] at hx; cases hx) hf hlo hm.1 hm.2 C0.2.2.2.2.2.2.1 (fun t _ h1 h2 => ?_) D.2.2.1 hm.1 hm.2
  · rcases List.mem_cons.mp hw with rfl | hw
    · rfl
    · rcases List.mem_cons.mp hw with rfl | hw
      · rfl
      · exact hgood w hw
  · rw [D.2.1.1] at h1 h2
    exact ⟨sh, t.heap.size, V, D.2.1.grow h1 h2, h _ h1⟩
end GP
