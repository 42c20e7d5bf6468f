/-! the rows of a throw -/
section TH2
section NST
variable {p : Program} {l : Launch} {e : Env} {R : Room} {s : State} {m : MethodId} {args : Array Value} {below : List Frame} {meth : Method} {c : Code} {H : Heap} {locs : List Loc} {cells slots : Nat} {ls : Array Slot} {rest : List Value} {free : Addr → Prop}
variable {Qc : Array Value → State → Outcome → State → Prop} {XC : String → State → State → Prop}

theorem ns_throw {cc : ByteArray} {pc : Nat} (hexec : p.tables.exec = Jvm.exec) (hb : c.code = cc) (hl : l.stackTraces = false) {text : String} {ik is mc ms sa : Nat} {A : Nat → Prop}
    (hown : s.vm.findClass RX6 = some m.cls) (hk : (Cond.classLink RX6 ik nsC).before args s = true) (hini : (Cond.initialized nsC).before args s = true) (hstr : vk_R RX6 is text sa s) (hat : ∀ w ∈ ns_at RX6 105, w.before args s = true)
    (hgood : ∀ w ∈ Cond.classLink RX6 ik nsC :: Cond.initialized nsC :: ns_at RX6 105, vx_ot w = true)
    (hU : vx_Zq Bundle.tN "UNASSIGNED_STACK" Bundle.steD A s s.heap) (hN : vx_Zq Bundle.tN "SUPPRESSED_SENTINEL" Bundle.listD A s s.heap) (hS : va_S A s.heap H locs) (hsize : ls.size = c.maxLocals)
    (d0 : decode cc pc = .ok (.new ik, 3)) (d3 : decode cc (pc + 3) = .ok (.dup, 1)) (d4 : decode cc (pc + 4) = .ok (.ldc is, 2)) (d6 : decode cc (pc + 6) = .ok (.invokespecial 105, 3)) (d9 : decode cc (pc + 9) = .ok (.athrow, 1))
    (hout : ∀ x ∈ c.exceptionTable.toList, covers x (pc + 9) = false)
    (hRframes : 5 < R.frames) (hRlocals : (rest.map fun v => v.category).sum + 82 ≤ R.locals) (hRcells : cells + 1 ≤ R.cells) (hRslots : slots + 6 ≤ R.slots) (hlocks : meth.locks = false)
    (hx : ∀ t : State, s.vm.Alike t.vm → H.size ≤ t.heap.size → (∀ q : Nat, q < H.size → t.heap[q]? = H[q]?) → XC nsC s t)
    (hf : ∀ z ∈ locs, free z.base) (hc : cells + 1 ≤ mc) (hs : slots + 6 ≤ ms) :
    W p l e R s m args below meth c H locs cells slots (vx_MQ below Qc XC args s mc ms free) (F0 m pc ls rest) := by
  intro T hT X
  have htr : e.platform.stackTraces = false := (show e.platform.stackTraces = l.stackTraces by rw [X.admits.platform]).trans hl
  have Y := vx_rebase X (R' := { frames := R.frames, locals := R.locals, cells := 1, slots := 6 }) (Nat.le_refl _) (Nat.le_refl _) hRcells hRslots
  obtain ⟨s', hA⟩ : ∃ z, z = (T.setVm s.vm).setFrames (.invoking m args :: below) := ⟨_, rfl⟩
  rw [← hA] at Y
  have hvm : s'.vm = s.vm := by rw [hA]; rfl
  have hhp : s'.heap = H := by rw [hA]; exact hT
  have hW0 : s.WarmedH s'.vm := by rw [hvm]; exact State.WarmedH.refl s
  have hat' : ∀ w ∈ ns_at RX6 105, w.before args s' = true := fun w hw => vx_ot_at hW0 hvm.symm (hgood w (List.mem_cons_of_mem _ (List.mem_cons_of_mem _ hw))) (hat w hw)
  have hk' : (Cond.classLink RX6 ik nsC).before args s' = true := vx_ot_at hW0 hvm.symm (hgood _ List.mem_cons_self) hk
  have hini' : (Cond.initialized nsC).before args s' = true := vx_ot_at hW0 hvm.symm (hgood _ (List.mem_cons_of_mem _ List.mem_cons_self)) hini
  have hU' : vx_Zq Bundle.tN "UNASSIGNED_STACK" Bundle.steD A s' s'.heap := by rw [hhp]; exact vx_Zq.moved hW0.alike (hU.kept hS.2.1)
  have hN' : vx_Zq Bundle.tN "SUPPRESSED_SENTINEL" Bundle.listD A s' s'.heap := by rw [hhp]; exact vx_Zq.moved hW0.alike (hN.kept hS.2.1)
  have h : ∀ w ∈ nsA RX6 105, w.before args s' = true := vx_own hat' (vx_isRefq hU'.1) (vx_isRefq hN'.1) hU'.2.word hN'.2.word
  have hown' : s'.vm.findClass RX6 = some m.cls := by rw [hvm]; exact hown
  have hins : (Cond.instantiable nsC 6).before args s' = true := h _ (by decide +kernel)
  obtain ⟨vm₁, cX, kX, hfX, hkX, -, -, X₁, st1⟩ := Y.newCold hexec (own := RX6) (C := nsC) (index := ik) (n := 6) hown' hk' hins hini'
    (g := F0 m pc ls rest) rfl (by rw [hb]; exact d0) (Nat.le_refl _) (Nat.le_refl _)
  generalize hT1 : (T.setVm vm₁).pushCell { cls := cX, slots := kX.instanceTypes.map defaultValue, vm := .none } = T1 at X₁ st1
  have hcat : (Value.ref T.heap.size).category = 1 := rfl
  have hcellA : T1.heap[T.heap.size]? = some (freshCell cX kX) := by rw [← hT1]; exact State.heap_pushCell_size _ _
  have d3' : decode c.code (pc + 3) = .ok (.dup, 1) := by rw [hb]; exact d3
  have d4' : decode c.code (pc + 4) = .ok (.ldc is, 2) := by rw [hb]; exact d4
  have hstr' : vk_R RX6 is text sa s' := vk_R.warm hW0 hstr
  obtain ⟨U, hsteps, hrun, hend, hW, hsame, ce, hce, hcc, hcv⟩ := ns_ctor X₁ hexec htr hown' h (fun x hx => nomatch hx) hfX hkX hcellA (by rw [hhp, hT]; exact Nat.le_refl _) (msg := .ref sa) rfl
    (g := { method := m, pc := pc + 6, locals := ls, stack := .ref sa :: .ref T.heap.size :: .ref T.heap.size :: rest, locked := none }) rfl hsize rfl rfl (rest := rest) rfl
    (by rw [hb]; exact d6) (by rw [hb]; exact d9) hout hRframes (by simp only [List.map_cons, List.sum_cons, hcat]; show 2 * 0 + _ + _ ≤ R.locals; omega) hlocks
  obtain ⟨f1, f2⟩ := vx_frame hsame
  rw [hhp] at f1 f2
  have hWs : s.WarmedH U.vm := State.WarmedH.trans hW0 hW
  have hcl : s.vm.findClass nsC = some ce.cls := by
    rw [hvm] at hfX
    rw [hcc]
    exact hfX
  have hall : s.sameButNew ({ U with vm := s.vm } : State) locs mc ms := by
    subst hA
    obtain ⟨e1, e2⟩ := hsame
    rw [State.setFrames_setFrames] at e1
    have h2 : (T.setVm s.vm).sameButNew ({ U with vm := s.vm } : State) [] (0 + 1) (0 + 6) := ⟨e1, e2⟩
    have h3 := X.same.trans h2
    rw [List.append_nil] at h3
    exact h3.mono hc hs
  refine ⟨U, ?_, .threw T.heap.size, hrun, hend, Or.inr ⟨T.heap.size, rfl, nsC, ce, locs, hx U hWs.alike f1 (fun q hq => f2 q hq (fun z hz => nomatch hz)), hce, hcv, hcl, hWs, hall, hf⟩⟩
  refine st1 _ ?_
  show Steps p.tables e below (T1.setTop { method := m, pc := pc + 3, locals := ls, stack := .ref T.heap.size :: rest, locked := none }) _
  jvm_step X₁.here [X₁.here.top, hexec, d3', Value.category]
  exact X₁.ldcString hexec (own := RX6) (text := text) (index := is) (a := sa) hown' hstr'.1 hstr'.2
    (g := { method := m, pc := pc + 4, locals := ls, stack := .ref T.heap.size :: .ref T.heap.size :: rest, locked := none }) rfl d4' _ hsteps

theorem ns_throwW {cc : ByteArray} {pc : Nat} (hexec : p.tables.exec = Jvm.exec) (hb : c.code = cc) (hl : l.stackTraces = false) {text : String} {ik is mc ms sa : Nat} {A : Nat → Prop}
    (hown : s.vm.findClass RX6 = some m.cls) (hk : (Cond.classLink RX6 ik nsC).before args s = true) (hini : (Cond.initialized nsC).before args s = true) (hstr : vk_R RX6 is text sa s) (hat : ∀ w ∈ ns_at RX6 105, w.before args s = true)
    (hgood : ∀ w ∈ Cond.classLink RX6 ik nsC :: Cond.initialized nsC :: ns_at RX6 105, vx_ot w = true)
    (hU : vx_Zq Bundle.tN "UNASSIGNED_STACK" Bundle.steD A s s.heap) (hN : vx_Zq Bundle.tN "SUPPRESSED_SENTINEL" Bundle.listD A s s.heap) (hS : va_S A s.heap H locs) (hsize : ls.size = c.maxLocals)
    (d0 : decode cc pc = .ok (.new ik, 3)) (d3 : decode cc (pc + 3) = .ok (.dup, 1)) (d4 : decode cc (pc + 4) = .ok (.ldc_w is, 3)) (d6 : decode cc (pc + 7) = .ok (.invokespecial 105, 3)) (d9 : decode cc (pc + 10) = .ok (.athrow, 1))
    (hout : ∀ x ∈ c.exceptionTable.toList, covers x (pc + 10) = false)
    (hRframes : 5 < R.frames) (hRlocals : (rest.map fun v => v.category).sum + 82 ≤ R.locals) (hRcells : cells + 1 ≤ R.cells) (hRslots : slots + 6 ≤ R.slots) (hlocks : meth.locks = false)
    (hx : ∀ t : State, s.vm.Alike t.vm → H.size ≤ t.heap.size → (∀ q : Nat, q < H.size → t.heap[q]? = H[q]?) → XC nsC s t)
    (hf : ∀ z ∈ locs, free z.base) (hc : cells + 1 ≤ mc) (hs : slots + 6 ≤ ms) :
    W p l e R s m args below meth c H locs cells slots (vx_MQ below Qc XC args s mc ms free) (F0 m pc ls rest) := by
  intro T hT X
  have htr : e.platform.stackTraces = false := (show e.platform.stackTraces = l.stackTraces by rw [X.admits.platform]).trans hl
  have Y := vx_rebase X (R' := { frames := R.frames, locals := R.locals, cells := 1, slots := 6 }) (Nat.le_refl _) (Nat.le_refl _) hRcells hRslots
  obtain ⟨s', hA⟩ : ∃ z, z = (T.setVm s.vm).setFrames (.invoking m args :: below) := ⟨_, rfl⟩
  rw [← hA] at Y
  have hvm : s'.vm = s.vm := by rw [hA]; rfl
  have hhp : s'.heap = H := by rw [hA]; exact hT
  have hW0 : s.WarmedH s'.vm := by rw [hvm]; exact State.WarmedH.refl s
  have hat' : ∀ w ∈ ns_at RX6 105, w.before args s' = true := fun w hw => vx_ot_at hW0 hvm.symm (hgood w (List.mem_cons_of_mem _ (List.mem_cons_of_mem _ hw))) (hat w hw)
  have hk' : (Cond.classLink RX6 ik nsC).before args s' = true := vx_ot_at hW0 hvm.symm (hgood _ List.mem_cons_self) hk
  have hini' : (Cond.initialized nsC).before args s' = true := vx_ot_at hW0 hvm.symm (hgood _ (List.mem_cons_of_mem _ List.mem_cons_self)) hini
  have hU' : vx_Zq Bundle.tN "UNASSIGNED_STACK" Bundle.steD A s' s'.heap := by rw [hhp]; exact vx_Zq.moved hW0.alike (hU.kept hS.2.1)
  have hN' : vx_Zq Bundle.tN "SUPPRESSED_SENTINEL" Bundle.listD A s' s'.heap := by rw [hhp]; exact vx_Zq.moved hW0.alike (hN.kept hS.2.1)
  have h : ∀ w ∈ nsA RX6 105, w.before args s' = true := vx_own hat' (vx_isRefq hU'.1) (vx_isRefq hN'.1) hU'.2.word hN'.2.word
  have hown' : s'.vm.findClass RX6 = some m.cls := by rw [hvm]; exact hown
  have hins : (Cond.instantiable nsC 6).before args s' = true := h _ (by decide +kernel)
  obtain ⟨vm₁, cX, kX, hfX, hkX, -, -, X₁, st1⟩ := Y.newCold hexec (own := RX6) (C := nsC) (index := ik) (n := 6) hown' hk' hins hini'
    (g := F0 m pc ls rest) rfl (by rw [hb]; exact d0) (Nat.le_refl _) (Nat.le_refl _)
  generalize hT1 : (T.setVm vm₁).pushCell { cls := cX, slots := kX.instanceTypes.map defaultValue, vm := .none } = T1 at X₁ st1
  have hcat : (Value.ref T.heap.size).category = 1 := rfl
  have hcellA : T1.heap[T.heap.size]? = some (freshCell cX kX) := by rw [← hT1]; exact State.heap_pushCell_size _ _
  have d3' : decode c.code (pc + 3) = .ok (.dup, 1) := by rw [hb]; exact d3
  have d4' : decode c.code (pc + 4) = .ok (.ldc_w is, 3) := by rw [hb]; exact d4
  have hstr' : vk_R RX6 is text sa s' := vk_R.warm hW0 hstr
  obtain ⟨U, hsteps, hrun, hend, hW, hsame, ce, hce, hcc, hcv⟩ := ns_ctor X₁ hexec htr hown' h (fun x hx => nomatch hx) hfX hkX hcellA (by rw [hhp, hT]; exact Nat.le_refl _) (msg := .ref sa) rfl
    (g := { method := m, pc := pc + 7, locals := ls, stack := .ref sa :: .ref T.heap.size :: .ref T.heap.size :: rest, locked := none }) rfl hsize rfl rfl (rest := rest) rfl
    (by rw [hb]; exact d6) (by rw [hb]; exact d9) hout hRframes (by simp only [List.map_cons, List.sum_cons, hcat]; show 2 * 0 + _ + _ ≤ R.locals; omega) hlocks
  obtain ⟨f1, f2⟩ := vx_frame hsame
  rw [hhp] at f1 f2
  have hWs : s.WarmedH U.vm := State.WarmedH.trans hW0 hW
  have hcl : s.vm.findClass nsC = some ce.cls := by
    rw [hvm] at hfX
    rw [hcc]
    exact hfX
  have hall : s.sameButNew ({ U with vm := s.vm } : State) locs mc ms := by
    subst hA
    obtain ⟨e1, e2⟩ := hsame
    rw [State.setFrames_setFrames] at e1
    have h2 : (T.setVm s.vm).sameButNew ({ U with vm := s.vm } : State) [] (0 + 1) (0 + 6) := ⟨e1, e2⟩
    have h3 := X.same.trans h2
    rw [List.append_nil] at h3
    exact h3.mono hc hs
  refine ⟨U, ?_, .threw T.heap.size, hrun, hend, Or.inr ⟨T.heap.size, rfl, nsC, ce, locs, hx U hWs.alike f1 (fun q hq => f2 q hq (fun z hz => nomatch hz)), hce, hcv, hcl, hWs, hall, hf⟩⟩
  refine st1 _ ?_
  show Steps p.tables e below (T1.setTop { method := m, pc := pc + 3, locals := ls, stack := .ref T.heap.size :: rest, locked := none }) _
  jvm_step X₁.here [X₁.here.top, hexec, d3', Value.category]
  exact X₁.ldcStringW hexec (own := RX6) (text := text) (index := is) (a := sa) hown' hstr'.1 hstr'.2
    (g := { method := m, pc := pc + 4, locals := ls, stack := .ref T.heap.size :: .ref T.heap.size :: rest, locked := none }) rfl d4' _ hsteps
end NST
variable {E : gE} {M : gM} {P : gP} {sh : Sh} {sz : Nat} {V : Vl} {cu su pc : Nat} {L : List (Option Value)} {rest : List Value}
theorem g_throwW {cls text : String} {names : List String} {ik is ic : Nat} (hcls : Bundle.fit cls = true) (hnames : ∀ n ∈ names, Bundle.fit n = true) (hk : Cond.classLink M.2.2.1 ik cls ∈ gW) (hini : Cond.initialized cls ∈ gW) (hstr : (M.2.2.1, is, text) ∈ gstr)
    (hat : ∀ s args, KI E s → (∀ w ∈ gW, w.before args s = true) → ∀ w ∈ vx_atS M.2.2.1 ic cls names, w.before args s = true) (hgood : ∀ w ∈ vx_atS M.2.2.1 ic cls names, vx_ot w = true)
    (d0 : decode M.1 pc = .ok (.new ik, 3)) (d3 : decode M.1 (pc + 3) = .ok (.dup, 1)) (d4 : decode M.1 (pc + 4) = .ok (.ldc_w is, 3)) (d6 : decode M.1 (pc + 7) = .ok (.invokespecial ic, 3)) (d9 : decode M.1 (pc + 10) = .ok (.athrow, 1))
    (ht : M.2.2.2.2.1 = []) (hf : names.length + 3 < M.2.2.2.2.2.2.frames) (hlo : (rest.map fun v => v.category).sum + (13 * (names.length + 1) + 43) ≤ M.2.2.2.2.2.2.locals) (hm : cu + 1 ≤ M.2.2.2.2.2.2.cells ∧ su + 6 ≤ M.2.2.2.2.2.2.slots)
    (h : ∀ sz', sz ≤ sz' → P (.inr cls) sh sz' V) : G E M P sh sz V cu su pc L rest := by
  intro p e s m args below meth c C0 H locs ls D
  have hKI := C0.2.2.2.2.2.2.2.2.2.1
  obtain ⟨sa, hsa⟩ := hKI.2.2.2.2.2.1 _ hstr
  obtain ⟨hU, hN⟩ := hKI.2.2.2.2.1
  have hs0 := C0.2.2.2.2.2.2.2.2.2.2
  have hsH : ∀ a : Nat, a < E.2.2.1.size → ¬ gN E a → s.heap[a]? = E.2.2.1[a]? := fun a _ h2 => hs0.2 a (Nat.lt_of_not_le h2)
  have hSS : va_S (gN E) s.heap H locs := ⟨by rw [D.2.1.1]; exact D.2.2.2, fun q _ h2 => by rw [D.2.1.2.2.1 q (Nat.lt_of_not_le h2), hs0.2 q (Nat.lt_of_not_le h2)], D.2.2.1⟩
  refine vx_throwSW (A := gN E) C0.1 C0.2.1 hKI.2.2.2.2.2.2.2.2 C0.2.2.2.1 hcls hnames (C0.2.2.2.2.1 _ hk) (C0.2.2.2.2.1 _ hini) hsa (hat s args hKI C0.2.2.2.2.1) (fun w hw => ?_) (vx_Zq.kept hU hsH) (vx_Zq.kept hN hsH) hSS (by rw [C0.2.2.1]; exact D.1.1) d0 d3 d4 d6 d9 (fun x hx => by rw [C0.2.2.2.2.2.2.2.1, ht] at hx; cases hx) hf hlo hm.1 hm.2 C0.2.2.2.2.2.2.1 (fun t _ h1 h2 => ?_) D.2.2.1 hm.1 hm.2
  · rcases List.mem_cons.mp hw with rfl | hw
    · rfl
    · rcases List.mem_cons.mp hw with rfl | hw
      · rfl
      · exact hgood w hw
  · rw [D.2.1.1] at h1 h2
    exact ⟨sh, t.heap.size, V, D.2.1.grow h1 h2, h _ h1⟩
theorem g_throwN {text : String} {ik is : Nat} (hown0 : M.2.2.1 = RX6) (hk : Cond.classLink RX6 ik nsC ∈ gW) (hstr : (RX6, is, text) ∈ gstr)
    (d0 : decode M.1 pc = .ok (.new ik, 3)) (d3 : decode M.1 (pc + 3) = .ok (.dup, 1)) (d4 : decode M.1 (pc + 4) = .ok (.ldc is, 2)) (d6 : decode M.1 (pc + 6) = .ok (.invokespecial 105, 3)) (d9 : decode M.1 (pc + 9) = .ok (.athrow, 1))
    (ht : M.2.2.2.2.1 = []) (hf : 5 < M.2.2.2.2.2.2.frames) (hlo : (rest.map fun v => v.category).sum + 82 ≤ M.2.2.2.2.2.2.locals) (hm : cu + 1 ≤ M.2.2.2.2.2.2.cells ∧ su + 6 ≤ M.2.2.2.2.2.2.slots)
    (h : ∀ sz', sz ≤ sz' → P (.inr nsC) sh sz' V) : G E M P sh sz V cu su pc L rest := by
  intro p e s m args below meth c C0 H locs ls D
  have hKI := C0.2.2.2.2.2.2.2.2.2.1
  obtain ⟨sa, hsa⟩ := hKI.2.2.2.2.2.1 _ hstr
  obtain ⟨hU, hN⟩ := hKI.2.2.2.2.1
  have hs0 := C0.2.2.2.2.2.2.2.2.2.2
  have hsH : ∀ a : Nat, a < E.2.2.1.size → ¬ gN E a → s.heap[a]? = E.2.2.1[a]? := fun a _ h2 => hs0.2 a (Nat.lt_of_not_le h2)
  have hSS : va_S (gN E) s.heap H locs := ⟨by rw [D.2.1.1]; exact D.2.2.2, fun q _ h2 => by rw [D.2.1.2.2.1 q (Nat.lt_of_not_le h2), hs0.2 q (Nat.lt_of_not_le h2)], D.2.2.1⟩
  refine ns_throw (A := gN E) C0.1 C0.2.1 hKI.2.2.2.2.2.2.2.2 (hown0 ▸ C0.2.2.2.1) (C0.2.2.2.2.1 _ hk) (C0.2.2.2.2.1 _ ini_NoSuchElementException) hsa (ta_X6_105 s args hKI C0.2.2.2.2.1) (fun w hw => ?_) (vx_Zq.kept hU hsH) (vx_Zq.kept hN hsH) hSS (by rw [C0.2.2.1]; exact D.1.1) d0 d3 d4 d6 d9 (fun x hx => by rw [C0.2.2.2.2.2.2.2.1, ht] at hx; cases hx) hf hlo hm.1 hm.2 C0.2.2.2.2.2.2.1 (fun t _ h1 h2 => ?_) D.2.2.1 hm.1 hm.2
  · rcases List.mem_cons.mp hw with rfl | hw
    · rfl
    · rcases List.mem_cons.mp hw with rfl | hw
      · rfl
      · exact to_X6_105 w hw
  · rw [D.2.1.1] at h1 h2
    exact ⟨sh, t.heap.size, V, D.2.1.grow h1 h2, h _ h1⟩
theorem g_throwNW {text : String} {ik is : Nat} (hown0 : M.2.2.1 = RX6) (hk : Cond.classLink RX6 ik nsC ∈ gW) (hstr : (RX6, is, text) ∈ gstr)
    (d0 : decode M.1 pc = .ok (.new ik, 3)) (d3 : decode M.1 (pc + 3) = .ok (.dup, 1)) (d4 : decode M.1 (pc + 4) = .ok (.ldc_w is, 3)) (d6 : decode M.1 (pc + 7) = .ok (.invokespecial 105, 3)) (d9 : decode M.1 (pc + 10) = .ok (.athrow, 1))
    (ht : M.2.2.2.2.1 = []) (hf : 5 < M.2.2.2.2.2.2.frames) (hlo : (rest.map fun v => v.category).sum + 82 ≤ M.2.2.2.2.2.2.locals) (hm : cu + 1 ≤ M.2.2.2.2.2.2.cells ∧ su + 6 ≤ M.2.2.2.2.2.2.slots)
    (h : ∀ sz', sz ≤ sz' → P (.inr nsC) sh sz' V) : G E M P sh sz V cu su pc L rest := by
  intro p e s m args below meth c C0 H locs ls D
  have hKI := C0.2.2.2.2.2.2.2.2.2.1
  obtain ⟨sa, hsa⟩ := hKI.2.2.2.2.2.1 _ hstr
  obtain ⟨hU, hN⟩ := hKI.2.2.2.2.1
  have hs0 := C0.2.2.2.2.2.2.2.2.2.2
  have hsH : ∀ a : Nat, a < E.2.2.1.size → ¬ gN E a → s.heap[a]? = E.2.2.1[a]? := fun a _ h2 => hs0.2 a (Nat.lt_of_not_le h2)
  have hSS : va_S (gN E) s.heap H locs := ⟨by rw [D.2.1.1]; exact D.2.2.2, fun q _ h2 => by rw [D.2.1.2.2.1 q (Nat.lt_of_not_le h2), hs0.2 q (Nat.lt_of_not_le h2)], D.2.2.1⟩
  refine ns_throwW (A := gN E) C0.1 C0.2.1 hKI.2.2.2.2.2.2.2.2 (hown0 ▸ C0.2.2.2.1) (C0.2.2.2.2.1 _ hk) (C0.2.2.2.2.1 _ ini_NoSuchElementException) hsa (ta_X6_105 s args hKI C0.2.2.2.2.1) (fun w hw => ?_) (vx_Zq.kept hU hsH) (vx_Zq.kept hN hsH) hSS (by rw [C0.2.2.1]; exact D.1.1) d0 d3 d4 d6 d9 (fun x hx => by rw [C0.2.2.2.2.2.2.2.1, ht] at hx; cases hx) hf hlo hm.1 hm.2 C0.2.2.2.2.2.2.1 (fun t _ h1 h2 => ?_) D.2.2.1 hm.1 hm.2
  · rcases List.mem_cons.mp hw with rfl | hw
    · rfl
    · rcases List.mem_cons.mp hw with rfl | hw
      · rfl
      · exact to_X6_105 w hw
  · rw [D.2.1.1] at h1 h2
    exact ⟨sh, t.heap.size, V, D.2.1.grow h1 h2, h _ h1⟩
end TH2
