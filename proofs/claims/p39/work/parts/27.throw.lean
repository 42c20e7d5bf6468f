/-! throws: the words by their places; NoSuchElementException, whose constructor links its super by another place -/
section TH
theorem t_of {E : gE} (ws : List Cond) (ps : List Nat) (hp : ws = ps.filterMap (fun i => lw_tbl[i]?)) (h : ws.all (fun w => goodWord w || gk w) = true) : ∀ (s : State) (args : Array Value), KI E s → (∀ w ∈ gW, w.before args s = true) → ∀ w ∈ ws, w.before args s = true := by
  intro s args hK hW w hw
  have h1 := List.all_eq_true.mp h w hw
  have hm : w ∈ lw_tbl := by
    rw [hp] at hw
    obtain ⟨i, -, hi⟩ := List.mem_filterMap.mp hw
    first | exact List.mem_of_getElem? hi | exact List.getElem?_mem hi
  rcases Bool.or_eq_true_iff.mp h1 with g | g
  · exact hW w (List.mem_filter.mpr ⟨hm, g⟩)
  · have hn : va_Nw w s := hK.2.2.2.2.2.2.1 w (List.mem_filter.mpr ⟨hm, g⟩)
    rcases gk_cases g with ⟨a, i, x, hh, rfl⟩ | ⟨C, T, rfl⟩ | ⟨x, rfl⟩
    · exact va_tabs rfl rfl hn
    · exact va_tabs rfl rfl hn
    · exact va_tabs rfl rfl hn
def nsC : String := "java/util/NoSuchElementException"
/-- its constructor of a text -/
def nsx : ByteArray := ⟨#[0x2a, 0x2b, 0xb7, 0x00, 0x0d, 0xb1]⟩
theorem nsx_0 : decode nsx 0 = .ok (.aload_n 0, 1) := by decide +kernel
theorem nsx_1 : decode nsx 1 = .ok (.aload_n 1, 1) := by decide +kernel
theorem nsx_2 : decode nsx 2 = .ok (.invokespecial 13, 3) := by decide +kernel
theorem nsx_5 : decode nsx 5 = .ok (.return_, 1) := by decide +kernel
def nsNames : List String := ["java/lang/Exception"]
def nsRT : String := "java/lang/RuntimeException"
/-- what its throw needs, in the order of the kit's own lists -/
def nsA (own : String) (ic : Nat) : List Cond :=
  Bundle.throwableAtoms ++ Bundle.throwableSAtoms ++ (Bundle.passSAtoms nsC nsRT 13 nsx ++ Bundle.chainSAtoms nsRT nsNames) ++ (Bundle.ownAtoms own ic nsC []).drop (Bundle.throwableAtoms.length + Bundle.throwableSAtoms.length + 5)
def ns_at (own : String) (ic : Nat) : List Cond := (nsA own ic).filter vx_no

def tn_IllegalArgumentException : List String := ["java/lang/RuntimeException", "java/lang/Exception"]
theorem ini_IllegalArgumentException : Cond.initialized "java/lang/IllegalArgumentException" ∈ gW := gW_at 18 (by decide +kernel) (by decide +kernel)
theorem ta_X6_55 {E : gE} : ∀ s args, KI E s → (∀ w ∈ gW, w.before args s = true) → ∀ w ∈ vx_atS RX6 55 "java/lang/IllegalArgumentException" tn_IllegalArgumentException, w.before args s = true := t_of _ [15, 289, 298, 306, 309, 311, 290, 291, 49, 50, 292, 297, 307, 327, 279, 328, 281, 329, 283, 293, 295, 285, 323, 324, 326, 285, 314, 315, 316, 317, 271, 317, 318, 319, 320, 273, 320, 321, 322, 323, 275, 313, 268, 269, 276, 277, 278, 280, 282, 284, 288, 287, 286] (by decide +kernel) (by decide +kernel)
theorem to_X6_55 : ∀ w ∈ vx_atS RX6 55 "java/lang/IllegalArgumentException" tn_IllegalArgumentException, vx_ot w = true := by decide +kernel
def tn_IndexOutOfBoundsException : List String := ["java/lang/RuntimeException", "java/lang/Exception"]
theorem ini_IndexOutOfBoundsException : Cond.initialized "java/lang/IndexOutOfBoundsException" ∈ gW := gW_at 21 (by decide +kernel) (by decide +kernel)
theorem ta_X6_79 {E : gE} : ∀ s args, KI E s → (∀ w ∈ gW, w.before args s = true) → ∀ w ∈ vx_atS RX6 79 "java/lang/IndexOutOfBoundsException" tn_IndexOutOfBoundsException, w.before args s = true := t_of _ [15, 289, 298, 306, 309, 311, 290, 291, 49, 50, 292, 297, 307, 327, 279, 328, 281, 329, 283, 293, 295, 285, 323, 324, 326, 285, 431, 432, 433, 317, 271, 317, 318, 319, 320, 273, 320, 321, 322, 323, 275, 467, 458, 459, 460, 303, 461, 462, 463, 464, 288, 287, 465] (by decide +kernel) (by decide +kernel)
theorem to_X6_79 : ∀ w ∈ vx_atS RX6 79 "java/lang/IndexOutOfBoundsException" tn_IndexOutOfBoundsException, vx_ot w = true := by decide +kernel
def tn_UnsupportedOperationException : List String := ["java/lang/RuntimeException", "java/lang/Exception"]
theorem ini_UnsupportedOperationException : Cond.initialized "java/lang/UnsupportedOperationException" ∈ gW := gW_at 20 (by decide +kernel) (by decide +kernel)
theorem ta_X6_150 {E : gE} : ∀ s args, KI E s → (∀ w ∈ gW, w.before args s = true) → ∀ w ∈ vx_atS RX6 150 "java/lang/UnsupportedOperationException" tn_UnsupportedOperationException, w.before args s = true := t_of _ [15, 289, 298, 306, 309, 311, 290, 291, 49, 50, 292, 297, 307, 327, 279, 328, 281, 329, 283, 293, 295, 285, 323, 324, 326, 285, 418, 419, 420, 317, 271, 317, 318, 319, 320, 273, 320, 321, 322, 323, 275, 417, 408, 409, 410, 304, 411, 412, 413, 414, 288, 287, 415] (by decide +kernel) (by decide +kernel)
theorem to_X6_150 : ∀ w ∈ vx_atS RX6 150 "java/lang/UnsupportedOperationException" tn_UnsupportedOperationException, vx_ot w = true := by decide +kernel
def tn_IllegalStateException : List String := ["java/lang/RuntimeException", "java/lang/Exception"]
theorem ini_IllegalStateException : Cond.initialized "java/lang/IllegalStateException" ∈ gW := gW_at 30 (by decide +kernel) (by decide +kernel)
theorem ta_X6_301 {E : gE} : ∀ s args, KI E s → (∀ w ∈ gW, w.before args s = true) → ∀ w ∈ vx_atS RX6 301 "java/lang/IllegalStateException" tn_IllegalStateException, w.before args s = true := t_of _ [15, 289, 298, 306, 309, 311, 290, 291, 49, 50, 292, 297, 307, 327, 279, 328, 281, 329, 283, 293, 295, 285, 323, 324, 326, 285, 914, 915, 916, 317, 271, 317, 318, 319, 320, 273, 320, 321, 322, 323, 275, 913, 904, 905, 906, 302, 907, 908, 909, 910, 288, 287, 911] (by decide +kernel) (by decide +kernel)
theorem to_X6_301 : ∀ w ∈ vx_atS RX6 301 "java/lang/IllegalStateException" tn_IllegalStateException, vx_ot w = true := by decide +kernel
def tn_ArithmeticException : List String := ["java/lang/RuntimeException", "java/lang/Exception"]
theorem ini_ArithmeticException : Cond.initialized "java/lang/ArithmeticException" ∈ gW := gW_at 29 (by decide +kernel) (by decide +kernel)
theorem ta_X6_372 {E : gE} : ∀ s args, KI E s → (∀ w ∈ gW, w.before args s = true) → ∀ w ∈ vx_atS RX6 372 "java/lang/ArithmeticException" tn_ArithmeticException, w.before args s = true := t_of _ [15, 289, 298, 306, 309, 311, 290, 291, 49, 50, 292, 297, 307, 327, 279, 328, 281, 329, 283, 293, 295, 285, 323, 324, 326, 285, 852, 853, 854, 317, 271, 317, 318, 319, 320, 273, 320, 321, 322, 323, 275, 851, 842, 843, 844, 300, 845, 846, 847, 848, 288, 287, 849] (by decide +kernel) (by decide +kernel)
theorem to_X6_372 : ∀ w ∈ vx_atS RX6 372 "java/lang/ArithmeticException" tn_ArithmeticException, vx_ot w = true := by decide +kernel
theorem ini_NoSuchElementException : Cond.initialized "java/util/NoSuchElementException" ∈ gW := gW_at 25 (by decide +kernel) (by decide +kernel)
theorem ta_X6_105 {E : gE} : ∀ s args, KI E s → (∀ w ∈ gW, w.before args s = true) → ∀ w ∈ ns_at RX6 105, w.before args s = true := t_of _ [15, 289, 298, 306, 309, 311, 290, 291, 49, 50, 292, 297, 307, 327, 279, 328, 281, 329, 283, 293, 295, 285, 323, 324, 326, 285, 535, 536, 537, 317, 271, 317, 318, 319, 320, 273, 320, 321, 322, 323, 275, 534, 525, 526, 527, 305, 528, 529, 530, 531, 288, 287, 532] (by decide +kernel) (by decide +kernel)
theorem to_X6_105 : ∀ w ∈ ns_at RX6 105, vx_ot w = true := by decide +kernel
theorem ns_mem (own : String) (ic : Nat) {w : Cond} (h : w ∈ Bundle.throwableAtoms ++ Bundle.throwableSAtoms) : w ∈ nsA own ic := by
  unfold nsA
  exact List.mem_append_left _ (List.mem_append_left _ h)
section NSC
variable {p : Program} {l : Launch} {e : Env} {R : Room} {s : State} {m₀ : MethodId} {args : Array Value} {below : List Frame} {meth : Method} {c : Code} {W : State} {locs : List Loc} {cells slots : Nat}
set_option maxHeartbeats 1000000 in
set_option maxRecDepth 100000 in
/-- its constructor and athrow, behind 'new' and the text: after the kit's own row for such classes, the first link of the chain being another -/
theorem ns_ctor (X : Stand p l e R s m₀ args below meth c W locs cells slots) (hexec : p.tables.exec = Jvm.exec) (htr : e.platform.stackTraces = false)
    (hown : s.vm.findClass RX6 = some m₀.cls) (h : ∀ a ∈ nsA RX6 105, a.before args s = true)
    (hlocs : ∀ x ∈ locs, ∀ cell, s.heap[x.base]? = some cell → cell.vm.isStatics = false)
    {a : Addr} {cX : ClassId} {kX : Class} (hfoundX : s.vm.findClass nsC = some cX) (hkX : s.vm.classes[cX]? = some kX) (hcell : W.heap[a]? = some (freshCell cX kX)) (hnew : s.heap.size ≤ a)
    {msg : Value} (hmsg : msg.isRef = true)
    {g : JFrame} (hg : g.method = m₀) (hsize : g.locals.size = c.maxLocals) (hlocked : g.locked = none) (hentered : g.entered = []) {rest : List Value} (hstack : g.stack = msg :: .ref a :: .ref a :: rest)
    (hd6 : decode c.code g.pc = .ok (.invokespecial 105, 3)) (hd9 : decode c.code (g.pc + 3) = .ok (.athrow, 1)) (hout : ∀ x ∈ c.exceptionTable.toList, covers x (g.pc + 3) = false)
    (hRframes : 5 < R.frames) (hRlocals : 2 * g.monitorRoom + ((Value.ref a :: rest).map fun v => v.category).sum + 81 ≤ R.locals) (hlocks : meth.locks = false) :
    ∃ U : State, Steps p.tables e below (W.setTop g) U ∧ U.status = .running ∧ Ended U below (.threw a) ∧ s.WarmedH U.vm ∧ s.sameButNew ({ U with vm := s.vm } : State) locs cells slots ∧
      ∃ ce, U.heap[a]? = some ce ∧ ce.cls = cX ∧ ce.vm = .none := by
  have howns : e.platform.frameOwnsMonitors = true := by rw [X.admits.platform]
  have hfin : e.platform.finalization = false := by rw [X.admits.platform]
  have hpl : e.platform.magicAccessors = ({} : Platform).magicAccessors := by rw [X.admits.platform]
  have q : ∀ x, x ∈ nsA RX6 105 → x.holds args s none s [] = true := fun x hx => h x hx
  obtain ⟨T, Z0, L, -, Y⟩ := ThrowableC.of_atoms (args := args) howns hfin hpl (fun x hx => h x (ns_mem _ _ (List.mem_append_left _ hx)))
  obtain ⟨Z, M, LZ, LM, hnZ⟩ := Init0T.ofS_atoms (args := args) hpl L Y (fun x hx => h x (ns_mem _ _ (List.mem_append_right _ hx)))
  obtain ⟨P1, L1, hP1m, hs1⟩ := PassC.ofS_atoms (args := args) (s := s) hpl (X := nsC) (Y := nsRT) (by decide) (by decide) nsx_0 nsx_1 nsx_2 nsx_5 (fun x hx => h x (List.mem_append_left _ (List.mem_append_right _ (List.mem_append_left _ hx))))
  obtain ⟨P2, Ps, hlen, L2, hL, hP2m, hlink1, hlink⟩ := Bundle.chainS (args := args) hpl hnZ nsNames nsRT (by decide) (by decide) (fun x hx => h x (List.mem_append_left _ (List.mem_append_right _ (List.mem_append_right _ hx))))
  have hlen1 : Ps.length = 1 := hlen
  have hsup : P1.sup = P2.m := Option.some.inj (hs1.symm.trans hP2m)
  have hfound : s.vm.findClass nsC = some P1.m.cls := findClass_of_methodNamed hP1m
  cases Option.some.inj (hfoundX.symm.trans hfound)
  obtain ⟨c1, kX', hc1, hk, hord, -, -, hn6⟩ := Cond.instantiable_spec (q (.instantiable nsC 6) (by decide +kernel))
  cases Option.some.inj (hc1.symm.trans hfound)
  cases Option.some.inj (hkX.symm.trans hk)
  have hsel0 : selectMethod e.platform s.vm P1.m.cls T.fill0 = .method T.fill0 := by
    obtain ⟨c2, r2, m2, q1, q2, q3, q4, -⟩ := Cond.selects_spec (q (.selects nsC Bundle.tFill0 Bundle.tFill0) (by decide +kernel))
    cases Option.some.inj (q1.symm.trans hfound)
    cases Option.some.inj (q2.symm.trans (State.methodFound?_of_named Y.fill0 (by decide)))
    cases Option.some.inj (q3.symm.trans Y.fill0)
    rw [Launch.admits_selectMethod X.admits]; exact q4
  have hselF : selectMethod e.platform s.vm P1.m.cls T.fill = .method T.fill := by
    obtain ⟨c2, r2, m2, q1, q2, q3, q4, -⟩ := Cond.selects_spec (q (.selects nsC Bundle.tFill Bundle.tFill) (by decide +kernel))
    cases Option.some.inj (q1.symm.trans hfound)
    cases Option.some.inj (q2.symm.trans (State.methodFound?_of_named Y.fill (by decide)))
    cases Option.some.inj (q3.symm.trans Y.fill)
    rw [Launch.admits_selectMethod X.admits]; exact q4
  obtain ⟨cellS0, hcS0, hiss⟩ := Y.statics
  obtain ⟨u0, hu0⟩ := Cond.staticRefV Y.unassigned L.unassignedStatic L.statics hcS0 hiss (q (.isRef (.static Bundle.tN "UNASSIGNED_STACK" Bundle.steD)) (by decide +kernel))
  obtain ⟨sen, hsen⟩ := Cond.staticRefV Y.sentinel L.sentinelStatic L.statics hcS0 hiss (q (.isRef (.static Bundle.tN "SUPPRESSED_SENTINEL" Bundle.listD)) (by decide +kernel))
  obtain ⟨ci198, i198, fB, hk198, hg198, ha198, hsB, -, hnB, htB, hffB⟩ := Cond.ownField (t := .object "java/lang/Object") Y.found L.cls (by decide +kernel) (q (.fieldLink Bundle.tN 198 Bundle.tN "backtrace" "Ljava/lang/Object;") (by decide +kernel)) (q (.lays Bundle.tN Bundle.tN "backtrace" "Ljava/lang/Object;") (by decide +kernel)) e.platform hpl
  obtain ⟨cellS, hcS', heS, -, hkeep⟩ := X.same.2.2.2.2.2 T.aS cellS0 hcS0
  have hcellS : W.heap[T.aS]? = some cellS := hcS'
  have hout' : ∀ i, (⟨T.aS, i⟩ : Loc) ∉ locs := fun i hmem => by
    have := hlocs _ hmem cellS0 hcS0
    rw [hiss] at this; cases this
  have hknownS : cellS.vm ≠ .unknown := by
    rw [heS]; intro hu
    rw [show cellS0.vm = .unknown from hu] at hiss
    cases hiss
  have hneS : T.aS ≠ a := Nat.ne_of_lt (Nat.lt_of_lt_of_le (Array.getElem?_eq_some_iff.mp hcS0).1 hnew)
  obtain ⟨iM, hffM⟩ := Y.msg
  obtain ⟨tyC, dC, hdC, hdnC⟩ := Cond.laysAt hfound hk Y.cause (q (.lays nsC Bundle.tN "cause" "Ljava/lang/Throwable;") (by decide +kernel))
  obtain ⟨tyS, dS, hdS, hdnS⟩ := Cond.laysAt hfound hk Y.stack (q (.lays nsC Bundle.tN "stackTrace" Bundle.steD) (by decide +kernel))
  obtain ⟨tyP, dP, hdP, hdnP⟩ := Cond.laysAt hfound hk Y.supp (q (.lays nsC Bundle.tN "suppressedExceptions" Bundle.listD) (by decide +kernel))
  obtain ⟨tyM, dM, hdM, hdnM⟩ := Cond.laysAt hfound hk hffM (q (.lays nsC Bundle.tN "detailMessage" "Ljava/lang/String;") (by decide +kernel))
  obtain ⟨tyB, dB, hdB, hdnB⟩ := Cond.laysAt hfound hk hffB (q (.lays nsC Bundle.tN "backtrace" "Ljava/lang/Object;") (by decide +kernel))
  have bC := Cond.laysApart hdB hdC hdnB hdnC (by rw [hnB, Y.causeName]; decide)
  have bS := Cond.laysApart hdB hdS hdnB hdnS (by rw [hnB, Y.stackName]; decide)
  have bP := Cond.laysApart hdB hdP hdnB hdnP (by rw [hnB, Y.suppName]; decide)
  have hskip : SkipFacts T e.platform s (fun u => u) u0 ((preparedCellV T.toThrowableT (freshCell P1.m.cls kX) a u0 sen).withEntry W.cur) :=
    ⟨{ ci198 := ci198, i198 := i198, fBack := fB }, ⟨hk198, hg198, ha198, hsB⟩, by
      have := fresh_default (c := P1.m.cls) tyB
      rw [htB] at this
      simpa [preparedCellV, Cell.setSlot, Cell.withEntry, Array.getElem?_setIfInBounds, bC, bS, bP, bC.symm, bS.symm, bP.symm, defaultValue] using this, fun _ _ => rfl⟩
  obtain ⟨tm, methC, cdC, kC, vm₁, hnC, -, -, -, -, -, -, -, hW₁, st1⟩ := Steps.initColdS (tb := p.tables) (e := e) (below := below) (s := s) (U := W) X.here hexec X.warmed hpl hown (t := Bundle.initS nsC) rfl rfl (by decide)
    (q (.methodLink RX6 105 (Bundle.initS nsC)) (by decide +kernel)) (h (.instanceMethod (Bundle.initS nsC)) (by decide +kernel)) (bytes := nsx) (maxL := 2) (h (.code (Bundle.initS nsC) nsx 2 none) (by decide +kernel))
    (f := g) hg (a := a) (msg := msg) (rest := .ref a :: rest) hstack hd6
  cases Option.some.inj (hnC.symm.trans hP1m)
  have X₁ := X.noted hW₁
  obtain ⟨vm₂, X₂, st2⟩ := X₁.ctorMessageOffV hexec (g := { g with stack := .ref a :: rest }) hg hsize T L Z LZ M LM (P1 :: P2 :: Ps)
    (fun P hP => by
      rcases List.mem_cons.mp hP with rfl | hP
      · exact L1
      · rcases List.mem_cons.mp hP with rfl | hP
        · exact L2
        · exact hL P hP) ⟨hsup, hlink1, hlink⟩ (u0 := u0) (sen := sen) (self := a) hmsg (cell := freshCell P1.m.cls kX) (cellS := cellS)
    hcell (fun _ => by simp) (by simp) rfl rfl hsel0 hselF hcellS hneS hknownS (by rw [hkeep _ (hout' _)]; exact hu0) (by rw [hkeep _ (hout' _)]; exact hsen)
    (Takes.of_laid hk hord tyC (by rw [Y.causeType]; rfl)) (Takes.of_laid hk hord tyS (by rw [Y.stackType]; exact fits_refV_array _ u0)) (Takes.of_laid hk hord tyP (by rw [Y.suppType]; exact fits_refV_object _ sen))
    (Takes.of_laid hk hord tyM (by rw [Y.msgType]; exact fits_refV_object _ ⟨msg, hmsg⟩)) Y.objLocals hskip htr [] hd6
    (by simp only [List.length_cons, hlen1]; omega) (by simp only [List.length_cons, hlen1]; exact hRlocals)
  obtain ⟨hwalk, hrun, hended, hWU, hsame⟩ := X₂.athrowLeaves hexec (g := { g with stack := .ref a :: rest, pc := g.pc + 3 }) hg hlocked hentered hout (a := a) (rest := rest) rfl hd9
  have hlt : a < ((W.setVm vm₁).setVm vm₂).heap.size := (Array.getElem?_eq_some_iff.mp hcell).1
  have hU := heapAt_setCell_self (s := (W.setVm vm₁).setVm vm₂) (plainBareV T.toThrowableT (freshCell P1.m.cls kX) a u0 sen msg) hlt
  refine ⟨_, st1 _ (fun acts => ?_), hrun, hended, hWU, hsame.weaken (fun y hy hlt' => ?_) (Nat.le_refl _) (Nat.le_refl _), _, hU, rfl, rfl⟩
  · rw [doInvoke_state]
    exact st2 _ hwalk
  · rcases List.mem_append.mp hy with h1 | h1
    · exact h1
    · exfalso
      have hb : y.base = a := by
        simp only [List.mem_cons, List.not_mem_nil, or_false] at h1
        rcases h1 with rfl | rfl | rfl | rfl | rfl <;> rfl
      rw [hb] at hlt'
      exact Nat.not_lt.mpr hnew hlt'
end NSC
end TH

