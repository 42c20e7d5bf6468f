section
-- ===== PART A: goes FIRST, ahead of the names: the tables' words, and 'selects' of the private methods out of them =====
/-- a private method of a class that the tables say can be made, by its rows of tables_1 -/
def lw_okq (q : MethodName × Nat) : Prop := (q.1.cls ≠ "java/lang/invoke/MethodHandle" ∧ q.1.cls ≠ "java/lang/invoke/VarHandle") ∧ Cond.instantiable q.1.cls q.2 ∈ tables_1 ∧ Cond.privateMethod q.1 ∈ tables_1 ∧ Cond.instanceMethod q.1 ∈ tables_1
theorem lw_p0 : lw_okq (⟨"java/lang/Throwable", "fillInStackTrace", "(I)Ljava/lang/Throwable;"⟩, 6) := ⟨⟨by decide +kernel, by decide +kernel⟩, List.mem_of_getElem? (i := 302) (by decide +kernel), List.mem_of_getElem? (i := 300) (by decide +kernel), List.mem_of_getElem? (i := 301) (by decide +kernel)⟩
theorem lw_p1 : lw_okq (⟨"IceConvoys$Orders", "parseOrder", "()Z"⟩, 8) := ⟨⟨by decide +kernel, by decide +kernel⟩, List.mem_of_getElem? (i := 178) (by decide +kernel), List.mem_of_getElem? (i := 1267) (by decide +kernel), List.mem_of_getElem? (i := 1268) (by decide +kernel)⟩
theorem lw_p2 : lw_okq (⟨"IceConvoys$Orders", "parseNumber", "()I"⟩, 8) := ⟨⟨by decide +kernel, by decide +kernel⟩, List.mem_of_getElem? (i := 178) (by decide +kernel), List.mem_of_getElem? (i := 1271) (by decide +kernel), List.mem_of_getElem? (i := 1272) (by decide +kernel)⟩
theorem lw_p3 : lw_okq (⟨"IceConvoys$Orders", "parseDigit", "()I"⟩, 8) := ⟨⟨by decide +kernel, by decide +kernel⟩, List.mem_of_getElem? (i := 178) (by decide +kernel), List.mem_of_getElem? (i := 1275) (by decide +kernel), List.mem_of_getElem? (i := 1276) (by decide +kernel)⟩
theorem lw_p4 : lw_okq (⟨"IceConvoys$Orders", "parseTemperature", "()Z"⟩, 8) := ⟨⟨by decide +kernel, by decide +kernel⟩, List.mem_of_getElem? (i := 178) (by decide +kernel), List.mem_of_getElem? (i := 1279) (by decide +kernel), List.mem_of_getElem? (i := 1280) (by decide +kernel)⟩
theorem lw_p5 : lw_okq (⟨"IceConvoys$Orders", "skip", "(C)Z"⟩, 8) := ⟨⟨by decide +kernel, by decide +kernel⟩, List.mem_of_getElem? (i := 178) (by decide +kernel), List.mem_of_getElem? (i := 1283) (by decide +kernel), List.mem_of_getElem? (i := 1284) (by decide +kernel)⟩
theorem lw_p6 : lw_okq (⟨"IceConvoys$Orders", "parseJoin", "()Z"⟩, 8) := ⟨⟨by decide +kernel, by decide +kernel⟩, List.mem_of_getElem? (i := 178) (by decide +kernel), List.mem_of_getElem? (i := 1287) (by decide +kernel), List.mem_of_getElem? (i := 1288) (by decide +kernel)⟩
theorem lw_p7 : lw_okq (⟨"IceConvoys$Orders", "carryOutJoin", "(ILIceConvoys$Road;)I"⟩, 8) := ⟨⟨by decide +kernel, by decide +kernel⟩, List.mem_of_getElem? (i := 178) (by decide +kernel), List.mem_of_getElem? (i := 1311) (by decide +kernel), List.mem_of_getElem? (i := 1312) (by decide +kernel)⟩
def lw_privs_1 : List (MethodName × Nat) := [(⟨"java/lang/Throwable", "fillInStackTrace", "(I)Ljava/lang/Throwable;"⟩, 6), (⟨"IceConvoys$Orders", "parseOrder", "()Z"⟩, 8), (⟨"IceConvoys$Orders", "parseNumber", "()I"⟩, 8), (⟨"IceConvoys$Orders", "parseDigit", "()I"⟩, 8), (⟨"IceConvoys$Orders", "parseTemperature", "()Z"⟩, 8), (⟨"IceConvoys$Orders", "skip", "(C)Z"⟩, 8), (⟨"IceConvoys$Orders", "parseJoin", "()Z"⟩, 8), (⟨"IceConvoys$Orders", "carryOutJoin", "(ILIceConvoys$Road;)I"⟩, 8)]
theorem lw_r1 : ∀ q ∈ lw_privs_1, lw_okq q := List.forall_mem_cons.mpr ⟨lw_p0, List.forall_mem_cons.mpr ⟨lw_p1, List.forall_mem_cons.mpr ⟨lw_p2, List.forall_mem_cons.mpr ⟨lw_p3, List.forall_mem_cons.mpr ⟨lw_p4, List.forall_mem_cons.mpr ⟨lw_p5, List.forall_mem_cons.mpr ⟨lw_p6, List.forall_mem_cons.mpr ⟨lw_p7, fun _ h => absurd h List.not_mem_nil⟩⟩⟩⟩⟩⟩⟩⟩
def lw_privs : List (MethodName × Nat) := lw_privs_1
def lw_tbl : List Cond := k2_sels lw_privs ++ tables_1
theorem lw_privs_ok : ∀ q ∈ lw_privs, lw_okq q := lw_r1
/-- the streams that the claim lets the run draw from -/
abbrev lw_cs : List Choice := [Jvm.Choice.named "NaN.bits", Jvm.Choice.named "NaN.copy"]
theorem lw_bits : nanBits ∈ lw_cs := by first | decide | exact List.mem_cons_self | simp [lw_cs, nanBits]
end
section
/-! ===== BEGIN words of one list among another's, by their places ===== -/
theorem goodIn_r {big : List Cond} (ws : List Cond) (ps : List Nat) (hp : ws = ps.filterMap (fun i => big[i]?)) (h : ws.all goodWord = true) : GoodIn big ws := by
  intro w hw
  have h1 := List.all_eq_true.mp h w hw
  rw [hp] at hw
  obtain ⟨i, -, hi⟩ := List.mem_filterMap.mp hw
  have hm : w ∈ big := by first | exact List.mem_of_getElem? hi | exact List.getElem?_mem hi
  exact ⟨hm, good_of_word h1⟩
theorem goodIn_app {big a b : List Cond} (ha : GoodIn big a) (hb : GoodIn big b) : GoodIn big (a ++ b) := fun w h => (List.mem_append.mp h).elim (ha w) (hb w)
theorem goodIn_ca {big a b : List Cond} {c : Cond} (ha : GoodIn big (c :: a)) (hb : GoodIn big b) : GoodIn big (c :: (a ++ b)) := fun w h => (List.mem_cons.mp h).elim (fun e => ha w (List.mem_cons.mpr (Or.inl e))) (fun h => (List.mem_append.mp h).elim (fun h => ha w (List.mem_cons.mpr (Or.inr h))) (hb w))
theorem goodIn_sub {big ws : List Cond} (hm : ∀ w ∈ ws, w ∈ big) (h : ws.all goodWord = true) : GoodIn big ws := fun w hw => ⟨hm w hw, good_of_word (List.all_eq_true.mp h w hw)⟩
/-! ===== END ===== -/

/-! ===== BEGIN exceptions that leave a method, and their catching by the caller (launches without stack traces) ===== -/
section VXA
/-! The laws vx_back, vx_callV, vx_callS, vx_callSW, vx_throw0, vx_throwS follow proofs of the library, with one case more: JvmDerived/Free/Laws.lean (Back.of_free), Shelf42/LK1.lean (callV, callS), Shelf/KitTraced.lean (throwNew0V, throwNewS). -/
/-- where a method has thrown q: the class by its name, the cell, what was written, the world -/
def vx_T (XC : String → State → State → Prop) (st : State) (q : Addr) (t : State) (mc ms : Nat) (free : Addr → Prop) : Prop :=
  ∃ (E : String) (ce : Cell) (L : List Loc), XC E st t ∧ t.heap[q]? = some ce ∧ ce.vm = .none ∧ st.vm.findClass E = some ce.cls ∧ st.WarmedH t.vm ∧ st.sameButNew ({ t with vm := st.vm } : State) L mc ms ∧ ∀ z ∈ L, free z.base
def vx_Q (Qc : Array Value → State → Outcome → State → Prop) (XC : String → State → State → Prop) (mc ms : Nat) (free : Addr → Prop) : Array Value → State → Outcome → State → Prop := fun a st o t =>
  (Qc a st o t ∧ ∃ L, FrameEnd st o t L mc ms ∧ ∀ q ∈ L, free q.base) ∨ ∃ q, o = .threw q ∧ vx_T XC st q t mc ms free
/-- a callee that returns or throws -/
def vx_Met (l : Launch) (y : MethodName) (ws : List Cond) (rm : Room) (Pc : Array Value → State → Prop) (Qc : Array Value → State → Outcome → State → Prop) (XC : String → State → State → Prop) (mc ms : Nat) (free : Addr → Prop) : Prop :=
  MetFree l y (headSpec ws rm) Pc (fun _ _ _ _ _ => True) (vx_Q Qc XC mc ms free)
def vx_Post (XC : String → State → State → Prop) (mc ms : Nat) (free : Addr → Prop) : Pt → Array Value → Addr → Pt → Prop := fun A a q B =>
  ∃ (g : JFrame) (mk : MethodId) (t : State) (L : List Loc) (E : String) (ce : Cell), B.U.heap = t.heap ∧ B.U.vm = t.vm ∧ XC E (A.U.calling g mk a) t ∧ t.heap[q]? = some ce ∧ ce.vm = .none ∧ A.U.vm.findClass E = some ce.cls ∧ B.locs = A.locs ++ L ∧ (∀ z ∈ L, free z.base) ∧ B.cells = A.cells + mc ∧ B.slots = A.slots + ms
def vx_Back (l : Launch) (R : Room) (p : Program) (e : Env) (below : List Frame) (s : State) (sargs : Array Value) (y : MethodName) (len W9 : Nat)
    (Pre : Pt → Array Value → Prop) (Post : Pt → Array Value → Option Value → Pt → Prop) (PostX : Pt → Array Value → Addr → Pt → Prop) : Prop :=
  ∀ (m : MethodId) (meth : Method) (c : Code) (A : Pt) (g : JFrame) (ig : Instr) (mk : MethodId) (a : Array Value),
    Stand p l e R s m sargs below meth c A.U A.locs A.cells A.slots → g.method = m → g.locals.size = c.maxLocals → decode c.code g.pc = .ok (ig, len) →
    2 * g.monitorRoom + (g.stack.map fun v => v.category).sum ≤ W9 → A.U.methodNamed? y = some mk → Pre A a →
    (∃ (v : Option Value) (B : Pt), Stand p l e R s m sargs below meth c B.U B.locs B.cells B.slots ∧ Post A a v B ∧
      Steps p.tables e below (doInvoke e (A.U.setTop g) [] mk a).1 (B.U.setTop { g with pc := g.pc + len, stack := v.toList ++ g.stack })) ∨
    (∃ (q : Addr) (B : Pt), Stand p l e R s m sargs below meth c B.U B.locs B.cells B.slots ∧ PostX A a q B ∧
      Steps p.tables e below (doInvoke e (A.U.setTop g) [] mk a).1 ((B.U.setTop g).pushFrame (.throwing q)))
section Payer
variable {l : Launch} {R : Room} {p : Program} {e : Env} {below : List Frame} {s : State} {sargs : Array Value} {y : MethodName} {len W9 : Nat}
theorem vx_back {ws : List Cond} {rm : Room} {Pc : Array Value → State → Prop} {Qc : Array Value → State → Outcome → State → Prop} {XC : String → State → State → Prop} {mc ms : Nat} {free : Addr → Prop} {bytes : ByteArray} {maxL : Nat} {ret : Option FieldType}
    (hM : vx_Met l y ws rm Pc Qc XC mc ms free) (hblind : FrameBlind Pc) (hrc : rm.cells = mc) (hrs : rm.slots = ms)
    (hframes : rm.frames + 1 ≤ R.frames) (hlocals : W9 + (maxL + 11) + rm.locals ≤ R.locals)
    (hws : ∀ w ∈ ws, ∀ a' U, s.WarmedH U.vm → w.before a' U = true) (hcode : Cond.code y bytes maxL ret ∈ ws) (hinit : ∀ a' U, s.WarmedH U.vm → (Cond.initialized y.cls).before a' U = true) :
    vx_Back l R p e below s sargs y len W9 (PreOf R mc ms Pc) (PostOf Qc mc ms free) (vx_Post XC mc ms free) := by
  intro m meth c A g ig mk a X hg hsize hdg hW hn hp
  have h1 : (headSpec ws rm).pre.before a A.U = true := atoms_intro fun w hw => hws w hw _ _ X.warmed
  have h2 : (Cond.code y bytes maxL ret).before a A.U = true := hws _ hcode _ _ X.warmed
  have h3 : (Cond.initialized y.cls).before a A.U = true := hinit _ _ X.warmed
  have h4 : A.cells + (headSpec ws rm).room.cells ≤ R.cells := by rw [show (headSpec ws rm).room.cells = mc from hrc]; exact hp.1
  have h5 : A.slots + (headSpec ws rm).room.slots ≤ R.slots := by rw [show (headSpec ws rm).room.slots = ms from hrs]; exact hp.2.1
  have hPc : Pc a (A.U.calling g mk a) := hblind _ _ _ _ hp.2.2
  obtain ⟨U, Ls, c0, s0⟩ := A
  dsimp only [Pt.U, Pt.locs, Pt.cells, Pt.slots] at h1 h2 h3 h4 h5 X hn hPc ⊢
  obtain ⟨methY, cY, hmY, hcY, -, hlY, -, -, -, -⟩ := Cond.code_spec hn h2
  obtain ⟨kY, hkY, -⟩ := className_of_methodNamed hn
  have hinitY : kY.init = .initialized := Cond.initialized_spec (findClass_of_methodNamed hn) hkY h3
  have h : At U g.method c below := by rw [hg]; exact X.here
  have hlocals9 : W9 + (maxL + 11) + (headSpec ws rm).room.locals ≤ R.locals := hlocals
  have happ : (headSpec ws rm).appliesLoose y e.platform (U.calling g mk a) = true :=
    Spec.appliesLoose_calling (g := g) h hdg hn hkY hinitY
      (X.room_calling (g := g) (R' := (headSpec ws rm).room) hsize hmY hcY hframes (by rw [hlY]; omega) h4 h5) h1
  obtain ⟨mid, hmid⟩ := h.above
  have hfr : (U.setTop g).frames = (.java g :: mid) ++ below := by rw [State.frames_setTop' g h.top, hmid]; rfl
  obtain ⟨o, s₂, hsteps, -, hend, hq⟩ := Steps.callFree hM p X.admits X.cas X.clock (acts := []) hfr happ hPc trivial
  have hq' : vx_Q Qc XC mc ms free a (U.calling g mk a) o s₂ := hq
  rw [State.frames_setTop' g h.top] at hend
  obtain ⟨g₀, hg0⟩ := Option.isSome_iff_exists.mp h.top
  obtain ⟨r, hr⟩ := State.topJava?_eq_some.mp hg0
  have hr' : (({ U with heap := s₂.heap, slotsUsed := s₂.slotsUsed } : State).setVm s₂.vm).frames = .java g₀ :: r := hr
  rcases hq' with ⟨hqc, L, hfe, hL⟩ | ⟨q, rfl, E, ce, L, hx, hce, hcv, hcl, hW₂, hsm, hL⟩
  · obtain ⟨⟨v, rfl⟩, hW₂, e2, q2, q3, q4, q5, q6⟩ := id hfe
    have e3 : s₂ = ({ (U.calling g mk a).setFrames s₂.frames with heap := s₂.heap, slotsUsed := s₂.slotsUsed } : State).setVm s₂.vm := by
      have : s₂ = ({ s₂ with vm := (U.calling g mk a).vm } : State).setVm s₂.vm := rfl
      rw [e2] at this
      exact this
    obtain ⟨c₂, i₂, len₂, hc₂, hd₂, hf₂⟩ := hend
    have hW' : U.WarmedH s₂.vm := hW₂
    have hcc : c₂ = c := by
      have h1 : s₂.code? g.method = U.code? g.method := by
        rw [State.code?_eq, State.code?_eq, hW'.alike.method?]
      exact Option.some.inj (hc₂.symm.trans (h1.trans h.code))
    subst hcc
    have hlen : len₂ = len := by rw [hdg] at hd₂; cases hd₂; rfl
    subst hlen
    have hs₂ : s₂ = (({ U with heap := s₂.heap, slotsUsed := s₂.slotsUsed } : State).setVm s₂.vm).setTop { g with pc := g.pc + len₂, stack := v.toList ++ g.stack } := by
      refine e3.trans ?_
      rw [hf₂, State.calling_eq h.top, State.setFrames_setFrames, State.setTop_of_frames _ hr', hr]
      rfl
    have hsame : U.sameButNew ({ U with heap := s₂.heap, slotsUsed := s₂.slotsUsed } : State) L mc ms := by
      refine ⟨?_, q2, q3, q4, q5, q6⟩
      obtain ⟨t, ht, -⟩ := State.frames_cons hr
      show ({ U with heap := s₂.heap, slotsUsed := s₂.slotsUsed } : State) = { U.setFrames U.frames with heap := s₂.heap, slotsUsed := s₂.slotsUsed }
      rw [State.setFrames_self ht]
    subst hg
    refine Or.inl ⟨v, ⟨(({ U with heap := s₂.heap, slotsUsed := s₂.slotsUsed } : State).setVm s₂.vm), Ls ++ L, c0 + mc, s0 + ms⟩,
      ⟨X.admits, X.cas, X.clock, X.frames, X.room, X.hears, X.method, X.code, (X.here.setHeapUsed s₂.heap s₂.slotsUsed).setVm hW'.alike, X.tail, State.WarmedH.trans X.warmed hW', X.limits, X.bytes, X.same.trans (hsame.setVm s.vm)⟩,
      ⟨g, mk, s₂, L, rfl, rfl, hqc, rfl, hL, rfl, rfl⟩, ?_⟩
    show Steps p.tables e below _ ((({ U with heap := s₂.heap, slotsUsed := s₂.slotsUsed } : State).setVm s₂.vm).setTop { g with pc := g.pc + len₂, stack := v.toList ++ g.stack })
    rw [← hs₂]
    exact hsteps
  · obtain ⟨e2, q2, q3, q4, q5, q6⟩ := id hsm
    have e3 : s₂ = ({ (U.calling g mk a).setFrames s₂.frames with heap := s₂.heap, slotsUsed := s₂.slotsUsed } : State).setVm s₂.vm := by
      have : s₂ = ({ s₂ with vm := (U.calling g mk a).vm } : State).setVm s₂.vm := rfl
      rw [e2] at this
      exact this
    have hf₂ : s₂.frames = .throwing q :: .java g :: U.frames.tail := hend
    have hW' : U.WarmedH s₂.vm := hW₂
    have hs₂ : s₂ = ((({ U with heap := s₂.heap, slotsUsed := s₂.slotsUsed } : State).setVm s₂.vm).setTop g).pushFrame (.throwing q) := by
      refine e3.trans ?_
      rw [hf₂, State.calling_eq h.top, State.setFrames_setFrames, State.pushFrame, State.frames_setTop _ hr', State.setTop_of_frames _ hr', State.setFrames_setFrames, hr]
      rfl
    have hsame : U.sameButNew ({ U with heap := s₂.heap, slotsUsed := s₂.slotsUsed } : State) L mc ms := by
      refine ⟨?_, q2, q3, q4, q5, q6⟩
      obtain ⟨t, ht, -⟩ := State.frames_cons hr
      show ({ U with heap := s₂.heap, slotsUsed := s₂.slotsUsed } : State) = { U.setFrames U.frames with heap := s₂.heap, slotsUsed := s₂.slotsUsed }
      rw [State.setFrames_self ht]
    subst hg
    refine Or.inr ⟨q, ⟨(({ U with heap := s₂.heap, slotsUsed := s₂.slotsUsed } : State).setVm s₂.vm), Ls ++ L, c0 + mc, s0 + ms⟩,
      ⟨X.admits, X.cas, X.clock, X.frames, X.room, X.hears, X.method, X.code, (X.here.setHeapUsed s₂.heap s₂.slotsUsed).setVm hW'.alike, X.tail, State.WarmedH.trans X.warmed hW', X.limits, X.bytes, X.same.trans (hsame.setVm s.vm)⟩,
      ⟨g, mk, s₂, L, E, ce, rfl, rfl, hx, hce, hcv, hcl, rfl, hL, rfl, rfl⟩, ?_⟩
    show Steps p.tables e below _ (((({ U with heap := s₂.heap, slotsUsed := s₂.slotsUsed } : State).setVm s₂.vm).setTop g).pushFrame (.throwing q))
    rw [← hs₂]
    exact hsteps
end Payer
section Calls
variable {p : Program} {l : Launch} {e : Env} {R : Room} {s : State} {m : MethodId} {args : Array Value} {below : List Frame} {meth : Method} {c : Code} {T : State} {locs : List Loc} {cells slots : Nat}
theorem vx_callV (X : Stand p l e R s m args below meth c T locs cells slots) (hexec : p.tables.exec = Jvm.exec) {own C : String} {index : Nat} {y : MethodName} {bytes : ByteArray} {maxL : Nat} {ret : Option FieldType}
    (hown : s.vm.findClass own = some m.cls) (hlink : (Cond.methodLink own index y).before args s = true) (hinst : (Cond.instanceMethod y).before args s = true) (hsel : (Cond.selects C y y).before args s = true)
    (hcode : (Cond.code y bytes maxL ret).before args s = true) (hy : y.cls ≠ "java/lang/invoke/MethodHandle" ∧ y.cls ≠ "java/lang/invoke/VarHandle")
    {W9 : Nat} {Pre : Pt → Array Value → Prop} {Post : Pt → Array Value → Option Value → Pt → Prop} {PostX : Pt → Array Value → Addr → Pt → Prop} (hK : vx_Back l R p e below s args y 3 W9 Pre Post PostX)
    {b : Addr} {cellB : Cell} (hcell : T.heap[b]? = some cellB) (hobj : cellB.vm.isStatics = false) (hcls : s.vm.findClass C = some cellB.cls)
    {g : JFrame} (hg : g.method = m) (hsize : g.locals.size = c.maxLocals) {argsL rest : List Value} (hlen : ∀ sig, parseMethodDescriptor y.desc = some sig → argsL.length = sig.parameters.length)
    (hstack : g.stack = argsL.reverse ++ .ref b :: rest) (hW : 2 * g.monitorRoom + (rest.map fun v => v.category).sum ≤ W9) (hdg : decode c.code g.pc = .ok (.invokevirtual index, 3))
    (hpre : ∀ vm₁, s.WarmedH vm₁ → Pre ⟨T.setVm vm₁, locs, cells, slots⟩ (Value.ref b :: argsL).toArray) :
    (∃ (v : Option Value) (vm₁ : Vm) (B : Pt), s.WarmedH vm₁ ∧ Stand p l e R s m args below meth c B.U B.locs B.cells B.slots ∧ Post ⟨T.setVm vm₁, locs, cells, slots⟩ (Value.ref b :: argsL).toArray v B ∧
      ∀ target, Steps p.tables e below (B.U.setTop { g with pc := g.pc + 3, stack := v.toList ++ rest }) target → Steps p.tables e below (T.setTop g) target) ∨
    (∃ (q : Addr) (vm₁ : Vm) (B : Pt), s.WarmedH vm₁ ∧ Stand p l e R s m args below meth c B.U B.locs B.cells B.slots ∧ PostX ⟨T.setVm vm₁, locs, cells, slots⟩ (Value.ref b :: argsL).toArray q B ∧
      Steps p.tables e below (T.setTop g) ((B.U.setTop { g with stack := rest }).pushFrame (.throwing q))) := by
  obtain ⟨mk, methM, hnamed, hmethM, hstM, habM⟩ := Cond.instanceMethod_spec hinst
  obtain ⟨methM', cM, hmethM', -, -, -, -, -, -, hsigM⟩ := Cond.code_spec hnamed hcode
  cases hmethM.symm.trans hmethM'
  obtain ⟨c2, r2, m2, q1, q2, q3, q4, kP, hkP, hkPi⟩ := Cond.selects_spec hsel
  cases hcls.symm.trans q1
  cases (State.methodFound?_of_named hnamed hy).symm.trans q2
  cases hnamed.symm.trans q3
  have hselP : selectMethod e.platform s.vm cellB.cls mk = .method mk := by rw [Launch.admits_selectMethod X.admits]; exact q4
  obtain ⟨vm₁, X₁, hstep₁⟩ := X.invokevirtual hexec hown hlink hnamed hmethM hstM hkP hkPi hy (a := b) (cell := cellB) hcell
    (fun z h => by rw [h] at hobj; cases hobj) hselP hmethM habM hkP hkPi (g := g) hg (argsL := argsL) (rest := rest) (hlen _ hsigM) hstack hdg
  rcases hK m meth c ⟨T.setVm vm₁, locs, cells, slots⟩ { g with stack := rest } (.invokevirtual index) mk (Value.ref b :: argsL).toArray X₁ hg hsize hdg hW (X₁.named hnamed) (hpre vm₁ X₁.warmed) with ⟨v, B, X', hpost, hsteps⟩ | ⟨q, B, X', hpost, hsteps⟩
  · exact Or.inl ⟨v, vm₁, B, X₁.warmed, X', hpost, fun target h => hstep₁ _ fun acts => by rw [doInvoke_state]; exact hsteps.trans h⟩
  · exact Or.inr ⟨q, vm₁, B, X₁.warmed, X', hpost, hstep₁ _ fun acts => by rw [doInvoke_state]; exact hsteps⟩
theorem vx_callS (X : Stand p l e R s m args below meth c T locs cells slots) (hexec : p.tables.exec = Jvm.exec) {own : String} {index : Nat} {y : MethodName} {bytes : ByteArray} {maxL : Nat} {ret : Option FieldType}
    (hown : s.vm.findClass own = some m.cls) (hlink : (Cond.methodLink own index y).before args s = true) (hstat : (Cond.static y).before args s = true) (hinit : (Cond.initialized y.cls).before args s = true)
    (hcode : (Cond.code y bytes maxL ret).before args s = true) (hy : y.cls ≠ "java/lang/invoke/MethodHandle" ∧ y.cls ≠ "java/lang/invoke/VarHandle")
    {W9 : Nat} {Pre : Pt → Array Value → Prop} {Post : Pt → Array Value → Option Value → Pt → Prop} {PostX : Pt → Array Value → Addr → Pt → Prop} (hK : vx_Back l R p e below s args y 3 W9 Pre Post PostX)
    {g : JFrame} (hg : g.method = m) (hsize : g.locals.size = c.maxLocals) {argsL rest : List Value} (hlen : ∀ sig, parseMethodDescriptor y.desc = some sig → argsL.length = sig.parameters.length)
    (hstack : g.stack = argsL.reverse ++ rest) (hW : 2 * g.monitorRoom + (rest.map fun v => v.category).sum ≤ W9) (hdg : decode c.code g.pc = .ok (.invokestatic index, 3))
    (hpre : ∀ vm₁, s.WarmedH vm₁ → Pre ⟨T.setVm vm₁, locs, cells, slots⟩ argsL.toArray) :
    (∃ (v : Option Value) (vm₁ : Vm) (B : Pt), s.WarmedH vm₁ ∧ Stand p l e R s m args below meth c B.U B.locs B.cells B.slots ∧ Post ⟨T.setVm vm₁, locs, cells, slots⟩ argsL.toArray v B ∧
      ∀ target, Steps p.tables e below (B.U.setTop { g with pc := g.pc + 3, stack := v.toList ++ rest }) target → Steps p.tables e below (T.setTop g) target) ∨
    (∃ (q : Addr) (vm₁ : Vm) (B : Pt), s.WarmedH vm₁ ∧ Stand p l e R s m args below meth c B.U B.locs B.cells B.slots ∧ PostX ⟨T.setVm vm₁, locs, cells, slots⟩ argsL.toArray q B ∧
      Steps p.tables e below (T.setTop g) ((B.U.setTop { g with stack := rest }).pushFrame (.throwing q))) := by
  obtain ⟨mk, hnamed⟩ := Cond.code_named hcode
  obtain ⟨methM, cM, hmethM, -, -, -, -, -, -, hsigM⟩ := Cond.code_spec hnamed hcode
  have hstatic : methM.isStatic = true := Cond.static_spec hnamed hmethM hstat
  obtain ⟨kP, hkP, -⟩ := className_of_methodNamed hnamed
  have hinitP : kP.init = .initialized := Cond.initialized_spec (findClass_of_methodNamed hnamed) hkP hinit
  obtain ⟨vm₁, X₁, hstep₁⟩ := X.invokestatic hexec hown hlink hnamed hmethM hstatic hkP hinitP hy (g := g) hg (argsL := argsL) (rest := rest) (hlen _ hsigM) hstack hdg
  rcases hK m meth c ⟨T.setVm vm₁, locs, cells, slots⟩ { g with stack := rest } (.invokestatic index) mk argsL.toArray X₁ hg hsize hdg hW (X₁.named hnamed) (hpre vm₁ X₁.warmed) with ⟨v, B, X', hpost, hsteps⟩ | ⟨q, B, X', hpost, hsteps⟩
  · exact Or.inl ⟨v, vm₁, B, X₁.warmed, X', hpost, fun target h => hstep₁ _ fun acts => by rw [doInvoke_state]; exact hsteps.trans h⟩
  · exact Or.inr ⟨q, vm₁, B, X₁.warmed, X', hpost, hstep₁ _ fun acts => by rw [doInvoke_state]; exact hsteps⟩
end Calls
theorem vx_cls {s : State} {T : State} {vm₁ : Vm} {E : String} {k : ClassId} (hW : s.WarmedH vm₁) (h : (T.setVm vm₁).vm.findClass E = some k) : s.vm.findClass E = some k := by
  have h1 : vm₁.findClass E = some k := h
  rw [hW.alike.findClass] at h1
  exact h1
/-- the method's frame g, with q thrown over it -/
def vx_W (p : Program) (l : Launch) (e : Env) (R : Room) (s : State) (m : MethodId) (args : Array Value) (below : List Frame) (meth : Method) (c : Code) (H : Heap) (locs : List Loc) (cells slots : Nat) (Q : State → Prop) (g : JFrame) (q : Addr) : Prop :=
  ∀ T : State, T.heap = H → Stand p l e R s m args below meth c T locs cells slots → ∃ t, Steps p.tables e below ((T.setTop g).pushFrame (.throwing q)) t ∧ Q t
def vx_Run (p : Program) (l : Launch) (e : Env) (R : Room) (s : State) (m : MethodId) (args : Array Value) (below : List Frame) (meth : Method) (c : Code) (H : Heap) (locs : List Loc) (cells slots mc ms : Nat) (g : JFrame) (rest : List Value) (Qa : State → Outcome → State → Prop) (XC : String → State → State → Prop) (free : Addr → Prop) : Prop :=
  ∀ T : State, T.heap = H → Stand p l e R s m args below meth c T locs cells slots →
    (∃ (v : Option Value) (st₀ t T' : State) (L : List Loc), st₀.heap = H ∧ Stand p l e R s m args below meth c T' (locs ++ L) (cells + mc) (slots + ms) ∧ (∀ q ∈ L, free q.base) ∧ T'.heap = t.heap ∧ T'.vm = t.vm ∧ Qa st₀ (.returned v) t ∧
      Goes p e below T g T' { g with pc := g.pc + 3, stack := v.toList ++ rest }) ∨
    (∃ (q : Addr) (st₀ t T' : State) (L : List Loc) (E : String) (ce : Cell), st₀.heap = H ∧ Stand p l e R s m args below meth c T' (locs ++ L) (cells + mc) (slots + ms) ∧ (∀ z ∈ L, free z.base) ∧ T'.heap = t.heap ∧ T'.vm = t.vm ∧ XC E st₀ t ∧ t.heap[q]? = some ce ∧ ce.vm = .none ∧ s.vm.findClass E = some ce.cls ∧
      Steps p.tables e below (T.setTop g) ((T'.setTop { g with stack := rest }).pushFrame (.throwing q)))
def vx_X {S : Type} (px : S → Prop) (B : String → S → State → Prop) (A : Nat → Prop) : String → State → State → Prop := fun E st t => ∃ u : S, px u ∧ B E u t ∧ va_F A st t
section Runs
variable {p : Program} {l : Launch} {e : Env} {R : Room} {s : State} {m : MethodId} {args : Array Value} {below : List Frame} {meth : Method} {c : Code} {H : Heap} {locs : List Loc} {cells slots : Nat}
variable {y : MethodName} {bytes cc : ByteArray} {maxL nL mc ms n index : Nat} {ret : Option FieldType} {ws : List Cond} {rm : Room} {Pc : Array Value → State → Prop} {Qc : Array Value → State → Outcome → State → Prop} {XC : String → State → State → Prop} {free : Addr → Prop} {Ts : List Cond} {own C : String} {b : Addr} {As rest : List Value} {g : JFrame}
theorem vx_callBack (cb : CallB R s args own index y bytes maxL ret ws rm mc ms n) (hM : vx_Met l y ws rm Pc Qc XC mc ms free) (hbl : FrameBlind Pc) : vx_Back l R p e below s args y 3 8 (PreOf R mc ms Pc) (PostOf Qc mc ms free) (vx_Post XC mc ms free) := by
  obtain ⟨hrc, hrs, hfr, hlo, hws, hcw, -, hini, -⟩ := cb
  exact vx_back (bytes := bytes) (maxL := maxL) (ret := ret) hM hbl hrc hrs hfr hlo hws hcw (fun a' U hW => word_at hW (Or.inl (by first | rfl | simp [Cond.onTables, Cond.keeps, Cond.steady])) hini)
theorem vx_runV (S : CallFix p m c cc nL s args Ts own) (hM : vx_Met l y ws rm Pc Qc XC mc ms free) (cw : CallW R s args own C index y bytes maxL ret ws rm mc ms n) (hp : PreV s H C b Pc As)
    (hg : g.method = m) (hn : As.length = n) (hsize : g.locals.size = nL) (hstack : g.stack = As.reverse ++ .ref b :: rest) (hW : 2 * g.monitorRoom + (rest.map fun v => v.category).sum ≤ 8) (hdg : decode cc g.pc = .ok (.invokevirtual index, 3)) (hf : cells + mc ≤ R.cells ∧ slots + ms ≤ R.slots) :
    vx_Run p l e R s m args below meth c H locs cells slots mc ms g rest (Qc (Value.ref b :: As).toArray) XC free := by
  have hK : vx_Back l R p e below s args y 3 8 (PreOf R mc ms Pc) (PostOf Qc mc ms free) (vx_Post XC mc ms free) := vx_callBack cw.1 hM hp.1
  obtain ⟨⟨-, -, -, -, -, -, hcode, -, hy, hlen, hl⟩, hin, hse⟩ := cw
  obtain ⟨hx, hb, hml, ho, -⟩ := S
  obtain ⟨-, ⟨cellB, hcB, hoB, hclB⟩, hPc⟩ := hp
  intro T hT X
  rcases vx_callV X hx (C := C) (bytes := bytes) (maxL := maxL) (ret := ret) ho hl hin hse hcode hy hK (by rw [hT]; exact hcB) hoB hclB hg (hsize.trans hml.symm) (argsL := As) (rest := rest) (fun sig h => hn.trans (hlen sig h)) hstack hW (by rw [hb]; exact hdg)
    (fun vm₁ hW₁ => ⟨hf.1, hf.2, hPc (T.setVm vm₁) hT hW₁⟩) with ⟨v, vm₁, ⟨U', l2, c2, s2⟩, hW₁, X', ⟨g', mk, t, L, e1, e2, hq, h1, hL, h2, h3⟩, st⟩ | ⟨q, vm₁, ⟨U', l2, c2, s2⟩, hW₁, X', ⟨g', mk, t, L, E, ce, e1, e2, hq, hce, hcv, hcl, h1, hL, h2, h3⟩, st⟩
  · dsimp only [Pt.U, Pt.locs, Pt.cells, Pt.slots] at X' e1 e2 h1 h2 h3 st
    subst h1; subst h2; subst h3
    exact Or.inl ⟨v, (T.setVm vm₁).calling g' mk (Value.ref b :: As).toArray, t, U', L, hT, X', hL, e1, e2, hq, st⟩
  · dsimp only [Pt.U, Pt.locs, Pt.cells, Pt.slots] at X' e1 e2 h1 h2 h3 st hcl
    subst h1; subst h2; subst h3
    exact Or.inr ⟨q, (T.setVm vm₁).calling g' mk (Value.ref b :: As).toArray, t, U', L, E, ce, hT, X', hL, e1, e2, hq, hce, hcv, vx_cls hW₁ hcl, st⟩
theorem vx_runS (S : CallFix p m c cc nL s args Ts own) (hM : vx_Met l y ws rm Pc Qc XC mc ms free) (cw : CallB R s args own index y bytes maxL ret ws rm mc ms n ∧ (Cond.static y).before args s = true) (hp : PreS s H Pc As)
    (hg : g.method = m) (hn : As.length = n) (hsize : g.locals.size = nL) (hstack : g.stack = As.reverse ++ rest) (hW : 2 * g.monitorRoom + (rest.map fun v => v.category).sum ≤ 8) (hdg : decode cc g.pc = .ok (.invokestatic index, 3)) (hf : cells + mc ≤ R.cells ∧ slots + ms ≤ R.slots) :
    vx_Run p l e R s m args below meth c H locs cells slots mc ms g rest (Qc As.toArray) XC free := by
  have hK : vx_Back l R p e below s args y 3 8 (PreOf R mc ms Pc) (PostOf Qc mc ms free) (vx_Post XC mc ms free) := vx_callBack cw.1 hM hp.1
  obtain ⟨⟨-, -, -, -, -, -, hcode, hini, hy, hlen, hl⟩, hstt⟩ := cw
  obtain ⟨hx, hb, hml, ho, -⟩ := S
  intro T hT X
  rcases vx_callS X hx (bytes := bytes) (maxL := maxL) (ret := ret) ho hl hstt hini hcode hy hK hg (hsize.trans hml.symm) (argsL := As) (rest := rest) (fun sig h => hn.trans (hlen sig h)) hstack hW (by rw [hb]; exact hdg)
    (fun vm₁ hW₁ => ⟨hf.1, hf.2, hp.2 (T.setVm vm₁) hT hW₁⟩) with ⟨v, vm₁, ⟨U', l2, c2, s2⟩, hW₁, X', ⟨g', mk, t, L, e1, e2, hq, h1, hL, h2, h3⟩, st⟩ | ⟨q, vm₁, ⟨U', l2, c2, s2⟩, hW₁, X', ⟨g', mk, t, L, E, ce, e1, e2, hq, hce, hcv, hcl, h1, hL, h2, h3⟩, st⟩
  · dsimp only [Pt.U, Pt.locs, Pt.cells, Pt.slots] at X' e1 e2 h1 h2 h3 st
    subst h1; subst h2; subst h3
    exact Or.inl ⟨v, (T.setVm vm₁).calling g' mk As.toArray, t, U', L, hT, X', hL, e1, e2, hq, st⟩
  · dsimp only [Pt.U, Pt.locs, Pt.cells, Pt.slots] at X' e1 e2 h1 h2 h3 st hcl
    subst h1; subst h2; subst h3
    exact Or.inr ⟨q, (T.setVm vm₁).calling g' mk As.toArray, t, U', L, E, ce, hT, X', hL, e1, e2, hq, hce, hcv, vx_cls hW₁ hcl, st⟩
end Runs
section Rows
variable {p : Program} {l : Launch} {e : Env} {R : Room} {s : State} {m : MethodId} {args : Array Value} {below : List Frame} {meth : Method} {c : Code} {H : Heap} {locs : List Loc} {cells slots : Nat} {Q : State → Prop}
variable {mc ms : Nat} {free : Addr → Prop} {A0 A1 : Nat → Prop} {H0 : Heap} {a : Array Value} {pc : Nat} {ls : Array Slot} {st0 rest : List Value}
theorem vx_keep {st₀ t T' : State} {L : List Loc} (h0 : st₀.heap = H) (e1 : T'.heap = t.heap) (hS : va_S A0 H0 H locs) (hA : ∀ q, q < H.size → A1 q → A0 q) (hf : ∀ q, free q → A0 q) (hL : ∀ q ∈ L, free q.base) (hF : va_F A1 st₀ t) :
    H.size ≤ T'.heap.size ∧ (∀ q : Nat, q < H.size → ¬ A1 q → T'.heap[q]? = H[q]?) ∧ va_S A0 H0 T'.heap (locs ++ L) := by
  obtain ⟨hz, hk⟩ := hF
  rw [h0] at hz hk
  exact ⟨by rw [e1]; exact hz, fun q h1 h2 => by rw [e1]; exact hk q h1 h2,
    ⟨Nat.le_trans hS.1 (by rw [e1]; exact hz), fun q h1 h2 => by rw [e1, hk q (Nat.lt_of_lt_of_le h1 hS.1) (fun z => h2 (hA q (Nat.lt_of_lt_of_le h1 hS.1) z))]; exact hS.2.1 q h1 h2, fun q hq => by
      rcases List.mem_append.mp hq with h | h
      · exact hS.2.2 q h
      · exact hf _ (hL q h)⟩⟩
theorem vx_calli {S SX : Type} {post : Int32 → S → Prop} {px : SX → Prop} {B : S → State → Prop} {BX : String → SX → State → Prop} {AX : Nat → Prop} (hr : vx_Run p l e R s m args below meth c H locs cells slots mc ms (F0 m pc ls st0) rest (va_Qi post B A1 a) (vx_X px BX AX) free) (hS : va_S A0 H0 H locs) (hA : ∀ q, q < H.size → A1 q → A0 q) (hf : ∀ q, free q → A0 q) (hAX : ∀ q, q < H.size → AX q → A0 q)
    (kx : ∀ (E : String) (ce : Cell) (q9 : Addr) (u : SX) (t : State) (H1 : Heap) (locs1 : List Loc), t.heap = H1 → s.vm.Alike t.vm → px u → BX E u t → H.size ≤ H1.size → (∀ q : Nat, q < H.size → ¬ AX q → H1[q]? = H[q]?) → va_S A0 H0 H1 locs1 → H1[q9]? = some ce → ce.vm = .none → s.vm.findClass E = some ce.cls → vx_W p l e R s m args below meth c H1 locs1 (cells + mc) (slots + ms) Q (F0 m pc ls rest) q9)
    (kk : ∀ (r : Int32) (u : S) (t : State) (H1 : Heap) (locs1 : List Loc), t.heap = H1 → s.vm.Alike t.vm → post r u → B u t → H.size ≤ H1.size → (∀ q : Nat, q < H.size → ¬ A1 q → H1[q]? = H[q]?) → va_S A0 H0 H1 locs1 → W p l e R s m args below meth c H1 locs1 (cells + mc) (slots + ms) Q (F0 m (pc + 3) ls (.int r :: rest))) : W p l e R s m args below meth c H locs cells slots Q (F0 m pc ls st0) := by
  intro T hT X
  rcases hr T hT X with ⟨v, st₀, t, T', L, h0, X', hL, e1, e2, ⟨⟨r, u, hv, hp, hb⟩, hF⟩, st⟩ | ⟨q, st₀, t, T', L, E, ce, h0, X', hL, e1, e2, ⟨u, hp, hb, hF⟩, hce, hcv, hcl, st⟩
  · cases hv
    obtain ⟨k1, k2, k3⟩ := vx_keep h0 e1 hS hA hf hL hF
    obtain ⟨t2, a1, b1⟩ := kk r u t T'.heap (locs ++ L) e1.symm (by rw [← e2]; exact X'.warmed.alike) hp hb k1 k2 k3 T' rfl X'
    exact ⟨t2, st t2 a1, b1⟩
  · obtain ⟨k1, k2, k3⟩ := vx_keep h0 e1 hS hAX hf hL hF
    obtain ⟨t2, a1, b1⟩ := kx E ce q u t T'.heap (locs ++ L) e1.symm (by rw [← e2]; exact X'.warmed.alike) hp hb k1 k2 k3 (by rw [e1]; exact hce) hcv hcl T' rfl X'
    exact ⟨t2, st.trans a1, b1⟩
theorem vx_calll {S SX : Type} {post : Int64 → S → Prop} {px : SX → Prop} {B : S → State → Prop} {BX : String → SX → State → Prop} {AX : Nat → Prop} (hr : vx_Run p l e R s m args below meth c H locs cells slots mc ms (F0 m pc ls st0) rest (va_Ql post B A1 a) (vx_X px BX AX) free) (hS : va_S A0 H0 H locs) (hA : ∀ q, q < H.size → A1 q → A0 q) (hf : ∀ q, free q → A0 q) (hAX : ∀ q, q < H.size → AX q → A0 q)
    (kx : ∀ (E : String) (ce : Cell) (q9 : Addr) (u : SX) (t : State) (H1 : Heap) (locs1 : List Loc), t.heap = H1 → s.vm.Alike t.vm → px u → BX E u t → H.size ≤ H1.size → (∀ q : Nat, q < H.size → ¬ AX q → H1[q]? = H[q]?) → va_S A0 H0 H1 locs1 → H1[q9]? = some ce → ce.vm = .none → s.vm.findClass E = some ce.cls → vx_W p l e R s m args below meth c H1 locs1 (cells + mc) (slots + ms) Q (F0 m pc ls rest) q9)
    (kk : ∀ (r : Int64) (u : S) (t : State) (H1 : Heap) (locs1 : List Loc), t.heap = H1 → s.vm.Alike t.vm → post r u → B u t → H.size ≤ H1.size → (∀ q : Nat, q < H.size → ¬ A1 q → H1[q]? = H[q]?) → va_S A0 H0 H1 locs1 → W p l e R s m args below meth c H1 locs1 (cells + mc) (slots + ms) Q (F0 m (pc + 3) ls (.long r :: rest))) : W p l e R s m args below meth c H locs cells slots Q (F0 m pc ls st0) := by
  intro T hT X
  rcases hr T hT X with ⟨v, st₀, t, T', L, h0, X', hL, e1, e2, ⟨⟨r, u, hv, hp, hb⟩, hF⟩, st⟩ | ⟨q, st₀, t, T', L, E, ce, h0, X', hL, e1, e2, ⟨u, hp, hb, hF⟩, hce, hcv, hcl, st⟩
  · cases hv
    obtain ⟨k1, k2, k3⟩ := vx_keep h0 e1 hS hA hf hL hF
    obtain ⟨t2, a1, b1⟩ := kk r u t T'.heap (locs ++ L) e1.symm (by rw [← e2]; exact X'.warmed.alike) hp hb k1 k2 k3 T' rfl X'
    exact ⟨t2, st t2 a1, b1⟩
  · obtain ⟨k1, k2, k3⟩ := vx_keep h0 e1 hS hAX hf hL hF
    obtain ⟨t2, a1, b1⟩ := kx E ce q u t T'.heap (locs ++ L) e1.symm (by rw [← e2]; exact X'.warmed.alike) hp hb k1 k2 k3 (by rw [e1]; exact hce) hcv hcl T' rfl X'
    exact ⟨t2, st.trans a1, b1⟩
theorem vx_callf {S SX : Type} {post : UInt32 → S → Prop} {px : SX → Prop} {B : S → State → Prop} {BX : String → SX → State → Prop} {AX : Nat → Prop} (hr : vx_Run p l e R s m args below meth c H locs cells slots mc ms (F0 m pc ls st0) rest (va_Qf post B A1 a) (vx_X px BX AX) free) (hS : va_S A0 H0 H locs) (hA : ∀ q, q < H.size → A1 q → A0 q) (hf : ∀ q, free q → A0 q) (hAX : ∀ q, q < H.size → AX q → A0 q)
    (kx : ∀ (E : String) (ce : Cell) (q9 : Addr) (u : SX) (t : State) (H1 : Heap) (locs1 : List Loc), t.heap = H1 → s.vm.Alike t.vm → px u → BX E u t → H.size ≤ H1.size → (∀ q : Nat, q < H.size → ¬ AX q → H1[q]? = H[q]?) → va_S A0 H0 H1 locs1 → H1[q9]? = some ce → ce.vm = .none → s.vm.findClass E = some ce.cls → vx_W p l e R s m args below meth c H1 locs1 (cells + mc) (slots + ms) Q (F0 m pc ls rest) q9)
    (kk : ∀ (r : UInt32) (u : S) (t : State) (H1 : Heap) (locs1 : List Loc), t.heap = H1 → s.vm.Alike t.vm → post r u → B u t → H.size ≤ H1.size → (∀ q : Nat, q < H.size → ¬ A1 q → H1[q]? = H[q]?) → va_S A0 H0 H1 locs1 → W p l e R s m args below meth c H1 locs1 (cells + mc) (slots + ms) Q (F0 m (pc + 3) ls (.float r :: rest))) : W p l e R s m args below meth c H locs cells slots Q (F0 m pc ls st0) := by
  intro T hT X
  rcases hr T hT X with ⟨v, st₀, t, T', L, h0, X', hL, e1, e2, ⟨⟨r, u, hv, hp, hb⟩, hF⟩, st⟩ | ⟨q, st₀, t, T', L, E, ce, h0, X', hL, e1, e2, ⟨u, hp, hb, hF⟩, hce, hcv, hcl, st⟩
  · cases hv
    obtain ⟨k1, k2, k3⟩ := vx_keep h0 e1 hS hA hf hL hF
    obtain ⟨t2, a1, b1⟩ := kk r u t T'.heap (locs ++ L) e1.symm (by rw [← e2]; exact X'.warmed.alike) hp hb k1 k2 k3 T' rfl X'
    exact ⟨t2, st t2 a1, b1⟩
  · obtain ⟨k1, k2, k3⟩ := vx_keep h0 e1 hS hAX hf hL hF
    obtain ⟨t2, a1, b1⟩ := kx E ce q u t T'.heap (locs ++ L) e1.symm (by rw [← e2]; exact X'.warmed.alike) hp hb k1 k2 k3 (by rw [e1]; exact hce) hcv hcl T' rfl X'
    exact ⟨t2, st.trans a1, b1⟩
theorem vx_calld {S SX : Type} {post : UInt64 → S → Prop} {px : SX → Prop} {B : S → State → Prop} {BX : String → SX → State → Prop} {AX : Nat → Prop} (hr : vx_Run p l e R s m args below meth c H locs cells slots mc ms (F0 m pc ls st0) rest (va_Qd post B A1 a) (vx_X px BX AX) free) (hS : va_S A0 H0 H locs) (hA : ∀ q, q < H.size → A1 q → A0 q) (hf : ∀ q, free q → A0 q) (hAX : ∀ q, q < H.size → AX q → A0 q)
    (kx : ∀ (E : String) (ce : Cell) (q9 : Addr) (u : SX) (t : State) (H1 : Heap) (locs1 : List Loc), t.heap = H1 → s.vm.Alike t.vm → px u → BX E u t → H.size ≤ H1.size → (∀ q : Nat, q < H.size → ¬ AX q → H1[q]? = H[q]?) → va_S A0 H0 H1 locs1 → H1[q9]? = some ce → ce.vm = .none → s.vm.findClass E = some ce.cls → vx_W p l e R s m args below meth c H1 locs1 (cells + mc) (slots + ms) Q (F0 m pc ls rest) q9)
    (kk : ∀ (r : UInt64) (u : S) (t : State) (H1 : Heap) (locs1 : List Loc), t.heap = H1 → s.vm.Alike t.vm → post r u → B u t → H.size ≤ H1.size → (∀ q : Nat, q < H.size → ¬ A1 q → H1[q]? = H[q]?) → va_S A0 H0 H1 locs1 → W p l e R s m args below meth c H1 locs1 (cells + mc) (slots + ms) Q (F0 m (pc + 3) ls (.double r :: rest))) : W p l e R s m args below meth c H locs cells slots Q (F0 m pc ls st0) := by
  intro T hT X
  rcases hr T hT X with ⟨v, st₀, t, T', L, h0, X', hL, e1, e2, ⟨⟨r, u, hv, hp, hb⟩, hF⟩, st⟩ | ⟨q, st₀, t, T', L, E, ce, h0, X', hL, e1, e2, ⟨u, hp, hb, hF⟩, hce, hcv, hcl, st⟩
  · cases hv
    obtain ⟨k1, k2, k3⟩ := vx_keep h0 e1 hS hA hf hL hF
    obtain ⟨t2, a1, b1⟩ := kk r u t T'.heap (locs ++ L) e1.symm (by rw [← e2]; exact X'.warmed.alike) hp hb k1 k2 k3 T' rfl X'
    exact ⟨t2, st t2 a1, b1⟩
  · obtain ⟨k1, k2, k3⟩ := vx_keep h0 e1 hS hAX hf hL hF
    obtain ⟨t2, a1, b1⟩ := kx E ce q u t T'.heap (locs ++ L) e1.symm (by rw [← e2]; exact X'.warmed.alike) hp hb k1 k2 k3 (by rw [e1]; exact hce) hcv hcl T' rfl X'
    exact ⟨t2, st.trans a1, b1⟩
theorem vx_callv {S SX : Type} {post : S → Prop} {px : SX → Prop} {B : S → State → Prop} {BX : String → SX → State → Prop} {AX : Nat → Prop} (hr : vx_Run p l e R s m args below meth c H locs cells slots mc ms (F0 m pc ls st0) rest (va_Qv post B A1 a) (vx_X px BX AX) free) (hS : va_S A0 H0 H locs) (hA : ∀ q, q < H.size → A1 q → A0 q) (hf : ∀ q, free q → A0 q) (hAX : ∀ q, q < H.size → AX q → A0 q)
    (kx : ∀ (E : String) (ce : Cell) (q9 : Addr) (u : SX) (t : State) (H1 : Heap) (locs1 : List Loc), t.heap = H1 → s.vm.Alike t.vm → px u → BX E u t → H.size ≤ H1.size → (∀ q : Nat, q < H.size → ¬ AX q → H1[q]? = H[q]?) → va_S A0 H0 H1 locs1 → H1[q9]? = some ce → ce.vm = .none → s.vm.findClass E = some ce.cls → vx_W p l e R s m args below meth c H1 locs1 (cells + mc) (slots + ms) Q (F0 m pc ls rest) q9)
    (kk : ∀ (u : S) (t : State) (H1 : Heap) (locs1 : List Loc), t.heap = H1 → s.vm.Alike t.vm → post u → B u t → H.size ≤ H1.size → (∀ q : Nat, q < H.size → ¬ A1 q → H1[q]? = H[q]?) → va_S A0 H0 H1 locs1 → W p l e R s m args below meth c H1 locs1 (cells + mc) (slots + ms) Q (F0 m (pc + 3) ls (rest))) : W p l e R s m args below meth c H locs cells slots Q (F0 m pc ls st0) := by
  intro T hT X
  rcases hr T hT X with ⟨v, st₀, t, T', L, h0, X', hL, e1, e2, ⟨⟨u, hv, hp, hb⟩, hF⟩, st⟩ | ⟨q, st₀, t, T', L, E, ce, h0, X', hL, e1, e2, ⟨u, hp, hb, hF⟩, hce, hcv, hcl, st⟩
  · cases hv
    obtain ⟨k1, k2, k3⟩ := vx_keep h0 e1 hS hA hf hL hF
    obtain ⟨t2, a1, b1⟩ := kk u t T'.heap (locs ++ L) e1.symm (by rw [← e2]; exact X'.warmed.alike) hp hb k1 k2 k3 T' rfl X'
    exact ⟨t2, st t2 a1, b1⟩
  · obtain ⟨k1, k2, k3⟩ := vx_keep h0 e1 hS hAX hf hL hF
    obtain ⟨t2, a1, b1⟩ := kx E ce q u t T'.heap (locs ++ L) e1.symm (by rw [← e2]; exact X'.warmed.alike) hp hb k1 k2 k3 (by rw [e1]; exact hce) hcv hcl T' rfl X'
    exact ⟨t2, st.trans a1, b1⟩
/-- caught by the row x of this method's table; the rows ahead don't take it -/
theorem vx_catch {own name : String} {E : String} {ce : Cell} {q : Addr} (hown : s.vm.findClass own = some m.cls) (pre : List ExceptionTableEntry) (x : ExceptionTableEntry) (suf : List ExceptionTableEntry) (hsplit : c.exceptionTable.toList = pre ++ x :: suf)
    (hpass : ∀ z ∈ pre, covers z pc = false ∨ (z.catchType ≠ 0 ∧ ∃ nm : String, (Cond.classLink own z.catchType nm).before args s = true ∧ va_Nc E nm s)) (hx : covers x pc = true) (h0 : x.catchType ≠ 0)
    (hlink : (Cond.classLink own x.catchType name).before args s = true) (hcast : (Cond.castable E name).before args s = true) (hcell : H[q]? = some ce) (hv : ce.vm = .none) (hcl : s.vm.findClass E = some ce.cls)
    (kk : W p l e R s m args below meth c H locs cells slots Q (F0 m x.handlerPc ls [.ref q])) : vx_W p l e R s m args below meth c H locs cells slots Q (F0 m pc ls rest) q := by
  intro T hT X
  have hpl : e.platform.magicAccessors = ({} : Platform).magicAccessors := by rw [X.admits.platform]
  obtain ⟨c3, c4, hc3, hc4, hasg⟩ := Cond.castable_spec hcast
  cases Option.some.inj (hc3.symm.trans hcl)
  obtain ⟨c5, hc5, hcl5⟩ := Cond.classLink_spec hown hlink e.platform hpl
  cases Option.some.inj (hc4.symm.trans hc5)
  obtain ⟨vm', X', st⟩ := X.thenCaughtThrough q (g := F0 m pc ls rest) rfl (Steps.refl _) (by rw [hT]; exact hcell) (by rw [hv]; rfl) (by obtain ⟨k9, h9, -⟩ := Vm.findClass_spec hcl; exact ⟨k9, h9⟩) pre x suf hsplit
    (fun z hz => by
      rcases hpass z hz with h | ⟨hz0, nm, hl1, hn1⟩
      · exact Or.inl h
      · obtain ⟨c6, hc6, hcl6⟩ := Cond.classLink_spec hown hl1 e.platform hpl
        obtain ⟨a8, b8, h1, h2, h3⟩ := hn1
        cases Option.some.inj (h1.symm.trans hcl)
        cases Option.some.inj (h2.symm.trans hc6)
        exact Or.inr ⟨hz0, _, hcl6, h3⟩) hx (Or.inr ⟨h0, c4, hcl5, hasg⟩)
  obtain ⟨t, a1, b1⟩ := kk (T.setVm vm') hT X'
  exact ⟨t, st.trans a1, b1⟩
end Rows
section Ends
variable {p : Program} {l : Launch} {e : Env} {R : Room} {s : State} {m : MethodId} {args : Array Value} {below : List Frame} {meth : Method} {c : Code} {H : Heap} {locs : List Loc} {cells slots : Nat} {Q : State → Prop}
variable {mc ms : Nat} {free : Addr → Prop} {A0 A1 : Nat → Prop} {H0 : Heap} {a : Array Value} {ls : Array Slot} {st0 rest : List Value}
variable {Qc : Array Value → State → Outcome → State → Prop} {XC : String → State → State → Prop}
/-- what a body that may throw owes at its end -/
def vx_MQ (below : List Frame) (Qc : Array Value → State → Outcome → State → Prop) (XC : String → State → State → Prop) (a : Array Value) (s : State) (mc ms : Nat) (free : Addr → Prop) : State → Prop := fun t =>
  ∃ o, t.status = .running ∧ Ended t below o ∧ vx_Q Qc XC mc ms free a s o t
theorem vx_ret {g : JFrame} {mc ms : Nat} (k : W p l e R s m args below meth c H locs cells slots (MQ below Qc args s mc ms free) g) : W p l e R s m args below meth c H locs cells slots (vx_MQ below Qc XC args s mc ms free) g := by
  intro T hT X
  obtain ⟨t, a1, o, b1, b2, b3, b4⟩ := k T hT X
  exact ⟨t, a1, o, b1, b2, Or.inl ⟨b3, b4⟩⟩
/-- not caught here: it goes on to the caller -/
theorem vx_widen {g : JFrame} {q : Addr} {k n : Nat} (h1 : cells ≤ k) (h2 : slots ≤ n) (kk : vx_W p l e R s m args below meth c H locs k n Q g q) : vx_W p l e R s m args below meth c H locs cells slots Q g q := fun T hT X => kk T hT (stand_widen X h1 h2)
theorem vx_out {pc : Nat} {E : String} {ce : Cell} {q : Addr} {mc ms : Nat} (hout : ∀ x ∈ c.exceptionTable.toList, covers x pc = false) (hlocks : meth.locks = false) (hcell : H[q]? = some ce) (hv : ce.vm = .none) (hcl : s.vm.findClass E = some ce.cls)
    (hx : ∀ t : State, t.heap = H → s.vm.Alike t.vm → XC E s t) (hf : ∀ z ∈ locs, free z.base) (hc : cells ≤ mc) (hs : slots ≤ ms) :
    vx_W p l e R s m args below meth c H locs cells slots (vx_MQ below Qc XC args s mc ms free) (F0 m pc ls rest) q := by
  intro T hT X
  obtain ⟨st1, hrun, hend, hW, hsm⟩ := X.leaveThrown q (g := F0 m pc ls rest) rfl rfl rfl hout hlocks
  have hcell9 : (T.setFrames (.throwing q :: below)).heap[q]? = some ce := by
    show T.heap[q]? = some ce
    rw [hT]; exact hcell
  exact ⟨_, st1, .threw q, hrun, hend, Or.inr ⟨q, rfl, E, ce, locs, hx _ hT hW.alike, hcell9, hv, hcl, hW, hsm.mono hc hs, hf⟩⟩
theorem vx_frame {U : State} {k n : Nat} (h : s.sameButNew ({ U with vm := s.vm } : State) locs k n) : s.heap.size ≤ U.heap.size ∧ ∀ q : Nat, q < s.heap.size → (∀ z ∈ locs, z.base ≠ q) → U.heap[q]? = s.heap[q]? := by
  obtain ⟨-, h2, -, -, -, h6⟩ := h
  refine ⟨h2, fun q hq hz => ?_⟩
  obtain ⟨c9, e1, e2, e3, e4⟩ := h6 q _ (Array.getElem?_eq_getElem hq)
  have hs : c9.slots = (s.heap[q]).slots := Array.ext_getElem? fun i => e4 i fun hm => hz _ hm rfl
  have h9 : c9 = s.heap[q] := by
    rw [hs] at e2
    exact e2
  have e5 : U.heap[q]? = some c9 := e1
  rw [e5, h9, Array.getElem?_eq_getElem hq]
/-- the words of a throw but the four that speak of the heap -/
def vx_no (w : Cond) : Bool := decide (w ≠ .isRef (.static Bundle.tN "UNASSIGNED_STACK" Bundle.steD)) && decide (w ≠ .isRef (.static Bundle.tN "SUPPRESSED_SENTINEL" Bundle.listD)) && decide (w ≠ .laysStatic Bundle.tN "UNASSIGNED_STACK" Bundle.steD) && decide (w ≠ .laysStatic Bundle.tN "SUPPRESSED_SENTINEL" Bundle.listD)
def vx_at0 (own : String) (ic : Nat) (X : String) (names : List String) : List Cond := (Bundle.ownAtoms0 own ic X names).filter vx_no
def vx_atS (own : String) (ic : Nat) (X : String) (names : List String) : List Cond := (Bundle.ownAtoms own ic X names).filter vx_no
/-- a word that the tables alone decide, or a good one -/
def vx_ot (w : Cond) : Bool := w.onTables || goodWord w
theorem vx_ot_at {args a' : Array Value} {s U : State} {w : Cond} (hW : s.WarmedH U.vm) (hvm : s.vm = U.vm) (hg : vx_ot w = true) (h : w.before args s = true) : w.before a' U = true := by
  simp only [vx_ot, Bool.or_eq_true] at hg
  rcases hg with hg | hg
  · exact va_tabs hg hvm h
  · exact word_at hW (good_of_word hg) h
/-- a list's words: the good ones out of the method's own list, the others by premises of their own -/
theorem vx_hat {args : Array Value} {s : State} {L B : List Cond} (h1 : ∀ w ∈ L.filter goodWord, w.before args s = true) (h2 : ∀ w ∈ L.filter (fun w => !goodWord w), w ∈ B) (h3 : ∀ w ∈ B, w.before args s = true) : ∀ w ∈ L, w.before args s = true := by
  intro w hw
  by_cases g : goodWord w = true
  · exact h1 w (List.mem_filter.mpr ⟨hw, g⟩)
  · refine h3 w (h2 w (List.mem_filter.mpr ⟨hw, ?_⟩))
    show (!goodWord w) = true
    cases hgw : goodWord w
    · rfl
    · exact absurd hgw g
theorem vx_c {args : Array Value} {s : State} {w : Cond} {B : List Cond} (h : w.before args s = true) (t : ∀ w ∈ B, w.before args s = true) : ∀ w' ∈ w :: B, w'.before args s = true := fun w' h' => (List.mem_cons.mp h').elim (fun e => by rw [e]; exact h) (t w')
theorem vx_n {args : Array Value} {s : State} : ∀ w ∈ ([] : List Cond), w.before args s = true := fun _ h => nomatch h
theorem vx_own {args : Array Value} {s : State} {L : List Cond} (h1 : ∀ w ∈ L.filter vx_no, w.before args s = true)
    (hU : (Cond.isRef (.static Bundle.tN "UNASSIGNED_STACK" Bundle.steD)).before args s = true) (hN : (Cond.isRef (.static Bundle.tN "SUPPRESSED_SENTINEL" Bundle.listD)).before args s = true)
    (lU : (Cond.laysStatic Bundle.tN "UNASSIGNED_STACK" Bundle.steD).before args s = true) (lN : (Cond.laysStatic Bundle.tN "SUPPRESSED_SENTINEL" Bundle.listD).before args s = true) : ∀ w ∈ L, w.before args s = true := by
  intro w hw
  by_cases e1 : w = .isRef (.static Bundle.tN "UNASSIGNED_STACK" Bundle.steD)
  · rw [e1]; exact hU
  · by_cases e2 : w = .isRef (.static Bundle.tN "SUPPRESSED_SENTINEL" Bundle.listD)
    · rw [e2]; exact hN
    · by_cases e3 : w = .laysStatic Bundle.tN "UNASSIGNED_STACK" Bundle.steD
      · rw [e3]; exact lU
      · by_cases e4 : w = .laysStatic Bundle.tN "SUPPRESSED_SENTINEL" Bundle.listD
        · rw [e4]; exact lN
        · exact h1 w (List.mem_filter.mpr ⟨hw, by unfold vx_no; rw [decide_eq_true e1, decide_eq_true e2, decide_eq_true e3, decide_eq_true e4]; rfl⟩)
/-- where a static field lies, its class's statics cell in H -/
def vx_L (C n d : String) (A : Nat → Prop) (U : State) (H : Heap) : Prop := ∃ (c : ClassId) (k : Class) (i : Nat) (f : Field) (a : Nat) (cell : Cell), U.vm.findClass C = some c ∧ U.fieldFound? C n d = some (c, k, i, f) ∧ f.isStatic = true ∧ k.statics = some a ∧ H[a]? = some cell ∧ cell.vm.isStatics = true ∧ cell.cls = c ∧ f.slot < cell.slots.size ∧ k.staticTypes[f.slot]? = some f.type ∧ ¬ A a
theorem vx_L.moved {C n d : String} {A : Nat → Prop} {u U : State} {H : Heap} (hvm : u.vm.Alike U.vm) (h : vx_L C n d A u H) : vx_L C n d A U H := by
  obtain ⟨c, k, i, f, a, cell, h1, h2, h3, h4, h5, h6, h7, h8, h9, h10⟩ := h
  obtain ⟨k', hi', he⟩ := State.fieldFound?_setVm hvm h2
  exact ⟨c, k', i, f, a, cell, by rw [hvm.findClass]; exact h1, hi', h3, by rw [he]; exact h4, h5, h6, h7, h8, by rw [he]; exact h9, h10⟩
theorem vx_L.kept {C n d : String} {A : Nat → Prop} {U : State} {H H1 : Heap} (h : vx_L C n d A U H) (hq : ∀ a : Nat, a < H.size → ¬ A a → H1[a]? = H[a]?) : vx_L C n d A U H1 := by
  obtain ⟨c, k, i, f, a, cell, h1, h2, h3, h4, h5, h6, h7, h8, h9, h10⟩ := h
  exact ⟨c, k, i, f, a, cell, h1, h2, h3, h4, by rw [hq a (Array.getElem?_eq_some_iff.mp h5).1 h10]; exact h5, h6, h7, h8, h9, h10⟩
theorem vx_L.narrow {C n d : String} {A B : Nat → Prop} {U : State} {H : Heap} (h : vx_L C n d A U H) (hAB : ∀ q, B q → A q) : vx_L C n d B U H := by
  obtain ⟨c, k, i, f, a, cell, h1, h2, h3, h4, h5, h6, h7, h8, h9, h10⟩ := h
  exact ⟨c, k, i, f, a, cell, h1, h2, h3, h4, h5, h6, h7, h8, h9, fun z => h10 (hAB _ z)⟩
theorem vx_L.word {C n d : String} {A : Nat → Prop} {s : State} {args : Array Value} (h : vx_L C n d A s s.heap) : (Cond.laysStatic C n d).before args s = true := by
  obtain ⟨c, k, i, f, a, cell, h1, h2, h3, h4, h5, h6, h7, h8, h9, -⟩ := h
  show (Cond.laysStatic C n d).holds args s none s [] = true
  exact Cond.laysStatic_of h1 h2 h3 h4 h5 h6 h7 h8 h9
/-- .. and what it holds: null or some reference -/
def vx_Zq (C n d : String) (A : Nat → Prop) (U : State) (H : Heap) : Prop := va_Zq C n d A U H ∧ vx_L C n d A U H
theorem vx_Zq.moved {C n d : String} {A : Nat → Prop} {u U : State} {H : Heap} (hvm : u.vm.Alike U.vm) (h : vx_Zq C n d A u H) : vx_Zq C n d A U H := ⟨va_Zq.moved hvm h.1, vx_L.moved hvm h.2⟩
theorem vx_Zq.kept {C n d : String} {A : Nat → Prop} {U : State} {H H1 : Heap} (h : vx_Zq C n d A U H) (hq : ∀ a : Nat, a < H.size → ¬ A a → H1[a]? = H[a]?) : vx_Zq C n d A U H1 := ⟨va_Zq.kept h.1 hq, vx_L.kept h.2 hq⟩
theorem vx_Zq.narrow {C n d : String} {A B : Nat → Prop} {U : State} {H : Heap} (h : vx_Zq C n d A U H) (hAB : ∀ q, B q → A q) : vx_Zq C n d B U H := ⟨va_Zq.narrow h.1 hAB, vx_L.narrow h.2 hAB⟩
theorem vx_Zqof {args : Array Value} {s : State} {C n d : String} {A : Nat → Prop} (hl : (Cond.laysStatic C n d).before args s = true) (hini : (Cond.initialized C).before args s = true) (h : (Cond.isRef (.static C n d)).before args s = true) (hA : ∀ a : Nat, a < s.heap.size → ¬ A a) : vx_Zq C n d A s s.heap := by
  refine ⟨va_Zqof hl hini h hA, ?_⟩
  obtain ⟨c, k, i, f, a, cell, h1, h2, h3, h4, h5, h6, h7, h8, h9⟩ := Cond.laysStatic_spec hl
  exact ⟨c, k, i, f, a, cell, h1, h2, h3, h4, h5, h6, h7, h8, h9, hA a (Array.getElem?_eq_some_iff.mp h5).1⟩
theorem vx_isRef {C n d : String} {v : Value} {A : Nat → Prop} {s : State} {args : Array Value} (h : va_Z C n d v A s s.heap) (hv : v.isRef = true) : (Cond.isRef (.static C n d)).before args s = true := by
  obtain ⟨cf, kf, fi, f, a, cell, h1, h2, h3, h4, h5, h6, h7, -⟩ := h
  have he : (Term.static C n d).eval args s none [] s = some v := by
    simp [Term.eval, State.fieldNamed?, h1, h2, h4, h5, h6, h7]
  simp only [Cond.before, Cond.holds, Cond.value, he]
  cases v <;> simp_all [Value.isRef]
theorem vx_isRefq {C n d : String} {A : Nat → Prop} {s : State} {args : Array Value} (h : va_Zq C n d A s s.heap) : (Cond.isRef (.static C n d)).before args s = true := by
  rcases h with h | ⟨t, h⟩
  · exact vx_isRef h rfl
  · exact vx_isRef h rfl
/-- the same frame, seen from here: as if the method were called anew in this heap -/
theorem vx_rebase {T : State} (X : Stand p l e R s m args below meth c T locs cells slots) {R' : Room} (hf : R'.frames ≤ R.frames) (hl : R'.locals ≤ R.locals) (hc : cells + R'.cells ≤ R.cells) (hs : slots + R'.slots ≤ R.slots) :
    Stand p l e R' ((T.setVm s.vm).setFrames (.invoking m args :: below)) m args below meth c T [] 0 0 := by
  have htop : (T.setVm s.vm).topJava?.isSome := X.here.top
  have hF : ((T.setVm s.vm).setFrames (.invoking m args :: below)).frames = .invoking m args :: below := State.frames_setFrames _ (State.cur_lt_of_top htop)
  obtain ⟨g₀, hg0⟩ := Option.isSome_iff_exists.mp htop
  obtain ⟨r, hr⟩ := State.topJava?_eq_some.mp hg0
  have hl9 : e.platform.stackLimits (T.setVm s.vm).me = e.platform.stackLimits s.me := X.limits
  have hb9 : (T.setVm s.vm).me.stackBytes = s.me.stackBytes := X.bytes
  refine ⟨X.admits, X.cas, X.clock, hF, ?_, X.hears, X.method, X.code, X.here, X.tail, X.warmed, ?_, ?_, ?_⟩
  · have h := X.room
    have hU : ((T.setVm s.vm).setFrames (.invoking m args :: below)).localsInUse = s.localsInUse := by
      rw [State.localsInUse_invoking hF (meth := meth) (c := c) X.method X.code, State.localsInUse_invoking X.frames X.method X.code]
    simp only [State.hasRoom, Bool.and_eq_true, decide_eq_true_eq] at h ⊢
    obtain ⟨⟨⟨⟨h1, h2, h3, h4, h5, h6⟩, h7⟩, h8⟩, h9⟩ := h
    rw [X.frames, List.length_cons] at h2 h3
    have q1 := X.heapSize
    have q2 := X.used
    simp only [hF, hU, List.length_cons, State.stackLimits_setFrames, State.stackBytes_setFrames, hl9, hb9]
    refine ⟨⟨⟨⟨by omega, by omega, by omega, by omega, by omega, h6⟩, ?_⟩, ?_⟩, X.book⟩
    · show T.heap.size + R'.cells ≤ e.platform.maxCells
      omega
    · show T.slotsUsed + R'.slots ≤ e.platform.maxSlots
      omega
  · rw [State.stackLimits_setFrames]; rfl
  · rw [State.stackBytes_setFrames]; rfl
  · refine ⟨?_, Nat.le_refl _, Nat.le_refl _, ?_, ?_, fun a c9 h9 => ⟨c9, h9, rfl, rfl, fun _ _ => rfl⟩⟩
    · obtain ⟨t, ht, -⟩ := State.frames_cons hr
      show T.setVm s.vm = { ((T.setVm s.vm).setFrames (.invoking m args :: below)).setFrames (T.setVm s.vm).frames with heap := T.heap, slotsUsed := T.slotsUsed }
      rw [State.setFrames_setFrames, State.setFrames_self ht]
      rfl
    · show T.slotsUsed = T.slotsUsed + ((T.heap.toList.drop T.heap.size).map (·.slots.size)).sum
      rw [List.drop_eq_nil_of_le (Nat.le_of_eq Array.length_toList)]
      rfl
    · show ((T.heap.toList.drop T.heap.size).map (·.slots.size)).sum ≤ 0
      rw [List.drop_eq_nil_of_le (Nat.le_of_eq Array.length_toList)]
      exact Nat.le_refl _
/-- 'throw new E()': new; dup; invokespecial; athrow -/
theorem vx_throw0 {cc : ByteArray} {pc : Nat} (hexec : p.tables.exec = Jvm.exec) (hb : c.code = cc) (hl : l.stackTraces = false) {own cls : String} {names : List String} {ik ic mc ms : Nat} {A : Nat → Prop}
    (hown : s.vm.findClass own = some m.cls) (hcls : Bundle.fit cls = true) (hnames : ∀ n ∈ names, Bundle.fit n = true)
    (hk : (Cond.classLink own ik cls).before args s = true) (hini : (Cond.initialized cls).before args s = true) (hat : ∀ w ∈ vx_at0 own ic cls names, w.before args s = true)
    (hgood : ∀ w ∈ Cond.classLink own ik cls :: Cond.initialized cls :: vx_at0 own ic cls names, vx_ot w = true)
    (hU : vx_Zq Bundle.tN "UNASSIGNED_STACK" Bundle.steD A s s.heap) (hN : vx_Zq Bundle.tN "SUPPRESSED_SENTINEL" Bundle.listD A s s.heap) (hS : va_S A s.heap H locs) (hsize : ls.size = c.maxLocals)
    (d0 : decode cc pc = .ok (.new ik, 3)) (d3 : decode cc (pc + 3) = .ok (.dup, 1)) (d4 : decode cc (pc + 4) = .ok (.invokespecial ic, 3)) (d7 : decode cc (pc + 7) = .ok (.athrow, 1))
    (hout : ∀ x ∈ c.exceptionTable.toList, covers x (pc + 7) = false)
    (hRframes : names.length + 3 < R.frames) (hRlocals : (rest.map fun v => v.category).sum + (13 * (names.length + 1) + 42) ≤ R.locals) (hRcells : cells + 1 ≤ R.cells) (hRslots : slots + 6 ≤ R.slots) (hlocks : meth.locks = false)
    (hx : ∀ t : State, s.vm.Alike t.vm → H.size ≤ t.heap.size → (∀ q : Nat, q < H.size → t.heap[q]? = H[q]?) → XC cls s t)
    (hf : ∀ z ∈ locs, free z.base) (hc : cells + 1 ≤ mc) (hs : slots + 6 ≤ ms) :
    W p l e R s m args below meth c H locs cells slots (vx_MQ below Qc XC args s mc ms free) (F0 m pc ls rest) := by
  intro T hT X
  have htr : e.platform.stackTraces = false := (show e.platform.stackTraces = l.stackTraces by rw [X.admits.platform]).trans hl
  have Y := vx_rebase X (R' := { frames := R.frames, locals := R.locals, cells := 1, slots := 6 }) (Nat.le_refl _) (Nat.le_refl _) hRcells hRslots
  obtain ⟨s', hA⟩ : ∃ z, z = (T.setVm s.vm).setFrames (.invoking m args :: below) := ⟨_, rfl⟩
  rw [← hA] at Y
  have hvm : s'.vm = s.vm := by rw [hA]; rfl
  have hhp : s'.heap = H := by rw [hA]; exact hT
  have hW0 : s.WarmedH s'.vm := by rw [hvm]; exact State.WarmedH.refl s
  have hat' : ∀ w ∈ vx_at0 own ic cls names, w.before args s' = true := fun w hw => vx_ot_at hW0 hvm.symm (hgood w (List.mem_cons_of_mem _ (List.mem_cons_of_mem _ hw))) (hat w hw)
  have hk' : (Cond.classLink own ik cls).before args s' = true := vx_ot_at hW0 hvm.symm (hgood _ List.mem_cons_self) hk
  have hini' : (Cond.initialized cls).before args s' = true := vx_ot_at hW0 hvm.symm (hgood _ (List.mem_cons_of_mem _ List.mem_cons_self)) hini
  have hU' : vx_Zq Bundle.tN "UNASSIGNED_STACK" Bundle.steD A s' s'.heap := by rw [hhp]; exact vx_Zq.moved hW0.alike (hU.kept hS.2.1)
  have hN' : vx_Zq Bundle.tN "SUPPRESSED_SENTINEL" Bundle.listD A s' s'.heap := by rw [hhp]; exact vx_Zq.moved hW0.alike (hN.kept hS.2.1)
  have h : ∀ w ∈ Bundle.ownAtoms0 own ic cls names, w.before args s' = true := vx_own hat' (vx_isRefq hU'.1) (vx_isRefq hN'.1) hU'.2.word hN'.2.word
  have hown' : s'.vm.findClass own = some m.cls := by rw [hvm]; exact hown
  have hins : (Cond.instantiable cls 6).before args s' = true := h _ (by simp [Bundle.ownAtoms0])
  obtain ⟨vm₁, cX, kX, hfX, hkX, -, -, X₁, st1⟩ := Y.newCold hexec (own := own) (C := cls) (index := ik) (n := 6) hown' hk' hins hini'
    (g := F0 m pc ls rest) rfl (by rw [hb]; exact d0) (Nat.le_refl _) (Nat.le_refl _)
  generalize hT1 : (T.setVm vm₁).pushCell { cls := cX, slots := kX.instanceTypes.map defaultValue, vm := .none } = T1 at X₁ st1
  have hcat : (Value.ref T.heap.size).category = 1 := rfl
  have hcellA : T1.heap[T.heap.size]? = some (freshCell cX kX) := by rw [← hT1]; exact State.heap_pushCell_size _ _
  have d3' : decode c.code (pc + 3) = .ok (.dup, 1) := by rw [hb]; exact d3
  obtain ⟨U, hsteps, hrun, hend, hW, hsame, ce, hce, hO⟩ := X₁.ctorThrow0 hexec htr (own := own) (cls := cls) (names := names) (ic := ic) hown' hcls hnames h (fun x hx => nomatch hx) hfX hkX hcellA (by rw [hhp, hT]; exact Nat.le_refl _)
    (g := { method := m, pc := pc + 4, locals := ls, stack := .ref T.heap.size :: .ref T.heap.size :: rest, locked := none }) rfl hsize rfl rfl (rest := rest) rfl
    (by rw [hb]; exact d4) (by rw [hb]; exact d7) hout hRframes (by simp only [List.map_cons, List.sum_cons, hcat]; omega) hlocks
  obtain ⟨f1, f2⟩ := vx_frame hsame
  rw [hhp] at f1 f2
  have hWs : s.WarmedH U.vm := State.WarmedH.trans hW0 hW
  have hcl : s.vm.findClass cls = some ce.cls := by
    have h9 := hO.cls
    rw [hvm] at h9
    exact h9
  have hall : s.sameButNew ({ U with vm := s.vm } : State) locs mc ms := by
    subst hA
    obtain ⟨e1, e2⟩ := hsame
    rw [State.setFrames_setFrames] at e1
    have h2 : (T.setVm s.vm).sameButNew ({ U with vm := s.vm } : State) [] (0 + 1) (0 + 6) := ⟨e1, e2⟩
    have h3 := X.same.trans h2
    rw [List.append_nil] at h3
    exact h3.mono hc hs
  refine ⟨U, ?_, .threw T.heap.size, hrun, hend, Or.inr ⟨T.heap.size, rfl, cls, ce, locs, hx U hWs.alike f1 (fun q hq => f2 q hq (fun z hz => nomatch hz)), hce, hO.vm, hcl, hWs, hall, hf⟩⟩
  refine st1 _ ?_
  show Steps p.tables e below (T1.setTop { method := m, pc := pc + 3, locals := ls, stack := .ref T.heap.size :: rest, locked := none }) _
  jvm_step X₁.here [X₁.here.top, hexec, d3', Value.category]
  exact hsteps
/-- 'throw new E("text")': new; dup; ldc; invokespecial; athrow -/
theorem vx_throwS {cc : ByteArray} {pc : Nat} (hexec : p.tables.exec = Jvm.exec) (hb : c.code = cc) (hl : l.stackTraces = false) {own cls text : String} {names : List String} {ik is ic mc ms sa : Nat} {A : Nat → Prop}
    (hown : s.vm.findClass own = some m.cls) (hcls : Bundle.fit cls = true) (hnames : ∀ n ∈ names, Bundle.fit n = true)
    (hk : (Cond.classLink own ik cls).before args s = true) (hini : (Cond.initialized cls).before args s = true) (hstr : vk_R own is text sa s) (hat : ∀ w ∈ vx_atS own ic cls names, w.before args s = true)
    (hgood : ∀ w ∈ Cond.classLink own ik cls :: Cond.initialized cls :: vx_atS own ic cls names, vx_ot w = true)
    (hU : vx_Zq Bundle.tN "UNASSIGNED_STACK" Bundle.steD A s s.heap) (hN : vx_Zq Bundle.tN "SUPPRESSED_SENTINEL" Bundle.listD A s s.heap) (hS : va_S A s.heap H locs) (hsize : ls.size = c.maxLocals)
    (d0 : decode cc pc = .ok (.new ik, 3)) (d3 : decode cc (pc + 3) = .ok (.dup, 1)) (d4 : decode cc (pc + 4) = .ok (.ldc is, 2)) (d6 : decode cc (pc + 6) = .ok (.invokespecial ic, 3)) (d9 : decode cc (pc + 9) = .ok (.athrow, 1))
    (hout : ∀ x ∈ c.exceptionTable.toList, covers x (pc + 9) = false)
    (hRframes : names.length + 3 < R.frames) (hRlocals : (rest.map fun v => v.category).sum + (13 * (names.length + 1) + 43) ≤ R.locals) (hRcells : cells + 1 ≤ R.cells) (hRslots : slots + 6 ≤ R.slots) (hlocks : meth.locks = false)
    (hx : ∀ t : State, s.vm.Alike t.vm → H.size ≤ t.heap.size → (∀ q : Nat, q < H.size → t.heap[q]? = H[q]?) → XC cls s t)
    (hf : ∀ z ∈ locs, free z.base) (hc : cells + 1 ≤ mc) (hs : slots + 6 ≤ ms) :
    W p l e R s m args below meth c H locs cells slots (vx_MQ below Qc XC args s mc ms free) (F0 m pc ls rest) := by
  intro T hT X
  have htr : e.platform.stackTraces = false := (show e.platform.stackTraces = l.stackTraces by rw [X.admits.platform]).trans hl
  have Y := vx_rebase X (R' := { frames := R.frames, locals := R.locals, cells := 1, slots := 6 }) (Nat.le_refl _) (Nat.le_refl _) hRcells hRslots
  obtain ⟨s', hA⟩ : ∃ z, z = (T.setVm s.vm).setFrames (.invoking m args :: below) := ⟨_, rfl⟩
  rw [← hA] at Y
  have hvm : s'.vm = s.vm := by rw [hA]; rfl
  have hhp : s'.heap = H := by rw [hA]; exact hT
  have hW0 : s.WarmedH s'.vm := by rw [hvm]; exact State.WarmedH.refl s
  have hat' : ∀ w ∈ vx_atS own ic cls names, w.before args s' = true := fun w hw => vx_ot_at hW0 hvm.symm (hgood w (List.mem_cons_of_mem _ (List.mem_cons_of_mem _ hw))) (hat w hw)
  have hk' : (Cond.classLink own ik cls).before args s' = true := vx_ot_at hW0 hvm.symm (hgood _ List.mem_cons_self) hk
  have hini' : (Cond.initialized cls).before args s' = true := vx_ot_at hW0 hvm.symm (hgood _ (List.mem_cons_of_mem _ List.mem_cons_self)) hini
  have hU' : vx_Zq Bundle.tN "UNASSIGNED_STACK" Bundle.steD A s' s'.heap := by rw [hhp]; exact vx_Zq.moved hW0.alike (hU.kept hS.2.1)
  have hN' : vx_Zq Bundle.tN "SUPPRESSED_SENTINEL" Bundle.listD A s' s'.heap := by rw [hhp]; exact vx_Zq.moved hW0.alike (hN.kept hS.2.1)
  have h : ∀ w ∈ Bundle.ownAtoms own ic cls names, w.before args s' = true := vx_own hat' (vx_isRefq hU'.1) (vx_isRefq hN'.1) hU'.2.word hN'.2.word
  have hown' : s'.vm.findClass own = some m.cls := by rw [hvm]; exact hown
  have hins : (Cond.instantiable cls 6).before args s' = true := h _ (by simp [Bundle.ownAtoms])
  obtain ⟨vm₁, cX, kX, hfX, hkX, -, -, X₁, st1⟩ := Y.newCold hexec (own := own) (C := cls) (index := ik) (n := 6) hown' hk' hins hini'
    (g := F0 m pc ls rest) rfl (by rw [hb]; exact d0) (Nat.le_refl _) (Nat.le_refl _)
  generalize hT1 : (T.setVm vm₁).pushCell { cls := cX, slots := kX.instanceTypes.map defaultValue, vm := .none } = T1 at X₁ st1
  have hcat : (Value.ref T.heap.size).category = 1 := rfl
  have hcellA : T1.heap[T.heap.size]? = some (freshCell cX kX) := by rw [← hT1]; exact State.heap_pushCell_size _ _
  have d3' : decode c.code (pc + 3) = .ok (.dup, 1) := by rw [hb]; exact d3
  have d4' : decode c.code (pc + 4) = .ok (.ldc is, 2) := by rw [hb]; exact d4
  have hstr' : vk_R own is text sa s' := vk_R.warm hW0 hstr
  obtain ⟨U, hsteps, hrun, hend, hW, hsame, ce, hce, hO⟩ := X₁.ctorThrowS hexec htr (own := own) (cls := cls) (names := names) (ic := ic) hown' hcls hnames h (fun x hx => nomatch hx) hfX hkX hcellA (by rw [hhp, hT]; exact Nat.le_refl _) (msg := .ref sa) rfl
    (g := { method := m, pc := pc + 6, locals := ls, stack := .ref sa :: .ref T.heap.size :: .ref T.heap.size :: rest, locked := none }) rfl hsize rfl rfl (rest := rest) rfl
    (by rw [hb]; exact d6) (by rw [hb]; exact d9) hout hRframes (by simp only [List.map_cons, List.sum_cons, hcat]; omega) hlocks
  obtain ⟨f1, f2⟩ := vx_frame hsame
  rw [hhp] at f1 f2
  have hWs : s.WarmedH U.vm := State.WarmedH.trans hW0 hW
  have hcl : s.vm.findClass cls = some ce.cls := by
    have h9 := hO.cls
    rw [hvm] at h9
    exact h9
  have hall : s.sameButNew ({ U with vm := s.vm } : State) locs mc ms := by
    subst hA
    obtain ⟨e1, e2⟩ := hsame
    rw [State.setFrames_setFrames] at e1
    have h2 : (T.setVm s.vm).sameButNew ({ U with vm := s.vm } : State) [] (0 + 1) (0 + 6) := ⟨e1, e2⟩
    have h3 := X.same.trans h2
    rw [List.append_nil] at h3
    exact h3.mono hc hs
  refine ⟨U, ?_, .threw T.heap.size, hrun, hend, Or.inr ⟨T.heap.size, rfl, cls, ce, locs, hx U hWs.alike f1 (fun q hq => f2 q hq (fun z hz => nomatch hz)), hce, hO.vm, hcl, hWs, hall, hf⟩⟩
  refine st1 _ ?_
  show Steps p.tables e below (T1.setTop { method := m, pc := pc + 3, locals := ls, stack := .ref T.heap.size :: rest, locked := none }) _
  jvm_step X₁.here [X₁.here.top, hexec, d3', Value.category]
  exact X₁.ldcString hexec (own := own) (text := text) (index := is) (a := sa) hown' hstr'.1 hstr'.2
    (g := { method := m, pc := pc + 4, locals := ls, stack := .ref T.heap.size :: .ref T.heap.size :: rest, locked := none }) rfl d4' _ hsteps
/-- 'throw new E("text")', the text by a wide index -/
theorem vx_throwSW {cc : ByteArray} {pc : Nat} (hexec : p.tables.exec = Jvm.exec) (hb : c.code = cc) (hl : l.stackTraces = false) {own cls text : String} {names : List String} {ik is ic mc ms sa : Nat} {A : Nat → Prop}
    (hown : s.vm.findClass own = some m.cls) (hcls : Bundle.fit cls = true) (hnames : ∀ n ∈ names, Bundle.fit n = true)
    (hk : (Cond.classLink own ik cls).before args s = true) (hini : (Cond.initialized cls).before args s = true) (hstr : vk_R own is text sa s) (hat : ∀ w ∈ vx_atS own ic cls names, w.before args s = true)
    (hgood : ∀ w ∈ Cond.classLink own ik cls :: Cond.initialized cls :: vx_atS own ic cls names, vx_ot w = true)
    (hU : vx_Zq Bundle.tN "UNASSIGNED_STACK" Bundle.steD A s s.heap) (hN : vx_Zq Bundle.tN "SUPPRESSED_SENTINEL" Bundle.listD A s s.heap) (hS : va_S A s.heap H locs) (hsize : ls.size = c.maxLocals)
    (d0 : decode cc pc = .ok (.new ik, 3)) (d3 : decode cc (pc + 3) = .ok (.dup, 1)) (d4 : decode cc (pc + 4) = .ok (.ldc_w is, 3)) (d7 : decode cc (pc + 7) = .ok (.invokespecial ic, 3)) (d10 : decode cc (pc + 10) = .ok (.athrow, 1))
    (hout : ∀ x ∈ c.exceptionTable.toList, covers x (pc + 10) = false)
    (hRframes : names.length + 3 < R.frames) (hRlocals : (rest.map fun v => v.category).sum + (13 * (names.length + 1) + 43) ≤ R.locals) (hRcells : cells + 1 ≤ R.cells) (hRslots : slots + 6 ≤ R.slots) (hlocks : meth.locks = false)
    (hx : ∀ t : State, s.vm.Alike t.vm → H.size ≤ t.heap.size → (∀ q : Nat, q < H.size → t.heap[q]? = H[q]?) → XC cls s t)
    (hf : ∀ z ∈ locs, free z.base) (hc : cells + 1 ≤ mc) (hs : slots + 6 ≤ ms) :
    W p l e R s m args below meth c H locs cells slots (vx_MQ below Qc XC args s mc ms free) (F0 m pc ls rest) := by
  intro T hT X
  have htr : e.platform.stackTraces = false := (show e.platform.stackTraces = l.stackTraces by rw [X.admits.platform]).trans hl
  have Y := vx_rebase X (R' := { frames := R.frames, locals := R.locals, cells := 1, slots := 6 }) (Nat.le_refl _) (Nat.le_refl _) hRcells hRslots
  obtain ⟨s', hA⟩ : ∃ z, z = (T.setVm s.vm).setFrames (.invoking m args :: below) := ⟨_, rfl⟩
  rw [← hA] at Y
  have hvm : s'.vm = s.vm := by rw [hA]; rfl
  have hhp : s'.heap = H := by rw [hA]; exact hT
  have hW0 : s.WarmedH s'.vm := by rw [hvm]; exact State.WarmedH.refl s
  have hat' : ∀ w ∈ vx_atS own ic cls names, w.before args s' = true := fun w hw => vx_ot_at hW0 hvm.symm (hgood w (List.mem_cons_of_mem _ (List.mem_cons_of_mem _ hw))) (hat w hw)
  have hk' : (Cond.classLink own ik cls).before args s' = true := vx_ot_at hW0 hvm.symm (hgood _ List.mem_cons_self) hk
  have hini' : (Cond.initialized cls).before args s' = true := vx_ot_at hW0 hvm.symm (hgood _ (List.mem_cons_of_mem _ List.mem_cons_self)) hini
  have hU' : vx_Zq Bundle.tN "UNASSIGNED_STACK" Bundle.steD A s' s'.heap := by rw [hhp]; exact vx_Zq.moved hW0.alike (hU.kept hS.2.1)
  have hN' : vx_Zq Bundle.tN "SUPPRESSED_SENTINEL" Bundle.listD A s' s'.heap := by rw [hhp]; exact vx_Zq.moved hW0.alike (hN.kept hS.2.1)
  have h : ∀ w ∈ Bundle.ownAtoms own ic cls names, w.before args s' = true := vx_own hat' (vx_isRefq hU'.1) (vx_isRefq hN'.1) hU'.2.word hN'.2.word
  have hown' : s'.vm.findClass own = some m.cls := by rw [hvm]; exact hown
  have hins : (Cond.instantiable cls 6).before args s' = true := h _ (by simp [Bundle.ownAtoms])
  obtain ⟨vm₁, cX, kX, hfX, hkX, -, -, X₁, st1⟩ := Y.newCold hexec (own := own) (C := cls) (index := ik) (n := 6) hown' hk' hins hini'
    (g := F0 m pc ls rest) rfl (by rw [hb]; exact d0) (Nat.le_refl _) (Nat.le_refl _)
  generalize hT1 : (T.setVm vm₁).pushCell { cls := cX, slots := kX.instanceTypes.map defaultValue, vm := .none } = T1 at X₁ st1
  have hcat : (Value.ref T.heap.size).category = 1 := rfl
  have hcellA : T1.heap[T.heap.size]? = some (freshCell cX kX) := by rw [← hT1]; exact State.heap_pushCell_size _ _
  have d3' : decode c.code (pc + 3) = .ok (.dup, 1) := by rw [hb]; exact d3
  have d4' : decode c.code (pc + 4) = .ok (.ldc_w is, 3) := by rw [hb]; exact d4
  have hstr' : vk_R own is text sa s' := vk_R.warm hW0 hstr
  obtain ⟨U, hsteps, hrun, hend, hW, hsame, ce, hce, hO⟩ := X₁.ctorThrowS hexec htr (own := own) (cls := cls) (names := names) (ic := ic) hown' hcls hnames h (fun x hx => nomatch hx) hfX hkX hcellA (by rw [hhp, hT]; exact Nat.le_refl _) (msg := .ref sa) rfl
    (g := { method := m, pc := pc + 7, locals := ls, stack := .ref sa :: .ref T.heap.size :: .ref T.heap.size :: rest, locked := none }) rfl hsize rfl rfl (rest := rest) rfl
    (by rw [hb]; exact d7) (by rw [hb]; exact d10) hout hRframes (by simp only [List.map_cons, List.sum_cons, hcat]; omega) hlocks
  obtain ⟨f1, f2⟩ := vx_frame hsame
  rw [hhp] at f1 f2
  have hWs : s.WarmedH U.vm := State.WarmedH.trans hW0 hW
  have hcl : s.vm.findClass cls = some ce.cls := by
    have h9 := hO.cls
    rw [hvm] at h9
    exact h9
  have hall : s.sameButNew ({ U with vm := s.vm } : State) locs mc ms := by
    subst hA
    obtain ⟨e1, e2⟩ := hsame
    rw [State.setFrames_setFrames] at e1
    have h2 : (T.setVm s.vm).sameButNew ({ U with vm := s.vm } : State) [] (0 + 1) (0 + 6) := ⟨e1, e2⟩
    have h3 := X.same.trans h2
    rw [List.append_nil] at h3
    exact h3.mono hc hs
  refine ⟨U, ?_, .threw T.heap.size, hrun, hend, Or.inr ⟨T.heap.size, rfl, cls, ce, locs, hx U hWs.alike f1 (fun q hq => f2 q hq (fun z hz => nomatch hz)), hce, hO.vm, hcl, hWs, hall, hf⟩⟩
  refine st1 _ ?_
  show Steps p.tables e below (T1.setTop { method := m, pc := pc + 3, locals := ls, stack := .ref T.heap.size :: rest, locked := none }) _
  jvm_step X₁.here [X₁.here.top, hexec, d3', Value.category]
  exact X₁.ldcStringW hexec (own := own) (text := text) (index := is) (a := sa) hown' hstr'.1 hstr'.2
    (g := { method := m, pc := pc + 4, locals := ls, stack := .ref T.heap.size :: .ref T.heap.size :: rest, locked := none }) rfl d4' _ hsteps
end Ends
section Bodies
variable {l : Launch}
theorem vx_ofW {y : MethodName} {ws ws' : List Cond} {rm : Room} {Pc : Array Value → State → Prop} {Qc : Array Value → State → Outcome → State → Prop} {XC : String → State → State → Prop} {mc ms : Nat} {free : Addr → Prop} {cc : ByteArray} {maxL : Nat} {ret : Option FieldType}
    (hy : plainName y.cls = true) (hw : ws = Cond.code y cc maxL ret :: ws')
    (body : ∀ p e s m args below meth c s₁, BodyLoose p l y (headSpec ws rm) cc maxL ret e s m args below meth c s₁ → c.maxLocals = maxL → (∀ x ∈ c.exceptionTable.toList, False) → Pc args s →
      W p l e (headSpec ws rm).room s m args below meth c s.heap [] 0 0 (vx_MQ below Qc XC args s mc ms free) (entryFrame m args maxL)) : vx_Met l y ws rm Pc Qc XC mc ms free := by
  refine MetFree.of_bodyS (code := cc) (maxLocals := maxL) (ret := ret) hy ?_ ?_
  · intro args s m h hn
    obtain ⟨meth, c, h1, h2, h3, h4, h5, h6, -, -⟩ := Cond.code_spec hn (atoms_spec (ws := ws) h _ (by rw [hw]; exact List.mem_cons_self))
    exact ⟨meth, c, h1, h2, h3, h4, h5, h6⟩
  · intro p e s m args below meth c s₁ B hml hP _
    have hh0 : s₁.heap = s.heap := by rw [B.state]; rfl
    have ht : ∀ x ∈ c.exceptionTable.toList, False := by
      obtain ⟨meth9, c9, h1, h2, -, -, -, -, h7, -⟩ := Cond.code_spec B.named (atoms_spec (ws := ws) B.pre _ (by rw [hw]; exact List.mem_cons_self))
      cases Option.some.inj (h1.symm.trans B.method)
      cases Option.some.inj (h2.symm.trans (Stand.of_body B).code)
      intro x hx
      rw [Array.isEmpty_iff.mp h7] at hx
      cases hx
    obtain ⟨t, a1, o, b1, b2, b3⟩ := body p e s m args below meth c s₁ B hml ht hP s₁ hh0 (Stand.of_body B)
    exact ⟨t, o, a1, b1, b2, b3⟩
/-- the table of a body with handlers -/
theorem vx_table {p : Program} {x y : MethodName} {S : Spec} {cc bytes : ByteArray} {maxL maxL' : Nat} {ret ret' : Option FieldType} {e : Env} {s s₁ : State} {m : MethodId} {args : Array Value} {below : List Frame} {meth : Method} {c : Code} {hh : List (Nat × Nat × Nat × Nat)}
    (B : BodyLoose p l y S cc maxL ret e s m args below meth c s₁) (h : (Cond.codeWith y bytes maxL' ret' hh).before args s = true) : c.exceptionTable.toList = tableOf hh := by
  obtain ⟨m9, meth9, c9, hn9, h1, h2, -, -, h6, -⟩ := Cond.codeWith_spec h
  cases Option.some.inj (hn9.symm.trans B.named)
  cases Option.some.inj (h1.symm.trans B.method)
  cases Option.some.inj (h2.symm.trans (Stand.of_body B).code)
  rw [← h6, table_eq]
end Bodies
end VXA
/-! ===== END ===== -/
/-! ===== BEGIN a static call of a method with an exception table ===== -/
section VXS
variable {p : Program} {l : Launch} {e : Env} {R : Room} {s : State} {m : MethodId} {args : Array Value} {below : List Frame} {meth : Method} {c : Code} {T : State} {H : Heap} {locs : List Loc} {cells slots : Nat}
abbrev vx_CSW (R : Room) (s : State) (args : Array Value) (own : String) (index : Nat) (y : MethodName) (bytes : ByteArray) (maxL : Nat) (ret : Option FieldType) (hh : List (Nat × Nat × Nat × Nat)) (ws : List Cond) (rm : Room) (mc ms n : Nat) : Prop :=
  (rm.cells = mc ∧ rm.slots = ms ∧ rm.frames + 1 ≤ R.frames ∧ 8 + (maxL + 11) + rm.locals ≤ R.locals ∧ (∀ w ∈ ws, ∀ (a' : Array Value) (U : State), s.WarmedH U.vm → w.before a' U = true) ∧ Cond.codeWith y bytes maxL ret hh ∈ ws) ∧
  (Cond.codeWith y bytes maxL ret hh).before args s = true ∧ (Cond.initialized y.cls).before args s = true ∧ (y.cls ≠ "java/lang/invoke/MethodHandle" ∧ y.cls ≠ "java/lang/invoke/VarHandle") ∧
  (∀ sig, parseMethodDescriptor y.desc = some sig → n = sig.parameters.length) ∧ (Cond.methodLink own index y).before args s = true ∧ (Cond.static y).before args s = true
theorem vx_cwSW {own : String} {index maxL mc ms : Nat} {y : MethodName} {bytes : ByteArray} {ret : Option FieldType} {hh : List (Nat × Nat × Nat × Nat)} {Ts ws ws' : List Cond} {rm : Room} (n : Nat) (ht : ∀ w ∈ Ts, w.before args s = true) (hT : GoodIn Ts (va_wsS own index y ws)) (hw : ws = Cond.codeWith y bytes maxL ret hh :: ws') (hrc : rm.cells = mc) (hrs : rm.slots = ms)
    (hd : y.cls ≠ "java/lang/invoke/MethodHandle" ∧ y.cls ≠ "java/lang/invoke/VarHandle" ∧ (parseMethodDescriptor y.desc).map (fun d => d.parameters.length) = some n) (hR : rm.frames + 1 ≤ R.frames ∧ 8 + (maxL + 11) + rm.locals ≤ R.locals) :
    vx_CSW R s args own index y bytes maxL ret hh ws rm mc ms n := by
  have ok : ∀ w ∈ va_wsS own index y ws, w.before args s = true := fun w h => ht w (hT w h).1
  have hG : GoodIn Ts ws := fun w h => hT w (by unfold va_wsS; exact List.mem_append_right _ h)
  have hc : Cond.codeWith y bytes maxL ret hh ∈ ws := by rw [hw]; exact List.mem_cons_self
  refine ⟨⟨hrc, hrs, hR.1, hR.2, pay_in ht hG, hc⟩, ht _ (hG _ hc).1, ok _ (by simp [va_wsS]), ⟨hd.1, hd.2.1⟩, fun sig h => ?_, ok _ (by simp [va_wsS]), ok _ (by simp [va_wsS])⟩
  have h2 := hd.2.2
  rw [h] at h2
  exact (Option.some.inj h2).symm
theorem vx_callSW (X : Stand p l e R s m args below meth c T locs cells slots) (hexec : p.tables.exec = Jvm.exec) {own : String} {index : Nat} {y : MethodName} {bytes : ByteArray} {maxL : Nat} {ret : Option FieldType} {hh : List (Nat × Nat × Nat × Nat)}
    (hown : s.vm.findClass own = some m.cls) (hlink : (Cond.methodLink own index y).before args s = true) (hstat : (Cond.static y).before args s = true) (hinit : (Cond.initialized y.cls).before args s = true)
    (hcode : (Cond.codeWith y bytes maxL ret hh).before args s = true) (hy : y.cls ≠ "java/lang/invoke/MethodHandle" ∧ y.cls ≠ "java/lang/invoke/VarHandle")
    {W9 : Nat} {Pre : Pt → Array Value → Prop} {Post : Pt → Array Value → Option Value → Pt → Prop} (hK : Back l R p e below s args y 3 W9 Pre Post)
    {g : JFrame} (hg : g.method = m) (hsize : g.locals.size = c.maxLocals) {argsL rest : List Value} (hlen : ∀ sig, parseMethodDescriptor y.desc = some sig → argsL.length = sig.parameters.length)
    (hstack : g.stack = argsL.reverse ++ rest) (hW : 2 * g.monitorRoom + (rest.map fun v => v.category).sum ≤ W9) (hdg : decode c.code g.pc = .ok (.invokestatic index, 3))
    (hpre : ∀ vm₁, s.WarmedH vm₁ → Pre ⟨T.setVm vm₁, locs, cells, slots⟩ argsL.toArray) :
    ∃ (v : Option Value) (vm₁ : Vm) (B : Pt), s.WarmedH vm₁ ∧ Stand p l e R s m args below meth c B.U B.locs B.cells B.slots ∧ Post ⟨T.setVm vm₁, locs, cells, slots⟩ argsL.toArray v B ∧
      ∀ target, Steps p.tables e below (B.U.setTop { g with pc := g.pc + 3, stack := v.toList ++ rest }) target → Steps p.tables e below (T.setTop g) target := by
  obtain ⟨mk, methM, cM, hnamed, hmethM, -, -, -, -, -, -, hsigM⟩ := Cond.codeWith_spec hcode
  have hstatic : methM.isStatic = true := Cond.static_spec hnamed hmethM hstat
  obtain ⟨kP, hkP, -⟩ := className_of_methodNamed hnamed
  have hinitP : kP.init = .initialized := Cond.initialized_spec (findClass_of_methodNamed hnamed) hkP hinit
  obtain ⟨vm₁, X₁, hstep₁⟩ := X.invokestatic hexec hown hlink hnamed hmethM hstatic hkP hinitP hy (g := g) hg (argsL := argsL) (rest := rest) (hlen _ hsigM) hstack hdg
  obtain ⟨v, B, X', hpost, hsteps⟩ := hK m meth c ⟨T.setVm vm₁, locs, cells, slots⟩ { g with stack := rest } (.invokestatic index) mk argsL.toArray X₁ hg hsize hdg hW (X₁.named hnamed) (hpre vm₁ X₁.warmed)
  exact ⟨v, vm₁, B, X₁.warmed, X', hpost, fun target h => hstep₁ _ fun acts => by rw [doInvoke_state]; exact hsteps.trans h⟩
theorem vx_runSW {y : MethodName} {bytes cc : ByteArray} {maxL nL mc ms n index : Nat} {ret : Option FieldType} {hh : List (Nat × Nat × Nat × Nat)} {ws : List Cond} {rm : Room} {Pc : Array Value → State → Prop} {Qc : Array Value → State → Outcome → State → Prop} {free : Addr → Prop} {Ts : List Cond} {own : String} {As rest : List Value} {g : JFrame}
    (S : CallFix p m c cc nL s args Ts own) (hM : Met l y ws rm Pc Qc mc ms free) (cw : vx_CSW R s args own index y bytes maxL ret hh ws rm mc ms n) (hp : PreS s H Pc As)
    (hg : g.method = m) (hn : As.length = n) (hsize : g.locals.size = nL) (hstack : g.stack = As.reverse ++ rest) (hW : 2 * g.monitorRoom + (rest.map fun v => v.category).sum ≤ 8) (hdg : decode cc g.pc = .ok (.invokestatic index, 3)) (hf : cells + mc ≤ R.cells ∧ slots + ms ≤ R.slots) :
    va_Run p l e R s m args below meth c H locs cells slots mc ms g rest (Qc As.toArray) (free) := by
  obtain ⟨⟨hrc, hrs, hfr, hlo, hws, hcw⟩, hcode, hini, hy, hlen, hl, hstt⟩ := cw
  have hK : Back l R p e below s args y 3 8 (PreOf R mc ms Pc) (PostOf Qc mc ms free) := va_backW (hh := hh) (bytes := bytes) (maxL := maxL) (ret := ret) hM hp.1 hrc hrs hfr hlo hws hcw (fun a' U hW => word_at hW (Or.inl (by first | rfl | simp [Cond.onTables, Cond.keeps, Cond.steady])) hini)
  obtain ⟨hx, hb, hml, ho, -⟩ := S
  intro T hT X
  obtain ⟨v, vm₁, ⟨U', l2, c2, s2⟩, hW₁, X', ⟨g', mk, t, L, e1, e2, hq, h1, hL, h2, h3⟩, st⟩ := vx_callSW X hx (hh := hh) (bytes := bytes) (maxL := maxL) (ret := ret) ho hl hstt hini hcode hy hK hg (hsize.trans hml.symm) (argsL := As) (rest := rest) (fun sig h => hn.trans (hlen sig h)) hstack hW (by rw [hb]; exact hdg)
    (fun vm₁ hW₁ => ⟨hf.1, hf.2, hp.2 (T.setVm vm₁) hT hW₁⟩)
  dsimp only [Pt.U, Pt.locs, Pt.cells, Pt.slots] at X' e1 e2 h1 h2 h3 st
  subst h1; subst h2; subst h3
  exact ⟨v, (T.setVm vm₁).calling g' mk As.toArray, t, U', L, hT, X', hL, e1, e2, hq, st⟩
/-- not caught here, past rows that name other classes: it goes on to the caller -/
theorem vx_outP {p : Program} {l : Launch} {e : Env} {R : Room} {s : State} {m : MethodId} {args : Array Value} {below : List Frame} {meth : Method} {c : Code} {H : Heap} {locs : List Loc} {cells slots : Nat} {free : Addr → Prop} {ls : Array Slot} {rest : List Value} {Qc : Array Value → State → Outcome → State → Prop} {XC : String → State → State → Prop}
    {pc : Nat} {own E : String} {ce : Cell} {q : Addr} {mc ms : Nat} (hown : s.vm.findClass own = some m.cls) (hlocks : meth.locks = false)
    (hpass : ∀ z ∈ c.exceptionTable.toList, covers z pc = false ∨ (z.catchType ≠ 0 ∧ ∃ nm : String, (Cond.classLink own z.catchType nm).before args s = true ∧ va_Nc E nm s)) (hcell : H[q]? = some ce) (hv : ce.vm = .none) (hcl : s.vm.findClass E = some ce.cls)
    (hx : ∀ t : State, t.heap = H → s.vm.Alike t.vm → XC E s t) (hf : ∀ z ∈ locs, free z.base) (hc : cells ≤ mc) (hs : slots ≤ ms) :
    vx_W p l e R s m args below meth c H locs cells slots (vx_MQ below Qc XC args s mc ms free) (F0 m pc ls rest) q := by
  intro T hT X
  have hpl : e.platform.magicAccessors = ({} : Platform).magicAccessors := by rw [X.admits.platform]
  obtain ⟨vm', hW', X', st⟩ := X.outThrough hlocks q (g := F0 m pc ls rest) rfl rfl rfl (cell := ce) (by rw [hT]; exact hcell) (by rw [hv]; rfl)
    (by obtain ⟨k9, h9, -⟩ := Vm.findClass_spec hcl; exact ⟨k9, h9⟩) (fun z hz => by
      rcases hpass z hz with h | ⟨hz0, nm, hl1, hn1⟩
      · exact Or.inl h
      · obtain ⟨c6, hc6, hcl6⟩ := Cond.classLink_spec hown hl1 e.platform hpl
        obtain ⟨a8, b8, h1, h2, h3⟩ := hn1
        cases Option.some.inj (h1.symm.trans hcl)
        cases Option.some.inj (h2.symm.trans hc6)
        exact Or.inr ⟨hz0, _, hcl6, h3⟩)
  obtain ⟨g₀, hfr⟩ := X'.frames_eq
  have hcell9 : ((T.setVm vm').setFrames (.throwing q :: below)).heap[q]? = some ce := by
    show T.heap[q]? = some ce
    rw [hT]; exact hcell
  have hend : Ended ((T.setVm vm').setFrames (.throwing q :: below)) below (.threw q) := State.frames_setFrames _ (State.cur_lt_of_frames hfr)
  refine ⟨(T.setVm vm').setFrames (.throwing q :: below), ?_, .threw q, X'.here.running, hend, Or.inr ⟨q, rfl, E, ce, locs, hx _ hT (X'.ends _).1.alike, hcell9, hv, hcl, (X'.ends _).1, (X'.ends _).2.mono hc hs, hf⟩⟩
  rw [X.pushThrowing_eq]
  exact st
/-- a thing of a world lies in the heap -/
theorem vx_lt {D : va_G} {cl : List vw_C} {ws : va_W} {H1 : Heap} (h : va_P D cl ws H1) {k : Nat} {q : Nat × va_E} (hk : ws[k]? = some q) : q.1 < H1.size := (h k q hk).lt
end VXS
/-! ===== END ===== -/
/-! ===== BEGIN methods with a table of their own: called by a name, returning or throwing ===== -/
section VXH
/-! vx_backW, vx_callVX, vx_callSX, vx_callVW, vx_runVW, vx_runVX, vx_runSX, vx_ofWH follow the same proofs as their sisters above (Free/Laws.lean, Shelf42/LK1.lean); vx_outP calls Shelf42/NT130.lean (outThrough). -/
section
variable {l : Launch} {R : Room} {p : Program} {e : Env} {below : List Frame} {s : State} {sargs : Array Value} {y : MethodName} {len W9 : Nat}
theorem vx_backW {ws : List Cond} {rm : Room} {Pc : Array Value → State → Prop} {Qc : Array Value → State → Outcome → State → Prop} {XC : String → State → State → Prop} {mc ms : Nat} {free : Addr → Prop} {bytes : ByteArray} {maxL : Nat} {ret : Option FieldType} {hh : List (Nat × Nat × Nat × Nat)}
    (hM : vx_Met l y ws rm Pc Qc XC mc ms free) (hblind : FrameBlind Pc) (hrc : rm.cells = mc) (hrs : rm.slots = ms)
    (hframes : rm.frames + 1 ≤ R.frames) (hlocals : W9 + (maxL + 11) + rm.locals ≤ R.locals)
    (hws : ∀ w ∈ ws, ∀ a' U, s.WarmedH U.vm → w.before a' U = true) (hcode : Cond.codeWith y bytes maxL ret hh ∈ ws) (hinit : ∀ a' U, s.WarmedH U.vm → (Cond.initialized y.cls).before a' U = true) :
    vx_Back l R p e below s sargs y len W9 (PreOf R mc ms Pc) (PostOf Qc mc ms free) (vx_Post XC mc ms free) := by
  intro m meth c A g ig mk a X hg hsize hdg hW hn hp
  have h1 : (headSpec ws rm).pre.before a A.U = true := atoms_intro fun w hw => hws w hw _ _ X.warmed
  have h2 : (Cond.codeWith y bytes maxL ret hh).before a A.U = true := hws _ hcode _ _ X.warmed
  have h3 : (Cond.initialized y.cls).before a A.U = true := hinit _ _ X.warmed
  have h4 : A.cells + (headSpec ws rm).room.cells ≤ R.cells := by rw [show (headSpec ws rm).room.cells = mc from hrc]; exact hp.1
  have h5 : A.slots + (headSpec ws rm).room.slots ≤ R.slots := by rw [show (headSpec ws rm).room.slots = ms from hrs]; exact hp.2.1
  have hPc : Pc a (A.U.calling g mk a) := hblind _ _ _ _ hp.2.2
  obtain ⟨U, Ls, c0, s0⟩ := A
  dsimp only [Pt.U, Pt.locs, Pt.cells, Pt.slots] at h1 h2 h3 h4 h5 X hn hPc ⊢
  obtain ⟨m9, methY, cY, hn9, hmY, hcY, -, hlY, -⟩ := Cond.codeWith_spec h2
  cases Option.some.inj (hn9.symm.trans hn)
  obtain ⟨kY, hkY, -⟩ := className_of_methodNamed hn
  have hinitY : kY.init = .initialized := Cond.initialized_spec (findClass_of_methodNamed hn) hkY h3
  have h : At U g.method c below := by rw [hg]; exact X.here
  have hlocals9 : W9 + (maxL + 11) + (headSpec ws rm).room.locals ≤ R.locals := hlocals
  have happ : (headSpec ws rm).appliesLoose y e.platform (U.calling g mk a) = true :=
    Spec.appliesLoose_calling (g := g) h hdg hn hkY hinitY
      (X.room_calling (g := g) (R' := (headSpec ws rm).room) hsize hmY hcY hframes (by rw [hlY]; omega) h4 h5) h1
  obtain ⟨mid, hmid⟩ := h.above
  have hfr : (U.setTop g).frames = (.java g :: mid) ++ below := by rw [State.frames_setTop' g h.top, hmid]; rfl
  obtain ⟨o, s₂, hsteps, -, hend, hq⟩ := Steps.callFree hM p X.admits X.cas X.clock (acts := []) hfr happ hPc trivial
  have hq' : vx_Q Qc XC mc ms free a (U.calling g mk a) o s₂ := hq
  rw [State.frames_setTop' g h.top] at hend
  obtain ⟨g₀, hg0⟩ := Option.isSome_iff_exists.mp h.top
  obtain ⟨r, hr⟩ := State.topJava?_eq_some.mp hg0
  have hr' : (({ U with heap := s₂.heap, slotsUsed := s₂.slotsUsed } : State).setVm s₂.vm).frames = .java g₀ :: r := hr
  rcases hq' with ⟨hqc, L, hfe, hL⟩ | ⟨q, rfl, E, ce, L, hx, hce, hcv, hcl, hW₂, hsm, hL⟩
  · obtain ⟨⟨v, rfl⟩, hW₂, e2, q2, q3, q4, q5, q6⟩ := id hfe
    have e3 : s₂ = ({ (U.calling g mk a).setFrames s₂.frames with heap := s₂.heap, slotsUsed := s₂.slotsUsed } : State).setVm s₂.vm := by
      have : s₂ = ({ s₂ with vm := (U.calling g mk a).vm } : State).setVm s₂.vm := rfl
      rw [e2] at this
      exact this
    obtain ⟨c₂, i₂, len₂, hc₂, hd₂, hf₂⟩ := hend
    have hW' : U.WarmedH s₂.vm := hW₂
    have hcc : c₂ = c := by
      have h1 : s₂.code? g.method = U.code? g.method := by
        rw [State.code?_eq, State.code?_eq, hW'.alike.method?]
      exact Option.some.inj (hc₂.symm.trans (h1.trans h.code))
    subst hcc
    have hlen : len₂ = len := by rw [hdg] at hd₂; cases hd₂; rfl
    subst hlen
    have hs₂ : s₂ = (({ U with heap := s₂.heap, slotsUsed := s₂.slotsUsed } : State).setVm s₂.vm).setTop { g with pc := g.pc + len₂, stack := v.toList ++ g.stack } := by
      refine e3.trans ?_
      rw [hf₂, State.calling_eq h.top, State.setFrames_setFrames, State.setTop_of_frames _ hr', hr]
      rfl
    have hsame : U.sameButNew ({ U with heap := s₂.heap, slotsUsed := s₂.slotsUsed } : State) L mc ms := by
      refine ⟨?_, q2, q3, q4, q5, q6⟩
      obtain ⟨t, ht, -⟩ := State.frames_cons hr
      show ({ U with heap := s₂.heap, slotsUsed := s₂.slotsUsed } : State) = { U.setFrames U.frames with heap := s₂.heap, slotsUsed := s₂.slotsUsed }
      rw [State.setFrames_self ht]
    subst hg
    refine Or.inl ⟨v, ⟨(({ U with heap := s₂.heap, slotsUsed := s₂.slotsUsed } : State).setVm s₂.vm), Ls ++ L, c0 + mc, s0 + ms⟩,
      ⟨X.admits, X.cas, X.clock, X.frames, X.room, X.hears, X.method, X.code, (X.here.setHeapUsed s₂.heap s₂.slotsUsed).setVm hW'.alike, X.tail, State.WarmedH.trans X.warmed hW', X.limits, X.bytes, X.same.trans (hsame.setVm s.vm)⟩,
      ⟨g, mk, s₂, L, rfl, rfl, hqc, rfl, hL, rfl, rfl⟩, ?_⟩
    show Steps p.tables e below _ ((({ U with heap := s₂.heap, slotsUsed := s₂.slotsUsed } : State).setVm s₂.vm).setTop { g with pc := g.pc + len₂, stack := v.toList ++ g.stack })
    rw [← hs₂]
    exact hsteps
  · obtain ⟨e2, q2, q3, q4, q5, q6⟩ := id hsm
    have e3 : s₂ = ({ (U.calling g mk a).setFrames s₂.frames with heap := s₂.heap, slotsUsed := s₂.slotsUsed } : State).setVm s₂.vm := by
      have : s₂ = ({ s₂ with vm := (U.calling g mk a).vm } : State).setVm s₂.vm := rfl
      rw [e2] at this
      exact this
    have hf₂ : s₂.frames = .throwing q :: .java g :: U.frames.tail := hend
    have hW' : U.WarmedH s₂.vm := hW₂
    have hs₂ : s₂ = ((({ U with heap := s₂.heap, slotsUsed := s₂.slotsUsed } : State).setVm s₂.vm).setTop g).pushFrame (.throwing q) := by
      refine e3.trans ?_
      rw [hf₂, State.calling_eq h.top, State.setFrames_setFrames, State.pushFrame, State.frames_setTop _ hr', State.setTop_of_frames _ hr', State.setFrames_setFrames, hr]
      rfl
    have hsame : U.sameButNew ({ U with heap := s₂.heap, slotsUsed := s₂.slotsUsed } : State) L mc ms := by
      refine ⟨?_, q2, q3, q4, q5, q6⟩
      obtain ⟨t, ht, -⟩ := State.frames_cons hr
      show ({ U with heap := s₂.heap, slotsUsed := s₂.slotsUsed } : State) = { U.setFrames U.frames with heap := s₂.heap, slotsUsed := s₂.slotsUsed }
      rw [State.setFrames_self ht]
    subst hg
    refine Or.inr ⟨q, ⟨(({ U with heap := s₂.heap, slotsUsed := s₂.slotsUsed } : State).setVm s₂.vm), Ls ++ L, c0 + mc, s0 + ms⟩,
      ⟨X.admits, X.cas, X.clock, X.frames, X.room, X.hears, X.method, X.code, (X.here.setHeapUsed s₂.heap s₂.slotsUsed).setVm hW'.alike, X.tail, State.WarmedH.trans X.warmed hW', X.limits, X.bytes, X.same.trans (hsame.setVm s.vm)⟩,
      ⟨g, mk, s₂, L, E, ce, rfl, rfl, hx, hce, hcv, hcl, rfl, hL, rfl, rfl⟩, ?_⟩
    show Steps p.tables e below _ (((({ U with heap := s₂.heap, slotsUsed := s₂.slotsUsed } : State).setVm s₂.vm).setTop g).pushFrame (.throwing q))
    rw [← hs₂]
    exact hsteps
end
variable {p : Program} {l : Launch} {e : Env} {R : Room} {s : State} {m : MethodId} {args : Array Value} {below : List Frame} {meth : Method} {c : Code} {T : State} {H : Heap} {locs : List Loc} {cells slots : Nat}
theorem vx_callVX (X : Stand p l e R s m args below meth c T locs cells slots) (hexec : p.tables.exec = Jvm.exec) {own C : String} {index : Nat} {y : MethodName} {bytes : ByteArray} {maxL : Nat} {ret : Option FieldType} {hh : List (Nat × Nat × Nat × Nat)}
    (hown : s.vm.findClass own = some m.cls) (hlink : (Cond.methodLink own index y).before args s = true) (hinst : (Cond.instanceMethod y).before args s = true) (hsel : (Cond.selects C y y).before args s = true)
    (hcode : (Cond.codeWith y bytes maxL ret hh).before args s = true) (hy : y.cls ≠ "java/lang/invoke/MethodHandle" ∧ y.cls ≠ "java/lang/invoke/VarHandle")
    {W9 : Nat} {Pre : Pt → Array Value → Prop} {Post : Pt → Array Value → Option Value → Pt → Prop} {PostX : Pt → Array Value → Addr → Pt → Prop} (hK : vx_Back l R p e below s args y 3 W9 Pre Post PostX)
    {b : Addr} {cellB : Cell} (hcell : T.heap[b]? = some cellB) (hobj : cellB.vm.isStatics = false) (hcls : s.vm.findClass C = some cellB.cls)
    {g : JFrame} (hg : g.method = m) (hsize : g.locals.size = c.maxLocals) {argsL rest : List Value} (hlen : ∀ sig, parseMethodDescriptor y.desc = some sig → argsL.length = sig.parameters.length)
    (hstack : g.stack = argsL.reverse ++ .ref b :: rest) (hW : 2 * g.monitorRoom + (rest.map fun v => v.category).sum ≤ W9) (hdg : decode c.code g.pc = .ok (.invokevirtual index, 3))
    (hpre : ∀ vm₁, s.WarmedH vm₁ → Pre ⟨T.setVm vm₁, locs, cells, slots⟩ (Value.ref b :: argsL).toArray) :
    (∃ (v : Option Value) (vm₁ : Vm) (B : Pt), s.WarmedH vm₁ ∧ Stand p l e R s m args below meth c B.U B.locs B.cells B.slots ∧ Post ⟨T.setVm vm₁, locs, cells, slots⟩ (Value.ref b :: argsL).toArray v B ∧
      ∀ target, Steps p.tables e below (B.U.setTop { g with pc := g.pc + 3, stack := v.toList ++ rest }) target → Steps p.tables e below (T.setTop g) target) ∨
    (∃ (q : Addr) (vm₁ : Vm) (B : Pt), s.WarmedH vm₁ ∧ Stand p l e R s m args below meth c B.U B.locs B.cells B.slots ∧ PostX ⟨T.setVm vm₁, locs, cells, slots⟩ (Value.ref b :: argsL).toArray q B ∧
      Steps p.tables e below (T.setTop g) ((B.U.setTop { g with stack := rest }).pushFrame (.throwing q))) := by
  obtain ⟨mk, methM, hnamed, hmethM, hstM, habM⟩ := Cond.instanceMethod_spec hinst
  obtain ⟨m8, methM', cM, hn8, hmethM', -, -, -, -, -, -, hsigM⟩ := Cond.codeWith_spec hcode
  cases Option.some.inj (hn8.symm.trans hnamed)
  cases hmethM.symm.trans hmethM'
  obtain ⟨c2, r2, m2, q1, q2, q3, q4, kP, hkP, hkPi⟩ := Cond.selects_spec hsel
  cases hcls.symm.trans q1
  cases (State.methodFound?_of_named hnamed hy).symm.trans q2
  cases hnamed.symm.trans q3
  have hselP : selectMethod e.platform s.vm cellB.cls mk = .method mk := by rw [Launch.admits_selectMethod X.admits]; exact q4
  obtain ⟨vm₁, X₁, hstep₁⟩ := X.invokevirtual hexec hown hlink hnamed hmethM hstM hkP hkPi hy (a := b) (cell := cellB) hcell
    (fun z h => by rw [h] at hobj; cases hobj) hselP hmethM habM hkP hkPi (g := g) hg (argsL := argsL) (rest := rest) (hlen _ hsigM) hstack hdg
  rcases hK m meth c ⟨T.setVm vm₁, locs, cells, slots⟩ { g with stack := rest } (.invokevirtual index) mk (Value.ref b :: argsL).toArray X₁ hg hsize hdg hW (X₁.named hnamed) (hpre vm₁ X₁.warmed) with ⟨v, B, X', hpost, hsteps⟩ | ⟨q, B, X', hpost, hsteps⟩
  · exact Or.inl ⟨v, vm₁, B, X₁.warmed, X', hpost, fun target h => hstep₁ _ fun acts => by rw [doInvoke_state]; exact hsteps.trans h⟩
  · exact Or.inr ⟨q, vm₁, B, X₁.warmed, X', hpost, hstep₁ _ fun acts => by rw [doInvoke_state]; exact hsteps⟩
theorem vx_callSX (X : Stand p l e R s m args below meth c T locs cells slots) (hexec : p.tables.exec = Jvm.exec) {own : String} {index : Nat} {y : MethodName} {bytes : ByteArray} {maxL : Nat} {ret : Option FieldType} {hh : List (Nat × Nat × Nat × Nat)}
    (hown : s.vm.findClass own = some m.cls) (hlink : (Cond.methodLink own index y).before args s = true) (hstat : (Cond.static y).before args s = true) (hinit : (Cond.initialized y.cls).before args s = true)
    (hcode : (Cond.codeWith y bytes maxL ret hh).before args s = true) (hy : y.cls ≠ "java/lang/invoke/MethodHandle" ∧ y.cls ≠ "java/lang/invoke/VarHandle")
    {W9 : Nat} {Pre : Pt → Array Value → Prop} {Post : Pt → Array Value → Option Value → Pt → Prop} {PostX : Pt → Array Value → Addr → Pt → Prop} (hK : vx_Back l R p e below s args y 3 W9 Pre Post PostX)
    {g : JFrame} (hg : g.method = m) (hsize : g.locals.size = c.maxLocals) {argsL rest : List Value} (hlen : ∀ sig, parseMethodDescriptor y.desc = some sig → argsL.length = sig.parameters.length)
    (hstack : g.stack = argsL.reverse ++ rest) (hW : 2 * g.monitorRoom + (rest.map fun v => v.category).sum ≤ W9) (hdg : decode c.code g.pc = .ok (.invokestatic index, 3))
    (hpre : ∀ vm₁, s.WarmedH vm₁ → Pre ⟨T.setVm vm₁, locs, cells, slots⟩ argsL.toArray) :
    (∃ (v : Option Value) (vm₁ : Vm) (B : Pt), s.WarmedH vm₁ ∧ Stand p l e R s m args below meth c B.U B.locs B.cells B.slots ∧ Post ⟨T.setVm vm₁, locs, cells, slots⟩ argsL.toArray v B ∧
      ∀ target, Steps p.tables e below (B.U.setTop { g with pc := g.pc + 3, stack := v.toList ++ rest }) target → Steps p.tables e below (T.setTop g) target) ∨
    (∃ (q : Addr) (vm₁ : Vm) (B : Pt), s.WarmedH vm₁ ∧ Stand p l e R s m args below meth c B.U B.locs B.cells B.slots ∧ PostX ⟨T.setVm vm₁, locs, cells, slots⟩ argsL.toArray q B ∧
      Steps p.tables e below (T.setTop g) ((B.U.setTop { g with stack := rest }).pushFrame (.throwing q))) := by
  obtain ⟨mk, methM, cM, hnamed, hmethM, -, -, -, -, -, -, hsigM⟩ := Cond.codeWith_spec hcode
  have hstatic : methM.isStatic = true := Cond.static_spec hnamed hmethM hstat
  obtain ⟨kP, hkP, -⟩ := className_of_methodNamed hnamed
  have hinitP : kP.init = .initialized := Cond.initialized_spec (findClass_of_methodNamed hnamed) hkP hinit
  obtain ⟨vm₁, X₁, hstep₁⟩ := X.invokestatic hexec hown hlink hnamed hmethM hstatic hkP hinitP hy (g := g) hg (argsL := argsL) (rest := rest) (hlen _ hsigM) hstack hdg
  rcases hK m meth c ⟨T.setVm vm₁, locs, cells, slots⟩ { g with stack := rest } (.invokestatic index) mk argsL.toArray X₁ hg hsize hdg hW (X₁.named hnamed) (hpre vm₁ X₁.warmed) with ⟨v, B, X', hpost, hsteps⟩ | ⟨q, B, X', hpost, hsteps⟩
  · exact Or.inl ⟨v, vm₁, B, X₁.warmed, X', hpost, fun target h => hstep₁ _ fun acts => by rw [doInvoke_state]; exact hsteps.trans h⟩
  · exact Or.inr ⟨q, vm₁, B, X₁.warmed, X', hpost, hstep₁ _ fun acts => by rw [doInvoke_state]; exact hsteps⟩
theorem vx_callVW (X : Stand p l e R s m args below meth c T locs cells slots) (hexec : p.tables.exec = Jvm.exec) {own C : String} {index : Nat} {y : MethodName} {bytes : ByteArray} {maxL : Nat} {ret : Option FieldType} {hh : List (Nat × Nat × Nat × Nat)}
    (hown : s.vm.findClass own = some m.cls) (hlink : (Cond.methodLink own index y).before args s = true) (hinst : (Cond.instanceMethod y).before args s = true) (hsel : (Cond.selects C y y).before args s = true)
    (hcode : (Cond.codeWith y bytes maxL ret hh).before args s = true) (hy : y.cls ≠ "java/lang/invoke/MethodHandle" ∧ y.cls ≠ "java/lang/invoke/VarHandle")
    {W9 : Nat} {Pre : Pt → Array Value → Prop} {Post : Pt → Array Value → Option Value → Pt → Prop} (hK : Back l R p e below s args y 3 W9 Pre Post)
    {b : Addr} {cellB : Cell} (hcell : T.heap[b]? = some cellB) (hobj : cellB.vm.isStatics = false) (hcls : s.vm.findClass C = some cellB.cls)
    {g : JFrame} (hg : g.method = m) (hsize : g.locals.size = c.maxLocals) {argsL rest : List Value} (hlen : ∀ sig, parseMethodDescriptor y.desc = some sig → argsL.length = sig.parameters.length)
    (hstack : g.stack = argsL.reverse ++ .ref b :: rest) (hW : 2 * g.monitorRoom + (rest.map fun v => v.category).sum ≤ W9) (hdg : decode c.code g.pc = .ok (.invokevirtual index, 3))
    (hpre : ∀ vm₁, s.WarmedH vm₁ → Pre ⟨T.setVm vm₁, locs, cells, slots⟩ (Value.ref b :: argsL).toArray) :
    ∃ (v : Option Value) (vm₁ : Vm) (B : Pt), s.WarmedH vm₁ ∧ Stand p l e R s m args below meth c B.U B.locs B.cells B.slots ∧ Post ⟨T.setVm vm₁, locs, cells, slots⟩ (Value.ref b :: argsL).toArray v B ∧
      ∀ target, Steps p.tables e below (B.U.setTop { g with pc := g.pc + 3, stack := v.toList ++ rest }) target → Steps p.tables e below (T.setTop g) target := by
  obtain ⟨mk, methM, hnamed, hmethM, hstM, habM⟩ := Cond.instanceMethod_spec hinst
  obtain ⟨m8, methM', cM, hn8, hmethM', -, -, -, -, -, -, hsigM⟩ := Cond.codeWith_spec hcode
  cases Option.some.inj (hn8.symm.trans hnamed)
  cases hmethM.symm.trans hmethM'
  obtain ⟨c2, r2, m2, q1, q2, q3, q4, kP, hkP, hkPi⟩ := Cond.selects_spec hsel
  cases hcls.symm.trans q1
  cases (State.methodFound?_of_named hnamed hy).symm.trans q2
  cases hnamed.symm.trans q3
  have hselP : selectMethod e.platform s.vm cellB.cls mk = .method mk := by rw [Launch.admits_selectMethod X.admits]; exact q4
  obtain ⟨vm₁, X₁, hstep₁⟩ := X.invokevirtual hexec hown hlink hnamed hmethM hstM hkP hkPi hy (a := b) (cell := cellB) hcell
    (fun z h => by rw [h] at hobj; cases hobj) hselP hmethM habM hkP hkPi (g := g) hg (argsL := argsL) (rest := rest) (hlen _ hsigM) hstack hdg
  obtain ⟨v, B, X', hpost, hsteps⟩ := hK m meth c ⟨T.setVm vm₁, locs, cells, slots⟩ { g with stack := rest } (.invokevirtual index) mk (Value.ref b :: argsL).toArray X₁ hg hsize hdg hW (X₁.named hnamed) (hpre vm₁ X₁.warmed)
  exact ⟨v, vm₁, B, X₁.warmed, X', hpost, fun target h => hstep₁ _ fun acts => by rw [doInvoke_state]; exact hsteps.trans h⟩
abbrev vx_CVW (R : Room) (s : State) (args : Array Value) (own C : String) (index : Nat) (y : MethodName) (bytes : ByteArray) (maxL : Nat) (ret : Option FieldType) (hh : List (Nat × Nat × Nat × Nat)) (ws : List Cond) (rm : Room) (mc ms n : Nat) : Prop :=
  (rm.cells = mc ∧ rm.slots = ms ∧ rm.frames + 1 ≤ R.frames ∧ 8 + (maxL + 11) + rm.locals ≤ R.locals ∧ (∀ w ∈ ws, ∀ (a' : Array Value) (U : State), s.WarmedH U.vm → w.before a' U = true) ∧ Cond.codeWith y bytes maxL ret hh ∈ ws) ∧
  (Cond.codeWith y bytes maxL ret hh).before args s = true ∧ (Cond.initialized y.cls).before args s = true ∧ (y.cls ≠ "java/lang/invoke/MethodHandle" ∧ y.cls ≠ "java/lang/invoke/VarHandle") ∧
  (∀ sig, parseMethodDescriptor y.desc = some sig → n = sig.parameters.length) ∧ (Cond.methodLink own index y).before args s = true ∧ (Cond.instanceMethod y).before args s = true ∧ (Cond.selects C y y).before args s = true
theorem vx_cwVW {own C : String} {index maxL mc ms : Nat} {y : MethodName} {bytes : ByteArray} {ret : Option FieldType} {hh : List (Nat × Nat × Nat × Nat)} {Ts ws ws' : List Cond} {rm : Room} (n : Nat) (ht : ∀ w ∈ Ts, w.before args s = true) (hT : GoodIn Ts (wsV own index C y ws)) (hw : ws = Cond.codeWith y bytes maxL ret hh :: ws') (hrc : rm.cells = mc) (hrs : rm.slots = ms)
    (hd : y.cls = C ∧ y.cls ≠ "java/lang/invoke/MethodHandle" ∧ y.cls ≠ "java/lang/invoke/VarHandle" ∧ (parseMethodDescriptor y.desc).map (fun d => d.parameters.length) = some n) (hR : rm.frames + 1 ≤ R.frames ∧ 8 + (maxL + 11) + rm.locals ≤ R.locals) :
    vx_CVW R s args own C index y bytes maxL ret hh ws rm mc ms n := by
  obtain ⟨hC, hd⟩ := hd
  subst hC
  have ok : ∀ w ∈ wsV own index y.cls y ws, w.before args s = true := fun w h => ht w (hT w h).1
  have hG : GoodIn Ts ws := fun w h => hT w (by unfold wsV; exact List.mem_append_right _ h)
  have hc : Cond.codeWith y bytes maxL ret hh ∈ ws := by rw [hw]; exact List.mem_cons_self
  refine ⟨⟨hrc, hrs, hR.1, hR.2, pay_in ht hG, hc⟩, ht _ (hG _ hc).1, ok _ (by simp [wsV]), ⟨hd.1, hd.2.1⟩, fun sig h => ?_, ok _ (by simp [wsV]), ok _ (by simp [wsV]), ok _ (by simp [wsV])⟩
  have h2 := hd.2.2
  rw [h] at h2
  exact (Option.some.inj h2).symm
theorem vx_runVW {y : MethodName} {bytes cc : ByteArray} {maxL nL mc ms n index : Nat} {ret : Option FieldType} {hh : List (Nat × Nat × Nat × Nat)} {ws : List Cond} {rm : Room} {Pc : Array Value → State → Prop} {Qc : Array Value → State → Outcome → State → Prop} {free : Addr → Prop} {Ts : List Cond} {own C : String} {b : Addr} {As rest : List Value} {g : JFrame}
    (S : CallFix p m c cc nL s args Ts own) (hM : Met l y ws rm Pc Qc mc ms free) (cw : vx_CVW R s args own C index y bytes maxL ret hh ws rm mc ms n) (hp : PreV s H C b Pc As)
    (hg : g.method = m) (hn : As.length = n) (hsize : g.locals.size = nL) (hstack : g.stack = As.reverse ++ .ref b :: rest) (hW : 2 * g.monitorRoom + (rest.map fun v => v.category).sum ≤ 8) (hdg : decode cc g.pc = .ok (.invokevirtual index, 3)) (hf : cells + mc ≤ R.cells ∧ slots + ms ≤ R.slots) :
    va_Run p l e R s m args below meth c H locs cells slots mc ms g rest (Qc (Value.ref b :: As).toArray) free := by
  obtain ⟨⟨hrc, hrs, hfr, hlo, hws, hcw⟩, hcode, hini, hy, hlen, hl, hin, hse⟩ := cw
  have hK : Back l R p e below s args y 3 8 (PreOf R mc ms Pc) (PostOf Qc mc ms free) := va_backW (hh := hh) (bytes := bytes) (maxL := maxL) (ret := ret) hM hp.1 hrc hrs hfr hlo hws hcw (fun a' U hW => word_at hW (Or.inl (by first | rfl | simp [Cond.onTables, Cond.keeps, Cond.steady])) hini)
  obtain ⟨hx, hb, hml, ho, -⟩ := S
  obtain ⟨-, ⟨cellB, hcB, hoB, hclB⟩, hPc⟩ := hp
  intro T hT X
  obtain ⟨v, vm₁, ⟨U', l2, c2, s2⟩, hW₁, X', ⟨g', mk, t, L, e1, e2, hq, h1, hL, h2, h3⟩, st⟩ := vx_callVW X hx (C := C) (hh := hh) (bytes := bytes) (maxL := maxL) (ret := ret) ho hl hin hse hcode hy hK (by rw [hT]; exact hcB) hoB hclB hg (hsize.trans hml.symm) (argsL := As) (rest := rest) (fun sig h => hn.trans (hlen sig h)) hstack hW (by rw [hb]; exact hdg)
    (fun vm₁ hW₁ => ⟨hf.1, hf.2, hPc (T.setVm vm₁) hT hW₁⟩)
  dsimp only [Pt.U, Pt.locs, Pt.cells, Pt.slots] at X' e1 e2 h1 h2 h3 st
  subst h1; subst h2; subst h3
  exact ⟨v, (T.setVm vm₁).calling g' mk (Value.ref b :: As).toArray, t, U', L, hT, X', hL, e1, e2, hq, st⟩
section
variable {y : MethodName} {bytes cc : ByteArray} {maxL nL mc ms n index : Nat} {ret : Option FieldType} {ws : List Cond} {rm : Room} {Pc : Array Value → State → Prop} {Qc : Array Value → State → Outcome → State → Prop} {XC : String → State → State → Prop} {free : Addr → Prop} {Ts : List Cond} {own C : String} {b : Addr} {As rest : List Value} {g : JFrame}
theorem vx_runVX {hh : List (Nat × Nat × Nat × Nat)} (S : CallFix p m c cc nL s args Ts own) (hM : vx_Met l y ws rm Pc Qc XC mc ms free) (cw : vx_CVW R s args own C index y bytes maxL ret hh ws rm mc ms n) (hp : PreV s H C b Pc As)
    (hg : g.method = m) (hn : As.length = n) (hsize : g.locals.size = nL) (hstack : g.stack = As.reverse ++ .ref b :: rest) (hW : 2 * g.monitorRoom + (rest.map fun v => v.category).sum ≤ 8) (hdg : decode cc g.pc = .ok (.invokevirtual index, 3)) (hf : cells + mc ≤ R.cells ∧ slots + ms ≤ R.slots) :
    vx_Run p l e R s m args below meth c H locs cells slots mc ms g rest (Qc (Value.ref b :: As).toArray) XC free := by
  obtain ⟨⟨hrc, hrs, hfr, hlo, hws, hcw⟩, hcode, hini, hy, hlen, hl, hin, hse⟩ := cw
  have hK : vx_Back l R p e below s args y 3 8 (PreOf R mc ms Pc) (PostOf Qc mc ms free) (vx_Post XC mc ms free) := vx_backW (hh := hh) (bytes := bytes) (maxL := maxL) (ret := ret) hM hp.1 hrc hrs hfr hlo hws hcw (fun a' U hW => word_at hW (Or.inl (by first | rfl | simp [Cond.onTables, Cond.keeps, Cond.steady])) hini)
  obtain ⟨hx, hb, hml, ho, -⟩ := S
  obtain ⟨-, ⟨cellB, hcB, hoB, hclB⟩, hPc⟩ := hp
  intro T hT X
  rcases vx_callVX X hx (C := C) (hh := hh) (bytes := bytes) (maxL := maxL) (ret := ret) ho hl hin hse hcode hy hK (by rw [hT]; exact hcB) hoB hclB hg (hsize.trans hml.symm) (argsL := As) (rest := rest) (fun sig h => hn.trans (hlen sig h)) hstack hW (by rw [hb]; exact hdg)
    (fun vm₁ hW₁ => ⟨hf.1, hf.2, hPc (T.setVm vm₁) hT hW₁⟩) with ⟨v, vm₁, ⟨U', l2, c2, s2⟩, hW₁, X', ⟨g', mk, t, L, e1, e2, hq, h1, hL, h2, h3⟩, st⟩ | ⟨q, vm₁, ⟨U', l2, c2, s2⟩, hW₁, X', ⟨g', mk, t, L, E, ce, e1, e2, hq, hce, hcv, hcl, h1, hL, h2, h3⟩, st⟩
  · dsimp only [Pt.U, Pt.locs, Pt.cells, Pt.slots] at X' e1 e2 h1 h2 h3 st
    subst h1; subst h2; subst h3
    exact Or.inl ⟨v, (T.setVm vm₁).calling g' mk (Value.ref b :: As).toArray, t, U', L, hT, X', hL, e1, e2, hq, st⟩
  · dsimp only [Pt.U, Pt.locs, Pt.cells, Pt.slots] at X' e1 e2 h1 h2 h3 st hcl
    subst h1; subst h2; subst h3
    exact Or.inr ⟨q, (T.setVm vm₁).calling g' mk (Value.ref b :: As).toArray, t, U', L, E, ce, hT, X', hL, e1, e2, hq, hce, hcv, vx_cls hW₁ hcl, st⟩
theorem vx_runSX {hh : List (Nat × Nat × Nat × Nat)} (S : CallFix p m c cc nL s args Ts own) (hM : vx_Met l y ws rm Pc Qc XC mc ms free) (cw : vx_CSW R s args own index y bytes maxL ret hh ws rm mc ms n) (hp : PreS s H Pc As)
    (hg : g.method = m) (hn : As.length = n) (hsize : g.locals.size = nL) (hstack : g.stack = As.reverse ++ rest) (hW : 2 * g.monitorRoom + (rest.map fun v => v.category).sum ≤ 8) (hdg : decode cc g.pc = .ok (.invokestatic index, 3)) (hf : cells + mc ≤ R.cells ∧ slots + ms ≤ R.slots) :
    vx_Run p l e R s m args below meth c H locs cells slots mc ms g rest (Qc As.toArray) XC free := by
  obtain ⟨⟨hrc, hrs, hfr, hlo, hws, hcw⟩, hcode, hini, hy, hlen, hl, hstt⟩ := cw
  have hK : vx_Back l R p e below s args y 3 8 (PreOf R mc ms Pc) (PostOf Qc mc ms free) (vx_Post XC mc ms free) := vx_backW (hh := hh) (bytes := bytes) (maxL := maxL) (ret := ret) hM hp.1 hrc hrs hfr hlo hws hcw (fun a' U hW => word_at hW (Or.inl (by first | rfl | simp [Cond.onTables, Cond.keeps, Cond.steady])) hini)
  obtain ⟨hx, hb, hml, ho, -⟩ := S
  intro T hT X
  rcases vx_callSX X hx (hh := hh) (bytes := bytes) (maxL := maxL) (ret := ret) ho hl hstt hini hcode hy hK hg (hsize.trans hml.symm) (argsL := As) (rest := rest) (fun sig h => hn.trans (hlen sig h)) hstack hW (by rw [hb]; exact hdg)
    (fun vm₁ hW₁ => ⟨hf.1, hf.2, hp.2 (T.setVm vm₁) hT hW₁⟩) with ⟨v, vm₁, ⟨U', l2, c2, s2⟩, hW₁, X', ⟨g', mk, t, L, e1, e2, hq, h1, hL, h2, h3⟩, st⟩ | ⟨q, vm₁, ⟨U', l2, c2, s2⟩, hW₁, X', ⟨g', mk, t, L, E, ce, e1, e2, hq, hce, hcv, hcl, h1, hL, h2, h3⟩, st⟩
  · dsimp only [Pt.U, Pt.locs, Pt.cells, Pt.slots] at X' e1 e2 h1 h2 h3 st
    subst h1; subst h2; subst h3
    exact Or.inl ⟨v, (T.setVm vm₁).calling g' mk As.toArray, t, U', L, hT, X', hL, e1, e2, hq, st⟩
  · dsimp only [Pt.U, Pt.locs, Pt.cells, Pt.slots] at X' e1 e2 h1 h2 h3 st hcl
    subst h1; subst h2; subst h3
    exact Or.inr ⟨q, (T.setVm vm₁).calling g' mk As.toArray, t, U', L, E, ce, hT, X', hL, e1, e2, hq, hce, hcv, vx_cls hW₁ hcl, st⟩
end
end VXH
theorem vx_ofWH {l : Launch} {y : MethodName} {ws ws' : List Cond} {rm : Room} {Pc : Array Value → State → Prop} {Qc : Array Value → State → Outcome → State → Prop} {XC : String → State → State → Prop} {mc ms : Nat} {free : Addr → Prop} {cc : ByteArray} {maxL : Nat} {ret : Option FieldType} {hh : List (Nat × Nat × Nat × Nat)}
    (hy : plainName y.cls = true) (hw : ws = Cond.codeWith y cc maxL ret hh :: ws')
    (body : ∀ p e s m args below meth c s₁, BodyLoose p l y (headSpec ws rm) cc maxL ret e s m args below meth c s₁ → c.maxLocals = maxL → Pc args s →
      W p l e (headSpec ws rm).room s m args below meth c s.heap [] 0 0 (vx_MQ below Qc XC args s mc ms free) (entryFrame m args maxL)) : vx_Met l y ws rm Pc Qc XC mc ms free := by
  refine MetFree.of_bodyS (code := cc) (maxLocals := maxL) (ret := ret) hy ?_ ?_
  · intro args s m h hn
    obtain ⟨m9, meth, c, hn9, h1, h2, h3, h4, -, h5, h6, -⟩ := Cond.codeWith_spec (atoms_spec (ws := ws) h _ (by rw [hw]; exact List.mem_cons_self))
    cases hn.symm.trans hn9
    exact ⟨meth, c, h1, h2, h3, h4, h5, h6⟩
  · intro p e s m args below meth c s₁ B hml hP _
    have hh0 : s₁.heap = s.heap := by rw [B.state]; rfl
    obtain ⟨t, a1, o, b1, b2, b3⟩ := body p e s m args below meth c s₁ B hml hP s₁ hh0 (Stand.of_body B)
    exact ⟨t, o, a1, b1, b2, b3⟩
/-! ===== END ===== -/

/-! ===== BEGIN what the machine throws by itself, no traces kept ===== -/
section VXM
set_option maxHeartbeats 1000000 in
/-- the machine throws cls with the message text, no traces kept: from its note over the frame g to 'throwing' over the same frame (follows the proofs of Stand.vmThrowsMessage, Shelf/KitTracedVmS.lean, and Stand.throwsMessageColdBareV, StandMessageColdV.lean, without the step out of the frame) -/
theorem vx_vmAt {p : Program} {l : Launch} {e : Env} {R : Room} {s : State} {m₀ : MethodId} {args : Array Value} {below : List Frame} {meth : Method} {c : Code} {W : State} {locs : List Loc} {cells slots : Nat}
    (X : Stand p l e R s m₀ args below meth c W locs cells slots) (hexec : p.tables.exec = Jvm.exec) (htr : e.platform.stackTraces = false) {cls : String} {names : List String} {text : String}
    (hcls : Bundle.fit cls = true) (hnames : ∀ n ∈ names, Bundle.fit n = true) (hsoe : (cls == "java/lang/StackOverflowError") = false) (hoom : (cls == "java/lang/OutOfMemoryError") = false)
    (h : ∀ a ∈ Bundle.messageArmAtoms cls names, a.before args s = true)
    (hlocs : ∀ x ∈ locs, ∀ cell, s.heap[x.base]? = some cell → cell.vm.isStatics = false)
    (htext : (text == notModelled) = false) (hlimit : ¬ (stringBytes (stringToUtf16 text)).size > e.platform.arrayLengthLimit) (hheap : ¬ (stringBytes (stringToUtf16 text)).size * componentBytes .byte > e.platform.maxHeapBytes)
    {g : JFrame} (hg : g.method = m₀) (hsize : g.locals.size = c.maxLocals)
    (hRframes : names.length + 4 < R.frames) (hRlocals : 2 * g.monitorRoom + (g.stack.map fun v => v.category).sum + 10240 ≤ R.locals) (hshort : 13 * names.length + 55 ≤ 10240)
    (hRcells : cells + 3 ≤ R.cells) (hRslots : slots + ((stringBytes (stringToUtf16 text)).size + 4 + 6) ≤ R.slots) (hlocks : meth.locks = false) :
    ∃ (S : State) (q : Addr) (ce : Cell), (∀ target, Steps p.tables e below ((S.setTop g).pushFrame (.throwing q)) target → Steps p.tables e below ((W.setTop g).pushFrame (.throwNew cls (some text) none)) target) ∧
      Stand p l e R s m₀ args below meth c S locs (cells + 3) (slots + ((stringBytes (stringToUtf16 text)).size + 4 + 6)) ∧ S.heap[q]? = some ce ∧ s.vm.findClass cls = some ce.cls ∧ ce.vm = .none := by
  have howns : e.platform.frameOwnsMonitors = true := by rw [X.admits.platform]
  have hfin : e.platform.finalization = false := by rw [X.admits.platform]
  have hpl : e.platform.magicAccessors = ({} : Platform).magicAccessors := by rw [X.admits.platform]
  have a : ∀ x, x ∈ Bundle.messageArmAtoms cls names → x.holds args s none s [] = true := fun x hx => h x hx
  obtain ⟨T, Z0, L, -, Y⟩ := ThrowableC.of_atoms (args := args) howns hfin hpl (fun x hx => h x (by simp [Bundle.messageArmAtoms, hx]))
  obtain ⟨Z, M, LZ, LM, hnZ⟩ := Init0T.ofS_atoms (args := args) hpl L Y (fun x hx => h x (by simp [Bundle.messageArmAtoms, hx]))
  obtain ⟨P1, Ps, hlen, L1, hL, hP1m, hlink1, hlink⟩ := Bundle.chainS (args := args) hpl hnZ names cls hcls hnames (fun x hx => h x (by simp [Bundle.messageArmAtoms, hx]))
  obtain ⟨Zs, LZs, hn4, hfitv, hfitc⟩ := StringT.of_atoms (args := args) (fun x hx => h x (by simp [Bundle.messageArmAtoms, hx]))
  have hfound : s.vm.findClass cls = some P1.m.cls := findClass_of_methodNamed hP1m
  obtain ⟨c1, kX, hc1, hk, hord, -, -, hn6⟩ := Cond.instantiable_spec (a (.instantiable cls 6) (by simp [Bundle.messageArmAtoms]))
  cases Option.some.inj (hc1.symm.trans hfound)
  have hinit := Cond.initialized_spec hfound hk (a (.initialized cls) (by simp [Bundle.messageArmAtoms]))
  have hctor : kX.findMethod "<init>" "(Ljava/lang/String;)V" = some P1.m.idx := findMethod_of_methodNamed hP1m hk
  have hsel0 : selectMethod e.platform s.vm P1.m.cls T.fill0 = .method T.fill0 := by
    obtain ⟨c2, r2, m2, q1, q2, q3, q4, -⟩ := Cond.selects_spec (a (.selects cls Bundle.tFill0 Bundle.tFill0) (by simp [Bundle.messageArmAtoms]))
    cases Option.some.inj (q1.symm.trans hfound)
    cases Option.some.inj (q2.symm.trans (State.methodFound?_of_named Y.fill0 (by decide)))
    cases Option.some.inj (q3.symm.trans Y.fill0)
    rw [Launch.admits_selectMethod X.admits]; exact q4
  have hselF : selectMethod e.platform s.vm P1.m.cls T.fill = .method T.fill := by
    obtain ⟨c2, r2, m2, q1, q2, q3, q4, -⟩ := Cond.selects_spec (a (.selects cls Bundle.tFill Bundle.tFill) (by simp [Bundle.messageArmAtoms]))
    cases Option.some.inj (q1.symm.trans hfound)
    cases Option.some.inj (q2.symm.trans (State.methodFound?_of_named Y.fill (by decide)))
    cases Option.some.inj (q3.symm.trans Y.fill)
    rw [Launch.admits_selectMethod X.admits]; exact q4
  obtain ⟨cellS0, hcS0, hiss⟩ := Y.statics
  obtain ⟨u0, hu0⟩ := Cond.staticRefV Y.unassigned L.unassignedStatic L.statics hcS0 hiss (a (.isRef (.static Bundle.tN "UNASSIGNED_STACK" Bundle.steD)) (by simp [Bundle.messageArmAtoms]))
  obtain ⟨sen, hsen⟩ := Cond.staticRefV Y.sentinel L.sentinelStatic L.statics hcS0 hiss (a (.isRef (.static Bundle.tN "SUPPRESSED_SENTINEL" Bundle.listD)) (by simp [Bundle.messageArmAtoms]))
  obtain ⟨ci198, i198, fB, hk198, hg198, ha198, hsB, -, hnB, htB, hffB⟩ := Cond.ownField (t := .object "java/lang/Object") Y.found L.cls (by decide +kernel) (a (.fieldLink Bundle.tN 198 Bundle.tN "backtrace" "Ljava/lang/Object;") (by simp [Bundle.messageArmAtoms])) (a (.lays Bundle.tN Bundle.tN "backtrace" "Ljava/lang/Object;") (by simp [Bundle.messageArmAtoms])) e.platform hpl
  obtain ⟨cellS, hcS', heS, -, hkeep⟩ := X.same.2.2.2.2.2 T.aS cellS0 hcS0
  have hcellS : W.heap[T.aS]? = some cellS := hcS'
  have hout' : ∀ i, (⟨T.aS, i⟩ : Loc) ∉ locs := fun i hmem => by
    have := hlocs _ hmem cellS0 hcS0
    rw [hiss] at this; cases this
  have hknownS : cellS.vm ≠ .unknown := by
    rw [heS]; intro hu
    rw [show cellS0.vm = .unknown from hu] at hiss
    cases hiss
  have hvU : cellS.slots[T.fUnassigned.slot]? = some u0.v := by rw [hkeep _ (hout' _)]; exact hu0
  have hvSen : cellS.slots[T.fSentinel.slot]? = some sen.v := by rw [hkeep _ (hout' _)]; exact hsen
  obtain ⟨iM, hffM⟩ := Y.msg
  obtain ⟨tyC, dC, hdC, hdnC⟩ := Cond.laysAt hfound hk Y.cause (a (.lays cls Bundle.tN "cause" "Ljava/lang/Throwable;") (by simp [Bundle.messageArmAtoms]))
  obtain ⟨tyS, dS, hdS, hdnS⟩ := Cond.laysAt hfound hk Y.stack (a (.lays cls Bundle.tN "stackTrace" Bundle.steD) (by simp [Bundle.messageArmAtoms]))
  obtain ⟨tyP, dP, hdP, hdnP⟩ := Cond.laysAt hfound hk Y.supp (a (.lays cls Bundle.tN "suppressedExceptions" Bundle.listD) (by simp [Bundle.messageArmAtoms]))
  obtain ⟨tyM, dM, hdM, hdnM⟩ := Cond.laysAt hfound hk hffM (a (.lays cls Bundle.tN "detailMessage" "Ljava/lang/String;") (by simp [Bundle.messageArmAtoms]))
  obtain ⟨tyB, dB, hdB, hdnB⟩ := Cond.laysAt hfound hk hffB (a (.lays cls Bundle.tN "backtrace" "Ljava/lang/Object;") (by simp [Bundle.messageArmAtoms]))
  have bC := Cond.laysApart hdB hdC hdnB hdnC (by rw [hnB, Y.causeName]; decide)
  have bS := Cond.laysApart hdB hdS hdnB hdnS (by rw [hnB, Y.stackName]; decide)
  have bP := Cond.laysApart hdB hdP hdnB hdnP (by rw [hnB, Y.suppName]; decide)
  have hbk : ((preparedCellV T.toThrowableT (freshCell P1.m.cls kX) (W.heap.size + 2) u0 sen).withEntry W.cur).slots[fB.slot]? = some .null := by
    have := fresh_default (c := P1.m.cls) tyB
    rw [htB] at this
    simpa [preparedCellV, Cell.setSlot, Cell.withEntry, Array.getElem?_setIfInBounds, bC, bS, bP, bC.symm, bS.symm, bP.symm, defaultValue] using this
  have tkC := Takes.of_laid (v := .ref (W.heap.size + 2)) hk hord tyC (by rw [Y.causeType]; rfl)
  have tkS := Takes.of_laid (v := u0.v) hk hord tyS (by rw [Y.stackType]; exact fits_refV_array _ u0)
  have tkP := Takes.of_laid (v := sen.v) hk hord tyP (by rw [Y.suppType]; exact fits_refV_object _ sen)
  have tkM := Takes.of_laid (v := .ref (W.heap.size + 1)) hk hord tyM (by rw [Y.msgType]; rfl)
  have hskip : SkipFacts T e.platform s (fun u => u) u0 ((preparedCellV T.toThrowableT (freshCell P1.m.cls kX) (W.heap.size + 2) u0 sen).withEntry W.cur) := ⟨{ ci198 := ci198, i198 := i198, fBack := fB }, ⟨hk198, hg198, ha198, hsB⟩, hbk, fun _ _ => rfl⟩
  have h0 : At W g.method c below := by rw [hg]; exact X.here
  obtain ⟨hbeyond, hfreeW⟩ := X.vmMayThrow hsize (.throwNew cls (some text) none) (fun f hf => by cases hf) rfl hRlocals
  have hfr' : W.frames.length + Ps.length + 4 < (e.platform.stackLimits W.me).1 := by have := X.framesAbove hRframes; omega
  have hwd' : (stackUse (.java g :: W.frames.tail)).2 + 13 * Ps.length + 55 ≤ (e.platform.stackLimits W.me).2 := by have := X.stackAbove hsize (K := 13 * Ps.length + 55) (by omega); omega
  have hslots : W.slotsUsed + (stringBytes (stringToUtf16 text)).size + Zs.kS.instanceTypes.size + kX.instanceTypes.size ≤ e.platform.maxSlots := by
    have := X.slotsAbove hRslots
    rw [hn4, hn6]
    omega
  obtain ⟨vm', hW', st⟩ := Steps.vmThrowsMessageColdByV p (s₀ := s) (S := W) (g := g) h0 hexec T L Z LZ M LM X.warmed (t := W.cur) rfl Zs LZs P1 L1 Ps hL hlink1 hlink hsoe hoom hfound hk hinit hord hctor
    (Launch.admits_hotImplicitExceptions X.admits) hbeyond hfreeW htext hlimit hheap (X.cellsAbove hRcells) hslots (hfitv _) (hfitc _)
    (Nn := fun u => u) heapOnly_id (fun _ _ => rfl) (fun _ => rfl) (fun u x y => setCell_twice _ _ _ _) (fun _ => Nat.le_refl _) (cN := ((preparedCellV T.toThrowableT (freshCell P1.m.cls kX) (W.heap.size + 2) u0 sen).withEntry W.cur))
    hsel0 hcellS hknownS hvU tkS (fun _ hu => hu) (fun _ hu => hu) rfl rfl rfl (by simp [preparedCellV, Cell.setSlot, Cell.withEntry]) hskip (fun _ _ hA hW _ hroom _ hrest => L.nativeOff p htr hA hW hroom hrest) hselF hvSen tkC tkP tkM Y.objLocals rfl hfr' hwd'
  rw [plainBareV_eq T.toThrowableT (W.heap.size + 2) u0 sen (.ref (W.heap.size + 1)) W.cur rfl rfl] at st
  obtain ⟨-, -, w3, w4, -, -, -⟩ := withThrown_facts e.platform W Zs text P1.m.cls kX
  have X3 := ((X.pushed (bytesOf Zs.cB (stringToUtf16 text))).pushed (stringAt Zs.cS Zs.kS Zs.fv Zs.fc (stringToUtf16 text) W.heap.size)).pushed (freshCell P1.m.cls kX)
  rw [← withString_eq] at X3
  have X4 := X3.noted hW'
  have ha : (W.heap.size + 2) < ((withThrown W Zs text P1.m.cls kX).setVm vm').heap.size := by show _ < (withThrown W Zs text P1.m.cls kX).heap.size; rw [w3]; omega
  have hcell : ((withThrown W Zs text P1.m.cls kX).setVm vm').heap[(W.heap.size + 2)]? = some (freshCell P1.m.cls kX) := w4
  have X5 := ((((X4.stored hcell T.fCause.slot (.ref (W.heap.size + 2))).storedAgain ha T.fStack.slot u0.v).storedAgain ha T.fSupp.slot sen.v).storedAgain ha T.fStack.slot u0.v).storedAgain ha T.fMsg.slot (.ref (W.heap.size + 1))
  obtain ⟨g₁, hfrM⟩ := X5.frames_eq
  have hU : ((((withThrown W Zs text P1.m.cls kX).setVm vm').setCell (W.heap.size + 2) (plainBareV T.toThrowableT (freshCell P1.m.cls kX) (W.heap.size + 2) u0 sen (.ref (W.heap.size + 1)))).setTop g).pushFrame (.throwing (W.heap.size + 2)) = (((withThrown W Zs text P1.m.cls kX).setVm vm').setCell (W.heap.size + 2) (plainBareV T.toThrowableT (freshCell P1.m.cls kX) (W.heap.size + 2) u0 sen (.ref (W.heap.size + 1)))).setFrames (.throwing (W.heap.size + 2) :: .java g :: below) := by
    rw [State.pushFrame, State.frames_setTop _ hfrM, State.setTop_of_frames _ hfrM, State.setFrames_setFrames]
  have b1 : (bytesOf Zs.cB (stringToUtf16 text)).slots.size = (stringBytes (stringToUtf16 text)).size := by
    rw [(Cell.writeAll_facts _ _).2.2]; simp [bytes0]
  have b2 : (stringAt Zs.cS Zs.kS Zs.fv Zs.fc (stringToUtf16 text) W.heap.size).slots.size = 4 := by simp [string0, Cell.setSlot, hn4]
  have b3 : (freshCell P1.m.cls kX).slots.size = 6 := by simp [hn6]
  rw [b1, b2, b3] at X5
  have e9 : slots + (stringBytes (stringToUtf16 text)).size + 4 + 6 = slots + ((stringBytes (stringToUtf16 text)).size + 4 + 6) := by omega
  rw [e9] at X5
  simp only [List.append_assoc, List.cons_append, List.nil_append] at X5
  refine ⟨((withThrown W Zs text P1.m.cls kX).setVm vm').setCell (W.heap.size + 2) (plainBareV T.toThrowableT (freshCell P1.m.cls kX) (W.heap.size + 2) u0 sen (.ref (W.heap.size + 1))), W.heap.size + 2, _, fun target ht => st _ (by rw [X.tail, ← hU]; exact ht),
    X5.forget (fun y hy => ?_), heapAt_setCell_self _ ha, hfound, rfl⟩
  simp only [List.mem_cons, List.not_mem_nil, or_false] at hy
  have hge : s.heap.size ≤ W.heap.size := X.same.2.1
  rcases hy with rfl | rfl | rfl | rfl | rfl <;> exact Nat.le_trans hge (Nat.le_add_right _ 2)
set_option maxHeartbeats 1000000 in
/-- the machine throws NullPointerException, no traces kept: from its note over the frame g to 'throwing' over the same frame (follows the proof of Stand.vmThrowsNpe, Shelf42/KT2.lean; throwsNpeColdBareVAt, Shelf42/NT91.lean, called) -/
theorem vx_npeAt {p : Program} {l : Launch} {e : Env} {R : Room} {s : State} {m₀ : MethodId} {args : Array Value} {below : List Frame} {meth : Method} {c : Code} {W : State} {locs : List Loc} {cells slots : Nat}
    (X : Stand p l e R s m₀ args below meth c W locs cells slots) (hexec : p.tables.exec = Jvm.exec) (htr : e.platform.stackTraces = false) {n : Nat}
    (h : ∀ a ∈ Bundle.npeArmAtoms n, a.before args s = true)
    (hlocs : ∀ x ∈ locs, ∀ cell, s.heap[x.base]? = some cell → cell.vm.isStatics = false)
    {g : JFrame} (hg : g.method = m₀) (hsize : g.locals.size = c.maxLocals)
    (hRframes : 7 < R.frames) (hRlocals : 2 * g.monitorRoom + (g.stack.map fun v => v.category).sum + 10240 ≤ R.locals)
    (hRcells : cells + 1 ≤ R.cells) (hRslots : slots + n ≤ R.slots) (hlocks : meth.locks = false) :
    ∃ (S : State) (q : Addr) (ce : Cell), (∀ target, Steps p.tables e below ((S.setTop g).pushFrame (.throwing q)) target → Steps p.tables e below ((W.setTop g).pushFrame (.throwNew "java/lang/NullPointerException" none none)) target) ∧
      Stand p l e R s m₀ args below meth c S locs (cells + 1) (slots + n) ∧ S.heap[q]? = some ce ∧ s.vm.findClass "java/lang/NullPointerException" = some ce.cls ∧ ce.vm = .none := by
  have howns : e.platform.frameOwnsMonitors = true := by rw [X.admits.platform]
  have hfin : e.platform.finalization = false := by rw [X.admits.platform]
  have hpl : e.platform.magicAccessors = ({} : Platform).magicAccessors := by rw [X.admits.platform]
  have hpl2 : e.platform.arrayCloneIsPublic = true := by rw [X.admits.platform]
  have a' : ∀ x, x ∈ Bundle.npeArmAtoms n → x.holds args s none s [] = true := fun x hx => h x hx
  obtain ⟨T, Z, L, LZ, Y⟩ := ThrowableC.of_atoms (args := args) howns hfin hpl (fun x hx => h x (by simp [Bundle.npeArmAtoms, hx]))
  obtain ⟨N, LN, hcN, hnNF, hordN, hffS⟩ := NpeC.of_atoms (args := args) hpl hpl2 L Y (fun x hx => h x (by simp [Bundle.npeArmAtoms, hx]))
  obtain ⟨P1, L1, hP1m, hP1s⟩ := PassC.of_atoms (args := args) (s := s) hpl (X := Bundle.nN) (Y := Bundle.rN) (by decide) (by decide) LibCode.NullPointerException.Init0.at_0 LibCode.NullPointerException.Init0.at_1 LibCode.NullPointerException.Init0.at_4 (fun x hx => h x (by simp [Bundle.npeArmAtoms, hx]))
  obtain ⟨PR, LR, hPRm, hPRs⟩ := PassC.of_atoms (args := args) (s := s) hpl (X := Bundle.rN) (Y := Bundle.eN) (by decide) (by decide) LibCode.RuntimeException.Init0.at_0 LibCode.RuntimeException.Init0.at_1 LibCode.RuntimeException.Init0.at_4 (fun x hx => h x (by simp [Bundle.npeArmAtoms, hx]))
  obtain ⟨PE, LEx, hPEm, hPEs⟩ := PassC.of_atoms (args := args) (s := s) hpl (X := Bundle.eN) (Y := Bundle.tN) (by decide) (by decide) LibCode.Exception.Init0.at_0 LibCode.Exception.Init0.at_1 LibCode.Exception.Init0.at_4 (fun x hx => h x (by simp [Bundle.npeArmAtoms, hx]))
  have hfound : s.vm.findClass Bundle.nN = some P1.m.cls := findClass_of_methodNamed hP1m
  have ecls : N.cN = P1.m.cls := Option.some.inj (hcN.symm.trans hfound)
  have hk : s.vm.classes[P1.m.cls]? = some N.kN := by rw [← ecls]; exact LN.cls
  have hinit := Cond.initialized_spec hfound hk (a' (.initialized Bundle.nN) (by simp [Bundle.npeArmAtoms]))
  have hctor : N.kN.findMethod "<init>" "()V" = some P1.m.idx := findMethod_of_methodNamed hP1m hk
  obtain ⟨c1, k1, hc1, hk1, -, -, -, hn⟩ := Cond.instantiable_spec (a' (.instantiable Bundle.nN n) (by simp [Bundle.npeArmAtoms]))
  cases Option.some.inj (hc1.symm.trans hfound)
  cases Option.some.inj (hk1.symm.trans hk)
  have hfsz : (freshCell P1.m.cls N.kN).slots.size = n := by simp [hn]
  have hlink1 : P1.sup = PR.m := Option.some.inj (hP1s.symm.trans hPRm)
  have hlinkR : PR.sup = PE.m := Option.some.inj (hPRs.symm.trans hPEm)
  have hlinkE : PE.sup = Z.m T.toThrowableT := Option.some.inj (hPEs.symm.trans Y.init0)
  have hLs : ∀ P, P ∈ [PR, PE] → P.Links0 e.platform s := fun P hP => by
    simp only [List.mem_cons, List.not_mem_nil, or_false] at hP
    rcases hP with rfl | rfl
    · exact LR
    · exact LEx
  have hsel0 : selectMethod e.platform s.vm P1.m.cls T.fill0 = .method T.fill0 := by
    obtain ⟨c2, r2, m2, q1, q2, q3, q4, -⟩ := Cond.selects_spec (a' (.selects Bundle.nN Bundle.tFill0 Bundle.tFill0) (by simp [Bundle.npeArmAtoms]))
    cases Option.some.inj (q1.symm.trans hfound)
    cases Option.some.inj (q2.symm.trans (State.methodFound?_of_named Y.fill0 (by decide)))
    cases Option.some.inj (q3.symm.trans Y.fill0)
    rw [Launch.admits_selectMethod X.admits]; exact q4
  have hselF : selectMethod e.platform s.vm P1.m.cls T.fill = .method N.fill := by
    obtain ⟨c2, r2, m2, q1, q2, q3, q4, -⟩ := Cond.selects_spec (a' (.selects Bundle.nN Bundle.tFill Bundle.nFill) (by simp [Bundle.npeArmAtoms]))
    cases Option.some.inj (q1.symm.trans hfound)
    cases Option.some.inj (q2.symm.trans (State.methodFound?_of_named Y.fill (by decide)))
    cases Option.some.inj (q3.symm.trans hnNF)
    rw [Launch.admits_selectMethod X.admits]; exact q4
  obtain ⟨cellS0, hcS0, hiss⟩ := Y.statics
  obtain ⟨u0, hu0⟩ := Cond.staticRefV Y.unassigned L.unassignedStatic L.statics hcS0 hiss (a' (.isRef (.static Bundle.tN "UNASSIGNED_STACK" Bundle.steD)) (by simp [Bundle.npeArmAtoms]))
  obtain ⟨sen, hsen⟩ := Cond.staticRefV Y.sentinel L.sentinelStatic L.statics hcS0 hiss (a' (.isRef (.static Bundle.tN "SUPPRESSED_SENTINEL" Bundle.listD)) (by simp [Bundle.npeArmAtoms]))
  obtain ⟨ci198, i198, fB, hk198, hg198, ha198, hsB, -, hnB, htB, hffB⟩ := Cond.ownField (t := .object "java/lang/Object") Y.found L.cls (by decide +kernel) (a' (.fieldLink Bundle.tN 198 Bundle.tN "backtrace" Bundle.objD) (by simp [Bundle.npeArmAtoms])) (a' (.lays Bundle.tN Bundle.tN "backtrace" Bundle.objD) (by simp [Bundle.npeArmAtoms])) e.platform hpl
  obtain ⟨cellS, hcS', heS, -, hkeep⟩ := X.same.2.2.2.2.2 T.aS cellS0 hcS0
  have hcellS : W.heap[T.aS]? = some cellS := hcS'
  have hout' : ∀ i, (⟨T.aS, i⟩ : Loc) ∉ locs := fun i hmem => by
    have := hlocs _ hmem cellS0 hcS0
    rw [hiss] at this; cases this
  have hknownS : cellS.vm ≠ .unknown := by
    rw [heS]; intro hu
    rw [show cellS0.vm = .unknown from hu] at hiss
    cases hiss
  have hvU : cellS.slots[T.fUnassigned.slot]? = some u0.v := by rw [hkeep _ (hout' _)]; exact hu0
  have hvSen : cellS.slots[T.fSentinel.slot]? = some sen.v := by rw [hkeep _ (hout' _)]; exact hsen
  obtain ⟨tyC, dC, hdC, hdnC⟩ := Cond.laysAt hfound hk Y.cause (a' (.lays Bundle.nN Bundle.tN "cause" "Ljava/lang/Throwable;") (by simp [Bundle.npeArmAtoms]))
  obtain ⟨tyS, dS, hdS, hdnS⟩ := Cond.laysAt hfound hk Y.stack (a' (.lays Bundle.nN Bundle.tN "stackTrace" Bundle.steD) (by simp [Bundle.npeArmAtoms]))
  obtain ⟨tyP, dP, hdP, hdnP⟩ := Cond.laysAt hfound hk Y.supp (a' (.lays Bundle.nN Bundle.tN "suppressedExceptions" Bundle.listD) (by simp [Bundle.npeArmAtoms]))
  obtain ⟨tyX, dX, hdX, hdnX⟩ := Cond.laysAt hfound hk hffS (a' (.lays Bundle.nN Bundle.nN "extendedMessageState" "I") (by simp [Bundle.npeArmAtoms, Bundle.npeAtoms]))
  obtain ⟨hnX, htX⟩ := State.fieldFound?_type hffS (t := .int) (by decide +kernel)
  have xC := Cond.laysApart hdC hdX hdnC hdnX (by rw [hnX, Y.causeName]; decide)
  have xS := Cond.laysApart hdS hdX hdnS hdnX (by rw [hnX, Y.stackName]; decide)
  have xP := Cond.laysApart hdP hdX hdnP hdnX (by rw [hnX, Y.suppName]; decide)
  have hv0 : (freshCell P1.m.cls N.kN).slots[N.fState.slot]? = some (.int 0) := by
    have := fresh_default (c := P1.m.cls) tyX
    rw [htX] at this; exact this
  obtain ⟨tyB, dB, hdB, hdnB⟩ := Cond.laysAt hfound hk hffB (a' (.lays Bundle.nN Bundle.tN "backtrace" Bundle.objD) (by simp [Bundle.npeArmAtoms]))
  have bC := Cond.laysApart hdB hdC hdnB hdnC (by rw [hnB, Y.causeName]; decide)
  have bS := Cond.laysApart hdB hdS hdnB hdnS (by rw [hnB, Y.stackName]; decide)
  have bP := Cond.laysApart hdB hdP hdnB hdnP (by rw [hnB, Y.suppName]; decide)
  have bX := Cond.laysApart hdB hdX hdnB hdnX (by rw [hnB, hnX]; decide)
  have hbk : ((npeCell N.toNpeT (preparedCellV T.toThrowableT (freshCell P1.m.cls N.kN) W.heap.size u0 sen) W.cur).withEntry W.cur).slots[fB.slot]? = some .null := by
    have := fresh_default (c := P1.m.cls) tyB
    rw [htB] at this
    simpa [npeCell, preparedCellV, Cell.setSlot, Cell.withEntry, Array.getElem?_setIfInBounds, bC, bS, bP, bX, bC.symm, bS.symm, bP.symm, bX.symm, defaultValue] using this
  have tkC := Takes.of_laid (v := .ref W.heap.size) hk hordN tyC (by rw [Y.causeType]; rfl)
  have tkS := Takes.of_laid (v := u0.v) hk hordN tyS (by rw [Y.stackType]; exact fits_refV_array _ u0)
  have tkP := Takes.of_laid (v := sen.v) hk hordN tyP (by rw [Y.suppType]; exact fits_refV_object _ sen)
  have tkX := Takes.of_laid (v := .int 1) hk hordN tyX (by rw [htX]; rfl)
  have hskip : SkipFacts T e.platform s (fun u => u) u0 ((npeCell N.toNpeT (preparedCellV T.toThrowableT (freshCell P1.m.cls N.kN) W.heap.size u0 sen) W.cur).withEntry W.cur) := ⟨{ ci198 := ci198, i198 := i198, fBack := fB }, ⟨hk198, hg198, ha198, hsB⟩, hbk, fun _ _ => rfl⟩
  obtain ⟨vm', X3, st, -⟩ := X.throwsNpeColdBareVAt hexec hg hsize T L Z LZ N LN P1 L1 [PR, PE] hLs hlink1 ⟨hlinkR, hlinkE, trivial⟩ hfound hk hinit hordN hctor hsel0 hselF hcellS hknownS hvU hvSen
    hv0 xC xS xP tkC tkS tkP tkX Y.objLocals hskip (fun _ _ hA hW _ hroom _ hrest => L.nativeOff p htr hA hW hroom hrest) (by simpa using hRframes) hRlocals (by simp) hRcells (by rw [hn]; exact hRslots)
  have hlt : W.heap.size < ((W.pushCell (freshCell P1.m.cls N.kN)).setVm vm').heap.size := by
    show W.heap.size < (W.pushCell (freshCell P1.m.cls N.kN)).heap.size
    rw [State.heap_size_pushCell]; omega
  rw [hfsz] at X3
  obtain ⟨g₁, hfrM⟩ := X3.frames_eq
  have hU : ((((W.pushCell (freshCell P1.m.cls N.kN)).setVm vm').setCell W.heap.size (npeBareV T.toThrowableT N.toNpeT (freshCell P1.m.cls N.kN) W.heap.size u0 sen)).setTop g).pushFrame (.throwing W.heap.size) = (((W.pushCell (freshCell P1.m.cls N.kN)).setVm vm').setCell W.heap.size (npeBareV T.toThrowableT N.toNpeT (freshCell P1.m.cls N.kN) W.heap.size u0 sen)).setFrames (.throwing W.heap.size :: .java g :: below) := by
    rw [State.pushFrame, State.frames_setTop _ hfrM, State.setTop_of_frames _ hfrM, State.setFrames_setFrames]
  refine ⟨_, W.heap.size, _, fun target ht => st.trans (by rw [← hU]; exact ht), X3.forget (fun y hy => ?_), heapAt_setCell_self _ hlt, hfound, rfl⟩
  simp only [List.mem_cons, List.not_mem_nil, or_false] at hy
  have hge : s.heap.size ≤ W.heap.size := X.same.2.1
  rcases hy with rfl | rfl | rfl | rfl | rfl <;> exact hge
/-- the words of a machine's NullPointerException, but the four that speak of the heap -/
def vx_atN (n : Nat) : List Cond := (Bundle.npeArmAtoms n).filter vx_no
/-- the words of a machine's throw with a message, but the four that speak of the heap -/
def vx_atM (X : String) (names : List String) : List Cond := (Bundle.messageArmAtoms X names).filter vx_no
section
variable {p : Program} {l : Launch} {e : Env} {R : Room} {s : State} {m : MethodId} {args : Array Value} {below : List Frame} {meth : Method} {c : Code} {H : Heap} {locs : List Loc} {cells slots : Nat}
/-- a frame seen from a rebased start, seen from the first start again -/
theorem vx_back9 {T S : State} {R' : Room} {k n : Nat} (X : Stand p l e R s m args below meth c T locs cells slots) (Y : Stand p l e R' ((T.setVm s.vm).setFrames (.invoking m args :: below)) m args below meth c T [] 0 0) (Z : Stand p l e R' ((T.setVm s.vm).setFrames (.invoking m args :: below)) m args below meth c S [] k n) :
    Stand p l e R s m args below meth c S locs (cells + k) (slots + n) := by
  have hW0 : s.WarmedH ((T.setVm s.vm).setFrames (.invoking m args :: below)).vm := State.WarmedH.refl s
  refine { admits := X.admits, cas := X.cas, clock := X.clock, frames := X.frames, room := X.room, hears := X.hears, method := X.method, code := X.code, here := Z.here, tail := Z.tail, warmed := State.WarmedH.trans hW0 Z.warmed, limits := Z.limits.trans (Y.limits.symm.trans X.limits), bytes := Z.bytes.trans (Y.bytes.symm.trans X.bytes), same := ?_ }
  obtain ⟨e1, e2⟩ := Z.same
  rw [State.setFrames_setFrames] at e1
  have h2 : (T.setVm s.vm).sameButNew (S.setVm s.vm) [] k n := ⟨e1, e2⟩
  have h3 := X.same.trans h2
  rw [List.append_nil] at h3
  exact h3
/-- from the machine's note that E is thrown here with this text -/
def vx_Note (p : Program) (l : Launch) (e : Env) (R : Room) (s : State) (m : MethodId) (args : Array Value) (below : List Frame) (meth : Method) (c : Code) (H : Heap) (locs : List Loc) (cells slots : Nat) (Q : State → Prop) (g : JFrame) (E text : String) : Prop :=
  ∀ T : State, T.heap = H → Stand p l e R s m args below meth c T locs cells slots → ∃ t, Steps p.tables e below ((T.setTop g).pushFrame (.throwNew E (some text) none)) t ∧ Q t
theorem vx_vm {pc : Nat} {ls : Array Slot} {rest : List Value} {Q : State → Prop} (hexec : p.tables.exec = Jvm.exec) (hl : l.stackTraces = false) {cls text : String} {names : List String} {nb : Nat} {A : Nat → Prop}
    (hcls : Bundle.fit cls = true) (hnames : ∀ n ∈ names, Bundle.fit n = true) (hsoe : (cls == "java/lang/StackOverflowError") = false) (hoom : (cls == "java/lang/OutOfMemoryError") = false)
    (hat : ∀ w ∈ vx_atM cls names, w.before args s = true) (hgood : ∀ w ∈ vx_atM cls names, vx_ot w = true)
    (hU : vx_Zq Bundle.tN "UNASSIGNED_STACK" Bundle.steD A s s.heap) (hN : vx_Zq Bundle.tN "SUPPRESSED_SENTINEL" Bundle.listD A s s.heap) (hS : va_S A s.heap H locs) (hsize : ls.size = c.maxLocals)
    (htext : (text == notModelled) = false) (hnb : (stringBytes (stringToUtf16 text)).size ≤ nb) (hnb1 : nb ≤ 1000)
    (hRframes : names.length + 4 < R.frames) (hRlocals : (rest.map fun v => v.category).sum + 10240 ≤ R.locals) (hshort : 13 * names.length + 55 ≤ 10240) (hRcells : cells + 3 ≤ R.cells) (hRslots : slots + (nb + 10) ≤ R.slots) (hlocks : meth.locks = false)
    (k : ∀ (H1 : Heap) (q9 : Addr) (ce : Cell), H.size ≤ H1.size → (∀ q : Nat, q < H.size → H1[q]? = H[q]?) → va_S A s.heap H1 locs → H1[q9]? = some ce → ce.vm = .none → s.vm.findClass cls = some ce.cls → vx_W p l e R s m args below meth c H1 locs (cells + 3) (slots + (nb + 10)) Q (F0 m pc ls rest) q9) :
    vx_Note p l e R s m args below meth c H locs cells slots Q (F0 m pc ls rest) cls text := by
  intro T hT X
  have htr : e.platform.stackTraces = false := (show e.platform.stackTraces = l.stackTraces by rw [X.admits.platform]).trans hl
  have Y := vx_rebase X (R' := { frames := R.frames, locals := R.locals, cells := 3, slots := nb + 10 }) (Nat.le_refl _) (Nat.le_refl _) hRcells hRslots
  have hhp : ((T.setVm s.vm).setFrames (.invoking m args :: below)).heap = H := hT
  have hW0 : s.WarmedH ((T.setVm s.vm).setFrames (.invoking m args :: below)).vm := State.WarmedH.refl s
  have hat' : ∀ w ∈ vx_atM cls names, w.before args ((T.setVm s.vm).setFrames (.invoking m args :: below)) = true := fun w hw => vx_ot_at hW0 rfl (hgood w hw) (hat w hw)
  have hU' : vx_Zq Bundle.tN "UNASSIGNED_STACK" Bundle.steD A ((T.setVm s.vm).setFrames (.invoking m args :: below)) ((T.setVm s.vm).setFrames (.invoking m args :: below)).heap := by rw [hhp]; exact vx_Zq.moved hW0.alike (hU.kept hS.2.1)
  have hN' : vx_Zq Bundle.tN "SUPPRESSED_SENTINEL" Bundle.listD A ((T.setVm s.vm).setFrames (.invoking m args :: below)) ((T.setVm s.vm).setFrames (.invoking m args :: below)).heap := by rw [hhp]; exact vx_Zq.moved hW0.alike (hN.kept hS.2.1)
  obtain ⟨S, q, ce, st, Z, hce, hcl', hv⟩ := vx_vmAt Y hexec htr (cls := cls) (names := names) (text := text) hcls hnames hsoe hoom (vx_own hat' (vx_isRefq hU'.1) (vx_isRefq hN'.1) hU'.2.word hN'.2.word) (fun x hx => nomatch hx) htext
    (by rw [Launch.admits_arrayLengthLimit X.admits]; omega) (by rw [Launch.admits_maxHeapBytes X.admits]; simp only [componentBytes]; omega)
    (g := F0 m pc ls rest) rfl hsize hRframes (by show 2 * 0 + (rest.map fun v => v.category).sum + 10240 ≤ R.locals; omega) hshort (by show 0 + 3 ≤ 3; omega) (by show 0 + (_ + 4 + 6) ≤ nb + 10; omega) hlocks
  obtain ⟨f1, f2⟩ := vx_frame Z.same
  have f1' : H.size ≤ S.heap.size := by rw [← hT]; exact f1
  have f2' : ∀ q : Nat, q < H.size → S.heap[q]? = H[q]? := fun q hq => by
    rw [← hT]
    exact f2 q (by rw [← hT] at hq; exact hq) (fun z hz => nomatch hz)
  have X5 := vx_back9 X Y Z
  have X6 : Stand p l e R s m args below meth c S locs (cells + 3) (slots + (nb + 10)) := { X5 with same := X5.same.mono (by omega) (by omega) }
  obtain ⟨t, a1, b1⟩ := k S.heap q ce f1' f2' ⟨Nat.le_trans hS.1 f1', fun q h1 h2 => (f2' q (Nat.lt_of_lt_of_le h1 hS.1)).trans (hS.2.1 q h1 h2), hS.2.2⟩ hce hv hcl' S rfl X6
  exact ⟨t, st t a1, b1⟩
/-- from the machine's note that NullPointerException is thrown here -/
def vx_NoteN (p : Program) (l : Launch) (e : Env) (R : Room) (s : State) (m : MethodId) (args : Array Value) (below : List Frame) (meth : Method) (c : Code) (H : Heap) (locs : List Loc) (cells slots : Nat) (Q : State → Prop) (g : JFrame) : Prop :=
  ∀ T : State, T.heap = H → Stand p l e R s m args below meth c T locs cells slots → ∃ t, Steps p.tables e below ((T.setTop g).pushFrame (.throwNew "java/lang/NullPointerException" none none)) t ∧ Q t
theorem vx_npe {pc : Nat} {ls : Array Slot} {rest : List Value} {Q : State → Prop} (hexec : p.tables.exec = Jvm.exec) (hl : l.stackTraces = false) {nb : Nat} {A : Nat → Prop}
    (hat : ∀ w ∈ vx_atN nb, w.before args s = true) (hgood : ∀ w ∈ vx_atN nb, vx_ot w = true)
    (hU : vx_Zq Bundle.tN "UNASSIGNED_STACK" Bundle.steD A s s.heap) (hN : vx_Zq Bundle.tN "SUPPRESSED_SENTINEL" Bundle.listD A s s.heap) (hS : va_S A s.heap H locs) (hsize : ls.size = c.maxLocals)
    (hRframes : 7 < R.frames) (hRlocals : (rest.map fun v => v.category).sum + 10240 ≤ R.locals) (hRcells : cells + 1 ≤ R.cells) (hRslots : slots + nb ≤ R.slots) (hlocks : meth.locks = false)
    (k : ∀ (H1 : Heap) (q9 : Addr) (ce : Cell), H.size ≤ H1.size → (∀ q : Nat, q < H.size → H1[q]? = H[q]?) → va_S A s.heap H1 locs → H1[q9]? = some ce → ce.vm = .none → s.vm.findClass "java/lang/NullPointerException" = some ce.cls → vx_W p l e R s m args below meth c H1 locs (cells + 1) (slots + nb) Q (F0 m pc ls rest) q9) :
    vx_NoteN p l e R s m args below meth c H locs cells slots Q (F0 m pc ls rest) := by
  intro T hT X
  have htr : e.platform.stackTraces = false := (show e.platform.stackTraces = l.stackTraces by rw [X.admits.platform]).trans hl
  have Y := vx_rebase X (R' := { frames := R.frames, locals := R.locals, cells := 1, slots := nb }) (Nat.le_refl _) (Nat.le_refl _) hRcells hRslots
  have hhp : ((T.setVm s.vm).setFrames (.invoking m args :: below)).heap = H := hT
  have hW0 : s.WarmedH ((T.setVm s.vm).setFrames (.invoking m args :: below)).vm := State.WarmedH.refl s
  have hat' : ∀ w ∈ vx_atN nb, w.before args ((T.setVm s.vm).setFrames (.invoking m args :: below)) = true := fun w hw => vx_ot_at hW0 rfl (hgood w hw) (hat w hw)
  have hU' : vx_Zq Bundle.tN "UNASSIGNED_STACK" Bundle.steD A ((T.setVm s.vm).setFrames (.invoking m args :: below)) ((T.setVm s.vm).setFrames (.invoking m args :: below)).heap := by rw [hhp]; exact vx_Zq.moved hW0.alike (hU.kept hS.2.1)
  have hN' : vx_Zq Bundle.tN "SUPPRESSED_SENTINEL" Bundle.listD A ((T.setVm s.vm).setFrames (.invoking m args :: below)) ((T.setVm s.vm).setFrames (.invoking m args :: below)).heap := by rw [hhp]; exact vx_Zq.moved hW0.alike (hN.kept hS.2.1)
  obtain ⟨S, q, ce, st, Z, hce, hcl', hv⟩ := vx_npeAt Y hexec htr (n := nb) (vx_own hat' (vx_isRefq hU'.1) (vx_isRefq hN'.1) hU'.2.word hN'.2.word) (fun x hx => nomatch hx)
    (g := F0 m pc ls rest) rfl hsize hRframes (by show 2 * 0 + (rest.map fun v => v.category).sum + 10240 ≤ R.locals; omega) (by show 0 + 1 ≤ 1; omega) (by show 0 + nb ≤ nb; omega) hlocks
  obtain ⟨f1, f2⟩ := vx_frame Z.same
  have f1' : H.size ≤ S.heap.size := by rw [← hT]; exact f1
  have f2' : ∀ q : Nat, q < H.size → S.heap[q]? = H[q]? := fun q hq => by
    rw [← hT]
    exact f2 q (by rw [← hT] at hq; exact hq) (fun z hz => nomatch hz)
  have X5 := vx_back9 X Y Z
  have X6 : Stand p l e R s m args below meth c S locs (cells + 1) (slots + nb) := { X5 with same := X5.same.mono (by omega) (by omega) }
  obtain ⟨t, a1, b1⟩ := k S.heap q ce f1' f2' ⟨Nat.le_trans hS.1 f1', fun q h1 h2 => (f2' q (Nat.lt_of_lt_of_le h1 hS.1)).trans (hS.2.1 q h1 h2), hS.2.2⟩ hce hv hcl' S rfl X6
  exact ⟨t, st t a1, b1⟩
variable {Q : State → Prop} {cc : ByteArray} {pc : Nat} {ls : Array Slot} {rest : List Value}
theorem vx_idivZ (hexec : p.tables.exec = Jvm.exec) (hb : c.code = cc) {a b : Int32} (h0 : b = 0) (d : decode cc pc = .ok (.idiv, 1)) (k : vx_Note p l e R s m args below meth c H locs cells slots Q (F0 m pc ls rest) "java/lang/ArithmeticException" "/ by zero") :
    W p l e R s m args below meth c H locs cells slots Q (F0 m pc ls (.int b :: .int a :: rest)) := by
  intro T hT X
  obtain ⟨t, st, q⟩ := k T hT X
  exact ⟨t, X.idivZero hexec (g := F0 m pc ls (.int b :: .int a :: rest)) rfl (a := a) (rest := rest) (by rw [h0]) (by rw [hb]; exact d) t st, q⟩
theorem vx_iremZ (hexec : p.tables.exec = Jvm.exec) (hb : c.code = cc) {a b : Int32} (h0 : b = 0) (d : decode cc pc = .ok (.irem, 1)) (k : vx_Note p l e R s m args below meth c H locs cells slots Q (F0 m pc ls rest) "java/lang/ArithmeticException" "/ by zero") :
    W p l e R s m args below meth c H locs cells slots Q (F0 m pc ls (.int b :: .int a :: rest)) := by
  intro T hT X
  obtain ⟨t, st, q⟩ := k T hT X
  exact ⟨t, X.iremZero hexec (g := F0 m pc ls (.int b :: .int a :: rest)) rfl (a := a) (rest := rest) (by rw [h0]) (by rw [hb]; exact d) t st, q⟩
theorem vx_ldivZ (hexec : p.tables.exec = Jvm.exec) (hb : c.code = cc) {a b : Int64} (h0 : b = 0) (d : decode cc pc = .ok (.ldiv, 1)) (k : vx_Note p l e R s m args below meth c H locs cells slots Q (F0 m pc ls rest) "java/lang/ArithmeticException" "/ by zero") :
    W p l e R s m args below meth c H locs cells slots Q (F0 m pc ls (.long b :: .long a :: rest)) := by
  intro T hT X
  obtain ⟨t, st, q⟩ := k T hT X
  exact ⟨t, X.ldivZero hexec (g := F0 m pc ls (.long b :: .long a :: rest)) rfl (a := a) (rest := rest) (by rw [h0]) (by rw [hb]; exact d) t st, q⟩
theorem vx_lremZ (hexec : p.tables.exec = Jvm.exec) (hb : c.code = cc) {a b : Int64} (h0 : b = 0) (d : decode cc pc = .ok (.lrem, 1)) (k : vx_Note p l e R s m args below meth c H locs cells slots Q (F0 m pc ls rest) "java/lang/ArithmeticException" "/ by zero") :
    W p l e R s m args below meth c H locs cells slots Q (F0 m pc ls (.long b :: .long a :: rest)) := by
  intro T hT X
  obtain ⟨t, st, q⟩ := k T hT X
  exact ⟨t, X.lremZero hexec (g := F0 m pc ls (.long b :: .long a :: rest)) rfl (a := a) (rest := rest) (by rw [h0]) (by rw [hb]; exact d) t st, q⟩
theorem vx_ialdZ {D : va_G} {cl : List vw_C} {ws : va_W} {tys : List (ClassId × FieldType)} {a : Nat} (hexec : p.tables.exec = Jvm.exec) (hb : c.code = cc) (hK : va_K D cl tys s) (hP : va_P D cl ws H) (q0 t0 : Nat) {cA : ClassId} {n : Nat} {f : Nat → Int32} (ha : ws[q0]? = some (a, .inl (cA, n, .inl f))) (ht : tys[t0]? = some (cA, .int)) {i : Int32} (hout : ¬ vp_in i n) (hdg : decode cc pc = .ok (.iaload, 1))
    (k : ∀ tx : String, tx = (toString "Index " ++ toString i ++ toString " out of bounds for length " ++ toString n : String) → vx_Note p l e R s m args below meth c H locs cells slots Q (F0 m pc ls rest) "java/lang/ArrayIndexOutOfBoundsException" tx) : W p l e R s m args below meth c H locs cells slots Q (F0 m pc ls (.int i :: .ref a :: rest)) := by
  intro T hT X
  obtain ⟨t, st, q⟩ := k _ rfl T hT X
  refine ⟨t, ?_, q⟩
  have h1 := X.ialoadOut hexec (by rw [hT]; exact hP q0 _ ha) ((hK.2 t0 _ ht).1 n (fun j => .int (f j))) (j := i) (by show (i < 0 ∨ (arrV _ _ _).slots.size ≤ _); rw [arrV_size]; exact Classical.byContradiction hout) (g := F0 m pc ls (.int i :: .ref a :: rest)) rfl (rest := rest) rfl (by rw [hb]; exact hdg) t
  simp only [arrV_size] at h1
  exact h1 st
theorem vx_iastZ {D : va_G} {cl : List vw_C} {ws : va_W} {tys : List (ClassId × FieldType)} {a : Nat} (hexec : p.tables.exec = Jvm.exec) (hb : c.code = cc) (hK : va_K D cl tys s) (hP : va_P D cl ws H) (q0 t0 : Nat) {cA : ClassId} {n : Nat} {f : Nat → Int32} (ha : ws[q0]? = some (a, .inl (cA, n, .inl f))) (ht : tys[t0]? = some (cA, .int)) {i : Int32} {x : Int32} (hout : ¬ vp_in i n) (hdg : decode cc pc = .ok (.iastore, 1))
    (k : ∀ tx : String, tx = (toString "Index " ++ toString i ++ toString " out of bounds for length " ++ toString n : String) → vx_Note p l e R s m args below meth c H locs cells slots Q (F0 m pc ls rest) "java/lang/ArrayIndexOutOfBoundsException" tx) : W p l e R s m args below meth c H locs cells slots Q (F0 m pc ls (.int x :: .int i :: .ref a :: rest)) := by
  intro T hT X
  obtain ⟨t, st, q⟩ := k _ rfl T hT X
  refine ⟨t, ?_, q⟩
  have h1 := X.iastoreOut hexec (by rw [hT]; exact hP q0 _ ha) ((hK.2 t0 _ ht).1 n (fun j => .int (f j))) (j := i) (by show (i < 0 ∨ (arrV _ _ _).slots.size ≤ _); rw [arrV_size]; exact Classical.byContradiction hout) (g := F0 m pc ls (.int x :: .int i :: .ref a :: rest)) rfl (rest := rest) rfl (by rw [hb]; exact hdg) t
  simp only [arrV_size] at h1
  exact h1 st
theorem vx_baldZ {D : va_G} {cl : List vw_C} {ws : va_W} {tys : List (ClassId × FieldType)} {a : Nat} (hexec : p.tables.exec = Jvm.exec) (hb : c.code = cc) (hK : va_K D cl tys s) (hP : va_P D cl ws H) (q0 t0 : Nat) {cA : ClassId} {n : Nat} {f : Nat → Int32} (ha : ws[q0]? = some (a, .inl (cA, n, .inl f))) (ht : tys[t0]? = some (cA, .byte)) {i : Int32} (hout : ¬ vp_in i n) (hdg : decode cc pc = .ok (.baload, 1))
    (k : ∀ tx : String, tx = (toString "Index " ++ toString i ++ toString " out of bounds for length " ++ toString n : String) → vx_Note p l e R s m args below meth c H locs cells slots Q (F0 m pc ls rest) "java/lang/ArrayIndexOutOfBoundsException" tx) : W p l e R s m args below meth c H locs cells slots Q (F0 m pc ls (.int i :: .ref a :: rest)) := by
  intro T hT X
  obtain ⟨t, st, q⟩ := k _ rfl T hT X
  refine ⟨t, ?_, q⟩
  have h1 := X.baloadOut hexec (by rw [hT]; exact hP q0 _ ha) ((hK.2 t0 _ ht).1 n (fun j => .int (f j))) (j := i) (by show (i < 0 ∨ (arrV _ _ _).slots.size ≤ _); rw [arrV_size]; exact Classical.byContradiction hout) (g := F0 m pc ls (.int i :: .ref a :: rest)) rfl (rest := rest) rfl (by rw [hb]; exact hdg) t
  simp only [arrV_size] at h1
  exact h1 st
theorem vx_bastZ {D : va_G} {cl : List vw_C} {ws : va_W} {tys : List (ClassId × FieldType)} {a : Nat} (hexec : p.tables.exec = Jvm.exec) (hb : c.code = cc) (hK : va_K D cl tys s) (hP : va_P D cl ws H) (q0 t0 : Nat) {cA : ClassId} {n : Nat} {f : Nat → Int32} (ha : ws[q0]? = some (a, .inl (cA, n, .inl f))) (ht : tys[t0]? = some (cA, .byte)) {i : Int32} {x : Int32} (hout : ¬ vp_in i n) (hdg : decode cc pc = .ok (.bastore, 1))
    (k : ∀ tx : String, tx = (toString "Index " ++ toString i ++ toString " out of bounds for length " ++ toString n : String) → vx_Note p l e R s m args below meth c H locs cells slots Q (F0 m pc ls rest) "java/lang/ArrayIndexOutOfBoundsException" tx) : W p l e R s m args below meth c H locs cells slots Q (F0 m pc ls (.int x :: .int i :: .ref a :: rest)) := by
  intro T hT X
  obtain ⟨t, st, q⟩ := k _ rfl T hT X
  refine ⟨t, ?_, q⟩
  have h1 := X.bastoreOut hexec (by rw [hT]; exact hP q0 _ ha) ((hK.2 t0 _ ht).1 n (fun j => .int (f j))) (j := i) (by show (i < 0 ∨ (arrV _ _ _).slots.size ≤ _); rw [arrV_size]; exact Classical.byContradiction hout) (g := F0 m pc ls (.int x :: .int i :: .ref a :: rest)) rfl (rest := rest) rfl (by rw [hb]; exact hdg) t
  simp only [arrV_size] at h1
  exact h1 st
theorem vx_zaldZ {D : va_G} {cl : List vw_C} {ws : va_W} {tys : List (ClassId × FieldType)} {a : Nat} (hexec : p.tables.exec = Jvm.exec) (hb : c.code = cc) (hK : va_K D cl tys s) (hP : va_P D cl ws H) (q0 t0 : Nat) {cA : ClassId} {n : Nat} {f : Nat → Int32} (ha : ws[q0]? = some (a, .inl (cA, n, .inl f))) (ht : tys[t0]? = some (cA, .boolean)) {i : Int32} (hout : ¬ vp_in i n) (hdg : decode cc pc = .ok (.baload, 1))
    (k : ∀ tx : String, tx = (toString "Index " ++ toString i ++ toString " out of bounds for length " ++ toString n : String) → vx_Note p l e R s m args below meth c H locs cells slots Q (F0 m pc ls rest) "java/lang/ArrayIndexOutOfBoundsException" tx) : W p l e R s m args below meth c H locs cells slots Q (F0 m pc ls (.int i :: .ref a :: rest)) := by
  intro T hT X
  obtain ⟨t, st, q⟩ := k _ rfl T hT X
  refine ⟨t, ?_, q⟩
  have h1 := X.baloadOut hexec (by rw [hT]; exact hP q0 _ ha) ((hK.2 t0 _ ht).1 n (fun j => .int (f j))) (j := i) (by show (i < 0 ∨ (arrV _ _ _).slots.size ≤ _); rw [arrV_size]; exact Classical.byContradiction hout) (g := F0 m pc ls (.int i :: .ref a :: rest)) rfl (rest := rest) rfl (by rw [hb]; exact hdg) t
  simp only [arrV_size] at h1
  exact h1 st
theorem vx_zastZ {D : va_G} {cl : List vw_C} {ws : va_W} {tys : List (ClassId × FieldType)} {a : Nat} (hexec : p.tables.exec = Jvm.exec) (hb : c.code = cc) (hK : va_K D cl tys s) (hP : va_P D cl ws H) (q0 t0 : Nat) {cA : ClassId} {n : Nat} {f : Nat → Int32} (ha : ws[q0]? = some (a, .inl (cA, n, .inl f))) (ht : tys[t0]? = some (cA, .boolean)) {i : Int32} {x : Int32} (hout : ¬ vp_in i n) (hdg : decode cc pc = .ok (.bastore, 1))
    (k : ∀ tx : String, tx = (toString "Index " ++ toString i ++ toString " out of bounds for length " ++ toString n : String) → vx_Note p l e R s m args below meth c H locs cells slots Q (F0 m pc ls rest) "java/lang/ArrayIndexOutOfBoundsException" tx) : W p l e R s m args below meth c H locs cells slots Q (F0 m pc ls (.int x :: .int i :: .ref a :: rest)) := by
  intro T hT X
  obtain ⟨t, st, q⟩ := k _ rfl T hT X
  refine ⟨t, ?_, q⟩
  have h1 := X.bastoreOut hexec (by rw [hT]; exact hP q0 _ ha) ((hK.2 t0 _ ht).1 n (fun j => .int (f j))) (j := i) (by show (i < 0 ∨ (arrV _ _ _).slots.size ≤ _); rw [arrV_size]; exact Classical.byContradiction hout) (g := F0 m pc ls (.int x :: .int i :: .ref a :: rest)) rfl (rest := rest) rfl (by rw [hb]; exact hdg) t
  simp only [arrV_size] at h1
  exact h1 st
theorem vx_caldZ {D : va_G} {cl : List vw_C} {ws : va_W} {tys : List (ClassId × FieldType)} {a : Nat} (hexec : p.tables.exec = Jvm.exec) (hb : c.code = cc) (hK : va_K D cl tys s) (hP : va_P D cl ws H) (q0 t0 : Nat) {cA : ClassId} {n : Nat} {f : Nat → Int32} (ha : ws[q0]? = some (a, .inl (cA, n, .inl f))) (ht : tys[t0]? = some (cA, .char)) {i : Int32} (hout : ¬ vp_in i n) (hdg : decode cc pc = .ok (.caload, 1))
    (k : ∀ tx : String, tx = (toString "Index " ++ toString i ++ toString " out of bounds for length " ++ toString n : String) → vx_Note p l e R s m args below meth c H locs cells slots Q (F0 m pc ls rest) "java/lang/ArrayIndexOutOfBoundsException" tx) : W p l e R s m args below meth c H locs cells slots Q (F0 m pc ls (.int i :: .ref a :: rest)) := by
  intro T hT X
  obtain ⟨t, st, q⟩ := k _ rfl T hT X
  refine ⟨t, ?_, q⟩
  have h1 := X.caloadOut hexec (by rw [hT]; exact hP q0 _ ha) ((hK.2 t0 _ ht).1 n (fun j => .int (f j))) (j := i) (by show (i < 0 ∨ (arrV _ _ _).slots.size ≤ _); rw [arrV_size]; exact Classical.byContradiction hout) (g := F0 m pc ls (.int i :: .ref a :: rest)) rfl (rest := rest) rfl (by rw [hb]; exact hdg) t
  simp only [arrV_size] at h1
  exact h1 st
theorem vx_castZ {D : va_G} {cl : List vw_C} {ws : va_W} {tys : List (ClassId × FieldType)} {a : Nat} (hexec : p.tables.exec = Jvm.exec) (hb : c.code = cc) (hK : va_K D cl tys s) (hP : va_P D cl ws H) (q0 t0 : Nat) {cA : ClassId} {n : Nat} {f : Nat → Int32} (ha : ws[q0]? = some (a, .inl (cA, n, .inl f))) (ht : tys[t0]? = some (cA, .char)) {i : Int32} {x : Int32} (hout : ¬ vp_in i n) (hdg : decode cc pc = .ok (.castore, 1))
    (k : ∀ tx : String, tx = (toString "Index " ++ toString i ++ toString " out of bounds for length " ++ toString n : String) → vx_Note p l e R s m args below meth c H locs cells slots Q (F0 m pc ls rest) "java/lang/ArrayIndexOutOfBoundsException" tx) : W p l e R s m args below meth c H locs cells slots Q (F0 m pc ls (.int x :: .int i :: .ref a :: rest)) := by
  intro T hT X
  obtain ⟨t, st, q⟩ := k _ rfl T hT X
  refine ⟨t, ?_, q⟩
  have h1 := X.castoreOut hexec (by rw [hT]; exact hP q0 _ ha) ((hK.2 t0 _ ht).1 n (fun j => .int (f j))) (j := i) (by show (i < 0 ∨ (arrV _ _ _).slots.size ≤ _); rw [arrV_size]; exact Classical.byContradiction hout) (g := F0 m pc ls (.int x :: .int i :: .ref a :: rest)) rfl (rest := rest) rfl (by rw [hb]; exact hdg) t
  simp only [arrV_size] at h1
  exact h1 st
theorem vx_saldZ {D : va_G} {cl : List vw_C} {ws : va_W} {tys : List (ClassId × FieldType)} {a : Nat} (hexec : p.tables.exec = Jvm.exec) (hb : c.code = cc) (hK : va_K D cl tys s) (hP : va_P D cl ws H) (q0 t0 : Nat) {cA : ClassId} {n : Nat} {f : Nat → Int32} (ha : ws[q0]? = some (a, .inl (cA, n, .inl f))) (ht : tys[t0]? = some (cA, .short)) {i : Int32} (hout : ¬ vp_in i n) (hdg : decode cc pc = .ok (.saload, 1))
    (k : ∀ tx : String, tx = (toString "Index " ++ toString i ++ toString " out of bounds for length " ++ toString n : String) → vx_Note p l e R s m args below meth c H locs cells slots Q (F0 m pc ls rest) "java/lang/ArrayIndexOutOfBoundsException" tx) : W p l e R s m args below meth c H locs cells slots Q (F0 m pc ls (.int i :: .ref a :: rest)) := by
  intro T hT X
  obtain ⟨t, st, q⟩ := k _ rfl T hT X
  refine ⟨t, ?_, q⟩
  have h1 := X.saloadOut hexec (by rw [hT]; exact hP q0 _ ha) ((hK.2 t0 _ ht).1 n (fun j => .int (f j))) (j := i) (by show (i < 0 ∨ (arrV _ _ _).slots.size ≤ _); rw [arrV_size]; exact Classical.byContradiction hout) (g := F0 m pc ls (.int i :: .ref a :: rest)) rfl (rest := rest) rfl (by rw [hb]; exact hdg) t
  simp only [arrV_size] at h1
  exact h1 st
theorem vx_sastZ {D : va_G} {cl : List vw_C} {ws : va_W} {tys : List (ClassId × FieldType)} {a : Nat} (hexec : p.tables.exec = Jvm.exec) (hb : c.code = cc) (hK : va_K D cl tys s) (hP : va_P D cl ws H) (q0 t0 : Nat) {cA : ClassId} {n : Nat} {f : Nat → Int32} (ha : ws[q0]? = some (a, .inl (cA, n, .inl f))) (ht : tys[t0]? = some (cA, .short)) {i : Int32} {x : Int32} (hout : ¬ vp_in i n) (hdg : decode cc pc = .ok (.sastore, 1))
    (k : ∀ tx : String, tx = (toString "Index " ++ toString i ++ toString " out of bounds for length " ++ toString n : String) → vx_Note p l e R s m args below meth c H locs cells slots Q (F0 m pc ls rest) "java/lang/ArrayIndexOutOfBoundsException" tx) : W p l e R s m args below meth c H locs cells slots Q (F0 m pc ls (.int x :: .int i :: .ref a :: rest)) := by
  intro T hT X
  obtain ⟨t, st, q⟩ := k _ rfl T hT X
  refine ⟨t, ?_, q⟩
  have h1 := X.sastoreOut hexec (by rw [hT]; exact hP q0 _ ha) ((hK.2 t0 _ ht).1 n (fun j => .int (f j))) (j := i) (by show (i < 0 ∨ (arrV _ _ _).slots.size ≤ _); rw [arrV_size]; exact Classical.byContradiction hout) (g := F0 m pc ls (.int x :: .int i :: .ref a :: rest)) rfl (rest := rest) rfl (by rw [hb]; exact hdg) t
  simp only [arrV_size] at h1
  exact h1 st
theorem vx_laldZ {D : va_G} {cl : List vw_C} {ws : va_W} {tys : List (ClassId × FieldType)} {a : Nat} (hexec : p.tables.exec = Jvm.exec) (hb : c.code = cc) (hK : va_K D cl tys s) (hP : va_P D cl ws H) (q0 t0 : Nat) {cA : ClassId} {n : Nat} {f : Nat → Int64} (ha : ws[q0]? = some (a, .inl (cA, n, .inr (.inl f)))) (ht : tys[t0]? = some (cA, .long)) {i : Int32} (hout : ¬ vp_in i n) (hdg : decode cc pc = .ok (.laload, 1))
    (k : ∀ tx : String, tx = (toString "Index " ++ toString i ++ toString " out of bounds for length " ++ toString n : String) → vx_Note p l e R s m args below meth c H locs cells slots Q (F0 m pc ls rest) "java/lang/ArrayIndexOutOfBoundsException" tx) : W p l e R s m args below meth c H locs cells slots Q (F0 m pc ls (.int i :: .ref a :: rest)) := by
  intro T hT X
  obtain ⟨t, st, q⟩ := k _ rfl T hT X
  refine ⟨t, ?_, q⟩
  have h1 := X.laloadOut hexec (by rw [hT]; exact hP q0 _ ha) ((hK.2 t0 _ ht).1 n (fun j => .long (f j))) (j := i) (by show (i < 0 ∨ (arrV _ _ _).slots.size ≤ _); rw [arrV_size]; exact Classical.byContradiction hout) (g := F0 m pc ls (.int i :: .ref a :: rest)) rfl (rest := rest) rfl (by rw [hb]; exact hdg) t
  simp only [arrV_size] at h1
  exact h1 st
theorem vx_lastZ {D : va_G} {cl : List vw_C} {ws : va_W} {tys : List (ClassId × FieldType)} {a : Nat} (hexec : p.tables.exec = Jvm.exec) (hb : c.code = cc) (hK : va_K D cl tys s) (hP : va_P D cl ws H) (q0 t0 : Nat) {cA : ClassId} {n : Nat} {f : Nat → Int64} (ha : ws[q0]? = some (a, .inl (cA, n, .inr (.inl f)))) (ht : tys[t0]? = some (cA, .long)) {i : Int32} {x : Int64} (hout : ¬ vp_in i n) (hdg : decode cc pc = .ok (.lastore, 1))
    (k : ∀ tx : String, tx = (toString "Index " ++ toString i ++ toString " out of bounds for length " ++ toString n : String) → vx_Note p l e R s m args below meth c H locs cells slots Q (F0 m pc ls rest) "java/lang/ArrayIndexOutOfBoundsException" tx) : W p l e R s m args below meth c H locs cells slots Q (F0 m pc ls (.long x :: .int i :: .ref a :: rest)) := by
  intro T hT X
  obtain ⟨t, st, q⟩ := k _ rfl T hT X
  refine ⟨t, ?_, q⟩
  have h1 := X.lastoreOut hexec (by rw [hT]; exact hP q0 _ ha) ((hK.2 t0 _ ht).1 n (fun j => .long (f j))) (j := i) (by show (i < 0 ∨ (arrV _ _ _).slots.size ≤ _); rw [arrV_size]; exact Classical.byContradiction hout) (g := F0 m pc ls (.long x :: .int i :: .ref a :: rest)) rfl (rest := rest) rfl (by rw [hb]; exact hdg) t
  simp only [arrV_size] at h1
  exact h1 st
theorem vx_faldZ {D : va_G} {cl : List vw_C} {ws : va_W} {tys : List (ClassId × FieldType)} {a : Nat} (hexec : p.tables.exec = Jvm.exec) (hb : c.code = cc) (hK : va_K D cl tys s) (hP : va_P D cl ws H) (q0 t0 : Nat) {cA : ClassId} {n : Nat} {f : Nat → UInt32} (ha : ws[q0]? = some (a, .inl (cA, n, .inr (.inr (.inl f))))) (ht : tys[t0]? = some (cA, .float)) {i : Int32} (hout : ¬ vp_in i n) (hdg : decode cc pc = .ok (.faload, 1))
    (k : ∀ tx : String, tx = (toString "Index " ++ toString i ++ toString " out of bounds for length " ++ toString n : String) → vx_Note p l e R s m args below meth c H locs cells slots Q (F0 m pc ls rest) "java/lang/ArrayIndexOutOfBoundsException" tx) : W p l e R s m args below meth c H locs cells slots Q (F0 m pc ls (.int i :: .ref a :: rest)) := by
  intro T hT X
  obtain ⟨t, st, q⟩ := k _ rfl T hT X
  refine ⟨t, ?_, q⟩
  have h1 := X.faloadOut hexec (by rw [hT]; exact hP q0 _ ha) ((hK.2 t0 _ ht).1 n (fun j => .float (f j))) (j := i) (by show (i < 0 ∨ (arrV _ _ _).slots.size ≤ _); rw [arrV_size]; exact Classical.byContradiction hout) (g := F0 m pc ls (.int i :: .ref a :: rest)) rfl (rest := rest) rfl (by rw [hb]; exact hdg) t
  simp only [arrV_size] at h1
  exact h1 st
theorem vx_fastZ {D : va_G} {cl : List vw_C} {ws : va_W} {tys : List (ClassId × FieldType)} {a : Nat} (hexec : p.tables.exec = Jvm.exec) (hb : c.code = cc) (hK : va_K D cl tys s) (hP : va_P D cl ws H) (q0 t0 : Nat) {cA : ClassId} {n : Nat} {f : Nat → UInt32} (ha : ws[q0]? = some (a, .inl (cA, n, .inr (.inr (.inl f))))) (ht : tys[t0]? = some (cA, .float)) {i : Int32} {x : UInt32} (hout : ¬ vp_in i n) (hdg : decode cc pc = .ok (.fastore, 1))
    (k : ∀ tx : String, tx = (toString "Index " ++ toString i ++ toString " out of bounds for length " ++ toString n : String) → vx_Note p l e R s m args below meth c H locs cells slots Q (F0 m pc ls rest) "java/lang/ArrayIndexOutOfBoundsException" tx) : W p l e R s m args below meth c H locs cells slots Q (F0 m pc ls (.float x :: .int i :: .ref a :: rest)) := by
  intro T hT X
  obtain ⟨t, st, q⟩ := k _ rfl T hT X
  refine ⟨t, ?_, q⟩
  have h1 := X.fastoreOut hexec (by rw [hT]; exact hP q0 _ ha) ((hK.2 t0 _ ht).1 n (fun j => .float (f j))) (j := i) (by show (i < 0 ∨ (arrV _ _ _).slots.size ≤ _); rw [arrV_size]; exact Classical.byContradiction hout) (g := F0 m pc ls (.float x :: .int i :: .ref a :: rest)) rfl (rest := rest) rfl (by rw [hb]; exact hdg) t
  simp only [arrV_size] at h1
  exact h1 st
theorem vx_daldZ {D : va_G} {cl : List vw_C} {ws : va_W} {tys : List (ClassId × FieldType)} {a : Nat} (hexec : p.tables.exec = Jvm.exec) (hb : c.code = cc) (hK : va_K D cl tys s) (hP : va_P D cl ws H) (q0 t0 : Nat) {cA : ClassId} {n : Nat} {f : Nat → UInt64} (ha : ws[q0]? = some (a, .inl (cA, n, .inr (.inr (.inr (.inl f)))))) (ht : tys[t0]? = some (cA, .double)) {i : Int32} (hout : ¬ vp_in i n) (hdg : decode cc pc = .ok (.daload, 1))
    (k : ∀ tx : String, tx = (toString "Index " ++ toString i ++ toString " out of bounds for length " ++ toString n : String) → vx_Note p l e R s m args below meth c H locs cells slots Q (F0 m pc ls rest) "java/lang/ArrayIndexOutOfBoundsException" tx) : W p l e R s m args below meth c H locs cells slots Q (F0 m pc ls (.int i :: .ref a :: rest)) := by
  intro T hT X
  obtain ⟨t, st, q⟩ := k _ rfl T hT X
  refine ⟨t, ?_, q⟩
  have h1 := X.daloadOut hexec (by rw [hT]; exact hP q0 _ ha) ((hK.2 t0 _ ht).1 n (fun j => .double (f j))) (j := i) (by show (i < 0 ∨ (arrV _ _ _).slots.size ≤ _); rw [arrV_size]; exact Classical.byContradiction hout) (g := F0 m pc ls (.int i :: .ref a :: rest)) rfl (rest := rest) rfl (by rw [hb]; exact hdg) t
  simp only [arrV_size] at h1
  exact h1 st
theorem vx_dastZ {D : va_G} {cl : List vw_C} {ws : va_W} {tys : List (ClassId × FieldType)} {a : Nat} (hexec : p.tables.exec = Jvm.exec) (hb : c.code = cc) (hK : va_K D cl tys s) (hP : va_P D cl ws H) (q0 t0 : Nat) {cA : ClassId} {n : Nat} {f : Nat → UInt64} (ha : ws[q0]? = some (a, .inl (cA, n, .inr (.inr (.inr (.inl f)))))) (ht : tys[t0]? = some (cA, .double)) {i : Int32} {x : UInt64} (hout : ¬ vp_in i n) (hdg : decode cc pc = .ok (.dastore, 1))
    (k : ∀ tx : String, tx = (toString "Index " ++ toString i ++ toString " out of bounds for length " ++ toString n : String) → vx_Note p l e R s m args below meth c H locs cells slots Q (F0 m pc ls rest) "java/lang/ArrayIndexOutOfBoundsException" tx) : W p l e R s m args below meth c H locs cells slots Q (F0 m pc ls (.double x :: .int i :: .ref a :: rest)) := by
  intro T hT X
  obtain ⟨t, st, q⟩ := k _ rfl T hT X
  refine ⟨t, ?_, q⟩
  have h1 := X.dastoreOut hexec (by rw [hT]; exact hP q0 _ ha) ((hK.2 t0 _ ht).1 n (fun j => .double (f j))) (j := i) (by show (i < 0 ∨ (arrV _ _ _).slots.size ≤ _); rw [arrV_size]; exact Classical.byContradiction hout) (g := F0 m pc ls (.double x :: .int i :: .ref a :: rest)) rfl (rest := rest) rfl (by rw [hb]; exact hdg) t
  simp only [arrV_size] at h1
  exact h1 st
theorem vx_arraylengthN (hexec : p.tables.exec = Jvm.exec) (hb : c.code = cc) (hdg : decode cc pc = .ok (.arraylength, 1)) (k : vx_NoteN p l e R s m args below meth c H locs cells slots Q (F0 m pc ls rest)) : W p l e R s m args below meth c H locs cells slots Q (F0 m pc ls (.null :: rest)) := by
  intro T hT X
  obtain ⟨t, st, q⟩ := k T hT X
  exact ⟨t, X.arraylengthNull hexec (g := F0 m pc ls (.null :: rest)) rfl (rest := rest) rfl (by rw [hb]; exact hdg) t st, q⟩
theorem vx_ialoadN (hexec : p.tables.exec = Jvm.exec) (hb : c.code = cc) {i : Int32} (hdg : decode cc pc = .ok (.iaload, 1)) (k : vx_NoteN p l e R s m args below meth c H locs cells slots Q (F0 m pc ls rest)) : W p l e R s m args below meth c H locs cells slots Q (F0 m pc ls (.int i :: .null :: rest)) := by
  intro T hT X
  obtain ⟨t, st, q⟩ := k T hT X
  exact ⟨t, X.ialoadNull hexec (g := F0 m pc ls (.int i :: .null :: rest)) rfl (rest := rest) rfl (by rw [hb]; exact hdg) t st, q⟩
theorem vx_laloadN (hexec : p.tables.exec = Jvm.exec) (hb : c.code = cc) {i : Int32} (hdg : decode cc pc = .ok (.laload, 1)) (k : vx_NoteN p l e R s m args below meth c H locs cells slots Q (F0 m pc ls rest)) : W p l e R s m args below meth c H locs cells slots Q (F0 m pc ls (.int i :: .null :: rest)) := by
  intro T hT X
  obtain ⟨t, st, q⟩ := k T hT X
  exact ⟨t, X.laloadNull hexec (g := F0 m pc ls (.int i :: .null :: rest)) rfl (rest := rest) rfl (by rw [hb]; exact hdg) t st, q⟩
theorem vx_faloadN (hexec : p.tables.exec = Jvm.exec) (hb : c.code = cc) {i : Int32} (hdg : decode cc pc = .ok (.faload, 1)) (k : vx_NoteN p l e R s m args below meth c H locs cells slots Q (F0 m pc ls rest)) : W p l e R s m args below meth c H locs cells slots Q (F0 m pc ls (.int i :: .null :: rest)) := by
  intro T hT X
  obtain ⟨t, st, q⟩ := k T hT X
  exact ⟨t, X.faloadNull hexec (g := F0 m pc ls (.int i :: .null :: rest)) rfl (rest := rest) rfl (by rw [hb]; exact hdg) t st, q⟩
theorem vx_daloadN (hexec : p.tables.exec = Jvm.exec) (hb : c.code = cc) {i : Int32} (hdg : decode cc pc = .ok (.daload, 1)) (k : vx_NoteN p l e R s m args below meth c H locs cells slots Q (F0 m pc ls rest)) : W p l e R s m args below meth c H locs cells slots Q (F0 m pc ls (.int i :: .null :: rest)) := by
  intro T hT X
  obtain ⟨t, st, q⟩ := k T hT X
  exact ⟨t, X.daloadNull hexec (g := F0 m pc ls (.int i :: .null :: rest)) rfl (rest := rest) rfl (by rw [hb]; exact hdg) t st, q⟩
theorem vx_aaloadN (hexec : p.tables.exec = Jvm.exec) (hb : c.code = cc) {i : Int32} (hdg : decode cc pc = .ok (.aaload, 1)) (k : vx_NoteN p l e R s m args below meth c H locs cells slots Q (F0 m pc ls rest)) : W p l e R s m args below meth c H locs cells slots Q (F0 m pc ls (.int i :: .null :: rest)) := by
  intro T hT X
  obtain ⟨t, st, q⟩ := k T hT X
  exact ⟨t, X.aaloadNull hexec (g := F0 m pc ls (.int i :: .null :: rest)) rfl (rest := rest) rfl (by rw [hb]; exact hdg) t st, q⟩
theorem vx_baloadN (hexec : p.tables.exec = Jvm.exec) (hb : c.code = cc) {i : Int32} (hdg : decode cc pc = .ok (.baload, 1)) (k : vx_NoteN p l e R s m args below meth c H locs cells slots Q (F0 m pc ls rest)) : W p l e R s m args below meth c H locs cells slots Q (F0 m pc ls (.int i :: .null :: rest)) := by
  intro T hT X
  obtain ⟨t, st, q⟩ := k T hT X
  exact ⟨t, X.baloadNull hexec (g := F0 m pc ls (.int i :: .null :: rest)) rfl (rest := rest) rfl (by rw [hb]; exact hdg) t st, q⟩
theorem vx_caloadN (hexec : p.tables.exec = Jvm.exec) (hb : c.code = cc) {i : Int32} (hdg : decode cc pc = .ok (.caload, 1)) (k : vx_NoteN p l e R s m args below meth c H locs cells slots Q (F0 m pc ls rest)) : W p l e R s m args below meth c H locs cells slots Q (F0 m pc ls (.int i :: .null :: rest)) := by
  intro T hT X
  obtain ⟨t, st, q⟩ := k T hT X
  exact ⟨t, X.caloadNull hexec (g := F0 m pc ls (.int i :: .null :: rest)) rfl (rest := rest) rfl (by rw [hb]; exact hdg) t st, q⟩
theorem vx_saloadN (hexec : p.tables.exec = Jvm.exec) (hb : c.code = cc) {i : Int32} (hdg : decode cc pc = .ok (.saload, 1)) (k : vx_NoteN p l e R s m args below meth c H locs cells slots Q (F0 m pc ls rest)) : W p l e R s m args below meth c H locs cells slots Q (F0 m pc ls (.int i :: .null :: rest)) := by
  intro T hT X
  obtain ⟨t, st, q⟩ := k T hT X
  exact ⟨t, X.saloadNull hexec (g := F0 m pc ls (.int i :: .null :: rest)) rfl (rest := rest) rfl (by rw [hb]; exact hdg) t st, q⟩
theorem vx_iastoreN (hexec : p.tables.exec = Jvm.exec) (hb : c.code = cc) {x : Int32} {i : Int32} (hdg : decode cc pc = .ok (.iastore, 1)) (k : vx_NoteN p l e R s m args below meth c H locs cells slots Q (F0 m pc ls rest)) : W p l e R s m args below meth c H locs cells slots Q (F0 m pc ls (.int x :: .int i :: .null :: rest)) := by
  intro T hT X
  obtain ⟨t, st, q⟩ := k T hT X
  exact ⟨t, X.iastoreNull hexec (g := F0 m pc ls (.int x :: .int i :: .null :: rest)) rfl (rest := rest) rfl (by rw [hb]; exact hdg) t st, q⟩
theorem vx_lastoreN (hexec : p.tables.exec = Jvm.exec) (hb : c.code = cc) {x : Int64} {i : Int32} (hdg : decode cc pc = .ok (.lastore, 1)) (k : vx_NoteN p l e R s m args below meth c H locs cells slots Q (F0 m pc ls rest)) : W p l e R s m args below meth c H locs cells slots Q (F0 m pc ls (.long x :: .int i :: .null :: rest)) := by
  intro T hT X
  obtain ⟨t, st, q⟩ := k T hT X
  exact ⟨t, X.lastoreNull hexec (g := F0 m pc ls (.long x :: .int i :: .null :: rest)) rfl (rest := rest) rfl (by rw [hb]; exact hdg) t st, q⟩
theorem vx_fastoreN (hexec : p.tables.exec = Jvm.exec) (hb : c.code = cc) {x : UInt32} {i : Int32} (hdg : decode cc pc = .ok (.fastore, 1)) (k : vx_NoteN p l e R s m args below meth c H locs cells slots Q (F0 m pc ls rest)) : W p l e R s m args below meth c H locs cells slots Q (F0 m pc ls (.float x :: .int i :: .null :: rest)) := by
  intro T hT X
  obtain ⟨t, st, q⟩ := k T hT X
  exact ⟨t, X.fastoreNull hexec (g := F0 m pc ls (.float x :: .int i :: .null :: rest)) rfl (rest := rest) rfl (by rw [hb]; exact hdg) t st, q⟩
theorem vx_dastoreN (hexec : p.tables.exec = Jvm.exec) (hb : c.code = cc) {x : UInt64} {i : Int32} (hdg : decode cc pc = .ok (.dastore, 1)) (k : vx_NoteN p l e R s m args below meth c H locs cells slots Q (F0 m pc ls rest)) : W p l e R s m args below meth c H locs cells slots Q (F0 m pc ls (.double x :: .int i :: .null :: rest)) := by
  intro T hT X
  obtain ⟨t, st, q⟩ := k T hT X
  exact ⟨t, X.dastoreNull hexec (g := F0 m pc ls (.double x :: .int i :: .null :: rest)) rfl (rest := rest) rfl (by rw [hb]; exact hdg) t st, q⟩
theorem vx_bastoreN (hexec : p.tables.exec = Jvm.exec) (hb : c.code = cc) {x : Int32} {i : Int32} (hdg : decode cc pc = .ok (.bastore, 1)) (k : vx_NoteN p l e R s m args below meth c H locs cells slots Q (F0 m pc ls rest)) : W p l e R s m args below meth c H locs cells slots Q (F0 m pc ls (.int x :: .int i :: .null :: rest)) := by
  intro T hT X
  obtain ⟨t, st, q⟩ := k T hT X
  exact ⟨t, X.bastoreNull hexec (g := F0 m pc ls (.int x :: .int i :: .null :: rest)) rfl (rest := rest) rfl (by rw [hb]; exact hdg) t st, q⟩
theorem vx_castoreN (hexec : p.tables.exec = Jvm.exec) (hb : c.code = cc) {x : Int32} {i : Int32} (hdg : decode cc pc = .ok (.castore, 1)) (k : vx_NoteN p l e R s m args below meth c H locs cells slots Q (F0 m pc ls rest)) : W p l e R s m args below meth c H locs cells slots Q (F0 m pc ls (.int x :: .int i :: .null :: rest)) := by
  intro T hT X
  obtain ⟨t, st, q⟩ := k T hT X
  exact ⟨t, X.castoreNull hexec (g := F0 m pc ls (.int x :: .int i :: .null :: rest)) rfl (rest := rest) rfl (by rw [hb]; exact hdg) t st, q⟩
theorem vx_sastoreN (hexec : p.tables.exec = Jvm.exec) (hb : c.code = cc) {x : Int32} {i : Int32} (hdg : decode cc pc = .ok (.sastore, 1)) (k : vx_NoteN p l e R s m args below meth c H locs cells slots Q (F0 m pc ls rest)) : W p l e R s m args below meth c H locs cells slots Q (F0 m pc ls (.int x :: .int i :: .null :: rest)) := by
  intro T hT X
  obtain ⟨t, st, q⟩ := k T hT X
  exact ⟨t, X.sastoreNull hexec (g := F0 m pc ls (.int x :: .int i :: .null :: rest)) rfl (rest := rest) rfl (by rw [hb]; exact hdg) t st, q⟩
theorem vx_invokeN {own C : String} {index maxL : Nat} {y : MethodName} {bytes : ByteArray} {ret : Option FieldType} (hexec : p.tables.exec = Jvm.exec) (hb : c.code = cc) (hown : s.vm.findClass own = some m.cls) (hlink : (Cond.methodLink own index y).before args s = true) (hinst : (Cond.instanceMethod y).before args s = true) (hcode : (Cond.code y bytes maxL ret).before args s = true) (hsel : (Cond.selects C y y).before args s = true)
    (hx : y.cls ≠ "java/lang/invoke/MethodHandle" ∧ y.cls ≠ "java/lang/invoke/VarHandle") {As : List Value} (hlen : (parseMethodDescriptor y.desc).map (fun d => d.parameters.length) = some As.length) (hdg : decode cc pc = .ok (.invokevirtual index, 3))
    (k : vx_NoteN p l e R s m args below meth c H locs cells slots Q (F0 m pc ls rest)) {st0 : List Value} (hst : st0 = As.reverse ++ .null :: rest) : W p l e R s m args below meth c H locs cells slots Q (F0 m pc ls st0) := by
  intro T hT X
  obtain ⟨r0, r, hn, hrm, hstR, hsigR⟩ := va_Decl.of hinst hcode
  obtain ⟨c2, r2, m2, q1, q2, q3, q4, kP, hkP, hkPi⟩ := Cond.selects_spec hsel
  cases hn.symm.trans q3
  have hl9 : As.length = r.sig.parameters.length := by
    rw [hsigR] at hlen
    exact (Option.some.inj hlen).symm
  obtain ⟨vm', X1, st1⟩ := X.invokevirtualNull hexec hown hlink hn hrm hstR hkP hkPi hx (g := F0 m pc ls st0) rfl (argsL := As) (rest := rest) hl9 hst (by rw [hb]; exact hdg)
  obtain ⟨t, st, q⟩ := k (T.setVm vm') hT X1
  exact ⟨t, st1 t st, q⟩
theorem vx_newarrayZ {atype : ArrayType} (hexec : p.tables.exec = Jvm.exec) (hb : c.code = cc) {n : Int32} (h0 : n < 0) (hdg : decode cc pc = .ok (.newarray atype, 2)) (k : ∀ tx : String, tx = toString n → vx_Note p l e R s m args below meth c H locs cells slots Q (F0 m pc ls rest) "java/lang/NegativeArraySizeException" tx) : W p l e R s m args below meth c H locs cells slots Q (F0 m pc ls (.int n :: rest)) := by
  intro T hT X
  obtain ⟨t, st, q⟩ := k _ rfl T hT X
  exact ⟨t, X.newarrayNegative hexec (g := F0 m pc ls (.int n :: rest)) rfl h0 (rest := rest) rfl (by rw [hb]; exact hdg) t st, q⟩
end
end VXM
/-! ===== END ===== -/
end
section
def RX0 : String := "IceConvoys$Convoy"
def TX0 : u_T := fun k => match k with
  | 0 => ("IceConvoys$Convoy", "gap", "I", false)
  | 1 => ("IceConvoys$Convoy", "lead", "I", false)
  | 2 => ("IceConvoys$Convoy", "size", "I", false)
  | _ => ("IceConvoys$Convoy", "trucks", "[LIceConvoys$Truck;", true)
def tyX0 : Nat → FieldType := fun k => match k with
  | 0 => .int
  | 1 => .int
  | 2 => .int
  | _ => .array (.object "IceConvoys$Truck")
theorem nmX0 : ∀ a, a < 4 → ∀ b, b < 4 → a ≠ b → (TX0 a).2.1 ≠ (TX0 b).2.1 := by decide +kernel
theorem tyX0_ok : ∀ k, k < 4 → parseFieldDescriptor (TX0 k).2.2.1 = some (tyX0 k) := by decide +kernel
abbrev cX0_init : ByteArray := prog_2_method_1_code
def yX0_init : MethodName := ⟨RX0, "<init>", "()V"⟩
abbrev cX0_copyFrom : ByteArray := prog_2_method_2_code
def yX0_copyFrom : MethodName := ⟨RX0, "copyFrom", "(LIceConvoys$Convoy;)V"⟩
abbrev cX0_hasStarted : ByteArray := prog_2_method_3_code
def yX0_hasStarted : MethodName := ⟨RX0, "hasStarted", "()Z"⟩
abbrev cX0_isDone : ByteArray := prog_2_method_4_code
def yX0_isDone : MethodName := ⟨RX0, "isDone", "()Z"⟩
abbrev cX0_mileWithLead : ByteArray := prog_2_method_5_code
def yX0_mileWithLead : MethodName := ⟨RX0, "mileWithLead", "(II)I"⟩
abbrev cX0_mileOfTruck : ByteArray := prog_2_method_6_code
def yX0_mileOfTruck : MethodName := ⟨RX0, "mileOfTruck", "(I)I"⟩
abbrev cX0_countOnRoad : ByteArray := prog_2_method_7_code
def yX0_countOnRoad : MethodName := ⟨RX0, "countOnRoad", "()I"⟩
abbrev cX0_countArrived : ByteArray := prog_2_method_8_code
def yX0_countArrived : MethodName := ⟨RX0, "countArrived", "()I"⟩
abbrev cX0_placeAt : ByteArray := prog_2_method_9_code
def yX0_placeAt : MethodName := ⟨RX0, "placeAt", "(I)I"⟩
abbrev cX0_tonnesNotArrived : ByteArray := prog_2_method_10_code
def yX0_tonnesNotArrived : MethodName := ⟨RX0, "tonnesNotArrived", "()I"⟩
abbrev cX0_strainAheadOf : ByteArray := prog_2_method_11_code
def yX0_strainAheadOf : MethodName := ⟨RX0, "strainAheadOf", "(II)I"⟩
def RX1 : String := "IceConvoys$History"
def TX1 : u_T := fun k => match k with
  | 0 => ("IceConvoys$History", "kept", "[LIceConvoys$Road;", true)
  | 1 => ("IceConvoys$History", "next", "I", false)
  | _ => ("IceConvoys$History", "count", "I", false)
def tyX1 : Nat → FieldType := fun k => match k with
  | 0 => .array (.object "IceConvoys$Road")
  | 1 => .int
  | _ => .int
theorem nmX1 : ∀ a, a < 3 → ∀ b, b < 3 → a ≠ b → (TX1 a).2.1 ≠ (TX1 b).2.1 := by decide +kernel
theorem tyX1_ok : ∀ k, k < 3 → parseFieldDescriptor (TX1 k).2.2.1 = some (tyX1 k) := by decide +kernel
abbrev cX1_init : ByteArray := prog_3_method_1_code
def yX1_init : MethodName := ⟨RX1, "<init>", "()V"⟩
abbrev cX1_keep : ByteArray := prog_3_method_2_code
def yX1_keep : MethodName := ⟨RX1, "keep", "(LIceConvoys$Road;)V"⟩
abbrev cX1_takeBack : ByteArray := prog_3_method_3_code
def yX1_takeBack : MethodName := ⟨RX1, "takeBack", "(LIceConvoys$Road;)V"⟩
def RX2 : String := "IceConvoys$Mile"
def TX2 : u_T := fun k => match k with
  | 0 => ("IceConvoys$Mile", "thickness", "F", false)
  | 1 => ("IceConvoys$Mile", "noted", "F", false)
  | 2 => ("IceConvoys$Mile", "drillDay", "I", false)
  | 3 => ("IceConvoys$Mile", "cracks", "I", false)
  | 4 => ("IceConvoys$Mile", "strain", "I", false)
  | _ => ("IceConvoys$Mile", "visits", "I", false)
def tyX2 : Nat → FieldType := fun k => match k with
  | 0 => .float
  | 1 => .float
  | 2 => .int
  | 3 => .int
  | 4 => .int
  | _ => .int
theorem nmX2 : ∀ a, a < 6 → ∀ b, b < 6 → a ≠ b → (TX2 a).2.1 ≠ (TX2 b).2.1 := by decide +kernel
theorem tyX2_ok : ∀ k, k < 6 → parseFieldDescriptor (TX2 k).2.2.1 = some (tyX2 k) := by decide +kernel
abbrev cX2_init : ByteArray := prog_4_method_1_code
def yX2_init : MethodName := ⟨RX2, "<init>", "()V"⟩
abbrev cX2_copyFrom : ByteArray := prog_4_method_2_code
def yX2_copyFrom : MethodName := ⟨RX2, "copyFrom", "(LIceConvoys$Mile;)V"⟩
abbrev cX2_carry : ByteArray := prog_4_method_3_code
def yX2_carry : MethodName := ⟨RX2, "carry", "(LIceConvoys$Truck;)V"⟩
abbrev cX2_cracksAfter : ByteArray := prog_4_method_4_code
def yX2_cracksAfter : MethodName := ⟨RX2, "cracksAfter", "(I)I"⟩
abbrev cX2_liveThroughDay : ByteArray := prog_4_method_5_code
def yX2_liveThroughDay : MethodName := ⟨RX2, "liveThroughDay", "(I)V"⟩
def RX3 : String := "IceConvoys$Orders"
def TX3 : u_T := fun k => match k with
  | 0 => ("IceConvoys$Orders", "text", "[C", true)
  | 1 => ("IceConvoys$Orders", "length", "I", false)
  | 2 => ("IceConvoys$Orders", "offset", "I", false)
  | 3 => ("IceConvoys$Orders", "count", "I", false)
  | 4 => ("IceConvoys$Orders", "letters", "[I", true)
  | 5 => ("IceConvoys$Orders", "firsts", "[I", true)
  | 6 => ("IceConvoys$Orders", "seconds", "[I", true)
  | _ => ("IceConvoys$Orders", "thirds", "[I", true)
def tyX3 : Nat → FieldType := fun k => match k with
  | 0 => .array .char
  | 1 => .int
  | 2 => .int
  | 3 => .int
  | 4 => .array .int
  | 5 => .array .int
  | 6 => .array .int
  | _ => .array .int
theorem nmX3 : ∀ a, a < 8 → ∀ b, b < 8 → a ≠ b → (TX3 a).2.1 ≠ (TX3 b).2.1 := by decide +kernel
theorem tyX3_ok : ∀ k, k < 8 → parseFieldDescriptor (TX3 k).2.2.1 = some (tyX3 k) := by decide +kernel
abbrev cX3_init : ByteArray := prog_5_method_1_code
def yX3_init : MethodName := ⟨RX3, "<init>", "()V"⟩
abbrev cX3_parse : ByteArray := prog_5_method_2_code
def yX3_parse : MethodName := ⟨RX3, "parse", "()I"⟩
abbrev cX3_parseOrder : ByteArray := prog_5_method_3_code
def yX3_parseOrder : MethodName := ⟨RX3, "parseOrder", "()Z"⟩
abbrev cX3_parseTemperature : ByteArray := prog_5_method_4_code
def yX3_parseTemperature : MethodName := ⟨RX3, "parseTemperature", "()Z"⟩
abbrev cX3_parseJoin : ByteArray := prog_5_method_5_code
def yX3_parseJoin : MethodName := ⟨RX3, "parseJoin", "()Z"⟩
abbrev cX3_skip : ByteArray := prog_5_method_6_code
def yX3_skip : MethodName := ⟨RX3, "skip", "(C)Z"⟩
abbrev cX3_parseNumber : ByteArray := prog_5_method_7_code
def yX3_parseNumber : MethodName := ⟨RX3, "parseNumber", "()I"⟩
abbrev cX3_parseDigit : ByteArray := prog_5_method_8_code
def yX3_parseDigit : MethodName := ⟨RX3, "parseDigit", "()I"⟩
abbrev cX3_carryOut : ByteArray := prog_5_method_9_code
def yX3_carryOut : MethodName := ⟨RX3, "carryOut", "(ILIceConvoys$Road;)I"⟩
abbrev cX3_carryOutDrill : ByteArray := prog_5_method_10_code
def yX3_carryOutDrill : MethodName := ⟨RX3, "carryOutDrill", "(ILIceConvoys$Road;)I"⟩
abbrev cX3_carryOutMove : ByteArray := prog_5_method_11_code
def yX3_carryOutMove : MethodName := ⟨RX3, "carryOutMove", "(IILIceConvoys$Road;)I"⟩
abbrev cX3_carryOutTemperature : ByteArray := prog_5_method_12_code
def yX3_carryOutTemperature : MethodName := ⟨RX3, "carryOutTemperature", "(ILIceConvoys$Road;)I"⟩
abbrev cX3_carryOutJoin : ByteArray := prog_5_method_13_code
def yX3_carryOutJoin : MethodName := ⟨RX3, "carryOutJoin", "(ILIceConvoys$Road;)I"⟩
abbrev cX3_carryOutDays : ByteArray := prog_5_method_14_code
def yX3_carryOutDays : MethodName := ⟨RX3, "carryOutDays", "(ILIceConvoys$Road;)I"⟩
def RX4 : String := "IceConvoys$Road"
def TX4 : u_T := fun k => match k with
  | 0 => ("IceConvoys$Road", "settings", "[I", true)
  | 1 => ("IceConvoys$Road", "day", "I", false)
  | 2 => ("IceConvoys$Road", "miles", "[LIceConvoys$Mile;", true)
  | 3 => ("IceConvoys$Road", "rows", "[LIceConvoys$Truck;", true)
  | 4 => ("IceConvoys$Road", "convoys", "[LIceConvoys$Convoy;", true)
  | 5 => ("IceConvoys$Road", "convoyCount", "I", false)
  | 6 => ("IceConvoys$Road", "drills", "I", false)
  | 7 => ("IceConvoys$Road", "tonnesCame", "I", false)
  | _ => ("IceConvoys$Road", "tonnesDelivered", "I", false)
def tyX4 : Nat → FieldType := fun k => match k with
  | 0 => .array .int
  | 1 => .int
  | 2 => .array (.object "IceConvoys$Mile")
  | 3 => .array (.object "IceConvoys$Truck")
  | 4 => .array (.object "IceConvoys$Convoy")
  | 5 => .int
  | 6 => .int
  | 7 => .int
  | _ => .int
theorem nmX4 : ∀ a, a < 9 → ∀ b, b < 9 → a ≠ b → (TX4 a).2.1 ≠ (TX4 b).2.1 := by decide +kernel
theorem tyX4_ok : ∀ k, k < 9 → parseFieldDescriptor (TX4 k).2.2.1 = some (tyX4 k) := by decide +kernel
abbrev cX4_init : ByteArray := prog_6_method_1_code
def yX4_init : MethodName := ⟨RX4, "<init>", "()V"⟩
abbrev cX4_copyFrom : ByteArray := prog_6_method_2_code
def yX4_copyFrom : MethodName := ⟨RX4, "copyFrom", "(LIceConvoys$Road;)V"⟩
abbrev cX4_isConvoy : ByteArray := prog_6_method_3_code
def yX4_isConvoy : MethodName := ⟨RX4, "isConvoy", "(I)Z"⟩
abbrev cX4_truckIn : ByteArray := prog_6_method_4_code
def yX4_truckIn : MethodName := ⟨RX4, "truckIn", "(II)LIceConvoys$Truck;"⟩
abbrev cX4_noteIce : ByteArray := prog_6_method_5_code
def yX4_noteIce : MethodName := ⟨RX4, "noteIce", "(LIceConvoys$Mile;)V"⟩
abbrev cX4_isDrillGood : ByteArray := prog_6_method_6_code
def yX4_isDrillGood : MethodName := ⟨RX4, "isDrillGood", "(LIceConvoys$Mile;)Z"⟩
abbrev cX4_borneByDrill : ByteArray := prog_6_method_7_code
def yX4_borneByDrill : MethodName := ⟨RX4, "borneByDrill", "(LIceConvoys$Mile;)F"⟩
abbrev cX4_borneWithCracks : ByteArray := prog_6_method_8_code
def yX4_borneWithCracks : MethodName := ⟨RX4, "borneWithCracks", "(LIceConvoys$Mile;I)F"⟩
abbrev cX4_freePlace : ByteArray := prog_6_method_9_code
def yX4_freePlace : MethodName := ⟨RX4, "freePlace", "(I)I"⟩
abbrev cX4_convoyAt : ByteArray := prog_6_method_10_code
def yX4_convoyAt : MethodName := ⟨RX4, "convoyAt", "(I)I"⟩
abbrev cX4_isTakenByOther : ByteArray := prog_6_method_11_code
def yX4_isTakenByOther : MethodName := ⟨RX4, "isTakenByOther", "(II)Z"⟩
abbrev cX4_joinObstacle : ByteArray := prog_6_method_12_code
def yX4_joinObstacle : MethodName := ⟨RX4, "joinObstacle", "(III)I"⟩
abbrev cX4_startObstacle : ByteArray := prog_6_method_13_code
def yX4_startObstacle : MethodName := ⟨RX4, "startObstacle", "(I)I"⟩
abbrev cX4_rollObstacle : ByteArray := prog_6_method_14_code
def yX4_rollObstacle : MethodName := ⟨RX4, "rollObstacle", "(I)I"⟩
abbrev cX4_wayObstacle : ByteArray := prog_6_method_15_code
def yX4_wayObstacle : MethodName := ⟨RX4, "wayObstacle", "(I)I"⟩
abbrev cX4_letJoin : ByteArray := prog_6_method_16_code
def yX4_letJoin : MethodName := ⟨RX4, "letJoin", "(LIceConvoys$Convoy;I)V"⟩
abbrev cX4_advance : ByteArray := prog_6_method_17_code
def yX4_advance : MethodName := ⟨RX4, "advance", "(LIceConvoys$Convoy;)V"⟩
abbrev cX4_countRollsAhead : ByteArray := prog_6_method_18_code
def yX4_countRollsAhead : MethodName := ⟨RX4, "countRollsAhead", "(I)I"⟩
abbrev cX4_couldLeadBe : ByteArray := prog_6_method_19_code
def yX4_couldLeadBe : MethodName := ⟨RX4, "couldLeadBe", "(II)Z"⟩
abbrev cX4_letDaysGoBy : ByteArray := prog_6_method_20_code
def yX4_letDaysGoBy : MethodName := ⟨RX4, "letDaysGoBy", "(I)V"⟩
abbrev cX4_countGoodDrills : ByteArray := prog_6_method_21_code
def yX4_countGoodDrills : MethodName := ⟨RX4, "countGoodDrills", "()I"⟩
abbrev cX4_countCracks : ByteArray := prog_6_method_22_code
def yX4_countCracks : MethodName := ⟨RX4, "countCracks", "()I"⟩
abbrev cX4_countInRows : ByteArray := prog_6_method_23_code
def yX4_countInRows : MethodName := ⟨RX4, "countInRows", "()I"⟩
abbrev cX4_countStarted : ByteArray := prog_6_method_24_code
def yX4_countStarted : MethodName := ⟨RX4, "countStarted", "()I"⟩
abbrev cX4_countDone : ByteArray := prog_6_method_25_code
def yX4_countDone : MethodName := ⟨RX4, "countDone", "()I"⟩
abbrev cX4_countOnRoad : ByteArray := prog_6_method_26_code
def yX4_countOnRoad : MethodName := ⟨RX4, "countOnRoad", "()I"⟩
abbrev cX4_countArrived : ByteArray := prog_6_method_27_code
def yX4_countArrived : MethodName := ⟨RX4, "countArrived", "()I"⟩
abbrev cX4_tonnesInRows : ByteArray := prog_6_method_28_code
def yX4_tonnesInRows : MethodName := ⟨RX4, "tonnesInRows", "()I"⟩
abbrev cX4_tonnesUnderWay : ByteArray := prog_6_method_29_code
def yX4_tonnesUnderWay : MethodName := ⟨RX4, "tonnesUnderWay", "()I"⟩
abbrev cX4_hasOneTruckAMile : ByteArray := prog_6_method_30_code
def yX4_hasOneTruckAMile : MethodName := ⟨RX4, "hasOneTruckAMile", "()Z"⟩
abbrev cX4_isIceInRange : ByteArray := prog_6_method_31_code
def yX4_isIceInRange : MethodName := ⟨RX4, "isIceInRange", "()Z"⟩
def RX5 : String := "IceConvoys$Truck"
def TX5 : u_T := fun k => match k with
  | 0 => ("IceConvoys$Truck", "kind", "I", true)
  | 1 => ("IceConvoys$Truck", "weight", "I", true)
  | _ => ("IceConvoys$Truck", "axles", "I", true)
def tyX5 : Nat → FieldType := fun k => match k with
  | 0 => .int
  | 1 => .int
  | _ => .int
theorem nmX5 : ∀ a, a < 3 → ∀ b, b < 3 → a ≠ b → (TX5 a).2.1 ≠ (TX5 b).2.1 := by decide +kernel
theorem tyX5_ok : ∀ k, k < 3 → parseFieldDescriptor (TX5 k).2.2.1 = some (tyX5 k) := by decide +kernel
abbrev cX5_init : ByteArray := prog_7_method_1_code
def yX5_init : MethodName := ⟨RX5, "<init>", "(III)V"⟩
abbrev cX5_burden : ByteArray := prog_7_method_2_code
def yX5_burden : MethodName := ⟨RX5, "burden", "()F"⟩
abbrev cX5_strainOnIce : ByteArray := prog_7_method_3_code
def yX5_strainOnIce : MethodName := ⟨RX5, "strainOnIce", "()I"⟩
def RX6 : String := "IceConvoys"
def TX6 : u_T := fun k => match k with
  | 0 => ("IceConvoys", "now", "LIceConvoys$Road;", true)
  | 1 => ("IceConvoys", "trial", "LIceConvoys$Road;", true)
  | 2 => ("IceConvoys", "snapshot", "LIceConvoys$Road;", true)
  | 3 => ("IceConvoys", "hasSnapshot", "Z", false)
  | 4 => ("IceConvoys", "history", "LIceConvoys$History;", true)
  | 5 => ("IceConvoys", "orders", "LIceConvoys$Orders;", true)
  | 6 => ("IceConvoys", "errorOffset", "I", false)
  | _ => ("IceConvoys", "lastRefusal", "I", false)
def tyX6 : Nat → FieldType := fun k => match k with
  | 0 => .object "IceConvoys$Road"
  | 1 => .object "IceConvoys$Road"
  | 2 => .object "IceConvoys$Road"
  | 3 => .boolean
  | 4 => .object "IceConvoys$History"
  | 5 => .object "IceConvoys$Orders"
  | 6 => .int
  | _ => .int
theorem nmX6 : ∀ a, a < 8 → ∀ b, b < 8 → a ≠ b → (TX6 a).2.1 ≠ (TX6 b).2.1 := by decide +kernel
theorem tyX6_ok : ∀ k, k < 8 → parseFieldDescriptor (TX6 k).2.2.1 = some (tyX6 k) := by decide +kernel
abbrev cX6_init : ByteArray := prog_1_method_1_code
def yX6_init : MethodName := ⟨RX6, "<init>", "()V"⟩
abbrev cX6_set : ByteArray := prog_1_method_2_code
def yX6_set : MethodName := ⟨RX6, "set", "(II)I"⟩
abbrev cX6_setting : ByteArray := prog_1_method_3_code
def yX6_setting : MethodName := ⟨RX6, "setting", "(I)I"⟩
abbrev cX6_drill : ByteArray := prog_1_method_4_code
def yX6_drill : MethodName := ⟨RX6, "drill", "(I)I"⟩
abbrev cX6_drilled : ByteArray := prog_1_method_5_code
def yX6_drilled : MethodName := ⟨RX6, "drilled", "(I)I"⟩
abbrev cX6_mileOf : ByteArray := prog_1_method_6_code
def yX6_mileOf : MethodName := ⟨RX6, "mileOf", "(II)I"⟩
abbrev cX6_ice : ByteArray := prog_1_method_7_code
def yX6_ice : MethodName := ⟨RX6, "ice", "(I)F"⟩
abbrev cX6_bears : ByteArray := prog_1_method_8_code
def yX6_bears : MethodName := ⟨RX6, "bears", "(I)I"⟩
abbrev cX6_sign : ByteArray := prog_1_method_9_code
def yX6_sign : MethodName := ⟨RX6, "sign", "(I)C"⟩
abbrev cX6_weakest : ByteArray := prog_1_method_10_code
def yX6_weakest : MethodName := ⟨RX6, "weakest", "()I"⟩
abbrev cX6_truck : ByteArray := prog_1_method_11_code
def yX6_truck : MethodName := ⟨RX6, "truck", "(IIII)I"⟩
abbrev cX6_inRow : ByteArray := prog_1_method_12_code
def yX6_inRow : MethodName := ⟨RX6, "inRow", "(III)I"⟩
abbrev cX6_convoy : ByteArray := prog_1_method_13_code
def yX6_convoy : MethodName := ⟨RX6, "convoy", "(I)I"⟩
abbrev cX6_join : ByteArray := prog_1_method_14_code
def yX6_join : MethodName := ⟨RX6, "join", "(III)I"⟩
abbrev cX6_start : ByteArray := prog_1_method_15_code
def yX6_start : MethodName := ⟨RX6, "start", "(I)I"⟩
abbrev cX6_roll : ByteArray := prog_1_method_16_code
def yX6_roll : MethodName := ⟨RX6, "roll", "(I)I"⟩
abbrev cX6_why : ByteArray := prog_1_method_17_code
def yX6_why : MethodName := ⟨RX6, "why", "(IZ)I"⟩
abbrev cX6_convoyOf : ByteArray := prog_1_method_18_code
def yX6_convoyOf : MethodName := ⟨RX6, "convoyOf", "(II)I"⟩
abbrev cX6_truckOf : ByteArray := prog_1_method_19_code
def yX6_truckOf : MethodName := ⟨RX6, "truckOf", "(III)I"⟩
abbrev cX6_load : ByteArray := prog_1_method_20_code
def yX6_load : MethodName := ⟨RX6, "load", "(II)F"⟩
abbrev cX6_at : ByteArray := prog_1_method_21_code
def yX6_at : MethodName := ⟨RX6, "at", "(I)I"⟩
abbrev cX6_rolls : ByteArray := prog_1_method_22_code
def yX6_rolls : MethodName := ⟨RX6, "rolls", "(I)I"⟩
abbrev cX6_rollsAgain : ByteArray := prog_1_method_23_code
def yX6_rollsAgain : MethodName := ⟨RX6, "rollsAgain", "(I)I"⟩
abbrev cX6_iceIn : ByteArray := prog_1_method_24_code
def yX6_iceIn : MethodName := ⟨RX6, "iceIn", "(II)I"⟩
abbrev cX6_bearsIn : ByteArray := prog_1_method_25_code
def yX6_bearsIn : MethodName := ⟨RX6, "bearsIn", "(II)I"⟩
abbrev cX6_pass : ByteArray := prog_1_method_26_code
def yX6_pass : MethodName := ⟨RX6, "pass", "(I)I"⟩
abbrev cX6_append : ByteArray := prog_1_method_27_code
def yX6_append : MethodName := ⟨RX6, "append", "(C)I"⟩
abbrev cX6_read : ByteArray := prog_1_method_28_code
def yX6_read : MethodName := ⟨RX6, "read", "()I"⟩
abbrev cX6_refusal : ByteArray := prog_1_method_30_code
def yX6_refusal : MethodName := ⟨RX6, "refusal", "(Z)I"⟩
abbrev cX6_account : ByteArray := prog_1_method_31_code
def yX6_account : MethodName := ⟨RX6, "account", "(I)I"⟩
abbrev cX6_isWell : ByteArray := prog_1_method_32_code
def yX6_isWell : MethodName := ⟨RX6, "isWell", "()Z"⟩
abbrev cX6_meanBits : ByteArray := prog_1_method_33_code
def yX6_meanBits : MethodName := ⟨RX6, "meanBits", "()J"⟩
abbrev cX6_share : ByteArray := prog_1_method_34_code
def yX6_share : MethodName := ⟨RX6, "share", "()F"⟩
abbrev cX6_undo : ByteArray := prog_1_method_35_code
def yX6_undo : MethodName := ⟨RX6, "undo", "()I"⟩
abbrev cX6_isSetting : ByteArray := prog_1_method_38_code
def yX6_isSetting : MethodName := ⟨RX6, "isSetting", "(I)Z"⟩
abbrev cX6_isSettingValue : ByteArray := prog_1_method_39_code
def yX6_isSettingValue : MethodName := ⟨RX6, "isSettingValue", "(II)Z"⟩
abbrev cX6_isMile : ByteArray := prog_1_method_40_code
def yX6_isMile : MethodName := ⟨RX6, "isMile", "(I)Z"⟩
abbrev cX6_isRow : ByteArray := prog_1_method_41_code
def yX6_isRow : MethodName := ⟨RX6, "isRow", "(I)Z"⟩
abbrev cX6_isPlace : ByteArray := prog_1_method_42_code
def yX6_isPlace : MethodName := ⟨RX6, "isPlace", "(I)Z"⟩
abbrev cX6_isDaysToPass : ByteArray := prog_1_method_43_code
def yX6_isDaysToPass : MethodName := ⟨RX6, "isDaysToPass", "(I)Z"⟩
abbrev cX6_refusalFor : ByteArray := prog_1_method_44_code
def yX6_refusalFor : MethodName := ⟨RX6, "refusalFor", "(II)I"⟩
abbrev cX6_nextIce : ByteArray := prog_1_method_45_code
def yX6_nextIce : MethodName := ⟨RX6, "nextIce", "(FI)F"⟩
abbrev cX6_borneBy : ByteArray := prog_1_method_46_code
def yX6_borneBy : MethodName := ⟨RX6, "borneBy", "(FII)F"⟩
abbrev cX6_floatBits : ByteArray := prog_1_method_47_code
def yX6_floatBits : MethodName := ⟨RX6, "floatBits", "(F)I"⟩
abbrev cX6_doubleBits : ByteArray := prog_1_method_48_code
def yX6_doubleBits : MethodName := ⟨RX6, "doubleBits", "(D)J"⟩
def RX7 : String := "IceConvoysModel"
def TX7 : u_T := fun k => match k with
  | _ => ("", "", "", false)
def tyX7 : Nat → FieldType := fun k => match k with
  | _ => .int
theorem nmX7 : ∀ a, a < 0 → ∀ b, b < 0 → a ≠ b → (TX7 a).2.1 ≠ (TX7 b).2.1 := by decide +kernel
theorem tyX7_ok : ∀ k, k < 0 → parseFieldDescriptor (TX7 k).2.2.1 = some (tyX7 k) := by decide +kernel
def RJx145de : String := "java/io/Serializable"
def TJx145de : u_T := fun k => match k with
  | _ => ("", "", "", false)
def tyJx145de : Nat → FieldType := fun k => match k with
  | _ => .int
theorem nmJx145de : ∀ a, a < 0 → ∀ b, b < 0 → a ≠ b → (TJx145de a).2.1 ≠ (TJx145de b).2.1 := by decide +kernel
theorem tyJx145de_ok : ∀ k, k < 0 → parseFieldDescriptor (TJx145de k).2.2.1 = some (tyJx145de k) := by decide +kernel
def RJ5 : String := "java/lang/AbstractStringBuilder"
def TJ5 : u_T := fun k => match k with
  | _ => ("", "", "", false)
def tyJ5 : Nat → FieldType := fun k => match k with
  | _ => .int
theorem nmJ5 : ∀ a, a < 0 → ∀ b, b < 0 → a ≠ b → (TJ5 a).2.1 ≠ (TJ5 b).2.1 := by decide +kernel
theorem tyJ5_ok : ∀ k, k < 0 → parseFieldDescriptor (TJ5 k).2.2.1 = some (tyJ5 k) := by decide +kernel
abbrev cJ5_init_d00df : ByteArray := prog_11_method_2_code
def yJ5_init_d00df : MethodName := ⟨RJ5, "<init>", "(I)V"⟩
abbrev cJ5_length_8abf5 : ByteArray := prog_11_method_6_code
def yJ5_length_8abf5 : MethodName := ⟨RJ5, "length", "()I"⟩
abbrev cJ5_ensureCapacityInternal_d00df : ByteArray := prog_11_method_9_code
def yJ5_ensureCapacityInternal_d00df : MethodName := ⟨RJ5, "ensureCapacityInternal", "(I)V"⟩
abbrev cJ5_newCapacity_0f7a4 : ByteArray := prog_11_method_10_code
def yJ5_newCapacity_0f7a4 : MethodName := ⟨RJ5, "newCapacity", "(I)I"⟩
abbrev cJ5_inflate_da8c8 : ByteArray := prog_11_method_11_code
def yJ5_inflate_da8c8 : MethodName := ⟨RJ5, "inflate", "()V"⟩
abbrev cJ5_append_cf1ce : ByteArray := prog_11_method_22_code
def yJ5_append_cf1ce : MethodName := ⟨RJ5, "append", "(Ljava/lang/String;)Ljava/lang/AbstractStringBuilder;"⟩
abbrev cJ5_appendNull_278bc : ByteArray := prog_11_method_26_code
def yJ5_appendNull_278bc : MethodName := ⟨RJ5, "appendNull", "()Ljava/lang/AbstractStringBuilder;"⟩
abbrev cJ5_append_c97b9 : ByteArray := prog_11_method_32_code
def yJ5_append_c97b9 : MethodName := ⟨RJ5, "append", "(I)Ljava/lang/AbstractStringBuilder;"⟩
abbrev cJ5_getValue_6d5f1 : ByteArray := prog_11_method_64_code
def yJ5_getValue_6d5f1 : MethodName := ⟨RJ5, "getValue", "()[B"⟩
abbrev cJ5_isLatin1_aae02 : ByteArray := prog_11_method_68_code
def yJ5_isLatin1_aae02 : MethodName := ⟨RJ5, "isLatin1", "()Z"⟩
abbrev cJ5_inflateIfNeededFor_a7421 : ByteArray := prog_11_method_71_code
def yJ5_inflateIfNeededFor_a7421 : MethodName := ⟨RJ5, "inflateIfNeededFor", "(Ljava/lang/String;)V"⟩
abbrev cJ5_putStringAt_47b60 : ByteArray := prog_11_method_73_code
def yJ5_putStringAt_47b60 : MethodName := ⟨RJ5, "putStringAt", "(ILjava/lang/String;)V"⟩
def RJx2cfe8 : String := "java/lang/Appendable"
def TJx2cfe8 : u_T := fun k => match k with
  | _ => ("", "", "", false)
def tyJx2cfe8 : Nat → FieldType := fun k => match k with
  | _ => .int
theorem nmJx2cfe8 : ∀ a, a < 0 → ∀ b, b < 0 → a ≠ b → (TJx2cfe8 a).2.1 ≠ (TJx2cfe8 b).2.1 := by decide +kernel
theorem tyJx2cfe8_ok : ∀ k, k < 0 → parseFieldDescriptor (TJx2cfe8 k).2.2.1 = some (tyJx2cfe8 k) := by decide +kernel
def RJx00060 : String := "java/lang/ArrayIndexOutOfBoundsException"
def TJx00060 : u_T := fun k => match k with
  | 0 => ("java/lang/Throwable", "backtrace", "Ljava/lang/Object;", false)
  | 1 => ("java/lang/Throwable", "detailMessage", "Ljava/lang/String;", false)
  | 2 => ("java/lang/Throwable", "cause", "Ljava/lang/Throwable;", false)
  | 3 => ("java/lang/Throwable", "stackTrace", "[Ljava/lang/StackTraceElement;", false)
  | 4 => ("java/lang/Throwable", "depth", "I", false)
  | _ => ("java/lang/Throwable", "suppressedExceptions", "Ljava/util/List;", false)
def tyJx00060 : Nat → FieldType := fun k => match k with
  | 0 => .object "java/lang/Object"
  | 1 => .object "java/lang/String"
  | 2 => .object "java/lang/Throwable"
  | 3 => .array (.object "java/lang/StackTraceElement")
  | 4 => .int
  | _ => .object "java/util/List"
theorem nmJx00060 : ∀ a, a < 6 → ∀ b, b < 6 → a ≠ b → (TJx00060 a).2.1 ≠ (TJx00060 b).2.1 := by decide +kernel
theorem tyJx00060_ok : ∀ k, k < 6 → parseFieldDescriptor (TJx00060 k).2.2.1 = some (tyJx00060 k) := by decide +kernel
abbrev cJx00060_init_a7421 : ByteArray := prog_14_method_2_code
def yJx00060_init_a7421 : MethodName := ⟨RJx00060, "<init>", "(Ljava/lang/String;)V"⟩
def RJx9f9b0 : String := "java/lang/CharSequence"
def TJx9f9b0 : u_T := fun k => match k with
  | _ => ("", "", "", false)
def tyJx9f9b0 : Nat → FieldType := fun k => match k with
  | _ => .int
theorem nmJx9f9b0 : ∀ a, a < 0 → ∀ b, b < 0 → a ≠ b → (TJx9f9b0 a).2.1 ≠ (TJx9f9b0 b).2.1 := by decide +kernel
theorem tyJx9f9b0_ok : ∀ k, k < 0 → parseFieldDescriptor (TJx9f9b0 k).2.2.1 = some (tyJx9f9b0 k) := by decide +kernel
def RJx8e188 : String := "java/lang/Cloneable"
def TJx8e188 : u_T := fun k => match k with
  | _ => ("", "", "", false)
def tyJx8e188 : Nat → FieldType := fun k => match k with
  | _ => .int
theorem nmJx8e188 : ∀ a, a < 0 → ∀ b, b < 0 → a ≠ b → (TJx8e188 a).2.1 ≠ (TJx8e188 b).2.1 := by decide +kernel
theorem tyJx8e188_ok : ∀ k, k < 0 → parseFieldDescriptor (TJx8e188 k).2.2.1 = some (tyJx8e188 k) := by decide +kernel
def RJxb160c : String := "java/lang/Comparable"
def TJxb160c : u_T := fun k => match k with
  | _ => ("", "", "", false)
def tyJxb160c : Nat → FieldType := fun k => match k with
  | _ => .int
theorem nmJxb160c : ∀ a, a < 0 → ∀ b, b < 0 → a ≠ b → (TJxb160c a).2.1 ≠ (TJxb160c b).2.1 := by decide +kernel
theorem tyJxb160c_ok : ∀ k, k < 0 → parseFieldDescriptor (TJxb160c k).2.2.1 = some (tyJxb160c k) := by decide +kernel
def RJxe99ae : String := "java/lang/Double"
def TJxe99ae : u_T := fun k => match k with
  | _ => ("", "", "", false)
def tyJxe99ae : Nat → FieldType := fun k => match k with
  | _ => .int
theorem nmJxe99ae : ∀ a, a < 0 → ∀ b, b < 0 → a ≠ b → (TJxe99ae a).2.1 ≠ (TJxe99ae b).2.1 := by decide +kernel
theorem tyJxe99ae_ok : ∀ k, k < 0 → parseFieldDescriptor (TJxe99ae k).2.2.1 = some (tyJxe99ae k) := by decide +kernel
abbrev cJxe99ae_isNaN_b9ae7 : ByteArray := prog_18_method_6_code
def yJxe99ae_isNaN_b9ae7 : MethodName := ⟨RJxe99ae, "isNaN", "(D)Z"⟩
abbrev cJxe99ae_doubleToLongBits_ccdee : ByteArray := prog_18_method_23_code
def yJxe99ae_doubleToLongBits_ccdee : MethodName := ⟨RJxe99ae, "doubleToLongBits", "(D)J"⟩
def RJxf58ca : String := "java/lang/Float"
def TJxf58ca : u_T := fun k => match k with
  | _ => ("", "", "", false)
def tyJxf58ca : Nat → FieldType := fun k => match k with
  | _ => .int
theorem nmJxf58ca : ∀ a, a < 0 → ∀ b, b < 0 → a ≠ b → (TJxf58ca a).2.1 ≠ (TJxf58ca b).2.1 := by decide +kernel
theorem tyJxf58ca_ok : ∀ k, k < 0 → parseFieldDescriptor (TJxf58ca k).2.2.1 = some (tyJxf58ca k) := by decide +kernel
abbrev cJxf58ca_isNaN_12338 : ByteArray := prog_20_method_6_code
def yJxf58ca_isNaN_12338 : MethodName := ⟨RJxf58ca, "isNaN", "(F)Z"⟩
abbrev cJxf58ca_floatToIntBits_5c35a : ByteArray := prog_20_method_24_code
def yJxf58ca_floatToIntBits_5c35a : MethodName := ⟨RJxf58ca, "floatToIntBits", "(F)I"⟩
def RJ6 : String := "java/lang/Integer"
def TJ6 : u_T := fun k => match k with
  | _ => ("", "", "", false)
def tyJ6 : Nat → FieldType := fun k => match k with
  | _ => .int
theorem nmJ6 : ∀ a, a < 0 → ∀ b, b < 0 → a ≠ b → (TJ6 a).2.1 ≠ (TJ6 b).2.1 := by decide +kernel
theorem tyJ6_ok : ∀ k, k < 0 → parseFieldDescriptor (TJ6 k).2.2.1 = some (tyJ6 k) := by decide +kernel
abbrev cJ6_getChars_ba4f3 : ByteArray := prog_24_method_12_code
def yJ6_getChars_ba4f3 : MethodName := ⟨RJ6, "getChars", "(II[B)I"⟩
abbrev cJ6_stringSize_0f7a4 : ByteArray := prog_24_method_13_code
def yJ6_stringSize_0f7a4 : MethodName := ⟨RJ6, "stringSize", "(I)I"⟩
def RJ9 : String := "java/lang/Math"
def TJ9 : u_T := fun k => match k with
  | _ => ("", "", "", false)
def tyJ9 : Nat → FieldType := fun k => match k with
  | _ => .int
theorem nmJ9 : ∀ a, a < 0 → ∀ b, b < 0 → a ≠ b → (TJ9 a).2.1 ≠ (TJ9 b).2.1 := by decide +kernel
theorem tyJ9_ok : ∀ k, k < 0 → parseFieldDescriptor (TJ9 k).2.2.1 = some (tyJ9 k) := by decide +kernel
abbrev cJ9_max_7cf53 : ByteArray := prog_25_method_65_code
def yJ9_max_7cf53 : MethodName := ⟨RJ9, "max", "(II)I"⟩
abbrev cJ9_min_7cf53 : ByteArray := prog_25_method_69_code
def yJ9_min_7cf53 : MethodName := ⟨RJ9, "min", "(II)I"⟩
def RJxd2413 : String := "java/lang/Number"
def TJxd2413 : u_T := fun k => match k with
  | _ => ("", "", "", false)
def tyJxd2413 : Nat → FieldType := fun k => match k with
  | _ => .int
theorem nmJxd2413 : ∀ a, a < 0 → ∀ b, b < 0 → a ≠ b → (TJxd2413 a).2.1 ≠ (TJxd2413 b).2.1 := by decide +kernel
theorem tyJxd2413_ok : ∀ k, k < 0 → parseFieldDescriptor (TJxd2413 k).2.2.1 = some (tyJxd2413 k) := by decide +kernel
def RJ0 : String := "java/lang/String"
def TJ0 : u_T := fun k => match k with
  | 0 => ("java/lang/String", "value", "[B", true)
  | 1 => ("java/lang/String", "coder", "B", true)
  | 2 => ("java/lang/String", "hash", "I", false)
  | _ => ("java/lang/String", "hashIsZero", "Z", false)
def tyJ0 : Nat → FieldType := fun k => match k with
  | 0 => .array .byte
  | 1 => .byte
  | 2 => .int
  | _ => .boolean
theorem nmJ0 : ∀ a, a < 4 → ∀ b, b < 4 → a ≠ b → (TJ0 a).2.1 ≠ (TJ0 b).2.1 := by decide +kernel
theorem tyJ0_ok : ∀ k, k < 4 → parseFieldDescriptor (TJ0 k).2.2.1 = some (tyJ0 k) := by decide +kernel
abbrev cJ0_init_81219 : ByteArray := prog_28_method_53_code
def yJ0_init_81219 : MethodName := ⟨RJ0, "<init>", "(Ljava/lang/StringBuilder;)V"⟩
abbrev cJ0_length_8abf5 : ByteArray := prog_28_method_54_code
def yJ0_length_8abf5 : MethodName := ⟨RJ0, "length", "()I"⟩
abbrev cJ0_charAt_5068e : ByteArray := prog_28_method_56_code
def yJ0_charAt_5068e : MethodName := ⟨RJ0, "charAt", "(I)C"⟩
abbrev cJ0_getBytes_840e7 : ByteArray := prog_28_method_147_code
def yJ0_getBytes_840e7 : MethodName := ⟨RJ0, "getBytes", "([BIB)V"⟩
abbrev cJ0_init_db425 : ByteArray := prog_28_method_150_code
def yJ0_init_db425 : MethodName := ⟨RJ0, "<init>", "(Ljava/lang/AbstractStringBuilder;Ljava/lang/Void;)V"⟩
abbrev cJ0_coder_7d493 : ByteArray := prog_28_method_152_code
def yJ0_coder_7d493 : MethodName := ⟨RJ0, "coder", "()B"⟩
abbrev cJ0_isLatin1_aae02 : ByteArray := prog_28_method_154_code
def yJ0_isLatin1_aae02 : MethodName := ⟨RJ0, "isLatin1", "()Z"⟩
abbrev cJ0_checkIndex_df160 : ByteArray := prog_28_method_155_code
def yJ0_checkIndex_df160 : MethodName := ⟨RJ0, "checkIndex", "(II)V"⟩
abbrev cJ0_checkBoundsOffCount_cabcc : ByteArray := prog_28_method_157_code
def yJ0_checkBoundsOffCount_cabcc : MethodName := ⟨RJ0, "checkBoundsOffCount", "(III)I"⟩
abbrev cJ0_checkBoundsBeginEnd_23922 : ByteArray := prog_28_method_158_code
def yJ0_checkBoundsBeginEnd_23922 : MethodName := ⟨RJ0, "checkBoundsBeginEnd", "(III)V"⟩
def RJ4 : String := "java/lang/StringBuilder"
def TJ4 : u_T := fun k => match k with
  | 0 => ("java/lang/AbstractStringBuilder", "value", "[B", false)
  | 1 => ("java/lang/AbstractStringBuilder", "coder", "B", false)
  | 2 => ("java/lang/AbstractStringBuilder", "maybeLatin1", "Z", false)
  | _ => ("java/lang/AbstractStringBuilder", "count", "I", false)
def tyJ4 : Nat → FieldType := fun k => match k with
  | 0 => .array .byte
  | 1 => .byte
  | 2 => .boolean
  | _ => .int
theorem nmJ4 : ∀ a, a < 4 → ∀ b, b < 4 → a ≠ b → (TJ4 a).2.1 ≠ (TJ4 b).2.1 := by decide +kernel
theorem tyJ4_ok : ∀ k, k < 4 → parseFieldDescriptor (TJ4 k).2.2.1 = some (tyJ4 k) := by decide +kernel
abbrev cJ4_init_da8c8 : ByteArray := prog_29_method_1_code
def yJ4_init_da8c8 : MethodName := ⟨RJ4, "<init>", "()V"⟩
abbrev cJ4_append_15ec4 : ByteArray := prog_29_method_7_code
def yJ4_append_15ec4 : MethodName := ⟨RJ4, "append", "(Ljava/lang/String;)Ljava/lang/StringBuilder;"⟩
abbrev cJ4_append_bf812 : ByteArray := prog_29_method_15_code
def yJ4_append_bf812 : MethodName := ⟨RJ4, "append", "(I)Ljava/lang/StringBuilder;"⟩
abbrev cJ4_toString_0e30d : ByteArray := prog_29_method_42_code
def yJ4_toString_0e30d : MethodName := ⟨RJ4, "toString", "()Ljava/lang/String;"⟩
abbrev cJ4_length_8abf5 : ByteArray := prog_29_method_93_code
def yJ4_length_8abf5 : MethodName := ⟨RJ4, "length", "()I"⟩
def RJ1 : String := "java/lang/StringLatin1"
def TJ1 : u_T := fun k => match k with
  | _ => ("", "", "", false)
def tyJ1 : Nat → FieldType := fun k => match k with
  | _ => .int
theorem nmJ1 : ∀ a, a < 0 → ∀ b, b < 0 → a ≠ b → (TJ1 a).2.1 ≠ (TJ1 b).2.1 := by decide +kernel
theorem tyJ1_ok : ∀ k, k < 0 → parseFieldDescriptor (TJ1 k).2.2.1 = some (tyJ1 k) := by decide +kernel
abbrev cJ1_charAt_3b067 : ByteArray := prog_30_method_2_code
def yJ1_charAt_3b067 : MethodName := ⟨RJ1, "charAt", "([BI)C"⟩
abbrev cJ1_inflate_0e8fd : ByteArray := prog_30_method_50_code
def yJ1_inflate_0e8fd : MethodName := ⟨RJ1, "inflate", "([BI[BII)V"⟩
def RJ2 : String := "java/lang/StringUTF16"
def TJ2 : u_T := fun k => match k with
  | _ => ("", "", "", false)
def tyJ2 : Nat → FieldType := fun k => match k with
  | _ => .int
theorem nmJ2 : ∀ a, a < 0 → ∀ b, b < 0 → a ≠ b → (TJ2 a).2.1 ≠ (TJ2 b).2.1 := by decide +kernel
theorem tyJ2_ok : ∀ k, k < 0 → parseFieldDescriptor (TJ2 k).2.2.1 = some (tyJ2 k) := by decide +kernel
abbrev cJ2_newBytesFor_77867 : ByteArray := prog_31_method_2_code
def yJ2_newBytesFor_77867 : MethodName := ⟨RJ2, "newBytesFor", "(I)[B"⟩
abbrev cJ2_newBytesLength_0f7a4 : ByteArray := prog_31_method_3_code
def yJ2_newBytesLength_0f7a4 : MethodName := ⟨RJ2, "newBytesLength", "(I)I"⟩
abbrev cJ2_putChar_b72d1 : ByteArray := prog_31_method_4_code
def yJ2_putChar_b72d1 : MethodName := ⟨RJ2, "putChar", "([BII)V"⟩
abbrev cJ2_getChar_3b067 : ByteArray := prog_31_method_5_code
def yJ2_getChar_3b067 : MethodName := ⟨RJ2, "getChar", "([BI)C"⟩
abbrev cJ2_length_9d52b : ByteArray := prog_31_method_6_code
def yJ2_length_9d52b : MethodName := ⟨RJ2, "length", "([B)I"⟩
abbrev cJ2_coderFromArrayLen_85cad : ByteArray := prog_31_method_15_code
def yJ2_coderFromArrayLen_85cad : MethodName := ⟨RJ2, "coderFromArrayLen", "([BI)B"⟩
abbrev cJ2_compress_39247 : ByteArray := prog_31_method_17_code
def yJ2_compress_39247 : MethodName := ⟨RJ2, "compress", "([BII)[B"⟩
abbrev cJ2_compress_5af95 : ByteArray := prog_31_method_22_code
def yJ2_compress_5af95 : MethodName := ⟨RJ2, "compress", "([BI[BII)I"⟩
abbrev cJ2_getChars_46870 : ByteArray := prog_31_method_77_code
def yJ2_getChars_46870 : MethodName := ⟨RJ2, "getChars", "(III[B)I"⟩
abbrev cJ2_putCharsAt_cd4e5 : ByteArray := prog_31_method_81_code
def yJ2_putCharsAt_cd4e5 : MethodName := ⟨RJ2, "putCharsAt", "([BICCCC)I"⟩
abbrev cJ2_charAt_3b067 : ByteArray := prog_31_method_83_code
def yJ2_charAt_3b067 : MethodName := ⟨RJ2, "charAt", "([BI)C"⟩
abbrev cJ2_inflate_0e8fd : ByteArray := prog_31_method_86_code
def yJ2_inflate_0e8fd : MethodName := ⟨RJ2, "inflate", "([BI[BII)V"⟩
abbrev cJ2_getChars_ba4f3 : ByteArray := prog_31_method_89_code
def yJ2_getChars_ba4f3 : MethodName := ⟨RJ2, "getChars", "(II[B)I"⟩
abbrev cJ2_checkIndex_2214a : ByteArray := prog_31_method_91_code
def yJ2_checkIndex_2214a : MethodName := ⟨RJ2, "checkIndex", "(I[B)V"⟩
abbrev cJ2_checkBoundsBeginEnd_d044e : ByteArray := prog_31_method_93_code
def yJ2_checkBoundsBeginEnd_d044e : MethodName := ⟨RJ2, "checkBoundsBeginEnd", "(II[B)V"⟩
abbrev cJ2_checkBoundsOffCount_d044e : ByteArray := prog_31_method_94_code
def yJ2_checkBoundsOffCount_d044e : MethodName := ⟨RJ2, "checkBoundsOffCount", "(II[B)V"⟩
def RJ10 : String := "java/lang/System"
def TJ10 : u_T := fun k => match k with
  | _ => ("", "", "", false)
def tyJ10 : Nat → FieldType := fun k => match k with
  | _ => .int
theorem nmJ10 : ∀ a, a < 0 → ∀ b, b < 0 → a ≠ b → (TJ10 a).2.1 ≠ (TJ10 b).2.1 := by decide +kernel
theorem tyJ10_ok : ∀ k, k < 0 → parseFieldDescriptor (TJ10 k).2.2.1 = some (tyJ10 k) := by decide +kernel
def RJxfd54e : String := "java/lang/constant/Constable"
def TJxfd54e : u_T := fun k => match k with
  | _ => ("", "", "", false)
def tyJxfd54e : Nat → FieldType := fun k => match k with
  | _ => .int
theorem nmJxfd54e : ∀ a, a < 0 → ∀ b, b < 0 → a ≠ b → (TJxfd54e a).2.1 ≠ (TJxfd54e b).2.1 := by decide +kernel
theorem tyJxfd54e_ok : ∀ k, k < 0 → parseFieldDescriptor (TJxfd54e k).2.2.1 = some (tyJxfd54e k) := by decide +kernel
def RJx3cf43 : String := "java/lang/constant/ConstantDesc"
def TJx3cf43 : u_T := fun k => match k with
  | _ => ("", "", "", false)
def tyJx3cf43 : Nat → FieldType := fun k => match k with
  | _ => .int
theorem nmJx3cf43 : ∀ a, a < 0 → ∀ b, b < 0 → a ≠ b → (TJx3cf43 a).2.1 ≠ (TJx3cf43 b).2.1 := by decide +kernel
theorem tyJx3cf43_ok : ∀ k, k < 0 → parseFieldDescriptor (TJx3cf43 k).2.2.1 = some (tyJx3cf43 k) := by decide +kernel
def RJ7 : String := "java/util/Arrays"
def TJ7 : u_T := fun k => match k with
  | _ => ("", "", "", false)
def tyJ7 : Nat → FieldType := fun k => match k with
  | _ => .int
theorem nmJ7 : ∀ a, a < 0 → ∀ b, b < 0 → a ≠ b → (TJ7 a).2.1 ≠ (TJ7 b).2.1 := by decide +kernel
theorem tyJ7_ok : ∀ k, k < 0 → parseFieldDescriptor (TJ7 k).2.2.1 = some (tyJ7 k) := by decide +kernel
abbrev cJ7_copyOf_9075b : ByteArray := prog_37_method_121_code
def yJ7_copyOf_9075b : MethodName := ⟨RJ7, "copyOf", "([BI)[B"⟩
abbrev cJ7_checkLength_df160 : ByteArray := prog_37_method_131_code
def yJ7_checkLength_df160 : MethodName := ⟨RJ7, "checkLength", "(II)V"⟩
abbrev cJ7_copyOfRange_39247 : ByteArray := prog_37_method_132_code
def yJ7_copyOfRange_39247 : MethodName := ⟨RJ7, "copyOfRange", "([BII)[B"⟩
abbrev cJ7_copyOfRangeByte_39247 : ByteArray := prog_37_method_133_code
def yJ7_copyOfRangeByte_39247 : MethodName := ⟨RJ7, "copyOfRangeByte", "([BII)[B"⟩
def RJ8 : String := "jdk/internal/util/ArraysSupport"
def TJ8 : u_T := fun k => match k with
  | _ => ("", "", "", false)
def tyJ8 : Nat → FieldType := fun k => match k with
  | _ => .int
theorem nmJ8 : ∀ a, a < 0 → ∀ b, b < 0 → a ≠ b → (TJ8 a).2.1 ≠ (TJ8 b).2.1 := by decide +kernel
theorem tyJ8_ok : ∀ k, k < 0 → parseFieldDescriptor (TJ8 k).2.2.1 = some (tyJ8 k) := by decide +kernel
abbrev cJ8_newLength_cabcc : ByteArray := prog_39_method_27_code
def yJ8_newLength_cabcc : MethodName := ⟨RJ8, "newLength", "(III)I"⟩
abbrev cJ8_hugeLength_7cf53 : ByteArray := prog_39_method_28_code
def yJ8_hugeLength_7cf53 : MethodName := ⟨RJ8, "hugeLength", "(II)I"⟩
def RJ3 : String := "jdk/internal/util/Preconditions"
def TJ3 : u_T := fun k => match k with
  | _ => ("", "", "", false)
def tyJ3 : Nat → FieldType := fun k => match k with
  | _ => .int
theorem nmJ3 : ∀ a, a < 0 → ∀ b, b < 0 → a ≠ b → (TJ3 a).2.1 ≠ (TJ3 b).2.1 := by decide +kernel
theorem tyJ3_ok : ∀ k, k < 0 → parseFieldDescriptor (TJ3 k).2.2.1 = some (tyJ3 k) := by decide +kernel
abbrev cJ3_checkIndex_8e157 : ByteArray := prog_40_method_11_code
def yJ3_checkIndex_8e157 : MethodName := ⟨RJ3, "checkIndex", "(IILjava/util/function/BiFunction;)I"⟩
abbrev cJ3_checkFromToIndex_8c36e : ByteArray := prog_40_method_12_code
def yJ3_checkFromToIndex_8c36e : MethodName := ⟨RJ3, "checkFromToIndex", "(IIILjava/util/function/BiFunction;)I"⟩
abbrev cJ3_checkFromIndexSize_8c36e : ByteArray := prog_40_method_13_code
def yJ3_checkFromIndexSize_8c36e : MethodName := ⟨RJ3, "checkFromIndexSize", "(IIILjava/util/function/BiFunction;)I"⟩
def RL : String := "IceConvoysLaw"
abbrev cL_cell : ByteArray := method_2_code
def yL_cell : MethodName := ⟨RL, "cell", "([II)I"⟩
abbrev cL_set : ByteArray := method_3_code
def yL_set : MethodName := ⟨RL, "set", "(LIceConvoys;II)I"⟩
abbrev cL_drill : ByteArray := method_4_code
def yL_drill : MethodName := ⟨RL, "drill", "(LIceConvoys;I)I"⟩
abbrev cL_drilled : ByteArray := method_5_code
def yL_drilled : MethodName := ⟨RL, "drilled", "(LIceConvoys;I)I"⟩
abbrev cL_mileOf : ByteArray := method_6_code
def yL_mileOf : MethodName := ⟨RL, "mileOf", "(LIceConvoys;II)I"⟩
abbrev cL_truck : ByteArray := method_7_code
def yL_truck : MethodName := ⟨RL, "truck", "(LIceConvoys;IIII)I"⟩
abbrev cL_inRow : ByteArray := method_8_code
def yL_inRow : MethodName := ⟨RL, "inRow", "(LIceConvoys;III)I"⟩
abbrev cL_convoy : ByteArray := method_9_code
def yL_convoy : MethodName := ⟨RL, "convoy", "(LIceConvoys;I)I"⟩
abbrev cL_join : ByteArray := method_10_code
def yL_join : MethodName := ⟨RL, "join", "(LIceConvoys;III)I"⟩
abbrev cL_start : ByteArray := method_11_code
def yL_start : MethodName := ⟨RL, "start", "(LIceConvoys;I)I"⟩
abbrev cL_roll : ByteArray := method_12_code
def yL_roll : MethodName := ⟨RL, "roll", "(LIceConvoys;I)I"⟩
abbrev cL_why : ByteArray := method_13_code
def yL_why : MethodName := ⟨RL, "why", "(LIceConvoys;IZ)I"⟩
abbrev cL_convoyOf : ByteArray := method_14_code
def yL_convoyOf : MethodName := ⟨RL, "convoyOf", "(LIceConvoys;II)I"⟩
abbrev cL_truckOf : ByteArray := method_15_code
def yL_truckOf : MethodName := ⟨RL, "truckOf", "(LIceConvoys;III)I"⟩
abbrev cL_at : ByteArray := method_16_code
def yL_at : MethodName := ⟨RL, "at", "(LIceConvoys;I)I"⟩
abbrev cL_rolls : ByteArray := method_17_code
def yL_rolls : MethodName := ⟨RL, "rolls", "(LIceConvoys;IZ)I"⟩
abbrev cL_iceIn : ByteArray := method_18_code
def yL_iceIn : MethodName := ⟨RL, "iceIn", "(LIceConvoys;II)I"⟩
abbrev cL_bearsIn : ByteArray := method_19_code
def yL_bearsIn : MethodName := ⟨RL, "bearsIn", "(LIceConvoys;II)I"⟩
abbrev cL_pass : ByteArray := method_20_code
def yL_pass : MethodName := ⟨RL, "pass", "(LIceConvoys;I)I"⟩
abbrev cL_refusal : ByteArray := method_21_code
def yL_refusal : MethodName := ⟨RL, "refusal", "(LIceConvoys;Z)I"⟩
abbrev cL_append : ByteArray := method_22_code
def yL_append : MethodName := ⟨RL, "append", "(LIceConvoys;C)I"⟩
abbrev cL_does : ByteArray := method_23_code
def yL_does : MethodName := ⟨RL, "does", "(LIceConvoys;)I"⟩
abbrev cL_read : ByteArray := method_24_code
def yL_read : MethodName := ⟨RL, "read", "(LIceConvoys;Ljava/lang/String;)I"⟩
abbrev cL_undo : ByteArray := method_25_code
def yL_undo : MethodName := ⟨RL, "undo", "(LIceConvoys;)I"⟩
abbrev cL_bears : ByteArray := method_26_code
def yL_bears : MethodName := ⟨RL, "bears", "(LIceConvoys;I)F"⟩
abbrev cL_drawn : ByteArray := method_27_code
def yL_drawn : MethodName := ⟨RL, "drawn", "([I)LIceConvoys;"⟩
abbrev cL_law : ByteArray := code
def yL_law : MethodName := ⟨RL, "law", "([I)Z"⟩
abbrev cL_miles : ByteArray := method_29_code
def yL_miles : MethodName := ⟨RL, "miles", "(LIceConvoys;)Z"⟩
abbrev cL_sums : ByteArray := method_30_code
def yL_sums : MethodName := ⟨RL, "sums", "(LIceConvoys;)Z"⟩
abbrev cL_expected : ByteArray := method_31_code
def yL_expected : MethodName := ⟨RL, "expected", "(LIceConvoys;II)I"⟩
abbrev cL_reasons : ByteArray := method_32_code
def yL_reasons : MethodName := ⟨RL, "reasons", "(LIceConvoys;)Z"⟩
abbrev cL_ahead : ByteArray := method_33_code
def yL_ahead : MethodName := ⟨RL, "ahead", "([ILIceConvoys;)Z"⟩
abbrev cL_sum : ByteArray := method_34_code
def yL_sum : MethodName := ⟨RL, "sum", "(LIceConvoys;)J"⟩
abbrev cL_undone : ByteArray := method_35_code
def yL_undone : MethodName := ⟨RL, "undone", "([ILIceConvoys;)Z"⟩
theorem dX0_init_0 : decode cX0_init 0 = .ok (.aload_n 0, 1) := by decide +kernel
theorem dX0_init_1 : decode cX0_init 1 = .ok (.invokespecial 3, 3) := by decide +kernel
theorem dX0_init_4 : decode cX0_init 4 = .ok (.aload_n 0, 1) := by decide +kernel
theorem dX0_init_5 : decode cX0_init 5 = .ok (.iconst 1, 1) := by decide +kernel
theorem dX0_init_6 : decode cX0_init 6 = .ok (.putfield 9, 3) := by decide +kernel
theorem dX0_init_9 : decode cX0_init 9 = .ok (.aload_n 0, 1) := by decide +kernel
theorem dX0_init_10 : decode cX0_init 10 = .ok (.iconst (-1), 1) := by decide +kernel
theorem dX0_init_11 : decode cX0_init 11 = .ok (.putfield 15, 3) := by decide +kernel
theorem dX0_init_14 : decode cX0_init 14 = .ok (.aload_n 0, 1) := by decide +kernel
theorem dX0_init_15 : decode cX0_init 15 = .ok (.iconst 0, 1) := by decide +kernel
theorem dX0_init_16 : decode cX0_init 16 = .ok (.putfield 18, 3) := by decide +kernel
theorem dX0_init_19 : decode cX0_init 19 = .ok (.aload_n 0, 1) := by decide +kernel
theorem dX0_init_20 : decode cX0_init 20 = .ok (.iconst 4, 1) := by decide +kernel
theorem dX0_init_21 : decode cX0_init 21 = .ok (.anewarray 21, 3) := by decide +kernel
theorem dX0_init_24 : decode cX0_init 24 = .ok (.putfield 23, 3) := by decide +kernel
theorem dX0_init_27 : decode cX0_init 27 = .ok (.return_, 1) := by decide +kernel
theorem dX0_copyFrom_0 : decode cX0_copyFrom 0 = .ok (.aload_n 0, 1) := by decide +kernel
theorem dX0_copyFrom_1 : decode cX0_copyFrom 1 = .ok (.aload_n 1, 1) := by decide +kernel
theorem dX0_copyFrom_2 : decode cX0_copyFrom 2 = .ok (.getfield 9, 3) := by decide +kernel
theorem dX0_copyFrom_5 : decode cX0_copyFrom 5 = .ok (.putfield 9, 3) := by decide +kernel
theorem dX0_copyFrom_8 : decode cX0_copyFrom 8 = .ok (.aload_n 0, 1) := by decide +kernel
theorem dX0_copyFrom_9 : decode cX0_copyFrom 9 = .ok (.aload_n 1, 1) := by decide +kernel
theorem dX0_copyFrom_10 : decode cX0_copyFrom 10 = .ok (.getfield 15, 3) := by decide +kernel
theorem dX0_copyFrom_13 : decode cX0_copyFrom 13 = .ok (.putfield 15, 3) := by decide +kernel
theorem dX0_copyFrom_16 : decode cX0_copyFrom 16 = .ok (.aload_n 0, 1) := by decide +kernel
theorem dX0_copyFrom_17 : decode cX0_copyFrom 17 = .ok (.aload_n 1, 1) := by decide +kernel
theorem dX0_copyFrom_18 : decode cX0_copyFrom 18 = .ok (.getfield 18, 3) := by decide +kernel
theorem dX0_copyFrom_21 : decode cX0_copyFrom 21 = .ok (.putfield 18, 3) := by decide +kernel
theorem dX0_copyFrom_24 : decode cX0_copyFrom 24 = .ok (.iconst 0, 1) := by decide +kernel
theorem dX0_copyFrom_25 : decode cX0_copyFrom 25 = .ok (.istore_n 2, 1) := by decide +kernel
theorem dX0_copyFrom_26 : decode cX0_copyFrom 26 = .ok (.iload_n 2, 1) := by decide +kernel
theorem dX0_copyFrom_27 : decode cX0_copyFrom 27 = .ok (.iconst 4, 1) := by decide +kernel
theorem dX0_copyFrom_28 : decode cX0_copyFrom 28 = .ok (.if_icmp .ge 21, 3) := by decide +kernel
theorem dX0_copyFrom_31 : decode cX0_copyFrom 31 = .ok (.aload_n 0, 1) := by decide +kernel
theorem dX0_copyFrom_32 : decode cX0_copyFrom 32 = .ok (.getfield 23, 3) := by decide +kernel
theorem dX0_copyFrom_35 : decode cX0_copyFrom 35 = .ok (.iload_n 2, 1) := by decide +kernel
theorem dX0_copyFrom_36 : decode cX0_copyFrom 36 = .ok (.aload_n 1, 1) := by decide +kernel
theorem dX0_copyFrom_37 : decode cX0_copyFrom 37 = .ok (.getfield 23, 3) := by decide +kernel
theorem dX0_copyFrom_40 : decode cX0_copyFrom 40 = .ok (.iload_n 2, 1) := by decide +kernel
theorem dX0_copyFrom_41 : decode cX0_copyFrom 41 = .ok (.aaload, 1) := by decide +kernel
theorem dX0_copyFrom_42 : decode cX0_copyFrom 42 = .ok (.aastore, 1) := by decide +kernel
theorem dX0_copyFrom_43 : decode cX0_copyFrom 43 = .ok (.iinc 2 1, 3) := by decide +kernel
theorem dX0_copyFrom_46 : decode cX0_copyFrom 46 = .ok (.goto (-20), 3) := by decide +kernel
theorem dX0_copyFrom_49 : decode cX0_copyFrom 49 = .ok (.return_, 1) := by decide +kernel
theorem dX0_hasStarted_0 : decode cX0_hasStarted 0 = .ok (.aload_n 0, 1) := by decide +kernel
theorem dX0_hasStarted_1 : decode cX0_hasStarted 1 = .ok (.getfield 15, 3) := by decide +kernel
theorem dX0_hasStarted_4 : decode cX0_hasStarted 4 = .ok (.ifCond .lt 7, 3) := by decide +kernel
theorem dX0_hasStarted_7 : decode cX0_hasStarted 7 = .ok (.iconst 1, 1) := by decide +kernel
theorem dX0_hasStarted_8 : decode cX0_hasStarted 8 = .ok (.goto 4, 3) := by decide +kernel
theorem dX0_hasStarted_11 : decode cX0_hasStarted 11 = .ok (.iconst 0, 1) := by decide +kernel
theorem dX0_hasStarted_12 : decode cX0_hasStarted 12 = .ok (.ireturn, 1) := by decide +kernel
theorem dX0_isDone_0 : decode cX0_isDone 0 = .ok (.aload_n 0, 1) := by decide +kernel
theorem dX0_isDone_1 : decode cX0_isDone 1 = .ok (.invokevirtual 27, 3) := by decide +kernel
theorem dX0_isDone_4 : decode cX0_isDone 4 = .ok (.ifCond .eq 18, 3) := by decide +kernel
theorem dX0_isDone_7 : decode cX0_isDone 7 = .ok (.aload_n 0, 1) := by decide +kernel
theorem dX0_isDone_8 : decode cX0_isDone 8 = .ok (.invokevirtual 31, 3) := by decide +kernel
theorem dX0_isDone_11 : decode cX0_isDone 11 = .ok (.aload_n 0, 1) := by decide +kernel
theorem dX0_isDone_12 : decode cX0_isDone 12 = .ok (.getfield 18, 3) := by decide +kernel
theorem dX0_isDone_15 : decode cX0_isDone 15 = .ok (.if_icmp .ne 7, 3) := by decide +kernel
theorem dX0_isDone_18 : decode cX0_isDone 18 = .ok (.iconst 1, 1) := by decide +kernel
theorem dX0_isDone_19 : decode cX0_isDone 19 = .ok (.goto 4, 3) := by decide +kernel
theorem dX0_isDone_22 : decode cX0_isDone 22 = .ok (.iconst 0, 1) := by decide +kernel
theorem dX0_isDone_23 : decode cX0_isDone 23 = .ok (.ireturn, 1) := by decide +kernel
theorem dX0_mileWithLead_0 : decode cX0_mileWithLead 0 = .ok (.iload_n 2, 1) := by decide +kernel
theorem dX0_mileWithLead_1 : decode cX0_mileWithLead 1 = .ok (.iload_n 1, 1) := by decide +kernel
theorem dX0_mileWithLead_2 : decode cX0_mileWithLead 2 = .ok (.aload_n 0, 1) := by decide +kernel
theorem dX0_mileWithLead_3 : decode cX0_mileWithLead 3 = .ok (.getfield 9, 3) := by decide +kernel
theorem dX0_mileWithLead_6 : decode cX0_mileWithLead 6 = .ok (.iconst 1, 1) := by decide +kernel
theorem dX0_mileWithLead_7 : decode cX0_mileWithLead 7 = .ok (.iadd, 1) := by decide +kernel
theorem dX0_mileWithLead_8 : decode cX0_mileWithLead 8 = .ok (.imul, 1) := by decide +kernel
theorem dX0_mileWithLead_9 : decode cX0_mileWithLead 9 = .ok (.isub, 1) := by decide +kernel
theorem dX0_mileWithLead_10 : decode cX0_mileWithLead 10 = .ok (.ireturn, 1) := by decide +kernel
theorem dX0_mileOfTruck_0 : decode cX0_mileOfTruck 0 = .ok (.aload_n 0, 1) := by decide +kernel
theorem dX0_mileOfTruck_1 : decode cX0_mileOfTruck 1 = .ok (.invokevirtual 27, 3) := by decide +kernel
theorem dX0_mileOfTruck_4 : decode cX0_mileOfTruck 4 = .ok (.ifCond .eq 15, 3) := by decide +kernel
theorem dX0_mileOfTruck_7 : decode cX0_mileOfTruck 7 = .ok (.aload_n 0, 1) := by decide +kernel
theorem dX0_mileOfTruck_8 : decode cX0_mileOfTruck 8 = .ok (.iload_n 1, 1) := by decide +kernel
theorem dX0_mileOfTruck_9 : decode cX0_mileOfTruck 9 = .ok (.aload_n 0, 1) := by decide +kernel
theorem dX0_mileOfTruck_10 : decode cX0_mileOfTruck 10 = .ok (.getfield 15, 3) := by decide +kernel
theorem dX0_mileOfTruck_13 : decode cX0_mileOfTruck 13 = .ok (.invokevirtual 35, 3) := by decide +kernel
theorem dX0_mileOfTruck_16 : decode cX0_mileOfTruck 16 = .ok (.goto 4, 3) := by decide +kernel
theorem dX0_mileOfTruck_19 : decode cX0_mileOfTruck 19 = .ok (.iconst (-1), 1) := by decide +kernel
theorem dX0_mileOfTruck_20 : decode cX0_mileOfTruck 20 = .ok (.ireturn, 1) := by decide +kernel
theorem dX0_countOnRoad_0 : decode cX0_countOnRoad 0 = .ok (.iconst 0, 1) := by decide +kernel
theorem dX0_countOnRoad_1 : decode cX0_countOnRoad 1 = .ok (.istore_n 1, 1) := by decide +kernel
theorem dX0_countOnRoad_2 : decode cX0_countOnRoad 2 = .ok (.iconst 0, 1) := by decide +kernel
theorem dX0_countOnRoad_3 : decode cX0_countOnRoad 3 = .ok (.istore_n 2, 1) := by decide +kernel
theorem dX0_countOnRoad_4 : decode cX0_countOnRoad 4 = .ok (.iload_n 2, 1) := by decide +kernel
theorem dX0_countOnRoad_5 : decode cX0_countOnRoad 5 = .ok (.aload_n 0, 1) := by decide +kernel
theorem dX0_countOnRoad_6 : decode cX0_countOnRoad 6 = .ok (.getfield 18, 3) := by decide +kernel
theorem dX0_countOnRoad_9 : decode cX0_countOnRoad 9 = .ok (.if_icmp .ge 23, 3) := by decide +kernel
theorem dX0_countOnRoad_12 : decode cX0_countOnRoad 12 = .ok (.aload_n 0, 1) := by decide +kernel
theorem dX0_countOnRoad_13 : decode cX0_countOnRoad 13 = .ok (.iload_n 2, 1) := by decide +kernel
theorem dX0_countOnRoad_14 : decode cX0_countOnRoad 14 = .ok (.invokevirtual 39, 3) := by decide +kernel
theorem dX0_countOnRoad_17 : decode cX0_countOnRoad 17 = .ok (.invokestatic 43, 3) := by decide +kernel
theorem dX0_countOnRoad_20 : decode cX0_countOnRoad 20 = .ok (.ifCond .eq 6, 3) := by decide +kernel
theorem dX0_countOnRoad_23 : decode cX0_countOnRoad 23 = .ok (.iinc 1 1, 3) := by decide +kernel
theorem dX0_countOnRoad_26 : decode cX0_countOnRoad 26 = .ok (.iinc 2 1, 3) := by decide +kernel
theorem dX0_countOnRoad_29 : decode cX0_countOnRoad 29 = .ok (.goto (-25), 3) := by decide +kernel
theorem dX0_countOnRoad_32 : decode cX0_countOnRoad 32 = .ok (.iload_n 1, 1) := by decide +kernel
theorem dX0_countOnRoad_33 : decode cX0_countOnRoad 33 = .ok (.ireturn, 1) := by decide +kernel
theorem dX0_countArrived_0 : decode cX0_countArrived 0 = .ok (.iconst 0, 1) := by decide +kernel
theorem dX0_countArrived_1 : decode cX0_countArrived 1 = .ok (.istore_n 1, 1) := by decide +kernel
theorem dX0_countArrived_2 : decode cX0_countArrived 2 = .ok (.iconst 0, 1) := by decide +kernel
theorem dX0_countArrived_3 : decode cX0_countArrived 3 = .ok (.istore_n 2, 1) := by decide +kernel
theorem dX0_countArrived_4 : decode cX0_countArrived 4 = .ok (.iload_n 2, 1) := by decide +kernel
theorem dX0_countArrived_5 : decode cX0_countArrived 5 = .ok (.aload_n 0, 1) := by decide +kernel
theorem dX0_countArrived_6 : decode cX0_countArrived 6 = .ok (.getfield 18, 3) := by decide +kernel
theorem dX0_countArrived_9 : decode cX0_countArrived 9 = .ok (.if_icmp .ge 22, 3) := by decide +kernel
theorem dX0_countArrived_12 : decode cX0_countArrived 12 = .ok (.aload_n 0, 1) := by decide +kernel
theorem dX0_countArrived_13 : decode cX0_countArrived 13 = .ok (.iload_n 2, 1) := by decide +kernel
theorem dX0_countArrived_14 : decode cX0_countArrived 14 = .ok (.invokevirtual 39, 3) := by decide +kernel
theorem dX0_countArrived_17 : decode cX0_countArrived 17 = .ok (.bipush 12, 2) := by decide +kernel
theorem dX0_countArrived_19 : decode cX0_countArrived 19 = .ok (.if_icmp .lt 6, 3) := by decide +kernel
theorem dX0_countArrived_22 : decode cX0_countArrived 22 = .ok (.iinc 1 1, 3) := by decide +kernel
theorem dX0_countArrived_25 : decode cX0_countArrived 25 = .ok (.iinc 2 1, 3) := by decide +kernel
theorem dX0_countArrived_28 : decode cX0_countArrived 28 = .ok (.goto (-24), 3) := by decide +kernel
theorem dX0_countArrived_31 : decode cX0_countArrived 31 = .ok (.iload_n 1, 1) := by decide +kernel
theorem dX0_countArrived_32 : decode cX0_countArrived 32 = .ok (.ireturn, 1) := by decide +kernel
theorem dX0_placeAt_0 : decode cX0_placeAt 0 = .ok (.iconst 0, 1) := by decide +kernel
theorem dX0_placeAt_1 : decode cX0_placeAt 1 = .ok (.istore_n 2, 1) := by decide +kernel
theorem dX0_placeAt_2 : decode cX0_placeAt 2 = .ok (.iload_n 2, 1) := by decide +kernel
theorem dX0_placeAt_3 : decode cX0_placeAt 3 = .ok (.aload_n 0, 1) := by decide +kernel
theorem dX0_placeAt_4 : decode cX0_placeAt 4 = .ok (.getfield 18, 3) := by decide +kernel
theorem dX0_placeAt_7 : decode cX0_placeAt 7 = .ok (.if_icmp .ge 24, 3) := by decide +kernel
theorem dX0_placeAt_10 : decode cX0_placeAt 10 = .ok (.aload_n 0, 1) := by decide +kernel
theorem dX0_placeAt_11 : decode cX0_placeAt 11 = .ok (.iload_n 2, 1) := by decide +kernel
theorem dX0_placeAt_12 : decode cX0_placeAt 12 = .ok (.aload_n 0, 1) := by decide +kernel
theorem dX0_placeAt_13 : decode cX0_placeAt 13 = .ok (.getfield 15, 3) := by decide +kernel
theorem dX0_placeAt_16 : decode cX0_placeAt 16 = .ok (.invokevirtual 35, 3) := by decide +kernel
theorem dX0_placeAt_19 : decode cX0_placeAt 19 = .ok (.iload_n 1, 1) := by decide +kernel
theorem dX0_placeAt_20 : decode cX0_placeAt 20 = .ok (.if_icmp .ne 5, 3) := by decide +kernel
theorem dX0_placeAt_23 : decode cX0_placeAt 23 = .ok (.iload_n 2, 1) := by decide +kernel
theorem dX0_placeAt_24 : decode cX0_placeAt 24 = .ok (.ireturn, 1) := by decide +kernel
theorem dX0_placeAt_25 : decode cX0_placeAt 25 = .ok (.iinc 2 1, 3) := by decide +kernel
theorem dX0_placeAt_28 : decode cX0_placeAt 28 = .ok (.goto (-26), 3) := by decide +kernel
theorem dX0_placeAt_31 : decode cX0_placeAt 31 = .ok (.iconst (-1), 1) := by decide +kernel
theorem dX0_placeAt_32 : decode cX0_placeAt 32 = .ok (.ireturn, 1) := by decide +kernel
theorem dX0_tonnesNotArrived_0 : decode cX0_tonnesNotArrived 0 = .ok (.iconst 0, 1) := by decide +kernel
theorem dX0_tonnesNotArrived_1 : decode cX0_tonnesNotArrived 1 = .ok (.istore_n 1, 1) := by decide +kernel
theorem dX0_tonnesNotArrived_2 : decode cX0_tonnesNotArrived 2 = .ok (.iconst 0, 1) := by decide +kernel
theorem dX0_tonnesNotArrived_3 : decode cX0_tonnesNotArrived 3 = .ok (.istore_n 2, 1) := by decide +kernel
theorem dX0_tonnesNotArrived_4 : decode cX0_tonnesNotArrived 4 = .ok (.iload_n 2, 1) := by decide +kernel
theorem dX0_tonnesNotArrived_5 : decode cX0_tonnesNotArrived 5 = .ok (.iconst 4, 1) := by decide +kernel
theorem dX0_tonnesNotArrived_6 : decode cX0_tonnesNotArrived 6 = .ok (.if_icmp .ge 37, 3) := by decide +kernel
theorem dX0_tonnesNotArrived_9 : decode cX0_tonnesNotArrived 9 = .ok (.aload_n 0, 1) := by decide +kernel
theorem dX0_tonnesNotArrived_10 : decode cX0_tonnesNotArrived 10 = .ok (.getfield 23, 3) := by decide +kernel
theorem dX0_tonnesNotArrived_13 : decode cX0_tonnesNotArrived 13 = .ok (.iload_n 2, 1) := by decide +kernel
theorem dX0_tonnesNotArrived_14 : decode cX0_tonnesNotArrived 14 = .ok (.aaload, 1) := by decide +kernel
theorem dX0_tonnesNotArrived_15 : decode cX0_tonnesNotArrived 15 = .ok (.astore_n 3, 1) := by decide +kernel
theorem dX0_tonnesNotArrived_16 : decode cX0_tonnesNotArrived 16 = .ok (.aload_n 3, 1) := by decide +kernel
theorem dX0_tonnesNotArrived_17 : decode cX0_tonnesNotArrived 17 = .ok (.ifnull 20, 3) := by decide +kernel
theorem dX0_tonnesNotArrived_20 : decode cX0_tonnesNotArrived 20 = .ok (.aload_n 0, 1) := by decide +kernel
theorem dX0_tonnesNotArrived_21 : decode cX0_tonnesNotArrived 21 = .ok (.iload_n 2, 1) := by decide +kernel
theorem dX0_tonnesNotArrived_22 : decode cX0_tonnesNotArrived 22 = .ok (.invokevirtual 39, 3) := by decide +kernel
theorem dX0_tonnesNotArrived_25 : decode cX0_tonnesNotArrived 25 = .ok (.bipush 12, 2) := by decide +kernel
theorem dX0_tonnesNotArrived_27 : decode cX0_tonnesNotArrived 27 = .ok (.if_icmp .ge 10, 3) := by decide +kernel
theorem dX0_tonnesNotArrived_30 : decode cX0_tonnesNotArrived 30 = .ok (.iload_n 1, 1) := by decide +kernel
theorem dX0_tonnesNotArrived_31 : decode cX0_tonnesNotArrived 31 = .ok (.aload_n 3, 1) := by decide +kernel
theorem dX0_tonnesNotArrived_32 : decode cX0_tonnesNotArrived 32 = .ok (.getfield 47, 3) := by decide +kernel
theorem dX0_tonnesNotArrived_35 : decode cX0_tonnesNotArrived 35 = .ok (.iadd, 1) := by decide +kernel
theorem dX0_tonnesNotArrived_36 : decode cX0_tonnesNotArrived 36 = .ok (.istore_n 1, 1) := by decide +kernel
theorem dX0_tonnesNotArrived_37 : decode cX0_tonnesNotArrived 37 = .ok (.iinc 2 1, 3) := by decide +kernel
theorem dX0_tonnesNotArrived_40 : decode cX0_tonnesNotArrived 40 = .ok (.goto (-36), 3) := by decide +kernel
theorem dX0_tonnesNotArrived_43 : decode cX0_tonnesNotArrived 43 = .ok (.iload_n 1, 1) := by decide +kernel
theorem dX0_tonnesNotArrived_44 : decode cX0_tonnesNotArrived 44 = .ok (.ireturn, 1) := by decide +kernel
theorem dX0_strainAheadOf_0 : decode cX0_strainAheadOf 0 = .ok (.iconst 0, 1) := by decide +kernel
theorem dX0_strainAheadOf_1 : decode cX0_strainAheadOf 1 = .ok (.istore_n 3, 1) := by decide +kernel
theorem dX0_strainAheadOf_2 : decode cX0_strainAheadOf 2 = .ok (.iconst 0, 1) := by decide +kernel
theorem dX0_strainAheadOf_3 : decode cX0_strainAheadOf 3 = .ok (.istore 4, 2) := by decide +kernel
theorem dX0_strainAheadOf_5 : decode cX0_strainAheadOf 5 = .ok (.iload 4, 2) := by decide +kernel
theorem dX0_strainAheadOf_7 : decode cX0_strainAheadOf 7 = .ok (.iload_n 1, 1) := by decide +kernel
theorem dX0_strainAheadOf_8 : decode cX0_strainAheadOf 8 = .ok (.if_icmp .ge 47, 3) := by decide +kernel
theorem dX0_strainAheadOf_11 : decode cX0_strainAheadOf 11 = .ok (.iload 4, 2) := by decide +kernel
theorem dX0_strainAheadOf_13 : decode cX0_strainAheadOf 13 = .ok (.iconst 4, 1) := by decide +kernel
theorem dX0_strainAheadOf_14 : decode cX0_strainAheadOf 14 = .ok (.if_icmp .ge 41, 3) := by decide +kernel
theorem dX0_strainAheadOf_17 : decode cX0_strainAheadOf 17 = .ok (.aload_n 0, 1) := by decide +kernel
theorem dX0_strainAheadOf_18 : decode cX0_strainAheadOf 18 = .ok (.getfield 23, 3) := by decide +kernel
theorem dX0_strainAheadOf_21 : decode cX0_strainAheadOf 21 = .ok (.iload 4, 2) := by decide +kernel
theorem dX0_strainAheadOf_23 : decode cX0_strainAheadOf 23 = .ok (.aaload, 1) := by decide +kernel
theorem dX0_strainAheadOf_24 : decode cX0_strainAheadOf 24 = .ok (.astore 5, 2) := by decide +kernel
theorem dX0_strainAheadOf_26 : decode cX0_strainAheadOf 26 = .ok (.aload 5, 2) := by decide +kernel
theorem dX0_strainAheadOf_28 : decode cX0_strainAheadOf 28 = .ok (.ifnull 21, 3) := by decide +kernel
theorem dX0_strainAheadOf_31 : decode cX0_strainAheadOf 31 = .ok (.aload_n 0, 1) := by decide +kernel
theorem dX0_strainAheadOf_32 : decode cX0_strainAheadOf 32 = .ok (.iload 4, 2) := by decide +kernel
theorem dX0_strainAheadOf_34 : decode cX0_strainAheadOf 34 = .ok (.invokevirtual 39, 3) := by decide +kernel
theorem dX0_strainAheadOf_37 : decode cX0_strainAheadOf 37 = .ok (.iload_n 2, 1) := by decide +kernel
theorem dX0_strainAheadOf_38 : decode cX0_strainAheadOf 38 = .ok (.if_icmp .ge 11, 3) := by decide +kernel
theorem dX0_strainAheadOf_41 : decode cX0_strainAheadOf 41 = .ok (.iload_n 3, 1) := by decide +kernel
theorem dX0_strainAheadOf_42 : decode cX0_strainAheadOf 42 = .ok (.aload 5, 2) := by decide +kernel
theorem dX0_strainAheadOf_44 : decode cX0_strainAheadOf 44 = .ok (.invokevirtual 50, 3) := by decide +kernel
theorem dX0_strainAheadOf_47 : decode cX0_strainAheadOf 47 = .ok (.iadd, 1) := by decide +kernel
theorem dX0_strainAheadOf_48 : decode cX0_strainAheadOf 48 = .ok (.istore_n 3, 1) := by decide +kernel
theorem dX0_strainAheadOf_49 : decode cX0_strainAheadOf 49 = .ok (.iinc 4 1, 3) := by decide +kernel
theorem dX0_strainAheadOf_52 : decode cX0_strainAheadOf 52 = .ok (.goto (-47), 3) := by decide +kernel
theorem dX0_strainAheadOf_55 : decode cX0_strainAheadOf 55 = .ok (.iload_n 3, 1) := by decide +kernel
theorem dX0_strainAheadOf_56 : decode cX0_strainAheadOf 56 = .ok (.ireturn, 1) := by decide +kernel
theorem dX1_init_0 : decode cX1_init 0 = .ok (.aload_n 0, 1) := by decide +kernel
theorem dX1_init_1 : decode cX1_init 1 = .ok (.invokespecial 3, 3) := by decide +kernel
theorem dX1_init_4 : decode cX1_init 4 = .ok (.aload_n 0, 1) := by decide +kernel
theorem dX1_init_5 : decode cX1_init 5 = .ok (.bipush 8, 2) := by decide +kernel
theorem dX1_init_7 : decode cX1_init 7 = .ok (.anewarray 9, 3) := by decide +kernel
theorem dX1_init_10 : decode cX1_init 10 = .ok (.putfield 11, 3) := by decide +kernel
theorem dX1_init_13 : decode cX1_init 13 = .ok (.aload_n 0, 1) := by decide +kernel
theorem dX1_init_14 : decode cX1_init 14 = .ok (.iconst 0, 1) := by decide +kernel
theorem dX1_init_15 : decode cX1_init 15 = .ok (.putfield 17, 3) := by decide +kernel
theorem dX1_init_18 : decode cX1_init 18 = .ok (.aload_n 0, 1) := by decide +kernel
theorem dX1_init_19 : decode cX1_init 19 = .ok (.iconst 0, 1) := by decide +kernel
theorem dX1_init_20 : decode cX1_init 20 = .ok (.putfield 21, 3) := by decide +kernel
theorem dX1_init_23 : decode cX1_init 23 = .ok (.iconst 0, 1) := by decide +kernel
theorem dX1_init_24 : decode cX1_init 24 = .ok (.istore_n 1, 1) := by decide +kernel
theorem dX1_init_25 : decode cX1_init 25 = .ok (.iload_n 1, 1) := by decide +kernel
theorem dX1_init_26 : decode cX1_init 26 = .ok (.bipush 8, 2) := by decide +kernel
theorem dX1_init_28 : decode cX1_init 28 = .ok (.if_icmp .ge 22, 3) := by decide +kernel
theorem dX1_init_31 : decode cX1_init 31 = .ok (.aload_n 0, 1) := by decide +kernel
theorem dX1_init_32 : decode cX1_init 32 = .ok (.getfield 11, 3) := by decide +kernel
theorem dX1_init_35 : decode cX1_init 35 = .ok (.iload_n 1, 1) := by decide +kernel
theorem dX1_init_36 : decode cX1_init 36 = .ok (.new 9, 3) := by decide +kernel
theorem dX1_init_39 : decode cX1_init 39 = .ok (.dup, 1) := by decide +kernel
theorem dX1_init_40 : decode cX1_init 40 = .ok (.invokespecial 24, 3) := by decide +kernel
theorem dX1_init_43 : decode cX1_init 43 = .ok (.aastore, 1) := by decide +kernel
theorem dX1_init_44 : decode cX1_init 44 = .ok (.iinc 1 1, 3) := by decide +kernel
theorem dX1_init_47 : decode cX1_init 47 = .ok (.goto (-22), 3) := by decide +kernel
theorem dX1_init_50 : decode cX1_init 50 = .ok (.return_, 1) := by decide +kernel
theorem dX1_keep_0 : decode cX1_keep 0 = .ok (.aload_n 0, 1) := by decide +kernel
theorem dX1_keep_1 : decode cX1_keep 1 = .ok (.getfield 11, 3) := by decide +kernel
theorem dX1_keep_4 : decode cX1_keep 4 = .ok (.aload_n 0, 1) := by decide +kernel
theorem dX1_keep_5 : decode cX1_keep 5 = .ok (.getfield 17, 3) := by decide +kernel
theorem dX1_keep_8 : decode cX1_keep 8 = .ok (.aaload, 1) := by decide +kernel
theorem dX1_keep_9 : decode cX1_keep 9 = .ok (.aload_n 1, 1) := by decide +kernel
theorem dX1_keep_10 : decode cX1_keep 10 = .ok (.invokevirtual 25, 3) := by decide +kernel
theorem dX1_keep_13 : decode cX1_keep 13 = .ok (.aload_n 0, 1) := by decide +kernel
theorem dX1_keep_14 : decode cX1_keep 14 = .ok (.aload_n 0, 1) := by decide +kernel
theorem dX1_keep_15 : decode cX1_keep 15 = .ok (.getfield 17, 3) := by decide +kernel
theorem dX1_keep_18 : decode cX1_keep 18 = .ok (.iconst 1, 1) := by decide +kernel
theorem dX1_keep_19 : decode cX1_keep 19 = .ok (.iadd, 1) := by decide +kernel
theorem dX1_keep_20 : decode cX1_keep 20 = .ok (.bipush 8, 2) := by decide +kernel
theorem dX1_keep_22 : decode cX1_keep 22 = .ok (.irem, 1) := by decide +kernel
theorem dX1_keep_23 : decode cX1_keep 23 = .ok (.putfield 17, 3) := by decide +kernel
theorem dX1_keep_26 : decode cX1_keep 26 = .ok (.aload_n 0, 1) := by decide +kernel
theorem dX1_keep_27 : decode cX1_keep 27 = .ok (.aload_n 0, 1) := by decide +kernel
theorem dX1_keep_28 : decode cX1_keep 28 = .ok (.getfield 21, 3) := by decide +kernel
theorem dX1_keep_31 : decode cX1_keep 31 = .ok (.iconst 1, 1) := by decide +kernel
theorem dX1_keep_32 : decode cX1_keep 32 = .ok (.iadd, 1) := by decide +kernel
theorem dX1_keep_33 : decode cX1_keep 33 = .ok (.bipush 8, 2) := by decide +kernel
theorem dX1_keep_35 : decode cX1_keep 35 = .ok (.invokestatic 29, 3) := by decide +kernel
theorem dX1_keep_38 : decode cX1_keep 38 = .ok (.putfield 21, 3) := by decide +kernel
theorem dX1_keep_41 : decode cX1_keep 41 = .ok (.return_, 1) := by decide +kernel
theorem dX1_takeBack_0 : decode cX1_takeBack 0 = .ok (.aload_n 0, 1) := by decide +kernel
theorem dX1_takeBack_1 : decode cX1_takeBack 1 = .ok (.aload_n 0, 1) := by decide +kernel
theorem dX1_takeBack_2 : decode cX1_takeBack 2 = .ok (.getfield 17, 3) := by decide +kernel
theorem dX1_takeBack_5 : decode cX1_takeBack 5 = .ok (.bipush 8, 2) := by decide +kernel
theorem dX1_takeBack_7 : decode cX1_takeBack 7 = .ok (.iadd, 1) := by decide +kernel
theorem dX1_takeBack_8 : decode cX1_takeBack 8 = .ok (.iconst 1, 1) := by decide +kernel
theorem dX1_takeBack_9 : decode cX1_takeBack 9 = .ok (.isub, 1) := by decide +kernel
theorem dX1_takeBack_10 : decode cX1_takeBack 10 = .ok (.bipush 8, 2) := by decide +kernel
theorem dX1_takeBack_12 : decode cX1_takeBack 12 = .ok (.irem, 1) := by decide +kernel
theorem dX1_takeBack_13 : decode cX1_takeBack 13 = .ok (.putfield 17, 3) := by decide +kernel
theorem dX1_takeBack_16 : decode cX1_takeBack 16 = .ok (.aload_n 1, 1) := by decide +kernel
theorem dX1_takeBack_17 : decode cX1_takeBack 17 = .ok (.aload_n 0, 1) := by decide +kernel
theorem dX1_takeBack_18 : decode cX1_takeBack 18 = .ok (.getfield 11, 3) := by decide +kernel
theorem dX1_takeBack_21 : decode cX1_takeBack 21 = .ok (.aload_n 0, 1) := by decide +kernel
theorem dX1_takeBack_22 : decode cX1_takeBack 22 = .ok (.getfield 17, 3) := by decide +kernel
theorem dX1_takeBack_25 : decode cX1_takeBack 25 = .ok (.aaload, 1) := by decide +kernel
theorem dX1_takeBack_26 : decode cX1_takeBack 26 = .ok (.invokevirtual 25, 3) := by decide +kernel
theorem dX1_takeBack_29 : decode cX1_takeBack 29 = .ok (.aload_n 0, 1) := by decide +kernel
theorem dX1_takeBack_30 : decode cX1_takeBack 30 = .ok (.dup, 1) := by decide +kernel
theorem dX1_takeBack_31 : decode cX1_takeBack 31 = .ok (.getfield 21, 3) := by decide +kernel
theorem dX1_takeBack_34 : decode cX1_takeBack 34 = .ok (.iconst 1, 1) := by decide +kernel
theorem dX1_takeBack_35 : decode cX1_takeBack 35 = .ok (.isub, 1) := by decide +kernel
theorem dX1_takeBack_36 : decode cX1_takeBack 36 = .ok (.putfield 21, 3) := by decide +kernel
theorem dX1_takeBack_39 : decode cX1_takeBack 39 = .ok (.return_, 1) := by decide +kernel
theorem dX2_init_0 : decode cX2_init 0 = .ok (.aload_n 0, 1) := by decide +kernel
theorem dX2_init_1 : decode cX2_init 1 = .ok (.invokespecial 3, 3) := by decide +kernel
theorem dX2_init_4 : decode cX2_init 4 = .ok (.aload_n 0, 1) := by decide +kernel
theorem dX2_init_5 : decode cX2_init 5 = .ok (.ldc 9, 2) := by decide +kernel
theorem dX2_init_7 : decode cX2_init 7 = .ok (.putfield 10, 3) := by decide +kernel
theorem dX2_init_10 : decode cX2_init 10 = .ok (.aload_n 0, 1) := by decide +kernel
theorem dX2_init_11 : decode cX2_init 11 = .ok (.fconst 0, 1) := by decide +kernel
theorem dX2_init_12 : decode cX2_init 12 = .ok (.putfield 16, 3) := by decide +kernel
theorem dX2_init_15 : decode cX2_init 15 = .ok (.aload_n 0, 1) := by decide +kernel
theorem dX2_init_16 : decode cX2_init 16 = .ok (.iconst (-1), 1) := by decide +kernel
theorem dX2_init_17 : decode cX2_init 17 = .ok (.putfield 19, 3) := by decide +kernel
theorem dX2_init_20 : decode cX2_init 20 = .ok (.aload_n 0, 1) := by decide +kernel
theorem dX2_init_21 : decode cX2_init 21 = .ok (.iconst 0, 1) := by decide +kernel
theorem dX2_init_22 : decode cX2_init 22 = .ok (.putfield 23, 3) := by decide +kernel
theorem dX2_init_25 : decode cX2_init 25 = .ok (.aload_n 0, 1) := by decide +kernel
theorem dX2_init_26 : decode cX2_init 26 = .ok (.iconst 0, 1) := by decide +kernel
theorem dX2_init_27 : decode cX2_init 27 = .ok (.putfield 26, 3) := by decide +kernel
theorem dX2_init_30 : decode cX2_init 30 = .ok (.aload_n 0, 1) := by decide +kernel
theorem dX2_init_31 : decode cX2_init 31 = .ok (.iconst 0, 1) := by decide +kernel
theorem dX2_init_32 : decode cX2_init 32 = .ok (.putfield 29, 3) := by decide +kernel
theorem dX2_init_35 : decode cX2_init 35 = .ok (.return_, 1) := by decide +kernel
theorem dX2_copyFrom_0 : decode cX2_copyFrom 0 = .ok (.aload_n 0, 1) := by decide +kernel
theorem dX2_copyFrom_1 : decode cX2_copyFrom 1 = .ok (.aload_n 1, 1) := by decide +kernel
theorem dX2_copyFrom_2 : decode cX2_copyFrom 2 = .ok (.getfield 10, 3) := by decide +kernel
theorem dX2_copyFrom_5 : decode cX2_copyFrom 5 = .ok (.putfield 10, 3) := by decide +kernel
theorem dX2_copyFrom_8 : decode cX2_copyFrom 8 = .ok (.aload_n 0, 1) := by decide +kernel
theorem dX2_copyFrom_9 : decode cX2_copyFrom 9 = .ok (.aload_n 1, 1) := by decide +kernel
theorem dX2_copyFrom_10 : decode cX2_copyFrom 10 = .ok (.getfield 16, 3) := by decide +kernel
theorem dX2_copyFrom_13 : decode cX2_copyFrom 13 = .ok (.putfield 16, 3) := by decide +kernel
theorem dX2_copyFrom_16 : decode cX2_copyFrom 16 = .ok (.aload_n 0, 1) := by decide +kernel
theorem dX2_copyFrom_17 : decode cX2_copyFrom 17 = .ok (.aload_n 1, 1) := by decide +kernel
theorem dX2_copyFrom_18 : decode cX2_copyFrom 18 = .ok (.getfield 19, 3) := by decide +kernel
theorem dX2_copyFrom_21 : decode cX2_copyFrom 21 = .ok (.putfield 19, 3) := by decide +kernel
theorem dX2_copyFrom_24 : decode cX2_copyFrom 24 = .ok (.aload_n 0, 1) := by decide +kernel
theorem dX2_copyFrom_25 : decode cX2_copyFrom 25 = .ok (.aload_n 1, 1) := by decide +kernel
theorem dX2_copyFrom_26 : decode cX2_copyFrom 26 = .ok (.getfield 23, 3) := by decide +kernel
theorem dX2_copyFrom_29 : decode cX2_copyFrom 29 = .ok (.putfield 23, 3) := by decide +kernel
theorem dX2_copyFrom_32 : decode cX2_copyFrom 32 = .ok (.aload_n 0, 1) := by decide +kernel
theorem dX2_copyFrom_33 : decode cX2_copyFrom 33 = .ok (.aload_n 1, 1) := by decide +kernel
theorem dX2_copyFrom_34 : decode cX2_copyFrom 34 = .ok (.getfield 26, 3) := by decide +kernel
theorem dX2_copyFrom_37 : decode cX2_copyFrom 37 = .ok (.putfield 26, 3) := by decide +kernel
theorem dX2_copyFrom_40 : decode cX2_copyFrom 40 = .ok (.aload_n 0, 1) := by decide +kernel
theorem dX2_copyFrom_41 : decode cX2_copyFrom 41 = .ok (.aload_n 1, 1) := by decide +kernel
theorem dX2_copyFrom_42 : decode cX2_copyFrom 42 = .ok (.getfield 29, 3) := by decide +kernel
theorem dX2_copyFrom_45 : decode cX2_copyFrom 45 = .ok (.putfield 29, 3) := by decide +kernel
theorem dX2_copyFrom_48 : decode cX2_copyFrom 48 = .ok (.return_, 1) := by decide +kernel
theorem dX2_carry_0 : decode cX2_carry 0 = .ok (.aload_n 0, 1) := by decide +kernel
theorem dX2_carry_1 : decode cX2_carry 1 = .ok (.dup, 1) := by decide +kernel
theorem dX2_carry_2 : decode cX2_carry 2 = .ok (.getfield 29, 3) := by decide +kernel
theorem dX2_carry_5 : decode cX2_carry 5 = .ok (.iconst 1, 1) := by decide +kernel
theorem dX2_carry_6 : decode cX2_carry 6 = .ok (.iadd, 1) := by decide +kernel
theorem dX2_carry_7 : decode cX2_carry 7 = .ok (.putfield 29, 3) := by decide +kernel
theorem dX2_carry_10 : decode cX2_carry 10 = .ok (.aload_n 0, 1) := by decide +kernel
theorem dX2_carry_11 : decode cX2_carry 11 = .ok (.dup, 1) := by decide +kernel
theorem dX2_carry_12 : decode cX2_carry 12 = .ok (.getfield 26, 3) := by decide +kernel
theorem dX2_carry_15 : decode cX2_carry 15 = .ok (.aload_n 1, 1) := by decide +kernel
theorem dX2_carry_16 : decode cX2_carry 16 = .ok (.invokevirtual 32, 3) := by decide +kernel
theorem dX2_carry_19 : decode cX2_carry 19 = .ok (.iadd, 1) := by decide +kernel
theorem dX2_carry_20 : decode cX2_carry 20 = .ok (.putfield 26, 3) := by decide +kernel
theorem dX2_carry_23 : decode cX2_carry 23 = .ok (.aload_n 0, 1) := by decide +kernel
theorem dX2_carry_24 : decode cX2_carry 24 = .ok (.getfield 26, 3) := by decide +kernel
theorem dX2_carry_27 : decode cX2_carry 27 = .ok (.bipush 20, 2) := by decide +kernel
theorem dX2_carry_29 : decode cX2_carry 29 = .ok (.if_icmp .lt 28, 3) := by decide +kernel
theorem dX2_carry_32 : decode cX2_carry 32 = .ok (.aload_n 0, 1) := by decide +kernel
theorem dX2_carry_33 : decode cX2_carry 33 = .ok (.dup, 1) := by decide +kernel
theorem dX2_carry_34 : decode cX2_carry 34 = .ok (.getfield 26, 3) := by decide +kernel
theorem dX2_carry_37 : decode cX2_carry 37 = .ok (.bipush 20, 2) := by decide +kernel
theorem dX2_carry_39 : decode cX2_carry 39 = .ok (.isub, 1) := by decide +kernel
theorem dX2_carry_40 : decode cX2_carry 40 = .ok (.putfield 26, 3) := by decide +kernel
theorem dX2_carry_43 : decode cX2_carry 43 = .ok (.aload_n 0, 1) := by decide +kernel
theorem dX2_carry_44 : decode cX2_carry 44 = .ok (.aload_n 0, 1) := by decide +kernel
theorem dX2_carry_45 : decode cX2_carry 45 = .ok (.getfield 23, 3) := by decide +kernel
theorem dX2_carry_48 : decode cX2_carry 48 = .ok (.iconst 1, 1) := by decide +kernel
theorem dX2_carry_49 : decode cX2_carry 49 = .ok (.iadd, 1) := by decide +kernel
theorem dX2_carry_50 : decode cX2_carry 50 = .ok (.iconst 5, 1) := by decide +kernel
theorem dX2_carry_51 : decode cX2_carry 51 = .ok (.invokestatic 38, 3) := by decide +kernel
theorem dX2_carry_54 : decode cX2_carry 54 = .ok (.putfield 23, 3) := by decide +kernel
theorem dX2_carry_57 : decode cX2_carry 57 = .ok (.return_, 1) := by decide +kernel
theorem dX2_cracksAfter_0 : decode cX2_cracksAfter 0 = .ok (.aload_n 0, 1) := by decide +kernel
theorem dX2_cracksAfter_1 : decode cX2_cracksAfter 1 = .ok (.getfield 23, 3) := by decide +kernel
theorem dX2_cracksAfter_4 : decode cX2_cracksAfter 4 = .ok (.aload_n 0, 1) := by decide +kernel
theorem dX2_cracksAfter_5 : decode cX2_cracksAfter 5 = .ok (.getfield 26, 3) := by decide +kernel
theorem dX2_cracksAfter_8 : decode cX2_cracksAfter 8 = .ok (.iload_n 1, 1) := by decide +kernel
theorem dX2_cracksAfter_9 : decode cX2_cracksAfter 9 = .ok (.iadd, 1) := by decide +kernel
theorem dX2_cracksAfter_10 : decode cX2_cracksAfter 10 = .ok (.bipush 20, 2) := by decide +kernel
theorem dX2_cracksAfter_12 : decode cX2_cracksAfter 12 = .ok (.idiv, 1) := by decide +kernel
theorem dX2_cracksAfter_13 : decode cX2_cracksAfter 13 = .ok (.iadd, 1) := by decide +kernel
theorem dX2_cracksAfter_14 : decode cX2_cracksAfter 14 = .ok (.iconst 5, 1) := by decide +kernel
theorem dX2_cracksAfter_15 : decode cX2_cracksAfter 15 = .ok (.invokestatic 38, 3) := by decide +kernel
theorem dX2_cracksAfter_18 : decode cX2_cracksAfter 18 = .ok (.ireturn, 1) := by decide +kernel
theorem dX2_liveThroughDay_0 : decode cX2_liveThroughDay 0 = .ok (.aload_n 0, 1) := by decide +kernel
theorem dX2_liveThroughDay_1 : decode cX2_liveThroughDay 1 = .ok (.aload_n 0, 1) := by decide +kernel
theorem dX2_liveThroughDay_2 : decode cX2_liveThroughDay 2 = .ok (.getfield 10, 3) := by decide +kernel
theorem dX2_liveThroughDay_5 : decode cX2_liveThroughDay 5 = .ok (.iload_n 1, 1) := by decide +kernel
theorem dX2_liveThroughDay_6 : decode cX2_liveThroughDay 6 = .ok (.invokestatic 44, 3) := by decide +kernel
theorem dX2_liveThroughDay_9 : decode cX2_liveThroughDay 9 = .ok (.putfield 10, 3) := by decide +kernel
theorem dX2_liveThroughDay_12 : decode cX2_liveThroughDay 12 = .ok (.iload_n 1, 1) := by decide +kernel
theorem dX2_liveThroughDay_13 : decode cX2_liveThroughDay 13 = .ok (.bipush (-20), 2) := by decide +kernel
theorem dX2_liveThroughDay_15 : decode cX2_liveThroughDay 15 = .ok (.if_icmp .ge 17, 3) := by decide +kernel
theorem dX2_liveThroughDay_18 : decode cX2_liveThroughDay 18 = .ok (.aload_n 0, 1) := by decide +kernel
theorem dX2_liveThroughDay_19 : decode cX2_liveThroughDay 19 = .ok (.aload_n 0, 1) := by decide +kernel
theorem dX2_liveThroughDay_20 : decode cX2_liveThroughDay 20 = .ok (.getfield 23, 3) := by decide +kernel
theorem dX2_liveThroughDay_23 : decode cX2_liveThroughDay 23 = .ok (.iconst 1, 1) := by decide +kernel
theorem dX2_liveThroughDay_24 : decode cX2_liveThroughDay 24 = .ok (.isub, 1) := by decide +kernel
theorem dX2_liveThroughDay_25 : decode cX2_liveThroughDay 25 = .ok (.iconst 0, 1) := by decide +kernel
theorem dX2_liveThroughDay_26 : decode cX2_liveThroughDay 26 = .ok (.invokestatic 48, 3) := by decide +kernel
theorem dX2_liveThroughDay_29 : decode cX2_liveThroughDay 29 = .ok (.putfield 23, 3) := by decide +kernel
theorem dX2_liveThroughDay_32 : decode cX2_liveThroughDay 32 = .ok (.return_, 1) := by decide +kernel
theorem dX3_init_0 : decode cX3_init 0 = .ok (.aload_n 0, 1) := by decide +kernel
theorem dX3_init_1 : decode cX3_init 1 = .ok (.invokespecial 3, 3) := by decide +kernel
theorem dX3_init_4 : decode cX3_init 4 = .ok (.aload_n 0, 1) := by decide +kernel
theorem dX3_init_5 : decode cX3_init 5 = .ok (.bipush 60, 2) := by decide +kernel
theorem dX3_init_7 : decode cX3_init 7 = .ok (.newarray .char, 2) := by decide +kernel
theorem dX3_init_9 : decode cX3_init 9 = .ok (.putfield 9, 3) := by decide +kernel
theorem dX3_init_12 : decode cX3_init 12 = .ok (.aload_n 0, 1) := by decide +kernel
theorem dX3_init_13 : decode cX3_init 13 = .ok (.iconst 0, 1) := by decide +kernel
theorem dX3_init_14 : decode cX3_init 14 = .ok (.putfield 15, 3) := by decide +kernel
theorem dX3_init_17 : decode cX3_init 17 = .ok (.aload_n 0, 1) := by decide +kernel
theorem dX3_init_18 : decode cX3_init 18 = .ok (.iconst 0, 1) := by decide +kernel
theorem dX3_init_19 : decode cX3_init 19 = .ok (.putfield 19, 3) := by decide +kernel
theorem dX3_init_22 : decode cX3_init 22 = .ok (.aload_n 0, 1) := by decide +kernel
theorem dX3_init_23 : decode cX3_init 23 = .ok (.iconst 0, 1) := by decide +kernel
theorem dX3_init_24 : decode cX3_init 24 = .ok (.putfield 22, 3) := by decide +kernel
theorem dX3_init_27 : decode cX3_init 27 = .ok (.aload_n 0, 1) := by decide +kernel
theorem dX3_init_28 : decode cX3_init 28 = .ok (.bipush 20, 2) := by decide +kernel
theorem dX3_init_30 : decode cX3_init 30 = .ok (.newarray .int, 2) := by decide +kernel
theorem dX3_init_32 : decode cX3_init 32 = .ok (.putfield 25, 3) := by decide +kernel
theorem dX3_init_35 : decode cX3_init 35 = .ok (.aload_n 0, 1) := by decide +kernel
theorem dX3_init_36 : decode cX3_init 36 = .ok (.bipush 20, 2) := by decide +kernel
theorem dX3_init_38 : decode cX3_init 38 = .ok (.newarray .int, 2) := by decide +kernel
theorem dX3_init_40 : decode cX3_init 40 = .ok (.putfield 29, 3) := by decide +kernel
theorem dX3_init_43 : decode cX3_init 43 = .ok (.aload_n 0, 1) := by decide +kernel
theorem dX3_init_44 : decode cX3_init 44 = .ok (.bipush 20, 2) := by decide +kernel
theorem dX3_init_46 : decode cX3_init 46 = .ok (.newarray .int, 2) := by decide +kernel
theorem dX3_init_48 : decode cX3_init 48 = .ok (.putfield 32, 3) := by decide +kernel
theorem dX3_init_51 : decode cX3_init 51 = .ok (.aload_n 0, 1) := by decide +kernel
theorem dX3_init_52 : decode cX3_init 52 = .ok (.bipush 20, 2) := by decide +kernel
theorem dX3_init_54 : decode cX3_init 54 = .ok (.newarray .int, 2) := by decide +kernel
theorem dX3_init_56 : decode cX3_init 56 = .ok (.putfield 35, 3) := by decide +kernel
theorem dX3_init_59 : decode cX3_init 59 = .ok (.return_, 1) := by decide +kernel
theorem dX3_parse_0 : decode cX3_parse 0 = .ok (.aload_n 0, 1) := by decide +kernel
theorem dX3_parse_1 : decode cX3_parse 1 = .ok (.iconst 0, 1) := by decide +kernel
theorem dX3_parse_2 : decode cX3_parse 2 = .ok (.putfield 19, 3) := by decide +kernel
theorem dX3_parse_5 : decode cX3_parse 5 = .ok (.aload_n 0, 1) := by decide +kernel
theorem dX3_parse_6 : decode cX3_parse 6 = .ok (.iconst 0, 1) := by decide +kernel
theorem dX3_parse_7 : decode cX3_parse 7 = .ok (.putfield 22, 3) := by decide +kernel
theorem dX3_parse_10 : decode cX3_parse 10 = .ok (.aload_n 0, 1) := by decide +kernel
theorem dX3_parse_11 : decode cX3_parse 11 = .ok (.getfield 22, 3) := by decide +kernel
theorem dX3_parse_14 : decode cX3_parse 14 = .ok (.bipush 20, 2) := by decide +kernel
theorem dX3_parse_16 : decode cX3_parse 16 = .ok (.if_icmp .ge 52, 3) := by decide +kernel
theorem dX3_parse_19 : decode cX3_parse 19 = .ok (.aload_n 0, 1) := by decide +kernel
theorem dX3_parse_20 : decode cX3_parse 20 = .ok (.invokevirtual 38, 3) := by decide +kernel
theorem dX3_parse_23 : decode cX3_parse 23 = .ok (.ifCond .ne 8, 3) := by decide +kernel
theorem dX3_parse_26 : decode cX3_parse 26 = .ok (.aload_n 0, 1) := by decide +kernel
theorem dX3_parse_27 : decode cX3_parse 27 = .ok (.getfield 19, 3) := by decide +kernel
theorem dX3_parse_30 : decode cX3_parse 30 = .ok (.ireturn, 1) := by decide +kernel
theorem dX3_parse_31 : decode cX3_parse 31 = .ok (.aload_n 0, 1) := by decide +kernel
theorem dX3_parse_32 : decode cX3_parse 32 = .ok (.dup, 1) := by decide +kernel
theorem dX3_parse_33 : decode cX3_parse 33 = .ok (.getfield 22, 3) := by decide +kernel
theorem dX3_parse_36 : decode cX3_parse 36 = .ok (.iconst 1, 1) := by decide +kernel
theorem dX3_parse_37 : decode cX3_parse 37 = .ok (.iadd, 1) := by decide +kernel
theorem dX3_parse_38 : decode cX3_parse 38 = .ok (.putfield 22, 3) := by decide +kernel
theorem dX3_parse_41 : decode cX3_parse 41 = .ok (.aload_n 0, 1) := by decide +kernel
theorem dX3_parse_42 : decode cX3_parse 42 = .ok (.getfield 19, 3) := by decide +kernel
theorem dX3_parse_45 : decode cX3_parse 45 = .ok (.aload_n 0, 1) := by decide +kernel
theorem dX3_parse_46 : decode cX3_parse 46 = .ok (.getfield 15, 3) := by decide +kernel
theorem dX3_parse_49 : decode cX3_parse 49 = .ok (.if_icmp .lt 5, 3) := by decide +kernel
theorem dX3_parse_52 : decode cX3_parse 52 = .ok (.iconst (-1), 1) := by decide +kernel
theorem dX3_parse_53 : decode cX3_parse 53 = .ok (.ireturn, 1) := by decide +kernel
theorem dX3_parse_54 : decode cX3_parse 54 = .ok (.aload_n 0, 1) := by decide +kernel
theorem dX3_parse_55 : decode cX3_parse 55 = .ok (.bipush 59, 2) := by decide +kernel
theorem dX3_parse_57 : decode cX3_parse 57 = .ok (.invokevirtual 42, 3) := by decide +kernel
theorem dX3_parse_60 : decode cX3_parse 60 = .ok (.ifCond .ne (-50), 3) := by decide +kernel
theorem dX3_parse_63 : decode cX3_parse 63 = .ok (.aload_n 0, 1) := by decide +kernel
theorem dX3_parse_64 : decode cX3_parse 64 = .ok (.getfield 19, 3) := by decide +kernel
theorem dX3_parse_67 : decode cX3_parse 67 = .ok (.ireturn, 1) := by decide +kernel
theorem dX3_parse_68 : decode cX3_parse 68 = .ok (.aload_n 0, 1) := by decide +kernel
theorem dX3_parse_69 : decode cX3_parse 69 = .ok (.getfield 19, 3) := by decide +kernel
theorem dX3_parse_72 : decode cX3_parse 72 = .ok (.ireturn, 1) := by decide +kernel
theorem dX3_parseOrder_0 : decode cX3_parseOrder 0 = .ok (.aload_n 0, 1) := by decide +kernel
theorem dX3_parseOrder_1 : decode cX3_parseOrder 1 = .ok (.getfield 19, 3) := by decide +kernel
theorem dX3_parseOrder_4 : decode cX3_parseOrder 4 = .ok (.aload_n 0, 1) := by decide +kernel
theorem dX3_parseOrder_5 : decode cX3_parseOrder 5 = .ok (.getfield 15, 3) := by decide +kernel
theorem dX3_parseOrder_8 : decode cX3_parseOrder 8 = .ok (.if_icmp .ge 15, 3) := by decide +kernel
theorem dX3_parseOrder_11 : decode cX3_parseOrder 11 = .ok (.aload_n 0, 1) := by decide +kernel
theorem dX3_parseOrder_12 : decode cX3_parseOrder 12 = .ok (.getfield 9, 3) := by decide +kernel
theorem dX3_parseOrder_15 : decode cX3_parseOrder 15 = .ok (.aload_n 0, 1) := by decide +kernel
theorem dX3_parseOrder_16 : decode cX3_parseOrder 16 = .ok (.getfield 19, 3) := by decide +kernel
theorem dX3_parseOrder_19 : decode cX3_parseOrder 19 = .ok (.caload, 1) := by decide +kernel
theorem dX3_parseOrder_20 : decode cX3_parseOrder 20 = .ok (.goto 5, 3) := by decide +kernel
theorem dX3_parseOrder_23 : decode cX3_parseOrder 23 = .ok (.bipush 32, 2) := by decide +kernel
theorem dX3_parseOrder_25 : decode cX3_parseOrder 25 = .ok (.istore_n 1, 1) := by decide +kernel
theorem dX3_parseOrder_26 : decode cX3_parseOrder 26 = .ok (.aload_n 0, 1) := by decide +kernel
theorem dX3_parseOrder_27 : decode cX3_parseOrder 27 = .ok (.getfield 25, 3) := by decide +kernel
theorem dX3_parseOrder_30 : decode cX3_parseOrder 30 = .ok (.aload_n 0, 1) := by decide +kernel
theorem dX3_parseOrder_31 : decode cX3_parseOrder 31 = .ok (.getfield 22, 3) := by decide +kernel
theorem dX3_parseOrder_34 : decode cX3_parseOrder 34 = .ok (.iload_n 1, 1) := by decide +kernel
theorem dX3_parseOrder_35 : decode cX3_parseOrder 35 = .ok (.iastore, 1) := by decide +kernel
theorem dX3_parseOrder_36 : decode cX3_parseOrder 36 = .ok (.iload_n 1, 1) := by decide +kernel
theorem dX3_parseOrder_37 : decode cX3_parseOrder 37 = .ok (.tableswitch 195 100 116 #[83, 195, 195, 195, 195, 195, 180, 195, 195, 195, 195, 195, 83, 195, 124, 124, 165], 83) := by decide +kernel
theorem dX3_parseOrder_120 : decode cX3_parseOrder 120 = .ok (.aload_n 0, 1) := by decide +kernel
theorem dX3_parseOrder_121 : decode cX3_parseOrder 121 = .ok (.dup, 1) := by decide +kernel
theorem dX3_parseOrder_122 : decode cX3_parseOrder 122 = .ok (.getfield 19, 3) := by decide +kernel
theorem dX3_parseOrder_125 : decode cX3_parseOrder 125 = .ok (.iconst 1, 1) := by decide +kernel
theorem dX3_parseOrder_126 : decode cX3_parseOrder 126 = .ok (.iadd, 1) := by decide +kernel
theorem dX3_parseOrder_127 : decode cX3_parseOrder 127 = .ok (.putfield 19, 3) := by decide +kernel
theorem dX3_parseOrder_130 : decode cX3_parseOrder 130 = .ok (.aload_n 0, 1) := by decide +kernel
theorem dX3_parseOrder_131 : decode cX3_parseOrder 131 = .ok (.getfield 29, 3) := by decide +kernel
theorem dX3_parseOrder_134 : decode cX3_parseOrder 134 = .ok (.aload_n 0, 1) := by decide +kernel
theorem dX3_parseOrder_135 : decode cX3_parseOrder 135 = .ok (.getfield 22, 3) := by decide +kernel
theorem dX3_parseOrder_138 : decode cX3_parseOrder 138 = .ok (.aload_n 0, 1) := by decide +kernel
theorem dX3_parseOrder_139 : decode cX3_parseOrder 139 = .ok (.invokevirtual 46, 3) := by decide +kernel
theorem dX3_parseOrder_142 : decode cX3_parseOrder 142 = .ok (.iastore, 1) := by decide +kernel
theorem dX3_parseOrder_143 : decode cX3_parseOrder 143 = .ok (.aload_n 0, 1) := by decide +kernel
theorem dX3_parseOrder_144 : decode cX3_parseOrder 144 = .ok (.getfield 29, 3) := by decide +kernel
theorem dX3_parseOrder_147 : decode cX3_parseOrder 147 = .ok (.aload_n 0, 1) := by decide +kernel
theorem dX3_parseOrder_148 : decode cX3_parseOrder 148 = .ok (.getfield 22, 3) := by decide +kernel
theorem dX3_parseOrder_151 : decode cX3_parseOrder 151 = .ok (.iaload, 1) := by decide +kernel
theorem dX3_parseOrder_152 : decode cX3_parseOrder 152 = .ok (.ifCond .lt 7, 3) := by decide +kernel
theorem dX3_parseOrder_155 : decode cX3_parseOrder 155 = .ok (.iconst 1, 1) := by decide +kernel
theorem dX3_parseOrder_156 : decode cX3_parseOrder 156 = .ok (.goto 4, 3) := by decide +kernel
theorem dX3_parseOrder_159 : decode cX3_parseOrder 159 = .ok (.iconst 0, 1) := by decide +kernel
theorem dX3_parseOrder_160 : decode cX3_parseOrder 160 = .ok (.ireturn, 1) := by decide +kernel
theorem dX3_parseOrder_161 : decode cX3_parseOrder 161 = .ok (.aload_n 0, 1) := by decide +kernel
theorem dX3_parseOrder_162 : decode cX3_parseOrder 162 = .ok (.dup, 1) := by decide +kernel
theorem dX3_parseOrder_163 : decode cX3_parseOrder 163 = .ok (.getfield 19, 3) := by decide +kernel
theorem dX3_parseOrder_166 : decode cX3_parseOrder 166 = .ok (.iconst 1, 1) := by decide +kernel
theorem dX3_parseOrder_167 : decode cX3_parseOrder 167 = .ok (.iadd, 1) := by decide +kernel
theorem dX3_parseOrder_168 : decode cX3_parseOrder 168 = .ok (.putfield 19, 3) := by decide +kernel
theorem dX3_parseOrder_171 : decode cX3_parseOrder 171 = .ok (.aload_n 0, 1) := by decide +kernel
theorem dX3_parseOrder_172 : decode cX3_parseOrder 172 = .ok (.getfield 29, 3) := by decide +kernel
theorem dX3_parseOrder_175 : decode cX3_parseOrder 175 = .ok (.aload_n 0, 1) := by decide +kernel
theorem dX3_parseOrder_176 : decode cX3_parseOrder 176 = .ok (.getfield 22, 3) := by decide +kernel
theorem dX3_parseOrder_179 : decode cX3_parseOrder 179 = .ok (.aload_n 0, 1) := by decide +kernel
theorem dX3_parseOrder_180 : decode cX3_parseOrder 180 = .ok (.invokevirtual 50, 3) := by decide +kernel
theorem dX3_parseOrder_183 : decode cX3_parseOrder 183 = .ok (.iastore, 1) := by decide +kernel
theorem dX3_parseOrder_184 : decode cX3_parseOrder 184 = .ok (.aload_n 0, 1) := by decide +kernel
theorem dX3_parseOrder_185 : decode cX3_parseOrder 185 = .ok (.getfield 29, 3) := by decide +kernel
theorem dX3_parseOrder_188 : decode cX3_parseOrder 188 = .ok (.aload_n 0, 1) := by decide +kernel
theorem dX3_parseOrder_189 : decode cX3_parseOrder 189 = .ok (.getfield 22, 3) := by decide +kernel
theorem dX3_parseOrder_192 : decode cX3_parseOrder 192 = .ok (.iaload, 1) := by decide +kernel
theorem dX3_parseOrder_193 : decode cX3_parseOrder 193 = .ok (.ifCond .lt 7, 3) := by decide +kernel
theorem dX3_parseOrder_196 : decode cX3_parseOrder 196 = .ok (.iconst 1, 1) := by decide +kernel
theorem dX3_parseOrder_197 : decode cX3_parseOrder 197 = .ok (.goto 4, 3) := by decide +kernel
theorem dX3_parseOrder_200 : decode cX3_parseOrder 200 = .ok (.iconst 0, 1) := by decide +kernel
theorem dX3_parseOrder_201 : decode cX3_parseOrder 201 = .ok (.ireturn, 1) := by decide +kernel
theorem dX3_parseOrder_202 : decode cX3_parseOrder 202 = .ok (.aload_n 0, 1) := by decide +kernel
theorem dX3_parseOrder_203 : decode cX3_parseOrder 203 = .ok (.dup, 1) := by decide +kernel
theorem dX3_parseOrder_204 : decode cX3_parseOrder 204 = .ok (.getfield 19, 3) := by decide +kernel
theorem dX3_parseOrder_207 : decode cX3_parseOrder 207 = .ok (.iconst 1, 1) := by decide +kernel
theorem dX3_parseOrder_208 : decode cX3_parseOrder 208 = .ok (.iadd, 1) := by decide +kernel
theorem dX3_parseOrder_209 : decode cX3_parseOrder 209 = .ok (.putfield 19, 3) := by decide +kernel
theorem dX3_parseOrder_212 : decode cX3_parseOrder 212 = .ok (.aload_n 0, 1) := by decide +kernel
theorem dX3_parseOrder_213 : decode cX3_parseOrder 213 = .ok (.invokevirtual 53, 3) := by decide +kernel
theorem dX3_parseOrder_216 : decode cX3_parseOrder 216 = .ok (.ireturn, 1) := by decide +kernel
theorem dX3_parseOrder_217 : decode cX3_parseOrder 217 = .ok (.aload_n 0, 1) := by decide +kernel
theorem dX3_parseOrder_218 : decode cX3_parseOrder 218 = .ok (.dup, 1) := by decide +kernel
theorem dX3_parseOrder_219 : decode cX3_parseOrder 219 = .ok (.getfield 19, 3) := by decide +kernel
theorem dX3_parseOrder_222 : decode cX3_parseOrder 222 = .ok (.iconst 1, 1) := by decide +kernel
theorem dX3_parseOrder_223 : decode cX3_parseOrder 223 = .ok (.iadd, 1) := by decide +kernel
theorem dX3_parseOrder_224 : decode cX3_parseOrder 224 = .ok (.putfield 19, 3) := by decide +kernel
theorem dX3_parseOrder_227 : decode cX3_parseOrder 227 = .ok (.aload_n 0, 1) := by decide +kernel
theorem dX3_parseOrder_228 : decode cX3_parseOrder 228 = .ok (.invokevirtual 56, 3) := by decide +kernel
theorem dX3_parseOrder_231 : decode cX3_parseOrder 231 = .ok (.ireturn, 1) := by decide +kernel
theorem dX3_parseOrder_232 : decode cX3_parseOrder 232 = .ok (.iconst 0, 1) := by decide +kernel
theorem dX3_parseOrder_233 : decode cX3_parseOrder 233 = .ok (.ireturn, 1) := by decide +kernel
theorem dX3_parseTemperature_0 : decode cX3_parseTemperature 0 = .ok (.aload_n 0, 1) := by decide +kernel
theorem dX3_parseTemperature_1 : decode cX3_parseTemperature 1 = .ok (.bipush 45, 2) := by decide +kernel
theorem dX3_parseTemperature_3 : decode cX3_parseTemperature 3 = .ok (.invokevirtual 42, 3) := by decide +kernel
theorem dX3_parseTemperature_6 : decode cX3_parseTemperature 6 = .ok (.istore_n 1, 1) := by decide +kernel
theorem dX3_parseTemperature_7 : decode cX3_parseTemperature 7 = .ok (.aload_n 0, 1) := by decide +kernel
theorem dX3_parseTemperature_8 : decode cX3_parseTemperature 8 = .ok (.invokevirtual 46, 3) := by decide +kernel
theorem dX3_parseTemperature_11 : decode cX3_parseTemperature 11 = .ok (.istore_n 2, 1) := by decide +kernel
theorem dX3_parseTemperature_12 : decode cX3_parseTemperature 12 = .ok (.aload_n 0, 1) := by decide +kernel
theorem dX3_parseTemperature_13 : decode cX3_parseTemperature 13 = .ok (.getfield 29, 3) := by decide +kernel
theorem dX3_parseTemperature_16 : decode cX3_parseTemperature 16 = .ok (.aload_n 0, 1) := by decide +kernel
theorem dX3_parseTemperature_17 : decode cX3_parseTemperature 17 = .ok (.getfield 22, 3) := by decide +kernel
theorem dX3_parseTemperature_20 : decode cX3_parseTemperature 20 = .ok (.iload_n 1, 1) := by decide +kernel
theorem dX3_parseTemperature_21 : decode cX3_parseTemperature 21 = .ok (.ifCond .eq 8, 3) := by decide +kernel
theorem dX3_parseTemperature_24 : decode cX3_parseTemperature 24 = .ok (.iload_n 2, 1) := by decide +kernel
theorem dX3_parseTemperature_25 : decode cX3_parseTemperature 25 = .ok (.ineg, 1) := by decide +kernel
theorem dX3_parseTemperature_26 : decode cX3_parseTemperature 26 = .ok (.goto 4, 3) := by decide +kernel
theorem dX3_parseTemperature_29 : decode cX3_parseTemperature 29 = .ok (.iload_n 2, 1) := by decide +kernel
theorem dX3_parseTemperature_30 : decode cX3_parseTemperature 30 = .ok (.iastore, 1) := by decide +kernel
theorem dX3_parseTemperature_31 : decode cX3_parseTemperature 31 = .ok (.iload_n 2, 1) := by decide +kernel
theorem dX3_parseTemperature_32 : decode cX3_parseTemperature 32 = .ok (.ifCond .lt 7, 3) := by decide +kernel
theorem dX3_parseTemperature_35 : decode cX3_parseTemperature 35 = .ok (.iconst 1, 1) := by decide +kernel
theorem dX3_parseTemperature_36 : decode cX3_parseTemperature 36 = .ok (.goto 4, 3) := by decide +kernel
theorem dX3_parseTemperature_39 : decode cX3_parseTemperature 39 = .ok (.iconst 0, 1) := by decide +kernel
theorem dX3_parseTemperature_40 : decode cX3_parseTemperature 40 = .ok (.ireturn, 1) := by decide +kernel
theorem dX3_parseJoin_0 : decode cX3_parseJoin 0 = .ok (.aload_n 0, 1) := by decide +kernel
theorem dX3_parseJoin_1 : decode cX3_parseJoin 1 = .ok (.getfield 29, 3) := by decide +kernel
theorem dX3_parseJoin_4 : decode cX3_parseJoin 4 = .ok (.aload_n 0, 1) := by decide +kernel
theorem dX3_parseJoin_5 : decode cX3_parseJoin 5 = .ok (.getfield 22, 3) := by decide +kernel
theorem dX3_parseJoin_8 : decode cX3_parseJoin 8 = .ok (.aload_n 0, 1) := by decide +kernel
theorem dX3_parseJoin_9 : decode cX3_parseJoin 9 = .ok (.invokevirtual 50, 3) := by decide +kernel
theorem dX3_parseJoin_12 : decode cX3_parseJoin 12 = .ok (.iastore, 1) := by decide +kernel
theorem dX3_parseJoin_13 : decode cX3_parseJoin 13 = .ok (.aload_n 0, 1) := by decide +kernel
theorem dX3_parseJoin_14 : decode cX3_parseJoin 14 = .ok (.getfield 29, 3) := by decide +kernel
theorem dX3_parseJoin_17 : decode cX3_parseJoin 17 = .ok (.aload_n 0, 1) := by decide +kernel
theorem dX3_parseJoin_18 : decode cX3_parseJoin 18 = .ok (.getfield 22, 3) := by decide +kernel
theorem dX3_parseJoin_21 : decode cX3_parseJoin 21 = .ok (.iaload, 1) := by decide +kernel
theorem dX3_parseJoin_22 : decode cX3_parseJoin 22 = .ok (.ifCond .lt 12, 3) := by decide +kernel
theorem dX3_parseJoin_25 : decode cX3_parseJoin 25 = .ok (.aload_n 0, 1) := by decide +kernel
theorem dX3_parseJoin_26 : decode cX3_parseJoin 26 = .ok (.bipush 58, 2) := by decide +kernel
theorem dX3_parseJoin_28 : decode cX3_parseJoin 28 = .ok (.invokevirtual 42, 3) := by decide +kernel
theorem dX3_parseJoin_31 : decode cX3_parseJoin 31 = .ok (.ifCond .ne 5, 3) := by decide +kernel
theorem dX3_parseJoin_34 : decode cX3_parseJoin 34 = .ok (.iconst 0, 1) := by decide +kernel
theorem dX3_parseJoin_35 : decode cX3_parseJoin 35 = .ok (.ireturn, 1) := by decide +kernel
theorem dX3_parseJoin_36 : decode cX3_parseJoin 36 = .ok (.aload_n 0, 1) := by decide +kernel
theorem dX3_parseJoin_37 : decode cX3_parseJoin 37 = .ok (.getfield 32, 3) := by decide +kernel
theorem dX3_parseJoin_40 : decode cX3_parseJoin 40 = .ok (.aload_n 0, 1) := by decide +kernel
theorem dX3_parseJoin_41 : decode cX3_parseJoin 41 = .ok (.getfield 22, 3) := by decide +kernel
theorem dX3_parseJoin_44 : decode cX3_parseJoin 44 = .ok (.aload_n 0, 1) := by decide +kernel
theorem dX3_parseJoin_45 : decode cX3_parseJoin 45 = .ok (.invokevirtual 50, 3) := by decide +kernel
theorem dX3_parseJoin_48 : decode cX3_parseJoin 48 = .ok (.iastore, 1) := by decide +kernel
theorem dX3_parseJoin_49 : decode cX3_parseJoin 49 = .ok (.aload_n 0, 1) := by decide +kernel
theorem dX3_parseJoin_50 : decode cX3_parseJoin 50 = .ok (.getfield 32, 3) := by decide +kernel
theorem dX3_parseJoin_53 : decode cX3_parseJoin 53 = .ok (.aload_n 0, 1) := by decide +kernel
theorem dX3_parseJoin_54 : decode cX3_parseJoin 54 = .ok (.getfield 22, 3) := by decide +kernel
theorem dX3_parseJoin_57 : decode cX3_parseJoin 57 = .ok (.iaload, 1) := by decide +kernel
theorem dX3_parseJoin_58 : decode cX3_parseJoin 58 = .ok (.ifCond .lt 12, 3) := by decide +kernel
theorem dX3_parseJoin_61 : decode cX3_parseJoin 61 = .ok (.aload_n 0, 1) := by decide +kernel
theorem dX3_parseJoin_62 : decode cX3_parseJoin 62 = .ok (.bipush 46, 2) := by decide +kernel
theorem dX3_parseJoin_64 : decode cX3_parseJoin 64 = .ok (.invokevirtual 42, 3) := by decide +kernel
theorem dX3_parseJoin_67 : decode cX3_parseJoin 67 = .ok (.ifCond .ne 5, 3) := by decide +kernel
theorem dX3_parseJoin_70 : decode cX3_parseJoin 70 = .ok (.iconst 0, 1) := by decide +kernel
theorem dX3_parseJoin_71 : decode cX3_parseJoin 71 = .ok (.ireturn, 1) := by decide +kernel
theorem dX3_parseJoin_72 : decode cX3_parseJoin 72 = .ok (.aload_n 0, 1) := by decide +kernel
theorem dX3_parseJoin_73 : decode cX3_parseJoin 73 = .ok (.getfield 35, 3) := by decide +kernel
theorem dX3_parseJoin_76 : decode cX3_parseJoin 76 = .ok (.aload_n 0, 1) := by decide +kernel
theorem dX3_parseJoin_77 : decode cX3_parseJoin 77 = .ok (.getfield 22, 3) := by decide +kernel
theorem dX3_parseJoin_80 : decode cX3_parseJoin 80 = .ok (.aload_n 0, 1) := by decide +kernel
theorem dX3_parseJoin_81 : decode cX3_parseJoin 81 = .ok (.invokevirtual 50, 3) := by decide +kernel
theorem dX3_parseJoin_84 : decode cX3_parseJoin 84 = .ok (.iastore, 1) := by decide +kernel
theorem dX3_parseJoin_85 : decode cX3_parseJoin 85 = .ok (.aload_n 0, 1) := by decide +kernel
theorem dX3_parseJoin_86 : decode cX3_parseJoin 86 = .ok (.getfield 35, 3) := by decide +kernel
theorem dX3_parseJoin_89 : decode cX3_parseJoin 89 = .ok (.aload_n 0, 1) := by decide +kernel
theorem dX3_parseJoin_90 : decode cX3_parseJoin 90 = .ok (.getfield 22, 3) := by decide +kernel
theorem dX3_parseJoin_93 : decode cX3_parseJoin 93 = .ok (.iaload, 1) := by decide +kernel
theorem dX3_parseJoin_94 : decode cX3_parseJoin 94 = .ok (.ifCond .lt 7, 3) := by decide +kernel
theorem dX3_parseJoin_97 : decode cX3_parseJoin 97 = .ok (.iconst 1, 1) := by decide +kernel
theorem dX3_parseJoin_98 : decode cX3_parseJoin 98 = .ok (.goto 4, 3) := by decide +kernel
theorem dX3_parseJoin_101 : decode cX3_parseJoin 101 = .ok (.iconst 0, 1) := by decide +kernel
theorem dX3_parseJoin_102 : decode cX3_parseJoin 102 = .ok (.ireturn, 1) := by decide +kernel
theorem dX3_skip_0 : decode cX3_skip 0 = .ok (.aload_n 0, 1) := by decide +kernel
theorem dX3_skip_1 : decode cX3_skip 1 = .ok (.getfield 19, 3) := by decide +kernel
theorem dX3_skip_4 : decode cX3_skip 4 = .ok (.aload_n 0, 1) := by decide +kernel
theorem dX3_skip_5 : decode cX3_skip 5 = .ok (.getfield 15, 3) := by decide +kernel
theorem dX3_skip_8 : decode cX3_skip 8 = .ok (.if_icmp .ge 16, 3) := by decide +kernel
theorem dX3_skip_11 : decode cX3_skip 11 = .ok (.aload_n 0, 1) := by decide +kernel
theorem dX3_skip_12 : decode cX3_skip 12 = .ok (.getfield 9, 3) := by decide +kernel
theorem dX3_skip_15 : decode cX3_skip 15 = .ok (.aload_n 0, 1) := by decide +kernel
theorem dX3_skip_16 : decode cX3_skip 16 = .ok (.getfield 19, 3) := by decide +kernel
theorem dX3_skip_19 : decode cX3_skip 19 = .ok (.caload, 1) := by decide +kernel
theorem dX3_skip_20 : decode cX3_skip 20 = .ok (.iload_n 1, 1) := by decide +kernel
theorem dX3_skip_21 : decode cX3_skip 21 = .ok (.if_icmp .eq 5, 3) := by decide +kernel
theorem dX3_skip_24 : decode cX3_skip 24 = .ok (.iconst 0, 1) := by decide +kernel
theorem dX3_skip_25 : decode cX3_skip 25 = .ok (.ireturn, 1) := by decide +kernel
theorem dX3_skip_26 : decode cX3_skip 26 = .ok (.aload_n 0, 1) := by decide +kernel
theorem dX3_skip_27 : decode cX3_skip 27 = .ok (.dup, 1) := by decide +kernel
theorem dX3_skip_28 : decode cX3_skip 28 = .ok (.getfield 19, 3) := by decide +kernel
theorem dX3_skip_31 : decode cX3_skip 31 = .ok (.iconst 1, 1) := by decide +kernel
theorem dX3_skip_32 : decode cX3_skip 32 = .ok (.iadd, 1) := by decide +kernel
theorem dX3_skip_33 : decode cX3_skip 33 = .ok (.putfield 19, 3) := by decide +kernel
theorem dX3_skip_36 : decode cX3_skip 36 = .ok (.iconst 1, 1) := by decide +kernel
theorem dX3_skip_37 : decode cX3_skip 37 = .ok (.ireturn, 1) := by decide +kernel
theorem dX3_parseNumber_0 : decode cX3_parseNumber 0 = .ok (.aload_n 0, 1) := by decide +kernel
theorem dX3_parseNumber_1 : decode cX3_parseNumber 1 = .ok (.invokevirtual 50, 3) := by decide +kernel
theorem dX3_parseNumber_4 : decode cX3_parseNumber 4 = .ok (.istore_n 1, 1) := by decide +kernel
theorem dX3_parseNumber_5 : decode cX3_parseNumber 5 = .ok (.iload_n 1, 1) := by decide +kernel
theorem dX3_parseNumber_6 : decode cX3_parseNumber 6 = .ok (.ifCond .ge 5, 3) := by decide +kernel
theorem dX3_parseNumber_9 : decode cX3_parseNumber 9 = .ok (.iconst (-1), 1) := by decide +kernel
theorem dX3_parseNumber_10 : decode cX3_parseNumber 10 = .ok (.ireturn, 1) := by decide +kernel
theorem dX3_parseNumber_11 : decode cX3_parseNumber 11 = .ok (.aload_n 0, 1) := by decide +kernel
theorem dX3_parseNumber_12 : decode cX3_parseNumber 12 = .ok (.invokevirtual 50, 3) := by decide +kernel
theorem dX3_parseNumber_15 : decode cX3_parseNumber 15 = .ok (.istore_n 2, 1) := by decide +kernel
theorem dX3_parseNumber_16 : decode cX3_parseNumber 16 = .ok (.iload_n 2, 1) := by decide +kernel
theorem dX3_parseNumber_17 : decode cX3_parseNumber 17 = .ok (.ifCond .ge 7, 3) := by decide +kernel
theorem dX3_parseNumber_20 : decode cX3_parseNumber 20 = .ok (.iload_n 1, 1) := by decide +kernel
theorem dX3_parseNumber_21 : decode cX3_parseNumber 21 = .ok (.goto 9, 3) := by decide +kernel
theorem dX3_parseNumber_24 : decode cX3_parseNumber 24 = .ok (.bipush 10, 2) := by decide +kernel
theorem dX3_parseNumber_26 : decode cX3_parseNumber 26 = .ok (.iload_n 1, 1) := by decide +kernel
theorem dX3_parseNumber_27 : decode cX3_parseNumber 27 = .ok (.imul, 1) := by decide +kernel
theorem dX3_parseNumber_28 : decode cX3_parseNumber 28 = .ok (.iload_n 2, 1) := by decide +kernel
theorem dX3_parseNumber_29 : decode cX3_parseNumber 29 = .ok (.iadd, 1) := by decide +kernel
theorem dX3_parseNumber_30 : decode cX3_parseNumber 30 = .ok (.ireturn, 1) := by decide +kernel
theorem dX3_parseDigit_0 : decode cX3_parseDigit 0 = .ok (.aload_n 0, 1) := by decide +kernel
theorem dX3_parseDigit_1 : decode cX3_parseDigit 1 = .ok (.getfield 19, 3) := by decide +kernel
theorem dX3_parseDigit_4 : decode cX3_parseDigit 4 = .ok (.aload_n 0, 1) := by decide +kernel
theorem dX3_parseDigit_5 : decode cX3_parseDigit 5 = .ok (.getfield 15, 3) := by decide +kernel
theorem dX3_parseDigit_8 : decode cX3_parseDigit 8 = .ok (.if_icmp .ge 31, 3) := by decide +kernel
theorem dX3_parseDigit_11 : decode cX3_parseDigit 11 = .ok (.aload_n 0, 1) := by decide +kernel
theorem dX3_parseDigit_12 : decode cX3_parseDigit 12 = .ok (.getfield 9, 3) := by decide +kernel
theorem dX3_parseDigit_15 : decode cX3_parseDigit 15 = .ok (.aload_n 0, 1) := by decide +kernel
theorem dX3_parseDigit_16 : decode cX3_parseDigit 16 = .ok (.getfield 19, 3) := by decide +kernel
theorem dX3_parseDigit_19 : decode cX3_parseDigit 19 = .ok (.caload, 1) := by decide +kernel
theorem dX3_parseDigit_20 : decode cX3_parseDigit 20 = .ok (.bipush 48, 2) := by decide +kernel
theorem dX3_parseDigit_22 : decode cX3_parseDigit 22 = .ok (.if_icmp .lt 17, 3) := by decide +kernel
theorem dX3_parseDigit_25 : decode cX3_parseDigit 25 = .ok (.aload_n 0, 1) := by decide +kernel
theorem dX3_parseDigit_26 : decode cX3_parseDigit 26 = .ok (.getfield 9, 3) := by decide +kernel
theorem dX3_parseDigit_29 : decode cX3_parseDigit 29 = .ok (.aload_n 0, 1) := by decide +kernel
theorem dX3_parseDigit_30 : decode cX3_parseDigit 30 = .ok (.getfield 19, 3) := by decide +kernel
theorem dX3_parseDigit_33 : decode cX3_parseDigit 33 = .ok (.caload, 1) := by decide +kernel
theorem dX3_parseDigit_34 : decode cX3_parseDigit 34 = .ok (.bipush 57, 2) := by decide +kernel
theorem dX3_parseDigit_36 : decode cX3_parseDigit 36 = .ok (.if_icmp .le 5, 3) := by decide +kernel
theorem dX3_parseDigit_39 : decode cX3_parseDigit 39 = .ok (.iconst (-1), 1) := by decide +kernel
theorem dX3_parseDigit_40 : decode cX3_parseDigit 40 = .ok (.ireturn, 1) := by decide +kernel
theorem dX3_parseDigit_41 : decode cX3_parseDigit 41 = .ok (.aload_n 0, 1) := by decide +kernel
theorem dX3_parseDigit_42 : decode cX3_parseDigit 42 = .ok (.getfield 9, 3) := by decide +kernel
theorem dX3_parseDigit_45 : decode cX3_parseDigit 45 = .ok (.aload_n 0, 1) := by decide +kernel
theorem dX3_parseDigit_46 : decode cX3_parseDigit 46 = .ok (.getfield 19, 3) := by decide +kernel
theorem dX3_parseDigit_49 : decode cX3_parseDigit 49 = .ok (.caload, 1) := by decide +kernel
theorem dX3_parseDigit_50 : decode cX3_parseDigit 50 = .ok (.bipush 48, 2) := by decide +kernel
theorem dX3_parseDigit_52 : decode cX3_parseDigit 52 = .ok (.isub, 1) := by decide +kernel
theorem dX3_parseDigit_53 : decode cX3_parseDigit 53 = .ok (.istore_n 1, 1) := by decide +kernel
theorem dX3_parseDigit_54 : decode cX3_parseDigit 54 = .ok (.aload_n 0, 1) := by decide +kernel
theorem dX3_parseDigit_55 : decode cX3_parseDigit 55 = .ok (.dup, 1) := by decide +kernel
theorem dX3_parseDigit_56 : decode cX3_parseDigit 56 = .ok (.getfield 19, 3) := by decide +kernel
theorem dX3_parseDigit_59 : decode cX3_parseDigit 59 = .ok (.iconst 1, 1) := by decide +kernel
theorem dX3_parseDigit_60 : decode cX3_parseDigit 60 = .ok (.iadd, 1) := by decide +kernel
theorem dX3_parseDigit_61 : decode cX3_parseDigit 61 = .ok (.putfield 19, 3) := by decide +kernel
theorem dX3_parseDigit_64 : decode cX3_parseDigit 64 = .ok (.iload_n 1, 1) := by decide +kernel
theorem dX3_parseDigit_65 : decode cX3_parseDigit 65 = .ok (.ireturn, 1) := by decide +kernel
theorem dX3_carryOut_0 : decode cX3_carryOut 0 = .ok (.aload_n 0, 1) := by decide +kernel
theorem dX3_carryOut_1 : decode cX3_carryOut 1 = .ok (.getfield 29, 3) := by decide +kernel
theorem dX3_carryOut_4 : decode cX3_carryOut 4 = .ok (.iload_n 1, 1) := by decide +kernel
theorem dX3_carryOut_5 : decode cX3_carryOut 5 = .ok (.iaload, 1) := by decide +kernel
theorem dX3_carryOut_6 : decode cX3_carryOut 6 = .ok (.istore_n 3, 1) := by decide +kernel
theorem dX3_carryOut_7 : decode cX3_carryOut 7 = .ok (.aload_n 0, 1) := by decide +kernel
theorem dX3_carryOut_8 : decode cX3_carryOut 8 = .ok (.getfield 25, 3) := by decide +kernel
theorem dX3_carryOut_11 : decode cX3_carryOut 11 = .ok (.iload_n 1, 1) := by decide +kernel
theorem dX3_carryOut_12 : decode cX3_carryOut 12 = .ok (.iaload, 1) := by decide +kernel
theorem dX3_carryOut_13 : decode cX3_carryOut 13 = .ok (.tableswitch 130 100 116 #[83, 130, 130, 130, 130, 130, 117, 130, 130, 130, 130, 130, 124, 130, 100, 89, 111], 83) := by decide +kernel
theorem dX3_carryOut_96 : decode cX3_carryOut 96 = .ok (.iload_n 3, 1) := by decide +kernel
theorem dX3_carryOut_97 : decode cX3_carryOut 97 = .ok (.aload_n 2, 1) := by decide +kernel
theorem dX3_carryOut_98 : decode cX3_carryOut 98 = .ok (.invokestatic 59, 3) := by decide +kernel
theorem dX3_carryOut_101 : decode cX3_carryOut 101 = .ok (.ireturn, 1) := by decide +kernel
theorem dX3_carryOut_102 : decode cX3_carryOut 102 = .ok (.iload_n 3, 1) := by decide +kernel
theorem dX3_carryOut_103 : decode cX3_carryOut 103 = .ok (.aload_n 2, 1) := by decide +kernel
theorem dX3_carryOut_104 : decode cX3_carryOut 104 = .ok (.iload_n 3, 1) := by decide +kernel
theorem dX3_carryOut_105 : decode cX3_carryOut 105 = .ok (.invokevirtual 63, 3) := by decide +kernel
theorem dX3_carryOut_108 : decode cX3_carryOut 108 = .ok (.aload_n 2, 1) := by decide +kernel
theorem dX3_carryOut_109 : decode cX3_carryOut 109 = .ok (.invokestatic 69, 3) := by decide +kernel
theorem dX3_carryOut_112 : decode cX3_carryOut 112 = .ok (.ireturn, 1) := by decide +kernel
theorem dX3_carryOut_113 : decode cX3_carryOut 113 = .ok (.iload_n 3, 1) := by decide +kernel
theorem dX3_carryOut_114 : decode cX3_carryOut 114 = .ok (.aload_n 2, 1) := by decide +kernel
theorem dX3_carryOut_115 : decode cX3_carryOut 115 = .ok (.iload_n 3, 1) := by decide +kernel
theorem dX3_carryOut_116 : decode cX3_carryOut 116 = .ok (.invokevirtual 73, 3) := by decide +kernel
theorem dX3_carryOut_119 : decode cX3_carryOut 119 = .ok (.aload_n 2, 1) := by decide +kernel
theorem dX3_carryOut_120 : decode cX3_carryOut 120 = .ok (.invokestatic 69, 3) := by decide +kernel
theorem dX3_carryOut_123 : decode cX3_carryOut 123 = .ok (.ireturn, 1) := by decide +kernel
theorem dX3_carryOut_124 : decode cX3_carryOut 124 = .ok (.iload_n 3, 1) := by decide +kernel
theorem dX3_carryOut_125 : decode cX3_carryOut 125 = .ok (.aload_n 2, 1) := by decide +kernel
theorem dX3_carryOut_126 : decode cX3_carryOut 126 = .ok (.invokestatic 76, 3) := by decide +kernel
theorem dX3_carryOut_129 : decode cX3_carryOut 129 = .ok (.ireturn, 1) := by decide +kernel
theorem dX3_carryOut_130 : decode cX3_carryOut 130 = .ok (.aload_n 0, 1) := by decide +kernel
theorem dX3_carryOut_131 : decode cX3_carryOut 131 = .ok (.iload_n 1, 1) := by decide +kernel
theorem dX3_carryOut_132 : decode cX3_carryOut 132 = .ok (.aload_n 2, 1) := by decide +kernel
theorem dX3_carryOut_133 : decode cX3_carryOut 133 = .ok (.invokevirtual 79, 3) := by decide +kernel
theorem dX3_carryOut_136 : decode cX3_carryOut 136 = .ok (.ireturn, 1) := by decide +kernel
theorem dX3_carryOut_137 : decode cX3_carryOut 137 = .ok (.iload_n 3, 1) := by decide +kernel
theorem dX3_carryOut_138 : decode cX3_carryOut 138 = .ok (.aload_n 2, 1) := by decide +kernel
theorem dX3_carryOut_139 : decode cX3_carryOut 139 = .ok (.invokestatic 82, 3) := by decide +kernel
theorem dX3_carryOut_142 : decode cX3_carryOut 142 = .ok (.ireturn, 1) := by decide +kernel
theorem dX3_carryOut_143 : decode cX3_carryOut 143 = .ok (.iconst (-1), 1) := by decide +kernel
theorem dX3_carryOut_144 : decode cX3_carryOut 144 = .ok (.ireturn, 1) := by decide +kernel
theorem dX3_carryOutDrill_0 : decode cX3_carryOutDrill 0 = .ok (.iload_n 0, 1) := by decide +kernel
theorem dX3_carryOutDrill_1 : decode cX3_carryOutDrill 1 = .ok (.invokestatic 85, 3) := by decide +kernel
theorem dX3_carryOutDrill_4 : decode cX3_carryOutDrill 4 = .ok (.ifCond .ne 5, 3) := by decide +kernel
theorem dX3_carryOutDrill_7 : decode cX3_carryOutDrill 7 = .ok (.iconst (-1), 1) := by decide +kernel
theorem dX3_carryOutDrill_8 : decode cX3_carryOutDrill 8 = .ok (.ireturn, 1) := by decide +kernel
theorem dX3_carryOutDrill_9 : decode cX3_carryOutDrill 9 = .ok (.aload_n 1, 1) := by decide +kernel
theorem dX3_carryOutDrill_10 : decode cX3_carryOutDrill 10 = .ok (.aload_n 1, 1) := by decide +kernel
theorem dX3_carryOutDrill_11 : decode cX3_carryOutDrill 11 = .ok (.getfield 89, 3) := by decide +kernel
theorem dX3_carryOutDrill_14 : decode cX3_carryOutDrill 14 = .ok (.iload_n 0, 1) := by decide +kernel
theorem dX3_carryOutDrill_15 : decode cX3_carryOutDrill 15 = .ok (.aaload, 1) := by decide +kernel
theorem dX3_carryOutDrill_16 : decode cX3_carryOutDrill 16 = .ok (.invokevirtual 93, 3) := by decide +kernel
theorem dX3_carryOutDrill_19 : decode cX3_carryOutDrill 19 = .ok (.iconst 0, 1) := by decide +kernel
theorem dX3_carryOutDrill_20 : decode cX3_carryOutDrill 20 = .ok (.ireturn, 1) := by decide +kernel
theorem dX3_carryOutMove_0 : decode cX3_carryOutMove 0 = .ok (.iload_n 1, 1) := by decide +kernel
theorem dX3_carryOutMove_1 : decode cX3_carryOutMove 1 = .ok (.ifCond .ne 13, 3) := by decide +kernel
theorem dX3_carryOutMove_4 : decode cX3_carryOutMove 4 = .ok (.aload_n 2, 1) := by decide +kernel
theorem dX3_carryOutMove_5 : decode cX3_carryOutMove 5 = .ok (.aload_n 2, 1) := by decide +kernel
theorem dX3_carryOutMove_6 : decode cX3_carryOutMove 6 = .ok (.getfield 97, 3) := by decide +kernel
theorem dX3_carryOutMove_9 : decode cX3_carryOutMove 9 = .ok (.iload_n 0, 1) := by decide +kernel
theorem dX3_carryOutMove_10 : decode cX3_carryOutMove 10 = .ok (.aaload, 1) := by decide +kernel
theorem dX3_carryOutMove_11 : decode cX3_carryOutMove 11 = .ok (.invokevirtual 101, 3) := by decide +kernel
theorem dX3_carryOutMove_14 : decode cX3_carryOutMove 14 = .ok (.iload_n 1, 1) := by decide +kernel
theorem dX3_carryOutMove_15 : decode cX3_carryOutMove 15 = .ok (.ireturn, 1) := by decide +kernel
theorem dX3_carryOutTemperature_0 : decode cX3_carryOutTemperature 0 = .ok (.iconst 0, 1) := by decide +kernel
theorem dX3_carryOutTemperature_1 : decode cX3_carryOutTemperature 1 = .ok (.iload_n 0, 1) := by decide +kernel
theorem dX3_carryOutTemperature_2 : decode cX3_carryOutTemperature 2 = .ok (.invokestatic 105, 3) := by decide +kernel
theorem dX3_carryOutTemperature_5 : decode cX3_carryOutTemperature 5 = .ok (.ifCond .ne 6, 3) := by decide +kernel
theorem dX3_carryOutTemperature_8 : decode cX3_carryOutTemperature 8 = .ok (.bipush (-3), 2) := by decide +kernel
theorem dX3_carryOutTemperature_10 : decode cX3_carryOutTemperature 10 = .ok (.ireturn, 1) := by decide +kernel
theorem dX3_carryOutTemperature_11 : decode cX3_carryOutTemperature 11 = .ok (.aload_n 1, 1) := by decide +kernel
theorem dX3_carryOutTemperature_12 : decode cX3_carryOutTemperature 12 = .ok (.getfield 109, 3) := by decide +kernel
theorem dX3_carryOutTemperature_15 : decode cX3_carryOutTemperature 15 = .ok (.iconst 0, 1) := by decide +kernel
theorem dX3_carryOutTemperature_16 : decode cX3_carryOutTemperature 16 = .ok (.iload_n 0, 1) := by decide +kernel
theorem dX3_carryOutTemperature_17 : decode cX3_carryOutTemperature 17 = .ok (.iastore, 1) := by decide +kernel
theorem dX3_carryOutTemperature_18 : decode cX3_carryOutTemperature 18 = .ok (.iconst 0, 1) := by decide +kernel
theorem dX3_carryOutTemperature_19 : decode cX3_carryOutTemperature 19 = .ok (.ireturn, 1) := by decide +kernel
theorem dX3_carryOutJoin_0 : decode cX3_carryOutJoin 0 = .ok (.aload_n 2, 1) := by decide +kernel
theorem dX3_carryOutJoin_1 : decode cX3_carryOutJoin 1 = .ok (.aload_n 0, 1) := by decide +kernel
theorem dX3_carryOutJoin_2 : decode cX3_carryOutJoin 2 = .ok (.getfield 29, 3) := by decide +kernel
theorem dX3_carryOutJoin_5 : decode cX3_carryOutJoin 5 = .ok (.iload_n 1, 1) := by decide +kernel
theorem dX3_carryOutJoin_6 : decode cX3_carryOutJoin 6 = .ok (.iaload, 1) := by decide +kernel
theorem dX3_carryOutJoin_7 : decode cX3_carryOutJoin 7 = .ok (.aload_n 0, 1) := by decide +kernel
theorem dX3_carryOutJoin_8 : decode cX3_carryOutJoin 8 = .ok (.getfield 32, 3) := by decide +kernel
theorem dX3_carryOutJoin_11 : decode cX3_carryOutJoin 11 = .ok (.iload_n 1, 1) := by decide +kernel
theorem dX3_carryOutJoin_12 : decode cX3_carryOutJoin 12 = .ok (.iaload, 1) := by decide +kernel
theorem dX3_carryOutJoin_13 : decode cX3_carryOutJoin 13 = .ok (.aload_n 0, 1) := by decide +kernel
theorem dX3_carryOutJoin_14 : decode cX3_carryOutJoin 14 = .ok (.getfield 35, 3) := by decide +kernel
theorem dX3_carryOutJoin_17 : decode cX3_carryOutJoin 17 = .ok (.iload_n 1, 1) := by decide +kernel
theorem dX3_carryOutJoin_18 : decode cX3_carryOutJoin 18 = .ok (.iaload, 1) := by decide +kernel
theorem dX3_carryOutJoin_19 : decode cX3_carryOutJoin 19 = .ok (.invokevirtual 112, 3) := by decide +kernel
theorem dX3_carryOutJoin_22 : decode cX3_carryOutJoin 22 = .ok (.istore_n 3, 1) := by decide +kernel
theorem dX3_carryOutJoin_23 : decode cX3_carryOutJoin 23 = .ok (.iload_n 3, 1) := by decide +kernel
theorem dX3_carryOutJoin_24 : decode cX3_carryOutJoin 24 = .ok (.ifCond .ne 33, 3) := by decide +kernel
theorem dX3_carryOutJoin_27 : decode cX3_carryOutJoin 27 = .ok (.aload_n 2, 1) := by decide +kernel
theorem dX3_carryOutJoin_28 : decode cX3_carryOutJoin 28 = .ok (.aload_n 2, 1) := by decide +kernel
theorem dX3_carryOutJoin_29 : decode cX3_carryOutJoin 29 = .ok (.getfield 97, 3) := by decide +kernel
theorem dX3_carryOutJoin_32 : decode cX3_carryOutJoin 32 = .ok (.aload_n 0, 1) := by decide +kernel
theorem dX3_carryOutJoin_33 : decode cX3_carryOutJoin 33 = .ok (.getfield 29, 3) := by decide +kernel
theorem dX3_carryOutJoin_36 : decode cX3_carryOutJoin 36 = .ok (.iload_n 1, 1) := by decide +kernel
theorem dX3_carryOutJoin_37 : decode cX3_carryOutJoin 37 = .ok (.iaload, 1) := by decide +kernel
theorem dX3_carryOutJoin_38 : decode cX3_carryOutJoin 38 = .ok (.aaload, 1) := by decide +kernel
theorem dX3_carryOutJoin_39 : decode cX3_carryOutJoin 39 = .ok (.aload_n 0, 1) := by decide +kernel
theorem dX3_carryOutJoin_40 : decode cX3_carryOutJoin 40 = .ok (.getfield 32, 3) := by decide +kernel
theorem dX3_carryOutJoin_43 : decode cX3_carryOutJoin 43 = .ok (.iload_n 1, 1) := by decide +kernel
theorem dX3_carryOutJoin_44 : decode cX3_carryOutJoin 44 = .ok (.iaload, 1) := by decide +kernel
theorem dX3_carryOutJoin_45 : decode cX3_carryOutJoin 45 = .ok (.iconst 5, 1) := by decide +kernel
theorem dX3_carryOutJoin_46 : decode cX3_carryOutJoin 46 = .ok (.imul, 1) := by decide +kernel
theorem dX3_carryOutJoin_47 : decode cX3_carryOutJoin 47 = .ok (.aload_n 0, 1) := by decide +kernel
theorem dX3_carryOutJoin_48 : decode cX3_carryOutJoin 48 = .ok (.getfield 35, 3) := by decide +kernel
theorem dX3_carryOutJoin_51 : decode cX3_carryOutJoin 51 = .ok (.iload_n 1, 1) := by decide +kernel
theorem dX3_carryOutJoin_52 : decode cX3_carryOutJoin 52 = .ok (.iaload, 1) := by decide +kernel
theorem dX3_carryOutJoin_53 : decode cX3_carryOutJoin 53 = .ok (.iadd, 1) := by decide +kernel
theorem dX3_carryOutJoin_54 : decode cX3_carryOutJoin 54 = .ok (.invokevirtual 116, 3) := by decide +kernel
theorem dX3_carryOutJoin_57 : decode cX3_carryOutJoin 57 = .ok (.iload_n 3, 1) := by decide +kernel
theorem dX3_carryOutJoin_58 : decode cX3_carryOutJoin 58 = .ok (.ireturn, 1) := by decide +kernel
theorem dX3_carryOutDays_0 : decode cX3_carryOutDays 0 = .ok (.iload_n 0, 1) := by decide +kernel
theorem dX3_carryOutDays_1 : decode cX3_carryOutDays 1 = .ok (.invokestatic 120, 3) := by decide +kernel
theorem dX3_carryOutDays_4 : decode cX3_carryOutDays 4 = .ok (.ifCond .ne 6, 3) := by decide +kernel
theorem dX3_carryOutDays_7 : decode cX3_carryOutDays 7 = .ok (.bipush (-3), 2) := by decide +kernel
theorem dX3_carryOutDays_9 : decode cX3_carryOutDays 9 = .ok (.ireturn, 1) := by decide +kernel
theorem dX3_carryOutDays_10 : decode cX3_carryOutDays 10 = .ok (.aload_n 1, 1) := by decide +kernel
theorem dX3_carryOutDays_11 : decode cX3_carryOutDays 11 = .ok (.iload_n 0, 1) := by decide +kernel
theorem dX3_carryOutDays_12 : decode cX3_carryOutDays 12 = .ok (.invokevirtual 123, 3) := by decide +kernel
theorem dX3_carryOutDays_15 : decode cX3_carryOutDays 15 = .ok (.iconst 0, 1) := by decide +kernel
theorem dX3_carryOutDays_16 : decode cX3_carryOutDays 16 = .ok (.ireturn, 1) := by decide +kernel
theorem dX4_init_0 : decode cX4_init 0 = .ok (.aload_n 0, 1) := by decide +kernel
theorem dX4_init_1 : decode cX4_init 1 = .ok (.invokespecial 3, 3) := by decide +kernel
theorem dX4_init_4 : decode cX4_init 4 = .ok (.aload_n 0, 1) := by decide +kernel
theorem dX4_init_5 : decode cX4_init 5 = .ok (.iconst 3, 1) := by decide +kernel
theorem dX4_init_6 : decode cX4_init 6 = .ok (.newarray .int, 2) := by decide +kernel
theorem dX4_init_8 : decode cX4_init 8 = .ok (.dup, 1) := by decide +kernel
theorem dX4_init_9 : decode cX4_init 9 = .ok (.iconst 0, 1) := by decide +kernel
theorem dX4_init_10 : decode cX4_init 10 = .ok (.bipush (-20), 2) := by decide +kernel
theorem dX4_init_12 : decode cX4_init 12 = .ok (.iastore, 1) := by decide +kernel
theorem dX4_init_13 : decode cX4_init 13 = .ok (.dup, 1) := by decide +kernel
theorem dX4_init_14 : decode cX4_init 14 = .ok (.iconst 1, 1) := by decide +kernel
theorem dX4_init_15 : decode cX4_init 15 = .ok (.bipush 100, 2) := by decide +kernel
theorem dX4_init_17 : decode cX4_init 17 = .ok (.iastore, 1) := by decide +kernel
theorem dX4_init_18 : decode cX4_init 18 = .ok (.dup, 1) := by decide +kernel
theorem dX4_init_19 : decode cX4_init 19 = .ok (.iconst 2, 1) := by decide +kernel
theorem dX4_init_20 : decode cX4_init 20 = .ok (.bipush 7, 2) := by decide +kernel
theorem dX4_init_22 : decode cX4_init 22 = .ok (.iastore, 1) := by decide +kernel
theorem dX4_init_23 : decode cX4_init 23 = .ok (.putfield 9, 3) := by decide +kernel
theorem dX4_init_26 : decode cX4_init 26 = .ok (.aload_n 0, 1) := by decide +kernel
theorem dX4_init_27 : decode cX4_init 27 = .ok (.iconst 0, 1) := by decide +kernel
theorem dX4_init_28 : decode cX4_init 28 = .ok (.putfield 15, 3) := by decide +kernel
theorem dX4_init_31 : decode cX4_init 31 = .ok (.aload_n 0, 1) := by decide +kernel
theorem dX4_init_32 : decode cX4_init 32 = .ok (.bipush 12, 2) := by decide +kernel
theorem dX4_init_34 : decode cX4_init 34 = .ok (.anewarray 19, 3) := by decide +kernel
theorem dX4_init_37 : decode cX4_init 37 = .ok (.putfield 21, 3) := by decide +kernel
theorem dX4_init_40 : decode cX4_init 40 = .ok (.aload_n 0, 1) := by decide +kernel
theorem dX4_init_41 : decode cX4_init 41 = .ok (.bipush 10, 2) := by decide +kernel
theorem dX4_init_43 : decode cX4_init 43 = .ok (.anewarray 25, 3) := by decide +kernel
theorem dX4_init_46 : decode cX4_init 46 = .ok (.putfield 27, 3) := by decide +kernel
theorem dX4_init_49 : decode cX4_init 49 = .ok (.aload_n 0, 1) := by decide +kernel
theorem dX4_init_50 : decode cX4_init 50 = .ok (.iconst 4, 1) := by decide +kernel
theorem dX4_init_51 : decode cX4_init 51 = .ok (.anewarray 31, 3) := by decide +kernel
theorem dX4_init_54 : decode cX4_init 54 = .ok (.putfield 33, 3) := by decide +kernel
theorem dX4_init_57 : decode cX4_init 57 = .ok (.aload_n 0, 1) := by decide +kernel
theorem dX4_init_58 : decode cX4_init 58 = .ok (.iconst 0, 1) := by decide +kernel
theorem dX4_init_59 : decode cX4_init 59 = .ok (.putfield 37, 3) := by decide +kernel
theorem dX4_init_62 : decode cX4_init 62 = .ok (.aload_n 0, 1) := by decide +kernel
theorem dX4_init_63 : decode cX4_init 63 = .ok (.iconst 0, 1) := by decide +kernel
theorem dX4_init_64 : decode cX4_init 64 = .ok (.putfield 40, 3) := by decide +kernel
theorem dX4_init_67 : decode cX4_init 67 = .ok (.aload_n 0, 1) := by decide +kernel
theorem dX4_init_68 : decode cX4_init 68 = .ok (.iconst 0, 1) := by decide +kernel
theorem dX4_init_69 : decode cX4_init 69 = .ok (.putfield 43, 3) := by decide +kernel
theorem dX4_init_72 : decode cX4_init 72 = .ok (.aload_n 0, 1) := by decide +kernel
theorem dX4_init_73 : decode cX4_init 73 = .ok (.iconst 0, 1) := by decide +kernel
theorem dX4_init_74 : decode cX4_init 74 = .ok (.putfield 46, 3) := by decide +kernel
theorem dX4_init_77 : decode cX4_init 77 = .ok (.iconst 0, 1) := by decide +kernel
theorem dX4_init_78 : decode cX4_init 78 = .ok (.istore_n 1, 1) := by decide +kernel
theorem dX4_init_79 : decode cX4_init 79 = .ok (.iload_n 1, 1) := by decide +kernel
theorem dX4_init_80 : decode cX4_init 80 = .ok (.bipush 12, 2) := by decide +kernel
theorem dX4_init_82 : decode cX4_init 82 = .ok (.if_icmp .ge 22, 3) := by decide +kernel
theorem dX4_init_85 : decode cX4_init 85 = .ok (.aload_n 0, 1) := by decide +kernel
theorem dX4_init_86 : decode cX4_init 86 = .ok (.getfield 21, 3) := by decide +kernel
theorem dX4_init_89 : decode cX4_init 89 = .ok (.iload_n 1, 1) := by decide +kernel
theorem dX4_init_90 : decode cX4_init 90 = .ok (.new 19, 3) := by decide +kernel
theorem dX4_init_93 : decode cX4_init 93 = .ok (.dup, 1) := by decide +kernel
theorem dX4_init_94 : decode cX4_init 94 = .ok (.invokespecial 49, 3) := by decide +kernel
theorem dX4_init_97 : decode cX4_init 97 = .ok (.aastore, 1) := by decide +kernel
theorem dX4_init_98 : decode cX4_init 98 = .ok (.iinc 1 1, 3) := by decide +kernel
theorem dX4_init_101 : decode cX4_init 101 = .ok (.goto (-22), 3) := by decide +kernel
theorem dX4_init_104 : decode cX4_init 104 = .ok (.iconst 0, 1) := by decide +kernel
theorem dX4_init_105 : decode cX4_init 105 = .ok (.istore_n 1, 1) := by decide +kernel
theorem dX4_init_106 : decode cX4_init 106 = .ok (.iload_n 1, 1) := by decide +kernel
theorem dX4_init_107 : decode cX4_init 107 = .ok (.iconst 4, 1) := by decide +kernel
theorem dX4_init_108 : decode cX4_init 108 = .ok (.if_icmp .ge 22, 3) := by decide +kernel
theorem dX4_init_111 : decode cX4_init 111 = .ok (.aload_n 0, 1) := by decide +kernel
theorem dX4_init_112 : decode cX4_init 112 = .ok (.getfield 33, 3) := by decide +kernel
theorem dX4_init_115 : decode cX4_init 115 = .ok (.iload_n 1, 1) := by decide +kernel
theorem dX4_init_116 : decode cX4_init 116 = .ok (.new 31, 3) := by decide +kernel
theorem dX4_init_119 : decode cX4_init 119 = .ok (.dup, 1) := by decide +kernel
theorem dX4_init_120 : decode cX4_init 120 = .ok (.invokespecial 50, 3) := by decide +kernel
theorem dX4_init_123 : decode cX4_init 123 = .ok (.aastore, 1) := by decide +kernel
theorem dX4_init_124 : decode cX4_init 124 = .ok (.iinc 1 1, 3) := by decide +kernel
theorem dX4_init_127 : decode cX4_init 127 = .ok (.goto (-21), 3) := by decide +kernel
theorem dX4_init_130 : decode cX4_init 130 = .ok (.return_, 1) := by decide +kernel
theorem dX4_copyFrom_0 : decode cX4_copyFrom 0 = .ok (.iconst 0, 1) := by decide +kernel
theorem dX4_copyFrom_1 : decode cX4_copyFrom 1 = .ok (.istore_n 2, 1) := by decide +kernel
theorem dX4_copyFrom_2 : decode cX4_copyFrom 2 = .ok (.iload_n 2, 1) := by decide +kernel
theorem dX4_copyFrom_3 : decode cX4_copyFrom 3 = .ok (.aload_n 0, 1) := by decide +kernel
theorem dX4_copyFrom_4 : decode cX4_copyFrom 4 = .ok (.getfield 9, 3) := by decide +kernel
theorem dX4_copyFrom_7 : decode cX4_copyFrom 7 = .ok (.arraylength, 1) := by decide +kernel
theorem dX4_copyFrom_8 : decode cX4_copyFrom 8 = .ok (.if_icmp .ge 21, 3) := by decide +kernel
theorem dX4_copyFrom_11 : decode cX4_copyFrom 11 = .ok (.aload_n 0, 1) := by decide +kernel
theorem dX4_copyFrom_12 : decode cX4_copyFrom 12 = .ok (.getfield 9, 3) := by decide +kernel
theorem dX4_copyFrom_15 : decode cX4_copyFrom 15 = .ok (.iload_n 2, 1) := by decide +kernel
theorem dX4_copyFrom_16 : decode cX4_copyFrom 16 = .ok (.aload_n 1, 1) := by decide +kernel
theorem dX4_copyFrom_17 : decode cX4_copyFrom 17 = .ok (.getfield 9, 3) := by decide +kernel
theorem dX4_copyFrom_20 : decode cX4_copyFrom 20 = .ok (.iload_n 2, 1) := by decide +kernel
theorem dX4_copyFrom_21 : decode cX4_copyFrom 21 = .ok (.iaload, 1) := by decide +kernel
theorem dX4_copyFrom_22 : decode cX4_copyFrom 22 = .ok (.iastore, 1) := by decide +kernel
theorem dX4_copyFrom_23 : decode cX4_copyFrom 23 = .ok (.iinc 2 1, 3) := by decide +kernel
theorem dX4_copyFrom_26 : decode cX4_copyFrom 26 = .ok (.goto (-24), 3) := by decide +kernel
theorem dX4_copyFrom_29 : decode cX4_copyFrom 29 = .ok (.aload_n 0, 1) := by decide +kernel
theorem dX4_copyFrom_30 : decode cX4_copyFrom 30 = .ok (.aload_n 1, 1) := by decide +kernel
theorem dX4_copyFrom_31 : decode cX4_copyFrom 31 = .ok (.getfield 15, 3) := by decide +kernel
theorem dX4_copyFrom_34 : decode cX4_copyFrom 34 = .ok (.putfield 15, 3) := by decide +kernel
theorem dX4_copyFrom_37 : decode cX4_copyFrom 37 = .ok (.iconst 0, 1) := by decide +kernel
theorem dX4_copyFrom_38 : decode cX4_copyFrom 38 = .ok (.istore_n 2, 1) := by decide +kernel
theorem dX4_copyFrom_39 : decode cX4_copyFrom 39 = .ok (.iload_n 2, 1) := by decide +kernel
theorem dX4_copyFrom_40 : decode cX4_copyFrom 40 = .ok (.bipush 12, 2) := by decide +kernel
theorem dX4_copyFrom_42 : decode cX4_copyFrom 42 = .ok (.if_icmp .ge 24, 3) := by decide +kernel
theorem dX4_copyFrom_45 : decode cX4_copyFrom 45 = .ok (.aload_n 0, 1) := by decide +kernel
theorem dX4_copyFrom_46 : decode cX4_copyFrom 46 = .ok (.getfield 21, 3) := by decide +kernel
theorem dX4_copyFrom_49 : decode cX4_copyFrom 49 = .ok (.iload_n 2, 1) := by decide +kernel
theorem dX4_copyFrom_50 : decode cX4_copyFrom 50 = .ok (.aaload, 1) := by decide +kernel
theorem dX4_copyFrom_51 : decode cX4_copyFrom 51 = .ok (.aload_n 1, 1) := by decide +kernel
theorem dX4_copyFrom_52 : decode cX4_copyFrom 52 = .ok (.getfield 21, 3) := by decide +kernel
theorem dX4_copyFrom_55 : decode cX4_copyFrom 55 = .ok (.iload_n 2, 1) := by decide +kernel
theorem dX4_copyFrom_56 : decode cX4_copyFrom 56 = .ok (.aaload, 1) := by decide +kernel
theorem dX4_copyFrom_57 : decode cX4_copyFrom 57 = .ok (.invokevirtual 51, 3) := by decide +kernel
theorem dX4_copyFrom_60 : decode cX4_copyFrom 60 = .ok (.iinc 2 1, 3) := by decide +kernel
theorem dX4_copyFrom_63 : decode cX4_copyFrom 63 = .ok (.goto (-24), 3) := by decide +kernel
theorem dX4_copyFrom_66 : decode cX4_copyFrom 66 = .ok (.iconst 0, 1) := by decide +kernel
theorem dX4_copyFrom_67 : decode cX4_copyFrom 67 = .ok (.istore_n 2, 1) := by decide +kernel
theorem dX4_copyFrom_68 : decode cX4_copyFrom 68 = .ok (.iload_n 2, 1) := by decide +kernel
theorem dX4_copyFrom_69 : decode cX4_copyFrom 69 = .ok (.aload_n 0, 1) := by decide +kernel
theorem dX4_copyFrom_70 : decode cX4_copyFrom 70 = .ok (.getfield 27, 3) := by decide +kernel
theorem dX4_copyFrom_73 : decode cX4_copyFrom 73 = .ok (.arraylength, 1) := by decide +kernel
theorem dX4_copyFrom_74 : decode cX4_copyFrom 74 = .ok (.if_icmp .ge 21, 3) := by decide +kernel
theorem dX4_copyFrom_77 : decode cX4_copyFrom 77 = .ok (.aload_n 0, 1) := by decide +kernel
theorem dX4_copyFrom_78 : decode cX4_copyFrom 78 = .ok (.getfield 27, 3) := by decide +kernel
theorem dX4_copyFrom_81 : decode cX4_copyFrom 81 = .ok (.iload_n 2, 1) := by decide +kernel
theorem dX4_copyFrom_82 : decode cX4_copyFrom 82 = .ok (.aload_n 1, 1) := by decide +kernel
theorem dX4_copyFrom_83 : decode cX4_copyFrom 83 = .ok (.getfield 27, 3) := by decide +kernel
theorem dX4_copyFrom_86 : decode cX4_copyFrom 86 = .ok (.iload_n 2, 1) := by decide +kernel
theorem dX4_copyFrom_87 : decode cX4_copyFrom 87 = .ok (.aaload, 1) := by decide +kernel
theorem dX4_copyFrom_88 : decode cX4_copyFrom 88 = .ok (.aastore, 1) := by decide +kernel
theorem dX4_copyFrom_89 : decode cX4_copyFrom 89 = .ok (.iinc 2 1, 3) := by decide +kernel
theorem dX4_copyFrom_92 : decode cX4_copyFrom 92 = .ok (.goto (-24), 3) := by decide +kernel
theorem dX4_copyFrom_95 : decode cX4_copyFrom 95 = .ok (.iconst 0, 1) := by decide +kernel
theorem dX4_copyFrom_96 : decode cX4_copyFrom 96 = .ok (.istore_n 2, 1) := by decide +kernel
theorem dX4_copyFrom_97 : decode cX4_copyFrom 97 = .ok (.iload_n 2, 1) := by decide +kernel
theorem dX4_copyFrom_98 : decode cX4_copyFrom 98 = .ok (.iconst 4, 1) := by decide +kernel
theorem dX4_copyFrom_99 : decode cX4_copyFrom 99 = .ok (.if_icmp .ge 24, 3) := by decide +kernel
theorem dX4_copyFrom_102 : decode cX4_copyFrom 102 = .ok (.aload_n 0, 1) := by decide +kernel
theorem dX4_copyFrom_103 : decode cX4_copyFrom 103 = .ok (.getfield 33, 3) := by decide +kernel
theorem dX4_copyFrom_106 : decode cX4_copyFrom 106 = .ok (.iload_n 2, 1) := by decide +kernel
theorem dX4_copyFrom_107 : decode cX4_copyFrom 107 = .ok (.aaload, 1) := by decide +kernel
theorem dX4_copyFrom_108 : decode cX4_copyFrom 108 = .ok (.aload_n 1, 1) := by decide +kernel
theorem dX4_copyFrom_109 : decode cX4_copyFrom 109 = .ok (.getfield 33, 3) := by decide +kernel
theorem dX4_copyFrom_112 : decode cX4_copyFrom 112 = .ok (.iload_n 2, 1) := by decide +kernel
theorem dX4_copyFrom_113 : decode cX4_copyFrom 113 = .ok (.aaload, 1) := by decide +kernel
theorem dX4_copyFrom_114 : decode cX4_copyFrom 114 = .ok (.invokevirtual 55, 3) := by decide +kernel
theorem dX4_copyFrom_117 : decode cX4_copyFrom 117 = .ok (.iinc 2 1, 3) := by decide +kernel
theorem dX4_copyFrom_120 : decode cX4_copyFrom 120 = .ok (.goto (-23), 3) := by decide +kernel
theorem dX4_copyFrom_123 : decode cX4_copyFrom 123 = .ok (.aload_n 0, 1) := by decide +kernel
theorem dX4_copyFrom_124 : decode cX4_copyFrom 124 = .ok (.aload_n 1, 1) := by decide +kernel
theorem dX4_copyFrom_125 : decode cX4_copyFrom 125 = .ok (.getfield 37, 3) := by decide +kernel
theorem dX4_copyFrom_128 : decode cX4_copyFrom 128 = .ok (.putfield 37, 3) := by decide +kernel
theorem dX4_copyFrom_131 : decode cX4_copyFrom 131 = .ok (.aload_n 0, 1) := by decide +kernel
theorem dX4_copyFrom_132 : decode cX4_copyFrom 132 = .ok (.aload_n 1, 1) := by decide +kernel
theorem dX4_copyFrom_133 : decode cX4_copyFrom 133 = .ok (.getfield 40, 3) := by decide +kernel
theorem dX4_copyFrom_136 : decode cX4_copyFrom 136 = .ok (.putfield 40, 3) := by decide +kernel
theorem dX4_copyFrom_139 : decode cX4_copyFrom 139 = .ok (.aload_n 0, 1) := by decide +kernel
theorem dX4_copyFrom_140 : decode cX4_copyFrom 140 = .ok (.aload_n 1, 1) := by decide +kernel
theorem dX4_copyFrom_141 : decode cX4_copyFrom 141 = .ok (.getfield 43, 3) := by decide +kernel
theorem dX4_copyFrom_144 : decode cX4_copyFrom 144 = .ok (.putfield 43, 3) := by decide +kernel
theorem dX4_copyFrom_147 : decode cX4_copyFrom 147 = .ok (.aload_n 0, 1) := by decide +kernel
theorem dX4_copyFrom_148 : decode cX4_copyFrom 148 = .ok (.aload_n 1, 1) := by decide +kernel
theorem dX4_copyFrom_149 : decode cX4_copyFrom 149 = .ok (.getfield 46, 3) := by decide +kernel
theorem dX4_copyFrom_152 : decode cX4_copyFrom 152 = .ok (.putfield 46, 3) := by decide +kernel
theorem dX4_copyFrom_155 : decode cX4_copyFrom 155 = .ok (.return_, 1) := by decide +kernel
theorem dX4_isConvoy_0 : decode cX4_isConvoy 0 = .ok (.iload_n 1, 1) := by decide +kernel
theorem dX4_isConvoy_1 : decode cX4_isConvoy 1 = .ok (.ifCond .lt 20, 3) := by decide +kernel
theorem dX4_isConvoy_4 : decode cX4_isConvoy 4 = .ok (.iload_n 1, 1) := by decide +kernel
theorem dX4_isConvoy_5 : decode cX4_isConvoy 5 = .ok (.aload_n 0, 1) := by decide +kernel
theorem dX4_isConvoy_6 : decode cX4_isConvoy 6 = .ok (.getfield 37, 3) := by decide +kernel
theorem dX4_isConvoy_9 : decode cX4_isConvoy 9 = .ok (.if_icmp .ge 12, 3) := by decide +kernel
theorem dX4_isConvoy_12 : decode cX4_isConvoy 12 = .ok (.iload_n 1, 1) := by decide +kernel
theorem dX4_isConvoy_13 : decode cX4_isConvoy 13 = .ok (.iconst 4, 1) := by decide +kernel
theorem dX4_isConvoy_14 : decode cX4_isConvoy 14 = .ok (.if_icmp .ge 7, 3) := by decide +kernel
theorem dX4_isConvoy_17 : decode cX4_isConvoy 17 = .ok (.iconst 1, 1) := by decide +kernel
theorem dX4_isConvoy_18 : decode cX4_isConvoy 18 = .ok (.goto 4, 3) := by decide +kernel
theorem dX4_isConvoy_21 : decode cX4_isConvoy 21 = .ok (.iconst 0, 1) := by decide +kernel
theorem dX4_isConvoy_22 : decode cX4_isConvoy 22 = .ok (.ireturn, 1) := by decide +kernel
theorem dX4_truckIn_0 : decode cX4_truckIn 0 = .ok (.aload_n 0, 1) := by decide +kernel
theorem dX4_truckIn_1 : decode cX4_truckIn 1 = .ok (.iload_n 1, 1) := by decide +kernel
theorem dX4_truckIn_2 : decode cX4_truckIn 2 = .ok (.invokevirtual 58, 3) := by decide +kernel
theorem dX4_truckIn_5 : decode cX4_truckIn 5 = .ok (.ifCond .eq 12, 3) := by decide +kernel
theorem dX4_truckIn_8 : decode cX4_truckIn 8 = .ok (.iload_n 2, 1) := by decide +kernel
theorem dX4_truckIn_9 : decode cX4_truckIn 9 = .ok (.ifCond .lt 8, 3) := by decide +kernel
theorem dX4_truckIn_12 : decode cX4_truckIn 12 = .ok (.iload_n 2, 1) := by decide +kernel
theorem dX4_truckIn_13 : decode cX4_truckIn 13 = .ok (.iconst 4, 1) := by decide +kernel
theorem dX4_truckIn_14 : decode cX4_truckIn 14 = .ok (.if_icmp .lt 5, 3) := by decide +kernel
theorem dX4_truckIn_17 : decode cX4_truckIn 17 = .ok (.aconst_null, 1) := by decide +kernel
theorem dX4_truckIn_18 : decode cX4_truckIn 18 = .ok (.areturn, 1) := by decide +kernel
theorem dX4_truckIn_19 : decode cX4_truckIn 19 = .ok (.aload_n 0, 1) := by decide +kernel
theorem dX4_truckIn_20 : decode cX4_truckIn 20 = .ok (.getfield 33, 3) := by decide +kernel
theorem dX4_truckIn_23 : decode cX4_truckIn 23 = .ok (.iload_n 1, 1) := by decide +kernel
theorem dX4_truckIn_24 : decode cX4_truckIn 24 = .ok (.aaload, 1) := by decide +kernel
theorem dX4_truckIn_25 : decode cX4_truckIn 25 = .ok (.getfield 62, 3) := by decide +kernel
theorem dX4_truckIn_28 : decode cX4_truckIn 28 = .ok (.iload_n 2, 1) := by decide +kernel
theorem dX4_truckIn_29 : decode cX4_truckIn 29 = .ok (.aaload, 1) := by decide +kernel
theorem dX4_truckIn_30 : decode cX4_truckIn 30 = .ok (.areturn, 1) := by decide +kernel
theorem dX4_noteIce_0 : decode cX4_noteIce 0 = .ok (.aload_n 1, 1) := by decide +kernel
theorem dX4_noteIce_1 : decode cX4_noteIce 1 = .ok (.aload_n 1, 1) := by decide +kernel
theorem dX4_noteIce_2 : decode cX4_noteIce 2 = .ok (.getfield 65, 3) := by decide +kernel
theorem dX4_noteIce_5 : decode cX4_noteIce 5 = .ok (.putfield 69, 3) := by decide +kernel
theorem dX4_noteIce_8 : decode cX4_noteIce 8 = .ok (.aload_n 1, 1) := by decide +kernel
theorem dX4_noteIce_9 : decode cX4_noteIce 9 = .ok (.aload_n 0, 1) := by decide +kernel
theorem dX4_noteIce_10 : decode cX4_noteIce 10 = .ok (.getfield 15, 3) := by decide +kernel
theorem dX4_noteIce_13 : decode cX4_noteIce 13 = .ok (.putfield 72, 3) := by decide +kernel
theorem dX4_noteIce_16 : decode cX4_noteIce 16 = .ok (.aload_n 0, 1) := by decide +kernel
theorem dX4_noteIce_17 : decode cX4_noteIce 17 = .ok (.dup, 1) := by decide +kernel
theorem dX4_noteIce_18 : decode cX4_noteIce 18 = .ok (.getfield 40, 3) := by decide +kernel
theorem dX4_noteIce_21 : decode cX4_noteIce 21 = .ok (.iconst 1, 1) := by decide +kernel
theorem dX4_noteIce_22 : decode cX4_noteIce 22 = .ok (.iadd, 1) := by decide +kernel
theorem dX4_noteIce_23 : decode cX4_noteIce 23 = .ok (.putfield 40, 3) := by decide +kernel
theorem dX4_noteIce_26 : decode cX4_noteIce 26 = .ok (.return_, 1) := by decide +kernel
theorem dX4_isDrillGood_0 : decode cX4_isDrillGood 0 = .ok (.aload_n 1, 1) := by decide +kernel
theorem dX4_isDrillGood_1 : decode cX4_isDrillGood 1 = .ok (.getfield 72, 3) := by decide +kernel
theorem dX4_isDrillGood_4 : decode cX4_isDrillGood 4 = .ok (.ifCond .lt 25, 3) := by decide +kernel
theorem dX4_isDrillGood_7 : decode cX4_isDrillGood 7 = .ok (.aload_n 0, 1) := by decide +kernel
theorem dX4_isDrillGood_8 : decode cX4_isDrillGood 8 = .ok (.getfield 15, 3) := by decide +kernel
theorem dX4_isDrillGood_11 : decode cX4_isDrillGood 11 = .ok (.aload_n 1, 1) := by decide +kernel
theorem dX4_isDrillGood_12 : decode cX4_isDrillGood 12 = .ok (.getfield 72, 3) := by decide +kernel
theorem dX4_isDrillGood_15 : decode cX4_isDrillGood 15 = .ok (.isub, 1) := by decide +kernel
theorem dX4_isDrillGood_16 : decode cX4_isDrillGood 16 = .ok (.aload_n 0, 1) := by decide +kernel
theorem dX4_isDrillGood_17 : decode cX4_isDrillGood 17 = .ok (.getfield 9, 3) := by decide +kernel
theorem dX4_isDrillGood_20 : decode cX4_isDrillGood 20 = .ok (.iconst 2, 1) := by decide +kernel
theorem dX4_isDrillGood_21 : decode cX4_isDrillGood 21 = .ok (.iaload, 1) := by decide +kernel
theorem dX4_isDrillGood_22 : decode cX4_isDrillGood 22 = .ok (.if_icmp .gt 7, 3) := by decide +kernel
theorem dX4_isDrillGood_25 : decode cX4_isDrillGood 25 = .ok (.iconst 1, 1) := by decide +kernel
theorem dX4_isDrillGood_26 : decode cX4_isDrillGood 26 = .ok (.goto 4, 3) := by decide +kernel
theorem dX4_isDrillGood_29 : decode cX4_isDrillGood 29 = .ok (.iconst 0, 1) := by decide +kernel
theorem dX4_isDrillGood_30 : decode cX4_isDrillGood 30 = .ok (.ireturn, 1) := by decide +kernel
theorem dX4_borneByDrill_0 : decode cX4_borneByDrill 0 = .ok (.aload_n 0, 1) := by decide +kernel
theorem dX4_borneByDrill_1 : decode cX4_borneByDrill 1 = .ok (.aload_n 1, 1) := by decide +kernel
theorem dX4_borneByDrill_2 : decode cX4_borneByDrill 2 = .ok (.aload_n 1, 1) := by decide +kernel
theorem dX4_borneByDrill_3 : decode cX4_borneByDrill 3 = .ok (.getfield 75, 3) := by decide +kernel
theorem dX4_borneByDrill_6 : decode cX4_borneByDrill 6 = .ok (.invokevirtual 78, 3) := by decide +kernel
theorem dX4_borneByDrill_9 : decode cX4_borneByDrill 9 = .ok (.freturn, 1) := by decide +kernel
theorem dX4_borneWithCracks_0 : decode cX4_borneWithCracks 0 = .ok (.aload_n 0, 1) := by decide +kernel
theorem dX4_borneWithCracks_1 : decode cX4_borneWithCracks 1 = .ok (.aload_n 1, 1) := by decide +kernel
theorem dX4_borneWithCracks_2 : decode cX4_borneWithCracks 2 = .ok (.invokevirtual 82, 3) := by decide +kernel
theorem dX4_borneWithCracks_5 : decode cX4_borneWithCracks 5 = .ok (.ifCond .eq 20, 3) := by decide +kernel
theorem dX4_borneWithCracks_8 : decode cX4_borneWithCracks 8 = .ok (.aload_n 1, 1) := by decide +kernel
theorem dX4_borneWithCracks_9 : decode cX4_borneWithCracks 9 = .ok (.getfield 69, 3) := by decide +kernel
theorem dX4_borneWithCracks_12 : decode cX4_borneWithCracks 12 = .ok (.iload_n 2, 1) := by decide +kernel
theorem dX4_borneWithCracks_13 : decode cX4_borneWithCracks 13 = .ok (.aload_n 0, 1) := by decide +kernel
theorem dX4_borneWithCracks_14 : decode cX4_borneWithCracks 14 = .ok (.getfield 9, 3) := by decide +kernel
theorem dX4_borneWithCracks_17 : decode cX4_borneWithCracks 17 = .ok (.iconst 1, 1) := by decide +kernel
theorem dX4_borneWithCracks_18 : decode cX4_borneWithCracks 18 = .ok (.iaload, 1) := by decide +kernel
theorem dX4_borneWithCracks_19 : decode cX4_borneWithCracks 19 = .ok (.invokestatic 86, 3) := by decide +kernel
theorem dX4_borneWithCracks_22 : decode cX4_borneWithCracks 22 = .ok (.goto 4, 3) := by decide +kernel
theorem dX4_borneWithCracks_25 : decode cX4_borneWithCracks 25 = .ok (.fconst 0, 1) := by decide +kernel
theorem dX4_borneWithCracks_26 : decode cX4_borneWithCracks 26 = .ok (.freturn, 1) := by decide +kernel
theorem dX4_freePlace_0 : decode cX4_freePlace 0 = .ok (.iconst 0, 1) := by decide +kernel
theorem dX4_freePlace_1 : decode cX4_freePlace 1 = .ok (.istore_n 2, 1) := by decide +kernel
theorem dX4_freePlace_2 : decode cX4_freePlace 2 = .ok (.iload_n 2, 1) := by decide +kernel
theorem dX4_freePlace_3 : decode cX4_freePlace 3 = .ok (.iconst 5, 1) := by decide +kernel
theorem dX4_freePlace_4 : decode cX4_freePlace 4 = .ok (.if_icmp .ge 24, 3) := by decide +kernel
theorem dX4_freePlace_7 : decode cX4_freePlace 7 = .ok (.aload_n 0, 1) := by decide +kernel
theorem dX4_freePlace_8 : decode cX4_freePlace 8 = .ok (.getfield 27, 3) := by decide +kernel
theorem dX4_freePlace_11 : decode cX4_freePlace 11 = .ok (.iload_n 1, 1) := by decide +kernel
theorem dX4_freePlace_12 : decode cX4_freePlace 12 = .ok (.iconst 5, 1) := by decide +kernel
theorem dX4_freePlace_13 : decode cX4_freePlace 13 = .ok (.imul, 1) := by decide +kernel
theorem dX4_freePlace_14 : decode cX4_freePlace 14 = .ok (.iload_n 2, 1) := by decide +kernel
theorem dX4_freePlace_15 : decode cX4_freePlace 15 = .ok (.iadd, 1) := by decide +kernel
theorem dX4_freePlace_16 : decode cX4_freePlace 16 = .ok (.aaload, 1) := by decide +kernel
theorem dX4_freePlace_17 : decode cX4_freePlace 17 = .ok (.ifnonnull 5, 3) := by decide +kernel
theorem dX4_freePlace_20 : decode cX4_freePlace 20 = .ok (.iload_n 2, 1) := by decide +kernel
theorem dX4_freePlace_21 : decode cX4_freePlace 21 = .ok (.ireturn, 1) := by decide +kernel
theorem dX4_freePlace_22 : decode cX4_freePlace 22 = .ok (.iinc 2 1, 3) := by decide +kernel
theorem dX4_freePlace_25 : decode cX4_freePlace 25 = .ok (.goto (-23), 3) := by decide +kernel
theorem dX4_freePlace_28 : decode cX4_freePlace 28 = .ok (.iconst (-1), 1) := by decide +kernel
theorem dX4_freePlace_29 : decode cX4_freePlace 29 = .ok (.ireturn, 1) := by decide +kernel
theorem dX4_convoyAt_0 : decode cX4_convoyAt 0 = .ok (.iconst 0, 1) := by decide +kernel
theorem dX4_convoyAt_1 : decode cX4_convoyAt 1 = .ok (.istore_n 2, 1) := by decide +kernel
theorem dX4_convoyAt_2 : decode cX4_convoyAt 2 = .ok (.iload_n 2, 1) := by decide +kernel
theorem dX4_convoyAt_3 : decode cX4_convoyAt 3 = .ok (.aload_n 0, 1) := by decide +kernel
theorem dX4_convoyAt_4 : decode cX4_convoyAt 4 = .ok (.getfield 37, 3) := by decide +kernel
theorem dX4_convoyAt_7 : decode cX4_convoyAt 7 = .ok (.if_icmp .ge 24, 3) := by decide +kernel
theorem dX4_convoyAt_10 : decode cX4_convoyAt 10 = .ok (.aload_n 0, 1) := by decide +kernel
theorem dX4_convoyAt_11 : decode cX4_convoyAt 11 = .ok (.getfield 33, 3) := by decide +kernel
theorem dX4_convoyAt_14 : decode cX4_convoyAt 14 = .ok (.iload_n 2, 1) := by decide +kernel
theorem dX4_convoyAt_15 : decode cX4_convoyAt 15 = .ok (.aaload, 1) := by decide +kernel
theorem dX4_convoyAt_16 : decode cX4_convoyAt 16 = .ok (.iload_n 1, 1) := by decide +kernel
theorem dX4_convoyAt_17 : decode cX4_convoyAt 17 = .ok (.invokevirtual 90, 3) := by decide +kernel
theorem dX4_convoyAt_20 : decode cX4_convoyAt 20 = .ok (.ifCond .lt 5, 3) := by decide +kernel
theorem dX4_convoyAt_23 : decode cX4_convoyAt 23 = .ok (.iload_n 2, 1) := by decide +kernel
theorem dX4_convoyAt_24 : decode cX4_convoyAt 24 = .ok (.ireturn, 1) := by decide +kernel
theorem dX4_convoyAt_25 : decode cX4_convoyAt 25 = .ok (.iinc 2 1, 3) := by decide +kernel
theorem dX4_convoyAt_28 : decode cX4_convoyAt 28 = .ok (.goto (-26), 3) := by decide +kernel
theorem dX4_convoyAt_31 : decode cX4_convoyAt 31 = .ok (.iconst (-1), 1) := by decide +kernel
theorem dX4_convoyAt_32 : decode cX4_convoyAt 32 = .ok (.ireturn, 1) := by decide +kernel
theorem dX4_isTakenByOther_0 : decode cX4_isTakenByOther 0 = .ok (.iconst 0, 1) := by decide +kernel
theorem dX4_isTakenByOther_1 : decode cX4_isTakenByOther 1 = .ok (.istore_n 3, 1) := by decide +kernel
theorem dX4_isTakenByOther_2 : decode cX4_isTakenByOther 2 = .ok (.iload_n 3, 1) := by decide +kernel
theorem dX4_isTakenByOther_3 : decode cX4_isTakenByOther 3 = .ok (.aload_n 0, 1) := by decide +kernel
theorem dX4_isTakenByOther_4 : decode cX4_isTakenByOther 4 = .ok (.getfield 37, 3) := by decide +kernel
theorem dX4_isTakenByOther_7 : decode cX4_isTakenByOther 7 = .ok (.if_icmp .ge 29, 3) := by decide +kernel
theorem dX4_isTakenByOther_10 : decode cX4_isTakenByOther 10 = .ok (.iload_n 3, 1) := by decide +kernel
theorem dX4_isTakenByOther_11 : decode cX4_isTakenByOther 11 = .ok (.iload_n 2, 1) := by decide +kernel
theorem dX4_isTakenByOther_12 : decode cX4_isTakenByOther 12 = .ok (.if_icmp .eq 18, 3) := by decide +kernel
theorem dX4_isTakenByOther_15 : decode cX4_isTakenByOther 15 = .ok (.aload_n 0, 1) := by decide +kernel
theorem dX4_isTakenByOther_16 : decode cX4_isTakenByOther 16 = .ok (.getfield 33, 3) := by decide +kernel
theorem dX4_isTakenByOther_19 : decode cX4_isTakenByOther 19 = .ok (.iload_n 3, 1) := by decide +kernel
theorem dX4_isTakenByOther_20 : decode cX4_isTakenByOther 20 = .ok (.aaload, 1) := by decide +kernel
theorem dX4_isTakenByOther_21 : decode cX4_isTakenByOther 21 = .ok (.iload_n 1, 1) := by decide +kernel
theorem dX4_isTakenByOther_22 : decode cX4_isTakenByOther 22 = .ok (.invokevirtual 90, 3) := by decide +kernel
theorem dX4_isTakenByOther_25 : decode cX4_isTakenByOther 25 = .ok (.ifCond .lt 5, 3) := by decide +kernel
theorem dX4_isTakenByOther_28 : decode cX4_isTakenByOther 28 = .ok (.iconst 1, 1) := by decide +kernel
theorem dX4_isTakenByOther_29 : decode cX4_isTakenByOther 29 = .ok (.ireturn, 1) := by decide +kernel
theorem dX4_isTakenByOther_30 : decode cX4_isTakenByOther 30 = .ok (.iinc 3 1, 3) := by decide +kernel
theorem dX4_isTakenByOther_33 : decode cX4_isTakenByOther 33 = .ok (.goto (-31), 3) := by decide +kernel
theorem dX4_isTakenByOther_36 : decode cX4_isTakenByOther 36 = .ok (.iconst 0, 1) := by decide +kernel
theorem dX4_isTakenByOther_37 : decode cX4_isTakenByOther 37 = .ok (.ireturn, 1) := by decide +kernel
theorem dX4_joinObstacle_0 : decode cX4_joinObstacle 0 = .ok (.aload_n 0, 1) := by decide +kernel
theorem dX4_joinObstacle_1 : decode cX4_joinObstacle 1 = .ok (.iload_n 1, 1) := by decide +kernel
theorem dX4_joinObstacle_2 : decode cX4_joinObstacle 2 = .ok (.invokevirtual 58, 3) := by decide +kernel
theorem dX4_joinObstacle_5 : decode cX4_joinObstacle 5 = .ok (.ifCond .eq 17, 3) := by decide +kernel
theorem dX4_joinObstacle_8 : decode cX4_joinObstacle 8 = .ok (.iload_n 2, 1) := by decide +kernel
theorem dX4_joinObstacle_9 : decode cX4_joinObstacle 9 = .ok (.invokestatic 94, 3) := by decide +kernel
theorem dX4_joinObstacle_12 : decode cX4_joinObstacle 12 = .ok (.ifCond .eq 10, 3) := by decide +kernel
theorem dX4_joinObstacle_15 : decode cX4_joinObstacle 15 = .ok (.iload_n 3, 1) := by decide +kernel
theorem dX4_joinObstacle_16 : decode cX4_joinObstacle 16 = .ok (.invokestatic 97, 3) := by decide +kernel
theorem dX4_joinObstacle_19 : decode cX4_joinObstacle 19 = .ok (.ifCond .ne 5, 3) := by decide +kernel
theorem dX4_joinObstacle_22 : decode cX4_joinObstacle 22 = .ok (.iconst (-1), 1) := by decide +kernel
theorem dX4_joinObstacle_23 : decode cX4_joinObstacle 23 = .ok (.ireturn, 1) := by decide +kernel
theorem dX4_joinObstacle_24 : decode cX4_joinObstacle 24 = .ok (.aload_n 0, 1) := by decide +kernel
theorem dX4_joinObstacle_25 : decode cX4_joinObstacle 25 = .ok (.getfield 27, 3) := by decide +kernel
theorem dX4_joinObstacle_28 : decode cX4_joinObstacle 28 = .ok (.iload_n 2, 1) := by decide +kernel
theorem dX4_joinObstacle_29 : decode cX4_joinObstacle 29 = .ok (.iconst 5, 1) := by decide +kernel
theorem dX4_joinObstacle_30 : decode cX4_joinObstacle 30 = .ok (.imul, 1) := by decide +kernel
theorem dX4_joinObstacle_31 : decode cX4_joinObstacle 31 = .ok (.iload_n 3, 1) := by decide +kernel
theorem dX4_joinObstacle_32 : decode cX4_joinObstacle 32 = .ok (.iadd, 1) := by decide +kernel
theorem dX4_joinObstacle_33 : decode cX4_joinObstacle 33 = .ok (.aaload, 1) := by decide +kernel
theorem dX4_joinObstacle_34 : decode cX4_joinObstacle 34 = .ok (.ifnonnull 6, 3) := by decide +kernel
theorem dX4_joinObstacle_37 : decode cX4_joinObstacle 37 = .ok (.bipush (-2), 2) := by decide +kernel
theorem dX4_joinObstacle_39 : decode cX4_joinObstacle 39 = .ok (.ireturn, 1) := by decide +kernel
theorem dX4_joinObstacle_40 : decode cX4_joinObstacle 40 = .ok (.aload_n 0, 1) := by decide +kernel
theorem dX4_joinObstacle_41 : decode cX4_joinObstacle 41 = .ok (.getfield 33, 3) := by decide +kernel
theorem dX4_joinObstacle_44 : decode cX4_joinObstacle 44 = .ok (.iload_n 1, 1) := by decide +kernel
theorem dX4_joinObstacle_45 : decode cX4_joinObstacle 45 = .ok (.aaload, 1) := by decide +kernel
theorem dX4_joinObstacle_46 : decode cX4_joinObstacle 46 = .ok (.invokevirtual 100, 3) := by decide +kernel
theorem dX4_joinObstacle_49 : decode cX4_joinObstacle 49 = .ok (.ifCond .eq 9, 3) := by decide +kernel
theorem dX4_joinObstacle_52 : decode cX4_joinObstacle 52 = .ok (.iconst 4, 1) := by decide +kernel
theorem dX4_joinObstacle_53 : decode cX4_joinObstacle 53 = .ok (.iload_n 1, 1) := by decide +kernel
theorem dX4_joinObstacle_54 : decode cX4_joinObstacle 54 = .ok (.invokestatic 104, 3) := by decide +kernel
theorem dX4_joinObstacle_57 : decode cX4_joinObstacle 57 = .ok (.ireturn, 1) := by decide +kernel
theorem dX4_joinObstacle_58 : decode cX4_joinObstacle 58 = .ok (.aload_n 0, 1) := by decide +kernel
theorem dX4_joinObstacle_59 : decode cX4_joinObstacle 59 = .ok (.getfield 33, 3) := by decide +kernel
theorem dX4_joinObstacle_62 : decode cX4_joinObstacle 62 = .ok (.iload_n 1, 1) := by decide +kernel
theorem dX4_joinObstacle_63 : decode cX4_joinObstacle 63 = .ok (.aaload, 1) := by decide +kernel
theorem dX4_joinObstacle_64 : decode cX4_joinObstacle 64 = .ok (.getfield 108, 3) := by decide +kernel
theorem dX4_joinObstacle_67 : decode cX4_joinObstacle 67 = .ok (.iconst 4, 1) := by decide +kernel
theorem dX4_joinObstacle_68 : decode cX4_joinObstacle 68 = .ok (.if_icmp .ge 7, 3) := by decide +kernel
theorem dX4_joinObstacle_71 : decode cX4_joinObstacle 71 = .ok (.iconst 0, 1) := by decide +kernel
theorem dX4_joinObstacle_72 : decode cX4_joinObstacle 72 = .ok (.goto 8, 3) := by decide +kernel
theorem dX4_joinObstacle_75 : decode cX4_joinObstacle 75 = .ok (.iconst 1, 1) := by decide +kernel
theorem dX4_joinObstacle_76 : decode cX4_joinObstacle 76 = .ok (.iconst 4, 1) := by decide +kernel
theorem dX4_joinObstacle_77 : decode cX4_joinObstacle 77 = .ok (.invokestatic 104, 3) := by decide +kernel
theorem dX4_joinObstacle_80 : decode cX4_joinObstacle 80 = .ok (.ireturn, 1) := by decide +kernel
theorem dX4_startObstacle_0 : decode cX4_startObstacle 0 = .ok (.aload_n 0, 1) := by decide +kernel
theorem dX4_startObstacle_1 : decode cX4_startObstacle 1 = .ok (.iload_n 1, 1) := by decide +kernel
theorem dX4_startObstacle_2 : decode cX4_startObstacle 2 = .ok (.invokevirtual 58, 3) := by decide +kernel
theorem dX4_startObstacle_5 : decode cX4_startObstacle 5 = .ok (.ifCond .ne 5, 3) := by decide +kernel
theorem dX4_startObstacle_8 : decode cX4_startObstacle 8 = .ok (.iconst (-1), 1) := by decide +kernel
theorem dX4_startObstacle_9 : decode cX4_startObstacle 9 = .ok (.ireturn, 1) := by decide +kernel
theorem dX4_startObstacle_10 : decode cX4_startObstacle 10 = .ok (.aload_n 0, 1) := by decide +kernel
theorem dX4_startObstacle_11 : decode cX4_startObstacle 11 = .ok (.getfield 33, 3) := by decide +kernel
theorem dX4_startObstacle_14 : decode cX4_startObstacle 14 = .ok (.iload_n 1, 1) := by decide +kernel
theorem dX4_startObstacle_15 : decode cX4_startObstacle 15 = .ok (.aaload, 1) := by decide +kernel
theorem dX4_startObstacle_16 : decode cX4_startObstacle 16 = .ok (.invokevirtual 100, 3) := by decide +kernel
theorem dX4_startObstacle_19 : decode cX4_startObstacle 19 = .ok (.ifCond .eq 9, 3) := by decide +kernel
theorem dX4_startObstacle_22 : decode cX4_startObstacle 22 = .ok (.iconst 4, 1) := by decide +kernel
theorem dX4_startObstacle_23 : decode cX4_startObstacle 23 = .ok (.iload_n 1, 1) := by decide +kernel
theorem dX4_startObstacle_24 : decode cX4_startObstacle 24 = .ok (.invokestatic 104, 3) := by decide +kernel
theorem dX4_startObstacle_27 : decode cX4_startObstacle 27 = .ok (.ireturn, 1) := by decide +kernel
theorem dX4_startObstacle_28 : decode cX4_startObstacle 28 = .ok (.aload_n 0, 1) := by decide +kernel
theorem dX4_startObstacle_29 : decode cX4_startObstacle 29 = .ok (.getfield 33, 3) := by decide +kernel
theorem dX4_startObstacle_32 : decode cX4_startObstacle 32 = .ok (.iload_n 1, 1) := by decide +kernel
theorem dX4_startObstacle_33 : decode cX4_startObstacle 33 = .ok (.aaload, 1) := by decide +kernel
theorem dX4_startObstacle_34 : decode cX4_startObstacle 34 = .ok (.getfield 108, 3) := by decide +kernel
theorem dX4_startObstacle_37 : decode cX4_startObstacle 37 = .ok (.ifCond .ne 9, 3) := by decide +kernel
theorem dX4_startObstacle_40 : decode cX4_startObstacle 40 = .ok (.iconst 5, 1) := by decide +kernel
theorem dX4_startObstacle_41 : decode cX4_startObstacle 41 = .ok (.iload_n 1, 1) := by decide +kernel
theorem dX4_startObstacle_42 : decode cX4_startObstacle 42 = .ok (.invokestatic 104, 3) := by decide +kernel
theorem dX4_startObstacle_45 : decode cX4_startObstacle 45 = .ok (.ireturn, 1) := by decide +kernel
theorem dX4_startObstacle_46 : decode cX4_startObstacle 46 = .ok (.aload_n 0, 1) := by decide +kernel
theorem dX4_startObstacle_47 : decode cX4_startObstacle 47 = .ok (.iload_n 1, 1) := by decide +kernel
theorem dX4_startObstacle_48 : decode cX4_startObstacle 48 = .ok (.invokevirtual 111, 3) := by decide +kernel
theorem dX4_startObstacle_51 : decode cX4_startObstacle 51 = .ok (.ireturn, 1) := by decide +kernel
theorem dX4_rollObstacle_0 : decode cX4_rollObstacle 0 = .ok (.aload_n 0, 1) := by decide +kernel
theorem dX4_rollObstacle_1 : decode cX4_rollObstacle 1 = .ok (.iload_n 1, 1) := by decide +kernel
theorem dX4_rollObstacle_2 : decode cX4_rollObstacle 2 = .ok (.invokevirtual 58, 3) := by decide +kernel
theorem dX4_rollObstacle_5 : decode cX4_rollObstacle 5 = .ok (.ifCond .ne 5, 3) := by decide +kernel
theorem dX4_rollObstacle_8 : decode cX4_rollObstacle 8 = .ok (.iconst (-1), 1) := by decide +kernel
theorem dX4_rollObstacle_9 : decode cX4_rollObstacle 9 = .ok (.ireturn, 1) := by decide +kernel
theorem dX4_rollObstacle_10 : decode cX4_rollObstacle 10 = .ok (.aload_n 0, 1) := by decide +kernel
theorem dX4_rollObstacle_11 : decode cX4_rollObstacle 11 = .ok (.getfield 33, 3) := by decide +kernel
theorem dX4_rollObstacle_14 : decode cX4_rollObstacle 14 = .ok (.iload_n 1, 1) := by decide +kernel
theorem dX4_rollObstacle_15 : decode cX4_rollObstacle 15 = .ok (.aaload, 1) := by decide +kernel
theorem dX4_rollObstacle_16 : decode cX4_rollObstacle 16 = .ok (.invokevirtual 100, 3) := by decide +kernel
theorem dX4_rollObstacle_19 : decode cX4_rollObstacle 19 = .ok (.ifCond .ne 9, 3) := by decide +kernel
theorem dX4_rollObstacle_22 : decode cX4_rollObstacle 22 = .ok (.iconst 4, 1) := by decide +kernel
theorem dX4_rollObstacle_23 : decode cX4_rollObstacle 23 = .ok (.iload_n 1, 1) := by decide +kernel
theorem dX4_rollObstacle_24 : decode cX4_rollObstacle 24 = .ok (.invokestatic 104, 3) := by decide +kernel
theorem dX4_rollObstacle_27 : decode cX4_rollObstacle 27 = .ok (.ireturn, 1) := by decide +kernel
theorem dX4_rollObstacle_28 : decode cX4_rollObstacle 28 = .ok (.aload_n 0, 1) := by decide +kernel
theorem dX4_rollObstacle_29 : decode cX4_rollObstacle 29 = .ok (.getfield 33, 3) := by decide +kernel
theorem dX4_rollObstacle_32 : decode cX4_rollObstacle 32 = .ok (.iload_n 1, 1) := by decide +kernel
theorem dX4_rollObstacle_33 : decode cX4_rollObstacle 33 = .ok (.aaload, 1) := by decide +kernel
theorem dX4_rollObstacle_34 : decode cX4_rollObstacle 34 = .ok (.invokevirtual 114, 3) := by decide +kernel
theorem dX4_rollObstacle_37 : decode cX4_rollObstacle 37 = .ok (.ifCond .eq 10, 3) := by decide +kernel
theorem dX4_rollObstacle_40 : decode cX4_rollObstacle 40 = .ok (.bipush 6, 2) := by decide +kernel
theorem dX4_rollObstacle_42 : decode cX4_rollObstacle 42 = .ok (.iload_n 1, 1) := by decide +kernel
theorem dX4_rollObstacle_43 : decode cX4_rollObstacle 43 = .ok (.invokestatic 104, 3) := by decide +kernel
theorem dX4_rollObstacle_46 : decode cX4_rollObstacle 46 = .ok (.ireturn, 1) := by decide +kernel
theorem dX4_rollObstacle_47 : decode cX4_rollObstacle 47 = .ok (.aload_n 0, 1) := by decide +kernel
theorem dX4_rollObstacle_48 : decode cX4_rollObstacle 48 = .ok (.iload_n 1, 1) := by decide +kernel
theorem dX4_rollObstacle_49 : decode cX4_rollObstacle 49 = .ok (.invokevirtual 111, 3) := by decide +kernel
theorem dX4_rollObstacle_52 : decode cX4_rollObstacle 52 = .ok (.ireturn, 1) := by decide +kernel
theorem dX4_wayObstacle_0 : decode cX4_wayObstacle 0 = .ok (.aload_n 0, 1) := by decide +kernel
theorem dX4_wayObstacle_1 : decode cX4_wayObstacle 1 = .ok (.getfield 33, 3) := by decide +kernel
theorem dX4_wayObstacle_4 : decode cX4_wayObstacle 4 = .ok (.iload_n 1, 1) := by decide +kernel
theorem dX4_wayObstacle_5 : decode cX4_wayObstacle 5 = .ok (.aaload, 1) := by decide +kernel
theorem dX4_wayObstacle_6 : decode cX4_wayObstacle 6 = .ok (.astore_n 2, 1) := by decide +kernel
theorem dX4_wayObstacle_7 : decode cX4_wayObstacle 7 = .ok (.aload_n 2, 1) := by decide +kernel
theorem dX4_wayObstacle_8 : decode cX4_wayObstacle 8 = .ok (.getfield 117, 3) := by decide +kernel
theorem dX4_wayObstacle_11 : decode cX4_wayObstacle 11 = .ok (.iconst 1, 1) := by decide +kernel
theorem dX4_wayObstacle_12 : decode cX4_wayObstacle 12 = .ok (.iadd, 1) := by decide +kernel
theorem dX4_wayObstacle_13 : decode cX4_wayObstacle 13 = .ok (.istore_n 3, 1) := by decide +kernel
theorem dX4_wayObstacle_14 : decode cX4_wayObstacle 14 = .ok (.iconst 0, 1) := by decide +kernel
theorem dX4_wayObstacle_15 : decode cX4_wayObstacle 15 = .ok (.istore 4, 2) := by decide +kernel
theorem dX4_wayObstacle_17 : decode cX4_wayObstacle 17 = .ok (.iload 4, 2) := by decide +kernel
theorem dX4_wayObstacle_19 : decode cX4_wayObstacle 19 = .ok (.iconst 4, 1) := by decide +kernel
theorem dX4_wayObstacle_20 : decode cX4_wayObstacle 20 = .ok (.if_icmp .ge 54, 3) := by decide +kernel
theorem dX4_wayObstacle_23 : decode cX4_wayObstacle 23 = .ok (.aload_n 2, 1) := by decide +kernel
theorem dX4_wayObstacle_24 : decode cX4_wayObstacle 24 = .ok (.iload 4, 2) := by decide +kernel
theorem dX4_wayObstacle_26 : decode cX4_wayObstacle 26 = .ok (.iload_n 3, 1) := by decide +kernel
theorem dX4_wayObstacle_27 : decode cX4_wayObstacle 27 = .ok (.invokevirtual 120, 3) := by decide +kernel
theorem dX4_wayObstacle_30 : decode cX4_wayObstacle 30 = .ok (.istore 5, 2) := by decide +kernel
theorem dX4_wayObstacle_32 : decode cX4_wayObstacle 32 = .ok (.aload_n 2, 1) := by decide +kernel
theorem dX4_wayObstacle_33 : decode cX4_wayObstacle 33 = .ok (.getfield 62, 3) := by decide +kernel
theorem dX4_wayObstacle_36 : decode cX4_wayObstacle 36 = .ok (.iload 4, 2) := by decide +kernel
theorem dX4_wayObstacle_38 : decode cX4_wayObstacle 38 = .ok (.aaload, 1) := by decide +kernel
theorem dX4_wayObstacle_39 : decode cX4_wayObstacle 39 = .ok (.ifnull 29, 3) := by decide +kernel
theorem dX4_wayObstacle_42 : decode cX4_wayObstacle 42 = .ok (.iload 5, 2) := by decide +kernel
theorem dX4_wayObstacle_44 : decode cX4_wayObstacle 44 = .ok (.invokestatic 123, 3) := by decide +kernel
theorem dX4_wayObstacle_47 : decode cX4_wayObstacle 47 = .ok (.ifCond .eq 21, 3) := by decide +kernel
theorem dX4_wayObstacle_50 : decode cX4_wayObstacle 50 = .ok (.aload_n 0, 1) := by decide +kernel
theorem dX4_wayObstacle_51 : decode cX4_wayObstacle 51 = .ok (.iload 5, 2) := by decide +kernel
theorem dX4_wayObstacle_53 : decode cX4_wayObstacle 53 = .ok (.iload_n 1, 1) := by decide +kernel
theorem dX4_wayObstacle_54 : decode cX4_wayObstacle 54 = .ok (.invokevirtual 126, 3) := by decide +kernel
theorem dX4_wayObstacle_57 : decode cX4_wayObstacle 57 = .ok (.ifCond .eq 11, 3) := by decide +kernel
theorem dX4_wayObstacle_60 : decode cX4_wayObstacle 60 = .ok (.bipush 7, 2) := by decide +kernel
theorem dX4_wayObstacle_62 : decode cX4_wayObstacle 62 = .ok (.iload 5, 2) := by decide +kernel
theorem dX4_wayObstacle_64 : decode cX4_wayObstacle 64 = .ok (.invokestatic 104, 3) := by decide +kernel
theorem dX4_wayObstacle_67 : decode cX4_wayObstacle 67 = .ok (.ireturn, 1) := by decide +kernel
theorem dX4_wayObstacle_68 : decode cX4_wayObstacle 68 = .ok (.iinc 4 1, 3) := by decide +kernel
theorem dX4_wayObstacle_71 : decode cX4_wayObstacle 71 = .ok (.goto (-54), 3) := by decide +kernel
theorem dX4_wayObstacle_74 : decode cX4_wayObstacle 74 = .ok (.iconst 0, 1) := by decide +kernel
theorem dX4_wayObstacle_75 : decode cX4_wayObstacle 75 = .ok (.istore 4, 2) := by decide +kernel
theorem dX4_wayObstacle_77 : decode cX4_wayObstacle 77 = .ok (.iload 4, 2) := by decide +kernel
theorem dX4_wayObstacle_79 : decode cX4_wayObstacle 79 = .ok (.iconst 4, 1) := by decide +kernel
theorem dX4_wayObstacle_80 : decode cX4_wayObstacle 80 = .ok (.if_icmp .ge 68, 3) := by decide +kernel
theorem dX4_wayObstacle_83 : decode cX4_wayObstacle 83 = .ok (.aload_n 2, 1) := by decide +kernel
theorem dX4_wayObstacle_84 : decode cX4_wayObstacle 84 = .ok (.iload 4, 2) := by decide +kernel
theorem dX4_wayObstacle_86 : decode cX4_wayObstacle 86 = .ok (.iload_n 3, 1) := by decide +kernel
theorem dX4_wayObstacle_87 : decode cX4_wayObstacle 87 = .ok (.invokevirtual 120, 3) := by decide +kernel
theorem dX4_wayObstacle_90 : decode cX4_wayObstacle 90 = .ok (.istore 5, 2) := by decide +kernel
theorem dX4_wayObstacle_92 : decode cX4_wayObstacle 92 = .ok (.aload_n 2, 1) := by decide +kernel
theorem dX4_wayObstacle_93 : decode cX4_wayObstacle 93 = .ok (.getfield 62, 3) := by decide +kernel
theorem dX4_wayObstacle_96 : decode cX4_wayObstacle 96 = .ok (.iload 4, 2) := by decide +kernel
theorem dX4_wayObstacle_98 : decode cX4_wayObstacle 98 = .ok (.aaload, 1) := by decide +kernel
theorem dX4_wayObstacle_99 : decode cX4_wayObstacle 99 = .ok (.astore 6, 2) := by decide +kernel
theorem dX4_wayObstacle_101 : decode cX4_wayObstacle 101 = .ok (.aload 6, 2) := by decide +kernel
theorem dX4_wayObstacle_103 : decode cX4_wayObstacle 103 = .ok (.ifnull 39, 3) := by decide +kernel
theorem dX4_wayObstacle_106 : decode cX4_wayObstacle 106 = .ok (.iload 5, 2) := by decide +kernel
theorem dX4_wayObstacle_108 : decode cX4_wayObstacle 108 = .ok (.invokestatic 123, 3) := by decide +kernel
theorem dX4_wayObstacle_111 : decode cX4_wayObstacle 111 = .ok (.ifCond .eq 31, 3) := by decide +kernel
theorem dX4_wayObstacle_114 : decode cX4_wayObstacle 114 = .ok (.aload_n 0, 1) := by decide +kernel
theorem dX4_wayObstacle_115 : decode cX4_wayObstacle 115 = .ok (.aload_n 0, 1) := by decide +kernel
theorem dX4_wayObstacle_116 : decode cX4_wayObstacle 116 = .ok (.getfield 21, 3) := by decide +kernel
theorem dX4_wayObstacle_119 : decode cX4_wayObstacle 119 = .ok (.iload 5, 2) := by decide +kernel
theorem dX4_wayObstacle_121 : decode cX4_wayObstacle 121 = .ok (.aaload, 1) := by decide +kernel
theorem dX4_wayObstacle_122 : decode cX4_wayObstacle 122 = .ok (.invokevirtual 130, 3) := by decide +kernel
theorem dX4_wayObstacle_125 : decode cX4_wayObstacle 125 = .ok (.aload 6, 2) := by decide +kernel
theorem dX4_wayObstacle_127 : decode cX4_wayObstacle 127 = .ok (.invokevirtual 134, 3) := by decide +kernel
theorem dX4_wayObstacle_130 : decode cX4_wayObstacle 130 = .ok (.fcmp .g, 1) := by decide +kernel
theorem dX4_wayObstacle_131 : decode cX4_wayObstacle 131 = .ok (.ifCond .ge 11, 3) := by decide +kernel
theorem dX4_wayObstacle_134 : decode cX4_wayObstacle 134 = .ok (.bipush 8, 2) := by decide +kernel
theorem dX4_wayObstacle_136 : decode cX4_wayObstacle 136 = .ok (.iload 5, 2) := by decide +kernel
theorem dX4_wayObstacle_138 : decode cX4_wayObstacle 138 = .ok (.invokestatic 104, 3) := by decide +kernel
theorem dX4_wayObstacle_141 : decode cX4_wayObstacle 141 = .ok (.ireturn, 1) := by decide +kernel
theorem dX4_wayObstacle_142 : decode cX4_wayObstacle 142 = .ok (.iinc 4 1, 3) := by decide +kernel
theorem dX4_wayObstacle_145 : decode cX4_wayObstacle 145 = .ok (.goto (-68), 3) := by decide +kernel
theorem dX4_wayObstacle_148 : decode cX4_wayObstacle 148 = .ok (.iconst 0, 1) := by decide +kernel
theorem dX4_wayObstacle_149 : decode cX4_wayObstacle 149 = .ok (.ireturn, 1) := by decide +kernel
theorem dX4_letJoin_0 : decode cX4_letJoin 0 = .ok (.aload_n 1, 1) := by decide +kernel
theorem dX4_letJoin_1 : decode cX4_letJoin 1 = .ok (.getfield 62, 3) := by decide +kernel
theorem dX4_letJoin_4 : decode cX4_letJoin 4 = .ok (.aload_n 1, 1) := by decide +kernel
theorem dX4_letJoin_5 : decode cX4_letJoin 5 = .ok (.getfield 108, 3) := by decide +kernel
theorem dX4_letJoin_8 : decode cX4_letJoin 8 = .ok (.aload_n 0, 1) := by decide +kernel
theorem dX4_letJoin_9 : decode cX4_letJoin 9 = .ok (.getfield 27, 3) := by decide +kernel
theorem dX4_letJoin_12 : decode cX4_letJoin 12 = .ok (.iload_n 2, 1) := by decide +kernel
theorem dX4_letJoin_13 : decode cX4_letJoin 13 = .ok (.aaload, 1) := by decide +kernel
theorem dX4_letJoin_14 : decode cX4_letJoin 14 = .ok (.aastore, 1) := by decide +kernel
theorem dX4_letJoin_15 : decode cX4_letJoin 15 = .ok (.aload_n 1, 1) := by decide +kernel
theorem dX4_letJoin_16 : decode cX4_letJoin 16 = .ok (.dup, 1) := by decide +kernel
theorem dX4_letJoin_17 : decode cX4_letJoin 17 = .ok (.getfield 108, 3) := by decide +kernel
theorem dX4_letJoin_20 : decode cX4_letJoin 20 = .ok (.iconst 1, 1) := by decide +kernel
theorem dX4_letJoin_21 : decode cX4_letJoin 21 = .ok (.iadd, 1) := by decide +kernel
theorem dX4_letJoin_22 : decode cX4_letJoin 22 = .ok (.putfield 108, 3) := by decide +kernel
theorem dX4_letJoin_25 : decode cX4_letJoin 25 = .ok (.aload_n 0, 1) := by decide +kernel
theorem dX4_letJoin_26 : decode cX4_letJoin 26 = .ok (.getfield 27, 3) := by decide +kernel
theorem dX4_letJoin_29 : decode cX4_letJoin 29 = .ok (.iload_n 2, 1) := by decide +kernel
theorem dX4_letJoin_30 : decode cX4_letJoin 30 = .ok (.aconst_null, 1) := by decide +kernel
theorem dX4_letJoin_31 : decode cX4_letJoin 31 = .ok (.aastore, 1) := by decide +kernel
theorem dX4_letJoin_32 : decode cX4_letJoin 32 = .ok (.return_, 1) := by decide +kernel
theorem dX4_advance_0 : decode cX4_advance 0 = .ok (.aload_n 1, 1) := by decide +kernel
theorem dX4_advance_1 : decode cX4_advance 1 = .ok (.dup, 1) := by decide +kernel
theorem dX4_advance_2 : decode cX4_advance 2 = .ok (.getfield 117, 3) := by decide +kernel
theorem dX4_advance_5 : decode cX4_advance 5 = .ok (.iconst 1, 1) := by decide +kernel
theorem dX4_advance_6 : decode cX4_advance 6 = .ok (.iadd, 1) := by decide +kernel
theorem dX4_advance_7 : decode cX4_advance 7 = .ok (.putfield 117, 3) := by decide +kernel
theorem dX4_advance_10 : decode cX4_advance 10 = .ok (.iconst 0, 1) := by decide +kernel
theorem dX4_advance_11 : decode cX4_advance 11 = .ok (.istore_n 2, 1) := by decide +kernel
theorem dX4_advance_12 : decode cX4_advance 12 = .ok (.iload_n 2, 1) := by decide +kernel
theorem dX4_advance_13 : decode cX4_advance 13 = .ok (.iconst 4, 1) := by decide +kernel
theorem dX4_advance_14 : decode cX4_advance 14 = .ok (.if_icmp .ge 70, 3) := by decide +kernel
theorem dX4_advance_17 : decode cX4_advance 17 = .ok (.aload_n 1, 1) := by decide +kernel
theorem dX4_advance_18 : decode cX4_advance 18 = .ok (.getfield 62, 3) := by decide +kernel
theorem dX4_advance_21 : decode cX4_advance 21 = .ok (.iload_n 2, 1) := by decide +kernel
theorem dX4_advance_22 : decode cX4_advance 22 = .ok (.aaload, 1) := by decide +kernel
theorem dX4_advance_23 : decode cX4_advance 23 = .ok (.astore_n 3, 1) := by decide +kernel
theorem dX4_advance_24 : decode cX4_advance 24 = .ok (.aload_n 1, 1) := by decide +kernel
theorem dX4_advance_25 : decode cX4_advance 25 = .ok (.iload_n 2, 1) := by decide +kernel
theorem dX4_advance_26 : decode cX4_advance 26 = .ok (.invokevirtual 138, 3) := by decide +kernel
theorem dX4_advance_29 : decode cX4_advance 29 = .ok (.istore 4, 2) := by decide +kernel
theorem dX4_advance_31 : decode cX4_advance 31 = .ok (.aload_n 3, 1) := by decide +kernel
theorem dX4_advance_32 : decode cX4_advance 32 = .ok (.ifnull 22, 3) := by decide +kernel
theorem dX4_advance_35 : decode cX4_advance 35 = .ok (.iload 4, 2) := by decide +kernel
theorem dX4_advance_37 : decode cX4_advance 37 = .ok (.invokestatic 123, 3) := by decide +kernel
theorem dX4_advance_40 : decode cX4_advance 40 = .ok (.ifCond .eq 14, 3) := by decide +kernel
theorem dX4_advance_43 : decode cX4_advance 43 = .ok (.aload_n 0, 1) := by decide +kernel
theorem dX4_advance_44 : decode cX4_advance 44 = .ok (.getfield 21, 3) := by decide +kernel
theorem dX4_advance_47 : decode cX4_advance 47 = .ok (.iload 4, 2) := by decide +kernel
theorem dX4_advance_49 : decode cX4_advance 49 = .ok (.aaload, 1) := by decide +kernel
theorem dX4_advance_50 : decode cX4_advance 50 = .ok (.aload_n 3, 1) := by decide +kernel
theorem dX4_advance_51 : decode cX4_advance 51 = .ok (.invokevirtual 141, 3) := by decide +kernel
theorem dX4_advance_54 : decode cX4_advance 54 = .ok (.aload_n 3, 1) := by decide +kernel
theorem dX4_advance_55 : decode cX4_advance 55 = .ok (.ifnull 23, 3) := by decide +kernel
theorem dX4_advance_58 : decode cX4_advance 58 = .ok (.iload 4, 2) := by decide +kernel
theorem dX4_advance_60 : decode cX4_advance 60 = .ok (.bipush 12, 2) := by decide +kernel
theorem dX4_advance_62 : decode cX4_advance 62 = .ok (.if_icmp .ne 16, 3) := by decide +kernel
theorem dX4_advance_65 : decode cX4_advance 65 = .ok (.aload_n 0, 1) := by decide +kernel
theorem dX4_advance_66 : decode cX4_advance 66 = .ok (.dup, 1) := by decide +kernel
theorem dX4_advance_67 : decode cX4_advance 67 = .ok (.getfield 46, 3) := by decide +kernel
theorem dX4_advance_70 : decode cX4_advance 70 = .ok (.aload_n 3, 1) := by decide +kernel
theorem dX4_advance_71 : decode cX4_advance 71 = .ok (.getfield 145, 3) := by decide +kernel
theorem dX4_advance_74 : decode cX4_advance 74 = .ok (.iadd, 1) := by decide +kernel
theorem dX4_advance_75 : decode cX4_advance 75 = .ok (.putfield 46, 3) := by decide +kernel
theorem dX4_advance_78 : decode cX4_advance 78 = .ok (.iinc 2 1, 3) := by decide +kernel
theorem dX4_advance_81 : decode cX4_advance 81 = .ok (.goto (-69), 3) := by decide +kernel
theorem dX4_advance_84 : decode cX4_advance 84 = .ok (.return_, 1) := by decide +kernel
theorem dX4_countRollsAhead_0 : decode cX4_countRollsAhead 0 = .ok (.aload_n 0, 1) := by decide +kernel
theorem dX4_countRollsAhead_1 : decode cX4_countRollsAhead 1 = .ok (.getfield 33, 3) := by decide +kernel
theorem dX4_countRollsAhead_4 : decode cX4_countRollsAhead 4 = .ok (.iload_n 1, 1) := by decide +kernel
theorem dX4_countRollsAhead_5 : decode cX4_countRollsAhead 5 = .ok (.aaload, 1) := by decide +kernel
theorem dX4_countRollsAhead_6 : decode cX4_countRollsAhead 6 = .ok (.astore_n 2, 1) := by decide +kernel
theorem dX4_countRollsAhead_7 : decode cX4_countRollsAhead 7 = .ok (.aload_n 2, 1) := by decide +kernel
theorem dX4_countRollsAhead_8 : decode cX4_countRollsAhead 8 = .ok (.invokevirtual 100, 3) := by decide +kernel
theorem dX4_countRollsAhead_11 : decode cX4_countRollsAhead 11 = .ok (.ifCond .ne 5, 3) := by decide +kernel
theorem dX4_countRollsAhead_14 : decode cX4_countRollsAhead 14 = .ok (.iconst 0, 1) := by decide +kernel
theorem dX4_countRollsAhead_15 : decode cX4_countRollsAhead 15 = .ok (.ireturn, 1) := by decide +kernel
theorem dX4_countRollsAhead_16 : decode cX4_countRollsAhead 16 = .ok (.bipush 12, 2) := by decide +kernel
theorem dX4_countRollsAhead_18 : decode cX4_countRollsAhead 18 = .ok (.aload_n 2, 1) := by decide +kernel
theorem dX4_countRollsAhead_19 : decode cX4_countRollsAhead 19 = .ok (.getfield 108, 3) := by decide +kernel
theorem dX4_countRollsAhead_22 : decode cX4_countRollsAhead 22 = .ok (.iconst 1, 1) := by decide +kernel
theorem dX4_countRollsAhead_23 : decode cX4_countRollsAhead 23 = .ok (.isub, 1) := by decide +kernel
theorem dX4_countRollsAhead_24 : decode cX4_countRollsAhead 24 = .ok (.aload_n 2, 1) := by decide +kernel
theorem dX4_countRollsAhead_25 : decode cX4_countRollsAhead 25 = .ok (.getfield 148, 3) := by decide +kernel
theorem dX4_countRollsAhead_28 : decode cX4_countRollsAhead 28 = .ok (.iconst 1, 1) := by decide +kernel
theorem dX4_countRollsAhead_29 : decode cX4_countRollsAhead 29 = .ok (.iadd, 1) := by decide +kernel
theorem dX4_countRollsAhead_30 : decode cX4_countRollsAhead 30 = .ok (.imul, 1) := by decide +kernel
theorem dX4_countRollsAhead_31 : decode cX4_countRollsAhead 31 = .ok (.iadd, 1) := by decide +kernel
theorem dX4_countRollsAhead_32 : decode cX4_countRollsAhead 32 = .ok (.istore_n 3, 1) := by decide +kernel
theorem dX4_countRollsAhead_33 : decode cX4_countRollsAhead 33 = .ok (.aload_n 2, 1) := by decide +kernel
theorem dX4_countRollsAhead_34 : decode cX4_countRollsAhead 34 = .ok (.getfield 117, 3) := by decide +kernel
theorem dX4_countRollsAhead_37 : decode cX4_countRollsAhead 37 = .ok (.istore 4, 2) := by decide +kernel
theorem dX4_countRollsAhead_39 : decode cX4_countRollsAhead 39 = .ok (.iload 4, 2) := by decide +kernel
theorem dX4_countRollsAhead_41 : decode cX4_countRollsAhead 41 = .ok (.iload_n 3, 1) := by decide +kernel
theorem dX4_countRollsAhead_42 : decode cX4_countRollsAhead 42 = .ok (.if_icmp .ge 21, 3) := by decide +kernel
theorem dX4_countRollsAhead_45 : decode cX4_countRollsAhead 45 = .ok (.aload_n 0, 1) := by decide +kernel
theorem dX4_countRollsAhead_46 : decode cX4_countRollsAhead 46 = .ok (.iload_n 1, 1) := by decide +kernel
theorem dX4_countRollsAhead_47 : decode cX4_countRollsAhead 47 = .ok (.iload 4, 2) := by decide +kernel
theorem dX4_countRollsAhead_49 : decode cX4_countRollsAhead 49 = .ok (.iconst 1, 1) := by decide +kernel
theorem dX4_countRollsAhead_50 : decode cX4_countRollsAhead 50 = .ok (.iadd, 1) := by decide +kernel
theorem dX4_countRollsAhead_51 : decode cX4_countRollsAhead 51 = .ok (.invokevirtual 151, 3) := by decide +kernel
theorem dX4_countRollsAhead_54 : decode cX4_countRollsAhead 54 = .ok (.ifCond .eq 9, 3) := by decide +kernel
theorem dX4_countRollsAhead_57 : decode cX4_countRollsAhead 57 = .ok (.iinc 4 1, 3) := by decide +kernel
theorem dX4_countRollsAhead_60 : decode cX4_countRollsAhead 60 = .ok (.goto (-21), 3) := by decide +kernel
theorem dX4_countRollsAhead_63 : decode cX4_countRollsAhead 63 = .ok (.iload 4, 2) := by decide +kernel
theorem dX4_countRollsAhead_65 : decode cX4_countRollsAhead 65 = .ok (.aload_n 2, 1) := by decide +kernel
theorem dX4_countRollsAhead_66 : decode cX4_countRollsAhead 66 = .ok (.getfield 117, 3) := by decide +kernel
theorem dX4_countRollsAhead_69 : decode cX4_countRollsAhead 69 = .ok (.isub, 1) := by decide +kernel
theorem dX4_countRollsAhead_70 : decode cX4_countRollsAhead 70 = .ok (.ireturn, 1) := by decide +kernel
theorem dX4_couldLeadBe_0 : decode cX4_couldLeadBe 0 = .ok (.aload_n 0, 1) := by decide +kernel
theorem dX4_couldLeadBe_1 : decode cX4_couldLeadBe 1 = .ok (.getfield 33, 3) := by decide +kernel
theorem dX4_couldLeadBe_4 : decode cX4_couldLeadBe 4 = .ok (.iload_n 1, 1) := by decide +kernel
theorem dX4_couldLeadBe_5 : decode cX4_couldLeadBe 5 = .ok (.aaload, 1) := by decide +kernel
theorem dX4_couldLeadBe_6 : decode cX4_couldLeadBe 6 = .ok (.astore_n 3, 1) := by decide +kernel
theorem dX4_couldLeadBe_7 : decode cX4_couldLeadBe 7 = .ok (.iconst 0, 1) := by decide +kernel
theorem dX4_couldLeadBe_8 : decode cX4_couldLeadBe 8 = .ok (.istore 4, 2) := by decide +kernel
theorem dX4_couldLeadBe_10 : decode cX4_couldLeadBe 10 = .ok (.iload 4, 2) := by decide +kernel
theorem dX4_couldLeadBe_12 : decode cX4_couldLeadBe 12 = .ok (.iconst 4, 1) := by decide +kernel
theorem dX4_couldLeadBe_13 : decode cX4_couldLeadBe 13 = .ok (.if_icmp .ge 94, 3) := by decide +kernel
theorem dX4_couldLeadBe_16 : decode cX4_couldLeadBe 16 = .ok (.aload_n 3, 1) := by decide +kernel
theorem dX4_couldLeadBe_17 : decode cX4_couldLeadBe 17 = .ok (.getfield 62, 3) := by decide +kernel
theorem dX4_couldLeadBe_20 : decode cX4_couldLeadBe 20 = .ok (.iload 4, 2) := by decide +kernel
theorem dX4_couldLeadBe_22 : decode cX4_couldLeadBe 22 = .ok (.aaload, 1) := by decide +kernel
theorem dX4_couldLeadBe_23 : decode cX4_couldLeadBe 23 = .ok (.astore 5, 2) := by decide +kernel
theorem dX4_couldLeadBe_25 : decode cX4_couldLeadBe 25 = .ok (.aload_n 3, 1) := by decide +kernel
theorem dX4_couldLeadBe_26 : decode cX4_couldLeadBe 26 = .ok (.iload 4, 2) := by decide +kernel
theorem dX4_couldLeadBe_28 : decode cX4_couldLeadBe 28 = .ok (.iload_n 2, 1) := by decide +kernel
theorem dX4_couldLeadBe_29 : decode cX4_couldLeadBe 29 = .ok (.invokevirtual 120, 3) := by decide +kernel
theorem dX4_couldLeadBe_32 : decode cX4_couldLeadBe 32 = .ok (.istore 6, 2) := by decide +kernel
theorem dX4_couldLeadBe_34 : decode cX4_couldLeadBe 34 = .ok (.aload 5, 2) := by decide +kernel
theorem dX4_couldLeadBe_36 : decode cX4_couldLeadBe 36 = .ok (.ifnull 65, 3) := by decide +kernel
theorem dX4_couldLeadBe_39 : decode cX4_couldLeadBe 39 = .ok (.iload 6, 2) := by decide +kernel
theorem dX4_couldLeadBe_41 : decode cX4_couldLeadBe 41 = .ok (.invokestatic 123, 3) := by decide +kernel
theorem dX4_couldLeadBe_44 : decode cX4_couldLeadBe 44 = .ok (.ifCond .eq 57, 3) := by decide +kernel
theorem dX4_couldLeadBe_47 : decode cX4_couldLeadBe 47 = .ok (.aload_n 0, 1) := by decide +kernel
theorem dX4_couldLeadBe_48 : decode cX4_couldLeadBe 48 = .ok (.getfield 21, 3) := by decide +kernel
theorem dX4_couldLeadBe_51 : decode cX4_couldLeadBe 51 = .ok (.iload 6, 2) := by decide +kernel
theorem dX4_couldLeadBe_53 : decode cX4_couldLeadBe 53 = .ok (.aaload, 1) := by decide +kernel
theorem dX4_couldLeadBe_54 : decode cX4_couldLeadBe 54 = .ok (.aload_n 3, 1) := by decide +kernel
theorem dX4_couldLeadBe_55 : decode cX4_couldLeadBe 55 = .ok (.iload 4, 2) := by decide +kernel
theorem dX4_couldLeadBe_57 : decode cX4_couldLeadBe 57 = .ok (.iload 6, 2) := by decide +kernel
theorem dX4_couldLeadBe_59 : decode cX4_couldLeadBe 59 = .ok (.invokevirtual 154, 3) := by decide +kernel
theorem dX4_couldLeadBe_62 : decode cX4_couldLeadBe 62 = .ok (.invokevirtual 157, 3) := by decide +kernel
theorem dX4_couldLeadBe_65 : decode cX4_couldLeadBe 65 = .ok (.istore 7, 2) := by decide +kernel
theorem dX4_couldLeadBe_67 : decode cX4_couldLeadBe 67 = .ok (.aload_n 0, 1) := by decide +kernel
theorem dX4_couldLeadBe_68 : decode cX4_couldLeadBe 68 = .ok (.iload 6, 2) := by decide +kernel
theorem dX4_couldLeadBe_70 : decode cX4_couldLeadBe 70 = .ok (.iload_n 1, 1) := by decide +kernel
theorem dX4_couldLeadBe_71 : decode cX4_couldLeadBe 71 = .ok (.invokevirtual 126, 3) := by decide +kernel
theorem dX4_couldLeadBe_74 : decode cX4_couldLeadBe 74 = .ok (.ifCond .ne 25, 3) := by decide +kernel
theorem dX4_couldLeadBe_77 : decode cX4_couldLeadBe 77 = .ok (.aload_n 0, 1) := by decide +kernel
theorem dX4_couldLeadBe_78 : decode cX4_couldLeadBe 78 = .ok (.aload_n 0, 1) := by decide +kernel
theorem dX4_couldLeadBe_79 : decode cX4_couldLeadBe 79 = .ok (.getfield 21, 3) := by decide +kernel
theorem dX4_couldLeadBe_82 : decode cX4_couldLeadBe 82 = .ok (.iload 6, 2) := by decide +kernel
theorem dX4_couldLeadBe_84 : decode cX4_couldLeadBe 84 = .ok (.aaload, 1) := by decide +kernel
theorem dX4_couldLeadBe_85 : decode cX4_couldLeadBe 85 = .ok (.iload 7, 2) := by decide +kernel
theorem dX4_couldLeadBe_87 : decode cX4_couldLeadBe 87 = .ok (.invokevirtual 78, 3) := by decide +kernel
theorem dX4_couldLeadBe_90 : decode cX4_couldLeadBe 90 = .ok (.aload 5, 2) := by decide +kernel
theorem dX4_couldLeadBe_92 : decode cX4_couldLeadBe 92 = .ok (.invokevirtual 134, 3) := by decide +kernel
theorem dX4_couldLeadBe_95 : decode cX4_couldLeadBe 95 = .ok (.fcmp .g, 1) := by decide +kernel
theorem dX4_couldLeadBe_96 : decode cX4_couldLeadBe 96 = .ok (.ifCond .ge 5, 3) := by decide +kernel
theorem dX4_couldLeadBe_99 : decode cX4_couldLeadBe 99 = .ok (.iconst 0, 1) := by decide +kernel
theorem dX4_couldLeadBe_100 : decode cX4_couldLeadBe 100 = .ok (.ireturn, 1) := by decide +kernel
theorem dX4_couldLeadBe_101 : decode cX4_couldLeadBe 101 = .ok (.iinc 4 1, 3) := by decide +kernel
theorem dX4_couldLeadBe_104 : decode cX4_couldLeadBe 104 = .ok (.goto (-94), 3) := by decide +kernel
theorem dX4_couldLeadBe_107 : decode cX4_couldLeadBe 107 = .ok (.iconst 1, 1) := by decide +kernel
theorem dX4_couldLeadBe_108 : decode cX4_couldLeadBe 108 = .ok (.ireturn, 1) := by decide +kernel
theorem dX4_letDaysGoBy_0 : decode cX4_letDaysGoBy 0 = .ok (.iconst 0, 1) := by decide +kernel
theorem dX4_letDaysGoBy_1 : decode cX4_letDaysGoBy 1 = .ok (.istore_n 2, 1) := by decide +kernel
theorem dX4_letDaysGoBy_2 : decode cX4_letDaysGoBy 2 = .ok (.iload_n 2, 1) := by decide +kernel
theorem dX4_letDaysGoBy_3 : decode cX4_letDaysGoBy 3 = .ok (.iload_n 1, 1) := by decide +kernel
theorem dX4_letDaysGoBy_4 : decode cX4_letDaysGoBy 4 = .ok (.if_icmp .ge 48, 3) := by decide +kernel
theorem dX4_letDaysGoBy_7 : decode cX4_letDaysGoBy 7 = .ok (.iconst 0, 1) := by decide +kernel
theorem dX4_letDaysGoBy_8 : decode cX4_letDaysGoBy 8 = .ok (.istore_n 3, 1) := by decide +kernel
theorem dX4_letDaysGoBy_9 : decode cX4_letDaysGoBy 9 = .ok (.iload_n 3, 1) := by decide +kernel
theorem dX4_letDaysGoBy_10 : decode cX4_letDaysGoBy 10 = .ok (.bipush 12, 2) := by decide +kernel
theorem dX4_letDaysGoBy_12 : decode cX4_letDaysGoBy 12 = .ok (.if_icmp .ge 24, 3) := by decide +kernel
theorem dX4_letDaysGoBy_15 : decode cX4_letDaysGoBy 15 = .ok (.aload_n 0, 1) := by decide +kernel
theorem dX4_letDaysGoBy_16 : decode cX4_letDaysGoBy 16 = .ok (.getfield 21, 3) := by decide +kernel
theorem dX4_letDaysGoBy_19 : decode cX4_letDaysGoBy 19 = .ok (.iload_n 3, 1) := by decide +kernel
theorem dX4_letDaysGoBy_20 : decode cX4_letDaysGoBy 20 = .ok (.aaload, 1) := by decide +kernel
theorem dX4_letDaysGoBy_21 : decode cX4_letDaysGoBy 21 = .ok (.aload_n 0, 1) := by decide +kernel
theorem dX4_letDaysGoBy_22 : decode cX4_letDaysGoBy 22 = .ok (.getfield 9, 3) := by decide +kernel
theorem dX4_letDaysGoBy_25 : decode cX4_letDaysGoBy 25 = .ok (.iconst 0, 1) := by decide +kernel
theorem dX4_letDaysGoBy_26 : decode cX4_letDaysGoBy 26 = .ok (.iaload, 1) := by decide +kernel
theorem dX4_letDaysGoBy_27 : decode cX4_letDaysGoBy 27 = .ok (.invokevirtual 160, 3) := by decide +kernel
theorem dX4_letDaysGoBy_30 : decode cX4_letDaysGoBy 30 = .ok (.iinc 3 1, 3) := by decide +kernel
theorem dX4_letDaysGoBy_33 : decode cX4_letDaysGoBy 33 = .ok (.goto (-24), 3) := by decide +kernel
theorem dX4_letDaysGoBy_36 : decode cX4_letDaysGoBy 36 = .ok (.aload_n 0, 1) := by decide +kernel
theorem dX4_letDaysGoBy_37 : decode cX4_letDaysGoBy 37 = .ok (.dup, 1) := by decide +kernel
theorem dX4_letDaysGoBy_38 : decode cX4_letDaysGoBy 38 = .ok (.getfield 15, 3) := by decide +kernel
theorem dX4_letDaysGoBy_41 : decode cX4_letDaysGoBy 41 = .ok (.iconst 1, 1) := by decide +kernel
theorem dX4_letDaysGoBy_42 : decode cX4_letDaysGoBy 42 = .ok (.iadd, 1) := by decide +kernel
theorem dX4_letDaysGoBy_43 : decode cX4_letDaysGoBy 43 = .ok (.putfield 15, 3) := by decide +kernel
theorem dX4_letDaysGoBy_46 : decode cX4_letDaysGoBy 46 = .ok (.iinc 2 1, 3) := by decide +kernel
theorem dX4_letDaysGoBy_49 : decode cX4_letDaysGoBy 49 = .ok (.goto (-47), 3) := by decide +kernel
theorem dX4_letDaysGoBy_52 : decode cX4_letDaysGoBy 52 = .ok (.return_, 1) := by decide +kernel
theorem dX4_countGoodDrills_0 : decode cX4_countGoodDrills 0 = .ok (.iconst 0, 1) := by decide +kernel
theorem dX4_countGoodDrills_1 : decode cX4_countGoodDrills 1 = .ok (.istore_n 1, 1) := by decide +kernel
theorem dX4_countGoodDrills_2 : decode cX4_countGoodDrills 2 = .ok (.iconst 0, 1) := by decide +kernel
theorem dX4_countGoodDrills_3 : decode cX4_countGoodDrills 3 = .ok (.istore_n 2, 1) := by decide +kernel
theorem dX4_countGoodDrills_4 : decode cX4_countGoodDrills 4 = .ok (.iload_n 2, 1) := by decide +kernel
theorem dX4_countGoodDrills_5 : decode cX4_countGoodDrills 5 = .ok (.bipush 12, 2) := by decide +kernel
theorem dX4_countGoodDrills_7 : decode cX4_countGoodDrills 7 = .ok (.if_icmp .ge 25, 3) := by decide +kernel
theorem dX4_countGoodDrills_10 : decode cX4_countGoodDrills 10 = .ok (.aload_n 0, 1) := by decide +kernel
theorem dX4_countGoodDrills_11 : decode cX4_countGoodDrills 11 = .ok (.aload_n 0, 1) := by decide +kernel
theorem dX4_countGoodDrills_12 : decode cX4_countGoodDrills 12 = .ok (.getfield 21, 3) := by decide +kernel
theorem dX4_countGoodDrills_15 : decode cX4_countGoodDrills 15 = .ok (.iload_n 2, 1) := by decide +kernel
theorem dX4_countGoodDrills_16 : decode cX4_countGoodDrills 16 = .ok (.aaload, 1) := by decide +kernel
theorem dX4_countGoodDrills_17 : decode cX4_countGoodDrills 17 = .ok (.invokevirtual 82, 3) := by decide +kernel
theorem dX4_countGoodDrills_20 : decode cX4_countGoodDrills 20 = .ok (.ifCond .eq 6, 3) := by decide +kernel
theorem dX4_countGoodDrills_23 : decode cX4_countGoodDrills 23 = .ok (.iinc 1 1, 3) := by decide +kernel
theorem dX4_countGoodDrills_26 : decode cX4_countGoodDrills 26 = .ok (.iinc 2 1, 3) := by decide +kernel
theorem dX4_countGoodDrills_29 : decode cX4_countGoodDrills 29 = .ok (.goto (-25), 3) := by decide +kernel
theorem dX4_countGoodDrills_32 : decode cX4_countGoodDrills 32 = .ok (.iload_n 1, 1) := by decide +kernel
theorem dX4_countGoodDrills_33 : decode cX4_countGoodDrills 33 = .ok (.ireturn, 1) := by decide +kernel
theorem dX4_countCracks_0 : decode cX4_countCracks 0 = .ok (.iconst 0, 1) := by decide +kernel
theorem dX4_countCracks_1 : decode cX4_countCracks 1 = .ok (.istore_n 1, 1) := by decide +kernel
theorem dX4_countCracks_2 : decode cX4_countCracks 2 = .ok (.iconst 0, 1) := by decide +kernel
theorem dX4_countCracks_3 : decode cX4_countCracks 3 = .ok (.istore_n 2, 1) := by decide +kernel
theorem dX4_countCracks_4 : decode cX4_countCracks 4 = .ok (.iload_n 2, 1) := by decide +kernel
theorem dX4_countCracks_5 : decode cX4_countCracks 5 = .ok (.bipush 12, 2) := by decide +kernel
theorem dX4_countCracks_7 : decode cX4_countCracks 7 = .ok (.if_icmp .ge 21, 3) := by decide +kernel
theorem dX4_countCracks_10 : decode cX4_countCracks 10 = .ok (.iload_n 1, 1) := by decide +kernel
theorem dX4_countCracks_11 : decode cX4_countCracks 11 = .ok (.aload_n 0, 1) := by decide +kernel
theorem dX4_countCracks_12 : decode cX4_countCracks 12 = .ok (.getfield 21, 3) := by decide +kernel
theorem dX4_countCracks_15 : decode cX4_countCracks 15 = .ok (.iload_n 2, 1) := by decide +kernel
theorem dX4_countCracks_16 : decode cX4_countCracks 16 = .ok (.aaload, 1) := by decide +kernel
theorem dX4_countCracks_17 : decode cX4_countCracks 17 = .ok (.getfield 75, 3) := by decide +kernel
theorem dX4_countCracks_20 : decode cX4_countCracks 20 = .ok (.iadd, 1) := by decide +kernel
theorem dX4_countCracks_21 : decode cX4_countCracks 21 = .ok (.istore_n 1, 1) := by decide +kernel
theorem dX4_countCracks_22 : decode cX4_countCracks 22 = .ok (.iinc 2 1, 3) := by decide +kernel
theorem dX4_countCracks_25 : decode cX4_countCracks 25 = .ok (.goto (-21), 3) := by decide +kernel
theorem dX4_countCracks_28 : decode cX4_countCracks 28 = .ok (.iload_n 1, 1) := by decide +kernel
theorem dX4_countCracks_29 : decode cX4_countCracks 29 = .ok (.ireturn, 1) := by decide +kernel
theorem dX4_countInRows_0 : decode cX4_countInRows 0 = .ok (.iconst 0, 1) := by decide +kernel
theorem dX4_countInRows_1 : decode cX4_countInRows 1 = .ok (.istore_n 1, 1) := by decide +kernel
theorem dX4_countInRows_2 : decode cX4_countInRows 2 = .ok (.iconst 0, 1) := by decide +kernel
theorem dX4_countInRows_3 : decode cX4_countInRows 3 = .ok (.istore_n 2, 1) := by decide +kernel
theorem dX4_countInRows_4 : decode cX4_countInRows 4 = .ok (.iload_n 2, 1) := by decide +kernel
theorem dX4_countInRows_5 : decode cX4_countInRows 5 = .ok (.aload_n 0, 1) := by decide +kernel
theorem dX4_countInRows_6 : decode cX4_countInRows 6 = .ok (.getfield 27, 3) := by decide +kernel
theorem dX4_countInRows_9 : decode cX4_countInRows 9 = .ok (.arraylength, 1) := by decide +kernel
theorem dX4_countInRows_10 : decode cX4_countInRows 10 = .ok (.if_icmp .ge 21, 3) := by decide +kernel
theorem dX4_countInRows_13 : decode cX4_countInRows 13 = .ok (.aload_n 0, 1) := by decide +kernel
theorem dX4_countInRows_14 : decode cX4_countInRows 14 = .ok (.getfield 27, 3) := by decide +kernel
theorem dX4_countInRows_17 : decode cX4_countInRows 17 = .ok (.iload_n 2, 1) := by decide +kernel
theorem dX4_countInRows_18 : decode cX4_countInRows 18 = .ok (.aaload, 1) := by decide +kernel
theorem dX4_countInRows_19 : decode cX4_countInRows 19 = .ok (.ifnull 6, 3) := by decide +kernel
theorem dX4_countInRows_22 : decode cX4_countInRows 22 = .ok (.iinc 1 1, 3) := by decide +kernel
theorem dX4_countInRows_25 : decode cX4_countInRows 25 = .ok (.iinc 2 1, 3) := by decide +kernel
theorem dX4_countInRows_28 : decode cX4_countInRows 28 = .ok (.goto (-24), 3) := by decide +kernel
theorem dX4_countInRows_31 : decode cX4_countInRows 31 = .ok (.iload_n 1, 1) := by decide +kernel
theorem dX4_countInRows_32 : decode cX4_countInRows 32 = .ok (.ireturn, 1) := by decide +kernel
theorem dX4_countStarted_0 : decode cX4_countStarted 0 = .ok (.iconst 0, 1) := by decide +kernel
theorem dX4_countStarted_1 : decode cX4_countStarted 1 = .ok (.istore_n 1, 1) := by decide +kernel
theorem dX4_countStarted_2 : decode cX4_countStarted 2 = .ok (.iconst 0, 1) := by decide +kernel
theorem dX4_countStarted_3 : decode cX4_countStarted 3 = .ok (.istore_n 2, 1) := by decide +kernel
theorem dX4_countStarted_4 : decode cX4_countStarted 4 = .ok (.iload_n 2, 1) := by decide +kernel
theorem dX4_countStarted_5 : decode cX4_countStarted 5 = .ok (.aload_n 0, 1) := by decide +kernel
theorem dX4_countStarted_6 : decode cX4_countStarted 6 = .ok (.getfield 37, 3) := by decide +kernel
theorem dX4_countStarted_9 : decode cX4_countStarted 9 = .ok (.if_icmp .ge 24, 3) := by decide +kernel
theorem dX4_countStarted_12 : decode cX4_countStarted 12 = .ok (.aload_n 0, 1) := by decide +kernel
theorem dX4_countStarted_13 : decode cX4_countStarted 13 = .ok (.getfield 33, 3) := by decide +kernel
theorem dX4_countStarted_16 : decode cX4_countStarted 16 = .ok (.iload_n 2, 1) := by decide +kernel
theorem dX4_countStarted_17 : decode cX4_countStarted 17 = .ok (.aaload, 1) := by decide +kernel
theorem dX4_countStarted_18 : decode cX4_countStarted 18 = .ok (.invokevirtual 100, 3) := by decide +kernel
theorem dX4_countStarted_21 : decode cX4_countStarted 21 = .ok (.ifCond .eq 6, 3) := by decide +kernel
theorem dX4_countStarted_24 : decode cX4_countStarted 24 = .ok (.iinc 1 1, 3) := by decide +kernel
theorem dX4_countStarted_27 : decode cX4_countStarted 27 = .ok (.iinc 2 1, 3) := by decide +kernel
theorem dX4_countStarted_30 : decode cX4_countStarted 30 = .ok (.goto (-26), 3) := by decide +kernel
theorem dX4_countStarted_33 : decode cX4_countStarted 33 = .ok (.iload_n 1, 1) := by decide +kernel
theorem dX4_countStarted_34 : decode cX4_countStarted 34 = .ok (.ireturn, 1) := by decide +kernel
theorem dX4_countDone_0 : decode cX4_countDone 0 = .ok (.iconst 0, 1) := by decide +kernel
theorem dX4_countDone_1 : decode cX4_countDone 1 = .ok (.istore_n 1, 1) := by decide +kernel
theorem dX4_countDone_2 : decode cX4_countDone 2 = .ok (.iconst 0, 1) := by decide +kernel
theorem dX4_countDone_3 : decode cX4_countDone 3 = .ok (.istore_n 2, 1) := by decide +kernel
theorem dX4_countDone_4 : decode cX4_countDone 4 = .ok (.iload_n 2, 1) := by decide +kernel
theorem dX4_countDone_5 : decode cX4_countDone 5 = .ok (.aload_n 0, 1) := by decide +kernel
theorem dX4_countDone_6 : decode cX4_countDone 6 = .ok (.getfield 37, 3) := by decide +kernel
theorem dX4_countDone_9 : decode cX4_countDone 9 = .ok (.if_icmp .ge 24, 3) := by decide +kernel
theorem dX4_countDone_12 : decode cX4_countDone 12 = .ok (.aload_n 0, 1) := by decide +kernel
theorem dX4_countDone_13 : decode cX4_countDone 13 = .ok (.getfield 33, 3) := by decide +kernel
theorem dX4_countDone_16 : decode cX4_countDone 16 = .ok (.iload_n 2, 1) := by decide +kernel
theorem dX4_countDone_17 : decode cX4_countDone 17 = .ok (.aaload, 1) := by decide +kernel
theorem dX4_countDone_18 : decode cX4_countDone 18 = .ok (.invokevirtual 114, 3) := by decide +kernel
theorem dX4_countDone_21 : decode cX4_countDone 21 = .ok (.ifCond .eq 6, 3) := by decide +kernel
theorem dX4_countDone_24 : decode cX4_countDone 24 = .ok (.iinc 1 1, 3) := by decide +kernel
theorem dX4_countDone_27 : decode cX4_countDone 27 = .ok (.iinc 2 1, 3) := by decide +kernel
theorem dX4_countDone_30 : decode cX4_countDone 30 = .ok (.goto (-26), 3) := by decide +kernel
theorem dX4_countDone_33 : decode cX4_countDone 33 = .ok (.iload_n 1, 1) := by decide +kernel
theorem dX4_countDone_34 : decode cX4_countDone 34 = .ok (.ireturn, 1) := by decide +kernel
theorem dX4_countOnRoad_0 : decode cX4_countOnRoad 0 = .ok (.iconst 0, 1) := by decide +kernel
theorem dX4_countOnRoad_1 : decode cX4_countOnRoad 1 = .ok (.istore_n 1, 1) := by decide +kernel
theorem dX4_countOnRoad_2 : decode cX4_countOnRoad 2 = .ok (.iconst 0, 1) := by decide +kernel
theorem dX4_countOnRoad_3 : decode cX4_countOnRoad 3 = .ok (.istore_n 2, 1) := by decide +kernel
theorem dX4_countOnRoad_4 : decode cX4_countOnRoad 4 = .ok (.iload_n 2, 1) := by decide +kernel
theorem dX4_countOnRoad_5 : decode cX4_countOnRoad 5 = .ok (.aload_n 0, 1) := by decide +kernel
theorem dX4_countOnRoad_6 : decode cX4_countOnRoad 6 = .ok (.getfield 37, 3) := by decide +kernel
theorem dX4_countOnRoad_9 : decode cX4_countOnRoad 9 = .ok (.if_icmp .ge 21, 3) := by decide +kernel
theorem dX4_countOnRoad_12 : decode cX4_countOnRoad 12 = .ok (.iload_n 1, 1) := by decide +kernel
theorem dX4_countOnRoad_13 : decode cX4_countOnRoad 13 = .ok (.aload_n 0, 1) := by decide +kernel
theorem dX4_countOnRoad_14 : decode cX4_countOnRoad 14 = .ok (.getfield 33, 3) := by decide +kernel
theorem dX4_countOnRoad_17 : decode cX4_countOnRoad 17 = .ok (.iload_n 2, 1) := by decide +kernel
theorem dX4_countOnRoad_18 : decode cX4_countOnRoad 18 = .ok (.aaload, 1) := by decide +kernel
theorem dX4_countOnRoad_19 : decode cX4_countOnRoad 19 = .ok (.invokevirtual 164, 3) := by decide +kernel
theorem dX4_countOnRoad_22 : decode cX4_countOnRoad 22 = .ok (.iadd, 1) := by decide +kernel
theorem dX4_countOnRoad_23 : decode cX4_countOnRoad 23 = .ok (.istore_n 1, 1) := by decide +kernel
theorem dX4_countOnRoad_24 : decode cX4_countOnRoad 24 = .ok (.iinc 2 1, 3) := by decide +kernel
theorem dX4_countOnRoad_27 : decode cX4_countOnRoad 27 = .ok (.goto (-23), 3) := by decide +kernel
theorem dX4_countOnRoad_30 : decode cX4_countOnRoad 30 = .ok (.iload_n 1, 1) := by decide +kernel
theorem dX4_countOnRoad_31 : decode cX4_countOnRoad 31 = .ok (.ireturn, 1) := by decide +kernel
theorem dX4_countArrived_0 : decode cX4_countArrived 0 = .ok (.iconst 0, 1) := by decide +kernel
theorem dX4_countArrived_1 : decode cX4_countArrived 1 = .ok (.istore_n 1, 1) := by decide +kernel
theorem dX4_countArrived_2 : decode cX4_countArrived 2 = .ok (.iconst 0, 1) := by decide +kernel
theorem dX4_countArrived_3 : decode cX4_countArrived 3 = .ok (.istore_n 2, 1) := by decide +kernel
theorem dX4_countArrived_4 : decode cX4_countArrived 4 = .ok (.iload_n 2, 1) := by decide +kernel
theorem dX4_countArrived_5 : decode cX4_countArrived 5 = .ok (.aload_n 0, 1) := by decide +kernel
theorem dX4_countArrived_6 : decode cX4_countArrived 6 = .ok (.getfield 37, 3) := by decide +kernel
theorem dX4_countArrived_9 : decode cX4_countArrived 9 = .ok (.if_icmp .ge 21, 3) := by decide +kernel
theorem dX4_countArrived_12 : decode cX4_countArrived 12 = .ok (.iload_n 1, 1) := by decide +kernel
theorem dX4_countArrived_13 : decode cX4_countArrived 13 = .ok (.aload_n 0, 1) := by decide +kernel
theorem dX4_countArrived_14 : decode cX4_countArrived 14 = .ok (.getfield 33, 3) := by decide +kernel
theorem dX4_countArrived_17 : decode cX4_countArrived 17 = .ok (.iload_n 2, 1) := by decide +kernel
theorem dX4_countArrived_18 : decode cX4_countArrived 18 = .ok (.aaload, 1) := by decide +kernel
theorem dX4_countArrived_19 : decode cX4_countArrived 19 = .ok (.invokevirtual 168, 3) := by decide +kernel
theorem dX4_countArrived_22 : decode cX4_countArrived 22 = .ok (.iadd, 1) := by decide +kernel
theorem dX4_countArrived_23 : decode cX4_countArrived 23 = .ok (.istore_n 1, 1) := by decide +kernel
theorem dX4_countArrived_24 : decode cX4_countArrived 24 = .ok (.iinc 2 1, 3) := by decide +kernel
theorem dX4_countArrived_27 : decode cX4_countArrived 27 = .ok (.goto (-23), 3) := by decide +kernel
theorem dX4_countArrived_30 : decode cX4_countArrived 30 = .ok (.iload_n 1, 1) := by decide +kernel
theorem dX4_countArrived_31 : decode cX4_countArrived 31 = .ok (.ireturn, 1) := by decide +kernel
theorem dX4_tonnesInRows_0 : decode cX4_tonnesInRows 0 = .ok (.iconst 0, 1) := by decide +kernel
theorem dX4_tonnesInRows_1 : decode cX4_tonnesInRows 1 = .ok (.istore_n 1, 1) := by decide +kernel
theorem dX4_tonnesInRows_2 : decode cX4_tonnesInRows 2 = .ok (.iconst 0, 1) := by decide +kernel
theorem dX4_tonnesInRows_3 : decode cX4_tonnesInRows 3 = .ok (.istore_n 2, 1) := by decide +kernel
theorem dX4_tonnesInRows_4 : decode cX4_tonnesInRows 4 = .ok (.iload_n 2, 1) := by decide +kernel
theorem dX4_tonnesInRows_5 : decode cX4_tonnesInRows 5 = .ok (.aload_n 0, 1) := by decide +kernel
theorem dX4_tonnesInRows_6 : decode cX4_tonnesInRows 6 = .ok (.getfield 27, 3) := by decide +kernel
theorem dX4_tonnesInRows_9 : decode cX4_tonnesInRows 9 = .ok (.arraylength, 1) := by decide +kernel
theorem dX4_tonnesInRows_10 : decode cX4_tonnesInRows 10 = .ok (.if_icmp .ge 27, 3) := by decide +kernel
theorem dX4_tonnesInRows_13 : decode cX4_tonnesInRows 13 = .ok (.aload_n 0, 1) := by decide +kernel
theorem dX4_tonnesInRows_14 : decode cX4_tonnesInRows 14 = .ok (.getfield 27, 3) := by decide +kernel
theorem dX4_tonnesInRows_17 : decode cX4_tonnesInRows 17 = .ok (.iload_n 2, 1) := by decide +kernel
theorem dX4_tonnesInRows_18 : decode cX4_tonnesInRows 18 = .ok (.aaload, 1) := by decide +kernel
theorem dX4_tonnesInRows_19 : decode cX4_tonnesInRows 19 = .ok (.astore_n 3, 1) := by decide +kernel
theorem dX4_tonnesInRows_20 : decode cX4_tonnesInRows 20 = .ok (.aload_n 3, 1) := by decide +kernel
theorem dX4_tonnesInRows_21 : decode cX4_tonnesInRows 21 = .ok (.ifnull 10, 3) := by decide +kernel
theorem dX4_tonnesInRows_24 : decode cX4_tonnesInRows 24 = .ok (.iload_n 1, 1) := by decide +kernel
theorem dX4_tonnesInRows_25 : decode cX4_tonnesInRows 25 = .ok (.aload_n 3, 1) := by decide +kernel
theorem dX4_tonnesInRows_26 : decode cX4_tonnesInRows 26 = .ok (.getfield 145, 3) := by decide +kernel
theorem dX4_tonnesInRows_29 : decode cX4_tonnesInRows 29 = .ok (.iadd, 1) := by decide +kernel
theorem dX4_tonnesInRows_30 : decode cX4_tonnesInRows 30 = .ok (.istore_n 1, 1) := by decide +kernel
theorem dX4_tonnesInRows_31 : decode cX4_tonnesInRows 31 = .ok (.iinc 2 1, 3) := by decide +kernel
theorem dX4_tonnesInRows_34 : decode cX4_tonnesInRows 34 = .ok (.goto (-30), 3) := by decide +kernel
theorem dX4_tonnesInRows_37 : decode cX4_tonnesInRows 37 = .ok (.iload_n 1, 1) := by decide +kernel
theorem dX4_tonnesInRows_38 : decode cX4_tonnesInRows 38 = .ok (.ireturn, 1) := by decide +kernel
theorem dX4_tonnesUnderWay_0 : decode cX4_tonnesUnderWay 0 = .ok (.iconst 0, 1) := by decide +kernel
theorem dX4_tonnesUnderWay_1 : decode cX4_tonnesUnderWay 1 = .ok (.istore_n 1, 1) := by decide +kernel
theorem dX4_tonnesUnderWay_2 : decode cX4_tonnesUnderWay 2 = .ok (.iconst 0, 1) := by decide +kernel
theorem dX4_tonnesUnderWay_3 : decode cX4_tonnesUnderWay 3 = .ok (.istore_n 2, 1) := by decide +kernel
theorem dX4_tonnesUnderWay_4 : decode cX4_tonnesUnderWay 4 = .ok (.iload_n 2, 1) := by decide +kernel
theorem dX4_tonnesUnderWay_5 : decode cX4_tonnesUnderWay 5 = .ok (.aload_n 0, 1) := by decide +kernel
theorem dX4_tonnesUnderWay_6 : decode cX4_tonnesUnderWay 6 = .ok (.getfield 37, 3) := by decide +kernel
theorem dX4_tonnesUnderWay_9 : decode cX4_tonnesUnderWay 9 = .ok (.if_icmp .ge 21, 3) := by decide +kernel
theorem dX4_tonnesUnderWay_12 : decode cX4_tonnesUnderWay 12 = .ok (.iload_n 1, 1) := by decide +kernel
theorem dX4_tonnesUnderWay_13 : decode cX4_tonnesUnderWay 13 = .ok (.aload_n 0, 1) := by decide +kernel
theorem dX4_tonnesUnderWay_14 : decode cX4_tonnesUnderWay 14 = .ok (.getfield 33, 3) := by decide +kernel
theorem dX4_tonnesUnderWay_17 : decode cX4_tonnesUnderWay 17 = .ok (.iload_n 2, 1) := by decide +kernel
theorem dX4_tonnesUnderWay_18 : decode cX4_tonnesUnderWay 18 = .ok (.aaload, 1) := by decide +kernel
theorem dX4_tonnesUnderWay_19 : decode cX4_tonnesUnderWay 19 = .ok (.invokevirtual 171, 3) := by decide +kernel
theorem dX4_tonnesUnderWay_22 : decode cX4_tonnesUnderWay 22 = .ok (.iadd, 1) := by decide +kernel
theorem dX4_tonnesUnderWay_23 : decode cX4_tonnesUnderWay 23 = .ok (.istore_n 1, 1) := by decide +kernel
theorem dX4_tonnesUnderWay_24 : decode cX4_tonnesUnderWay 24 = .ok (.iinc 2 1, 3) := by decide +kernel
theorem dX4_tonnesUnderWay_27 : decode cX4_tonnesUnderWay 27 = .ok (.goto (-23), 3) := by decide +kernel
theorem dX4_tonnesUnderWay_30 : decode cX4_tonnesUnderWay 30 = .ok (.iload_n 1, 1) := by decide +kernel
theorem dX4_tonnesUnderWay_31 : decode cX4_tonnesUnderWay 31 = .ok (.ireturn, 1) := by decide +kernel
theorem dX4_hasOneTruckAMile_0 : decode cX4_hasOneTruckAMile 0 = .ok (.iconst 0, 1) := by decide +kernel
theorem dX4_hasOneTruckAMile_1 : decode cX4_hasOneTruckAMile 1 = .ok (.istore_n 1, 1) := by decide +kernel
theorem dX4_hasOneTruckAMile_2 : decode cX4_hasOneTruckAMile 2 = .ok (.iconst 0, 1) := by decide +kernel
theorem dX4_hasOneTruckAMile_3 : decode cX4_hasOneTruckAMile 3 = .ok (.istore_n 2, 1) := by decide +kernel
theorem dX4_hasOneTruckAMile_4 : decode cX4_hasOneTruckAMile 4 = .ok (.iload_n 2, 1) := by decide +kernel
theorem dX4_hasOneTruckAMile_5 : decode cX4_hasOneTruckAMile 5 = .ok (.aload_n 0, 1) := by decide +kernel
theorem dX4_hasOneTruckAMile_6 : decode cX4_hasOneTruckAMile 6 = .ok (.getfield 37, 3) := by decide +kernel
theorem dX4_hasOneTruckAMile_9 : decode cX4_hasOneTruckAMile 9 = .ok (.if_icmp .ge 68, 3) := by decide +kernel
theorem dX4_hasOneTruckAMile_12 : decode cX4_hasOneTruckAMile 12 = .ok (.iconst 0, 1) := by decide +kernel
theorem dX4_hasOneTruckAMile_13 : decode cX4_hasOneTruckAMile 13 = .ok (.istore_n 3, 1) := by decide +kernel
theorem dX4_hasOneTruckAMile_14 : decode cX4_hasOneTruckAMile 14 = .ok (.iload_n 3, 1) := by decide +kernel
theorem dX4_hasOneTruckAMile_15 : decode cX4_hasOneTruckAMile 15 = .ok (.aload_n 0, 1) := by decide +kernel
theorem dX4_hasOneTruckAMile_16 : decode cX4_hasOneTruckAMile 16 = .ok (.getfield 33, 3) := by decide +kernel
theorem dX4_hasOneTruckAMile_19 : decode cX4_hasOneTruckAMile 19 = .ok (.iload_n 2, 1) := by decide +kernel
theorem dX4_hasOneTruckAMile_20 : decode cX4_hasOneTruckAMile 20 = .ok (.aaload, 1) := by decide +kernel
theorem dX4_hasOneTruckAMile_21 : decode cX4_hasOneTruckAMile 21 = .ok (.getfield 108, 3) := by decide +kernel
theorem dX4_hasOneTruckAMile_24 : decode cX4_hasOneTruckAMile 24 = .ok (.if_icmp .ge 47, 3) := by decide +kernel
theorem dX4_hasOneTruckAMile_27 : decode cX4_hasOneTruckAMile 27 = .ok (.aload_n 0, 1) := by decide +kernel
theorem dX4_hasOneTruckAMile_28 : decode cX4_hasOneTruckAMile 28 = .ok (.getfield 33, 3) := by decide +kernel
theorem dX4_hasOneTruckAMile_31 : decode cX4_hasOneTruckAMile 31 = .ok (.iload_n 2, 1) := by decide +kernel
theorem dX4_hasOneTruckAMile_32 : decode cX4_hasOneTruckAMile 32 = .ok (.aaload, 1) := by decide +kernel
theorem dX4_hasOneTruckAMile_33 : decode cX4_hasOneTruckAMile 33 = .ok (.iload_n 3, 1) := by decide +kernel
theorem dX4_hasOneTruckAMile_34 : decode cX4_hasOneTruckAMile 34 = .ok (.invokevirtual 138, 3) := by decide +kernel
theorem dX4_hasOneTruckAMile_37 : decode cX4_hasOneTruckAMile 37 = .ok (.istore 4, 2) := by decide +kernel
theorem dX4_hasOneTruckAMile_39 : decode cX4_hasOneTruckAMile 39 = .ok (.iload 4, 2) := by decide +kernel
theorem dX4_hasOneTruckAMile_41 : decode cX4_hasOneTruckAMile 41 = .ok (.invokestatic 123, 3) := by decide +kernel
theorem dX4_hasOneTruckAMile_44 : decode cX4_hasOneTruckAMile 44 = .ok (.ifCond .eq 21, 3) := by decide +kernel
theorem dX4_hasOneTruckAMile_47 : decode cX4_hasOneTruckAMile 47 = .ok (.iload_n 1, 1) := by decide +kernel
theorem dX4_hasOneTruckAMile_48 : decode cX4_hasOneTruckAMile 48 = .ok (.iconst 1, 1) := by decide +kernel
theorem dX4_hasOneTruckAMile_49 : decode cX4_hasOneTruckAMile 49 = .ok (.iload 4, 2) := by decide +kernel
theorem dX4_hasOneTruckAMile_51 : decode cX4_hasOneTruckAMile 51 = .ok (.ishl, 1) := by decide +kernel
theorem dX4_hasOneTruckAMile_52 : decode cX4_hasOneTruckAMile 52 = .ok (.iand, 1) := by decide +kernel
theorem dX4_hasOneTruckAMile_53 : decode cX4_hasOneTruckAMile 53 = .ok (.ifCond .eq 5, 3) := by decide +kernel
theorem dX4_hasOneTruckAMile_56 : decode cX4_hasOneTruckAMile 56 = .ok (.iconst 0, 1) := by decide +kernel
theorem dX4_hasOneTruckAMile_57 : decode cX4_hasOneTruckAMile 57 = .ok (.ireturn, 1) := by decide +kernel
theorem dX4_hasOneTruckAMile_58 : decode cX4_hasOneTruckAMile 58 = .ok (.iload_n 1, 1) := by decide +kernel
theorem dX4_hasOneTruckAMile_59 : decode cX4_hasOneTruckAMile 59 = .ok (.iconst 1, 1) := by decide +kernel
theorem dX4_hasOneTruckAMile_60 : decode cX4_hasOneTruckAMile 60 = .ok (.iload 4, 2) := by decide +kernel
theorem dX4_hasOneTruckAMile_62 : decode cX4_hasOneTruckAMile 62 = .ok (.ishl, 1) := by decide +kernel
theorem dX4_hasOneTruckAMile_63 : decode cX4_hasOneTruckAMile 63 = .ok (.ior, 1) := by decide +kernel
theorem dX4_hasOneTruckAMile_64 : decode cX4_hasOneTruckAMile 64 = .ok (.istore_n 1, 1) := by decide +kernel
theorem dX4_hasOneTruckAMile_65 : decode cX4_hasOneTruckAMile 65 = .ok (.iinc 3 1, 3) := by decide +kernel
theorem dX4_hasOneTruckAMile_68 : decode cX4_hasOneTruckAMile 68 = .ok (.goto (-54), 3) := by decide +kernel
theorem dX4_hasOneTruckAMile_71 : decode cX4_hasOneTruckAMile 71 = .ok (.iinc 2 1, 3) := by decide +kernel
theorem dX4_hasOneTruckAMile_74 : decode cX4_hasOneTruckAMile 74 = .ok (.goto (-70), 3) := by decide +kernel
theorem dX4_hasOneTruckAMile_77 : decode cX4_hasOneTruckAMile 77 = .ok (.iconst 1, 1) := by decide +kernel
theorem dX4_hasOneTruckAMile_78 : decode cX4_hasOneTruckAMile 78 = .ok (.ireturn, 1) := by decide +kernel
theorem dX4_isIceInRange_0 : decode cX4_isIceInRange 0 = .ok (.iconst 0, 1) := by decide +kernel
theorem dX4_isIceInRange_1 : decode cX4_isIceInRange 1 = .ok (.istore_n 1, 1) := by decide +kernel
theorem dX4_isIceInRange_2 : decode cX4_isIceInRange 2 = .ok (.iload_n 1, 1) := by decide +kernel
theorem dX4_isIceInRange_3 : decode cX4_isIceInRange 3 = .ok (.bipush 12, 2) := by decide +kernel
theorem dX4_isIceInRange_5 : decode cX4_isIceInRange 5 = .ok (.if_icmp .ge 40, 3) := by decide +kernel
theorem dX4_isIceInRange_8 : decode cX4_isIceInRange 8 = .ok (.aload_n 0, 1) := by decide +kernel
theorem dX4_isIceInRange_9 : decode cX4_isIceInRange 9 = .ok (.getfield 21, 3) := by decide +kernel
theorem dX4_isIceInRange_12 : decode cX4_isIceInRange 12 = .ok (.iload_n 1, 1) := by decide +kernel
theorem dX4_isIceInRange_13 : decode cX4_isIceInRange 13 = .ok (.aaload, 1) := by decide +kernel
theorem dX4_isIceInRange_14 : decode cX4_isIceInRange 14 = .ok (.getfield 65, 3) := by decide +kernel
theorem dX4_isIceInRange_17 : decode cX4_isIceInRange 17 = .ok (.fconst 0, 1) := by decide +kernel
theorem dX4_isIceInRange_18 : decode cX4_isIceInRange 18 = .ok (.fcmp .g, 1) := by decide +kernel
theorem dX4_isIceInRange_19 : decode cX4_isIceInRange 19 = .ok (.ifCond .lt 18, 3) := by decide +kernel
theorem dX4_isIceInRange_22 : decode cX4_isIceInRange 22 = .ok (.aload_n 0, 1) := by decide +kernel
theorem dX4_isIceInRange_23 : decode cX4_isIceInRange 23 = .ok (.getfield 21, 3) := by decide +kernel
theorem dX4_isIceInRange_26 : decode cX4_isIceInRange 26 = .ok (.iload_n 1, 1) := by decide +kernel
theorem dX4_isIceInRange_27 : decode cX4_isIceInRange 27 = .ok (.aaload, 1) := by decide +kernel
theorem dX4_isIceInRange_28 : decode cX4_isIceInRange 28 = .ok (.getfield 65, 3) := by decide +kernel
theorem dX4_isIceInRange_31 : decode cX4_isIceInRange 31 = .ok (.ldc 174, 2) := by decide +kernel
theorem dX4_isIceInRange_33 : decode cX4_isIceInRange 33 = .ok (.fcmp .l, 1) := by decide +kernel
theorem dX4_isIceInRange_34 : decode cX4_isIceInRange 34 = .ok (.ifCond .le 5, 3) := by decide +kernel
theorem dX4_isIceInRange_37 : decode cX4_isIceInRange 37 = .ok (.iconst 0, 1) := by decide +kernel
theorem dX4_isIceInRange_38 : decode cX4_isIceInRange 38 = .ok (.ireturn, 1) := by decide +kernel
theorem dX4_isIceInRange_39 : decode cX4_isIceInRange 39 = .ok (.iinc 1 1, 3) := by decide +kernel
theorem dX4_isIceInRange_42 : decode cX4_isIceInRange 42 = .ok (.goto (-40), 3) := by decide +kernel
theorem dX4_isIceInRange_45 : decode cX4_isIceInRange 45 = .ok (.iconst 1, 1) := by decide +kernel
theorem dX4_isIceInRange_46 : decode cX4_isIceInRange 46 = .ok (.ireturn, 1) := by decide +kernel
theorem dX5_init_0 : decode cX5_init 0 = .ok (.aload_n 0, 1) := by decide +kernel
theorem dX5_init_1 : decode cX5_init 1 = .ok (.invokespecial 1, 3) := by decide +kernel
theorem dX5_init_4 : decode cX5_init 4 = .ok (.aload_n 0, 1) := by decide +kernel
theorem dX5_init_5 : decode cX5_init 5 = .ok (.iload_n 1, 1) := by decide +kernel
theorem dX5_init_6 : decode cX5_init 6 = .ok (.putfield 7, 3) := by decide +kernel
theorem dX5_init_9 : decode cX5_init 9 = .ok (.aload_n 0, 1) := by decide +kernel
theorem dX5_init_10 : decode cX5_init 10 = .ok (.iload_n 2, 1) := by decide +kernel
theorem dX5_init_11 : decode cX5_init 11 = .ok (.putfield 13, 3) := by decide +kernel
theorem dX5_init_14 : decode cX5_init 14 = .ok (.aload_n 0, 1) := by decide +kernel
theorem dX5_init_15 : decode cX5_init 15 = .ok (.iload_n 3, 1) := by decide +kernel
theorem dX5_init_16 : decode cX5_init 16 = .ok (.putfield 16, 3) := by decide +kernel
theorem dX5_init_19 : decode cX5_init 19 = .ok (.return_, 1) := by decide +kernel
theorem dX5_burden_0 : decode cX5_burden 0 = .ok (.aload_n 0, 1) := by decide +kernel
theorem dX5_burden_1 : decode cX5_burden 1 = .ok (.getfield 7, 3) := by decide +kernel
theorem dX5_burden_4 : decode cX5_burden 4 = .ok (.ifCond .ne 11, 3) := by decide +kernel
theorem dX5_burden_7 : decode cX5_burden 7 = .ok (.aload_n 0, 1) := by decide +kernel
theorem dX5_burden_8 : decode cX5_burden 8 = .ok (.getfield 13, 3) := by decide +kernel
theorem dX5_burden_11 : decode cX5_burden 11 = .ok (.i2f, 1) := by decide +kernel
theorem dX5_burden_12 : decode cX5_burden 12 = .ok (.goto 17, 3) := by decide +kernel
theorem dX5_burden_15 : decode cX5_burden 15 = .ok (.aload_n 0, 1) := by decide +kernel
theorem dX5_burden_16 : decode cX5_burden 16 = .ok (.getfield 13, 3) := by decide +kernel
theorem dX5_burden_19 : decode cX5_burden 19 = .ok (.i2f, 1) := by decide +kernel
theorem dX5_burden_20 : decode cX5_burden 20 = .ok (.ldc 19, 2) := by decide +kernel
theorem dX5_burden_22 : decode cX5_burden 22 = .ok (.aload_n 0, 1) := by decide +kernel
theorem dX5_burden_23 : decode cX5_burden 23 = .ok (.getfield 16, 3) := by decide +kernel
theorem dX5_burden_26 : decode cX5_burden 26 = .ok (.i2f, 1) := by decide +kernel
theorem dX5_burden_27 : decode cX5_burden 27 = .ok (.fmul, 1) := by decide +kernel
theorem dX5_burden_28 : decode cX5_burden 28 = .ok (.fadd, 1) := by decide +kernel
theorem dX5_burden_29 : decode cX5_burden 29 = .ok (.freturn, 1) := by decide +kernel
theorem dX5_strainOnIce_0 : decode cX5_strainOnIce 0 = .ok (.aload_n 0, 1) := by decide +kernel
theorem dX5_strainOnIce_1 : decode cX5_strainOnIce 1 = .ok (.getfield 13, 3) := by decide +kernel
theorem dX5_strainOnIce_4 : decode cX5_strainOnIce 4 = .ok (.bipush 10, 2) := by decide +kernel
theorem dX5_strainOnIce_6 : decode cX5_strainOnIce 6 = .ok (.idiv, 1) := by decide +kernel
theorem dX5_strainOnIce_7 : decode cX5_strainOnIce 7 = .ok (.iconst 1, 1) := by decide +kernel
theorem dX5_strainOnIce_8 : decode cX5_strainOnIce 8 = .ok (.iadd, 1) := by decide +kernel
theorem dX5_strainOnIce_9 : decode cX5_strainOnIce 9 = .ok (.ireturn, 1) := by decide +kernel
theorem dX6_init_0 : decode cX6_init 0 = .ok (.aload_n 0, 1) := by decide +kernel
theorem dX6_init_1 : decode cX6_init 1 = .ok (.invokespecial 3, 3) := by decide +kernel
theorem dX6_init_4 : decode cX6_init 4 = .ok (.aload_n 0, 1) := by decide +kernel
theorem dX6_init_5 : decode cX6_init 5 = .ok (.new 9, 3) := by decide +kernel
theorem dX6_init_8 : decode cX6_init 8 = .ok (.dup, 1) := by decide +kernel
theorem dX6_init_9 : decode cX6_init 9 = .ok (.invokespecial 11, 3) := by decide +kernel
theorem dX6_init_12 : decode cX6_init 12 = .ok (.putfield 12, 3) := by decide +kernel
theorem dX6_init_15 : decode cX6_init 15 = .ok (.aload_n 0, 1) := by decide +kernel
theorem dX6_init_16 : decode cX6_init 16 = .ok (.new 9, 3) := by decide +kernel
theorem dX6_init_19 : decode cX6_init 19 = .ok (.dup, 1) := by decide +kernel
theorem dX6_init_20 : decode cX6_init 20 = .ok (.invokespecial 11, 3) := by decide +kernel
theorem dX6_init_23 : decode cX6_init 23 = .ok (.putfield 16, 3) := by decide +kernel
theorem dX6_init_26 : decode cX6_init 26 = .ok (.aload_n 0, 1) := by decide +kernel
theorem dX6_init_27 : decode cX6_init 27 = .ok (.new 9, 3) := by decide +kernel
theorem dX6_init_30 : decode cX6_init 30 = .ok (.dup, 1) := by decide +kernel
theorem dX6_init_31 : decode cX6_init 31 = .ok (.invokespecial 11, 3) := by decide +kernel
theorem dX6_init_34 : decode cX6_init 34 = .ok (.putfield 19, 3) := by decide +kernel
theorem dX6_init_37 : decode cX6_init 37 = .ok (.aload_n 0, 1) := by decide +kernel
theorem dX6_init_38 : decode cX6_init 38 = .ok (.iconst 0, 1) := by decide +kernel
theorem dX6_init_39 : decode cX6_init 39 = .ok (.putfield 22, 3) := by decide +kernel
theorem dX6_init_42 : decode cX6_init 42 = .ok (.aload_n 0, 1) := by decide +kernel
theorem dX6_init_43 : decode cX6_init 43 = .ok (.new 26, 3) := by decide +kernel
theorem dX6_init_46 : decode cX6_init 46 = .ok (.dup, 1) := by decide +kernel
theorem dX6_init_47 : decode cX6_init 47 = .ok (.invokespecial 28, 3) := by decide +kernel
theorem dX6_init_50 : decode cX6_init 50 = .ok (.putfield 29, 3) := by decide +kernel
theorem dX6_init_53 : decode cX6_init 53 = .ok (.aload_n 0, 1) := by decide +kernel
theorem dX6_init_54 : decode cX6_init 54 = .ok (.new 33, 3) := by decide +kernel
theorem dX6_init_57 : decode cX6_init 57 = .ok (.dup, 1) := by decide +kernel
theorem dX6_init_58 : decode cX6_init 58 = .ok (.invokespecial 35, 3) := by decide +kernel
theorem dX6_init_61 : decode cX6_init 61 = .ok (.putfield 36, 3) := by decide +kernel
theorem dX6_init_64 : decode cX6_init 64 = .ok (.aload_n 0, 1) := by decide +kernel
theorem dX6_init_65 : decode cX6_init 65 = .ok (.iconst (-1), 1) := by decide +kernel
theorem dX6_init_66 : decode cX6_init 66 = .ok (.putfield 40, 3) := by decide +kernel
theorem dX6_init_69 : decode cX6_init 69 = .ok (.aload_n 0, 1) := by decide +kernel
theorem dX6_init_70 : decode cX6_init 70 = .ok (.iconst 0, 1) := by decide +kernel
theorem dX6_init_71 : decode cX6_init 71 = .ok (.putfield 44, 3) := by decide +kernel
theorem dX6_init_74 : decode cX6_init 74 = .ok (.return_, 1) := by decide +kernel
theorem dX6_set_0 : decode cX6_set 0 = .ok (.iload_n 1, 1) := by decide +kernel
theorem dX6_set_1 : decode cX6_set 1 = .ok (.iload_n 2, 1) := by decide +kernel
theorem dX6_set_2 : decode cX6_set 2 = .ok (.invokestatic 47, 3) := by decide +kernel
theorem dX6_set_5 : decode cX6_set 5 = .ok (.ifCond .ne 13, 3) := by decide +kernel
theorem dX6_set_8 : decode cX6_set 8 = .ok (.new 51, 3) := by decide +kernel
theorem dX6_set_11 : decode cX6_set 11 = .ok (.dup, 1) := by decide +kernel
theorem dX6_set_12 : decode cX6_set 12 = .ok (.ldc 53, 2) := by decide +kernel
theorem dX6_set_14 : decode cX6_set 14 = .ok (.invokespecial 55, 3) := by decide +kernel
theorem dX6_set_17 : decode cX6_set 17 = .ok (.athrow, 1) := by decide +kernel
theorem dX6_set_18 : decode cX6_set 18 = .ok (.aload_n 0, 1) := by decide +kernel
theorem dX6_set_19 : decode cX6_set 19 = .ok (.getfield 29, 3) := by decide +kernel
theorem dX6_set_22 : decode cX6_set 22 = .ok (.aload_n 0, 1) := by decide +kernel
theorem dX6_set_23 : decode cX6_set 23 = .ok (.getfield 12, 3) := by decide +kernel
theorem dX6_set_26 : decode cX6_set 26 = .ok (.invokevirtual 58, 3) := by decide +kernel
theorem dX6_set_29 : decode cX6_set 29 = .ok (.aload_n 0, 1) := by decide +kernel
theorem dX6_set_30 : decode cX6_set 30 = .ok (.getfield 12, 3) := by decide +kernel
theorem dX6_set_33 : decode cX6_set 33 = .ok (.getfield 62, 3) := by decide +kernel
theorem dX6_set_36 : decode cX6_set 36 = .ok (.iload_n 1, 1) := by decide +kernel
theorem dX6_set_37 : decode cX6_set 37 = .ok (.iaload, 1) := by decide +kernel
theorem dX6_set_38 : decode cX6_set 38 = .ok (.istore_n 3, 1) := by decide +kernel
theorem dX6_set_39 : decode cX6_set 39 = .ok (.aload_n 0, 1) := by decide +kernel
theorem dX6_set_40 : decode cX6_set 40 = .ok (.getfield 12, 3) := by decide +kernel
theorem dX6_set_43 : decode cX6_set 43 = .ok (.getfield 62, 3) := by decide +kernel
theorem dX6_set_46 : decode cX6_set 46 = .ok (.iload_n 1, 1) := by decide +kernel
theorem dX6_set_47 : decode cX6_set 47 = .ok (.iload_n 2, 1) := by decide +kernel
theorem dX6_set_48 : decode cX6_set 48 = .ok (.iastore, 1) := by decide +kernel
theorem dX6_set_49 : decode cX6_set 49 = .ok (.iload_n 3, 1) := by decide +kernel
theorem dX6_set_50 : decode cX6_set 50 = .ok (.ireturn, 1) := by decide +kernel
theorem dX6_setting_0 : decode cX6_setting 0 = .ok (.iload_n 1, 1) := by decide +kernel
theorem dX6_setting_1 : decode cX6_setting 1 = .ok (.invokestatic 66, 3) := by decide +kernel
theorem dX6_setting_4 : decode cX6_setting 4 = .ok (.ifCond .ne 13, 3) := by decide +kernel
theorem dX6_setting_7 : decode cX6_setting 7 = .ok (.new 51, 3) := by decide +kernel
theorem dX6_setting_10 : decode cX6_setting 10 = .ok (.dup, 1) := by decide +kernel
theorem dX6_setting_11 : decode cX6_setting 11 = .ok (.ldc 70, 2) := by decide +kernel
theorem dX6_setting_13 : decode cX6_setting 13 = .ok (.invokespecial 55, 3) := by decide +kernel
theorem dX6_setting_16 : decode cX6_setting 16 = .ok (.athrow, 1) := by decide +kernel
theorem dX6_setting_17 : decode cX6_setting 17 = .ok (.aload_n 0, 1) := by decide +kernel
theorem dX6_setting_18 : decode cX6_setting 18 = .ok (.getfield 12, 3) := by decide +kernel
theorem dX6_setting_21 : decode cX6_setting 21 = .ok (.getfield 62, 3) := by decide +kernel
theorem dX6_setting_24 : decode cX6_setting 24 = .ok (.iload_n 1, 1) := by decide +kernel
theorem dX6_setting_25 : decode cX6_setting 25 = .ok (.iaload, 1) := by decide +kernel
theorem dX6_setting_26 : decode cX6_setting 26 = .ok (.ireturn, 1) := by decide +kernel
theorem dX6_drill_0 : decode cX6_drill 0 = .ok (.iload_n 1, 1) := by decide +kernel
theorem dX6_drill_1 : decode cX6_drill 1 = .ok (.invokestatic 72, 3) := by decide +kernel
theorem dX6_drill_4 : decode cX6_drill 4 = .ok (.ifCond .ne 13, 3) := by decide +kernel
theorem dX6_drill_7 : decode cX6_drill 7 = .ok (.new 75, 3) := by decide +kernel
theorem dX6_drill_10 : decode cX6_drill 10 = .ok (.dup, 1) := by decide +kernel
theorem dX6_drill_11 : decode cX6_drill 11 = .ok (.ldc 77, 2) := by decide +kernel
theorem dX6_drill_13 : decode cX6_drill 13 = .ok (.invokespecial 79, 3) := by decide +kernel
theorem dX6_drill_16 : decode cX6_drill 16 = .ok (.athrow, 1) := by decide +kernel
theorem dX6_drill_17 : decode cX6_drill 17 = .ok (.aload_n 0, 1) := by decide +kernel
theorem dX6_drill_18 : decode cX6_drill 18 = .ok (.getfield 29, 3) := by decide +kernel
theorem dX6_drill_21 : decode cX6_drill 21 = .ok (.aload_n 0, 1) := by decide +kernel
theorem dX6_drill_22 : decode cX6_drill 22 = .ok (.getfield 12, 3) := by decide +kernel
theorem dX6_drill_25 : decode cX6_drill 25 = .ok (.invokevirtual 58, 3) := by decide +kernel
theorem dX6_drill_28 : decode cX6_drill 28 = .ok (.aload_n 0, 1) := by decide +kernel
theorem dX6_drill_29 : decode cX6_drill 29 = .ok (.getfield 12, 3) := by decide +kernel
theorem dX6_drill_32 : decode cX6_drill 32 = .ok (.aload_n 0, 1) := by decide +kernel
theorem dX6_drill_33 : decode cX6_drill 33 = .ok (.getfield 12, 3) := by decide +kernel
theorem dX6_drill_36 : decode cX6_drill 36 = .ok (.getfield 80, 3) := by decide +kernel
theorem dX6_drill_39 : decode cX6_drill 39 = .ok (.iload_n 1, 1) := by decide +kernel
theorem dX6_drill_40 : decode cX6_drill 40 = .ok (.aaload, 1) := by decide +kernel
theorem dX6_drill_41 : decode cX6_drill 41 = .ok (.invokevirtual 84, 3) := by decide +kernel
theorem dX6_drill_44 : decode cX6_drill 44 = .ok (.aload_n 0, 1) := by decide +kernel
theorem dX6_drill_45 : decode cX6_drill 45 = .ok (.getfield 12, 3) := by decide +kernel
theorem dX6_drill_48 : decode cX6_drill 48 = .ok (.getfield 80, 3) := by decide +kernel
theorem dX6_drill_51 : decode cX6_drill 51 = .ok (.iload_n 1, 1) := by decide +kernel
theorem dX6_drill_52 : decode cX6_drill 52 = .ok (.aaload, 1) := by decide +kernel
theorem dX6_drill_53 : decode cX6_drill 53 = .ok (.getfield 88, 3) := by decide +kernel
theorem dX6_drill_56 : decode cX6_drill 56 = .ok (.invokestatic 94, 3) := by decide +kernel
theorem dX6_drill_59 : decode cX6_drill 59 = .ok (.ireturn, 1) := by decide +kernel
theorem dX6_drilled_0 : decode cX6_drilled 0 = .ok (.iload_n 1, 1) := by decide +kernel
theorem dX6_drilled_1 : decode cX6_drilled 1 = .ok (.invokestatic 72, 3) := by decide +kernel
theorem dX6_drilled_4 : decode cX6_drilled 4 = .ok (.ifCond .ne 13, 3) := by decide +kernel
theorem dX6_drilled_7 : decode cX6_drilled 7 = .ok (.new 75, 3) := by decide +kernel
theorem dX6_drilled_10 : decode cX6_drilled 10 = .ok (.dup, 1) := by decide +kernel
theorem dX6_drilled_11 : decode cX6_drilled 11 = .ok (.ldc 77, 2) := by decide +kernel
theorem dX6_drilled_13 : decode cX6_drilled 13 = .ok (.invokespecial 79, 3) := by decide +kernel
theorem dX6_drilled_16 : decode cX6_drilled 16 = .ok (.athrow, 1) := by decide +kernel
theorem dX6_drilled_17 : decode cX6_drilled 17 = .ok (.aload_n 0, 1) := by decide +kernel
theorem dX6_drilled_18 : decode cX6_drilled 18 = .ok (.getfield 12, 3) := by decide +kernel
theorem dX6_drilled_21 : decode cX6_drilled 21 = .ok (.getfield 80, 3) := by decide +kernel
theorem dX6_drilled_24 : decode cX6_drilled 24 = .ok (.iload_n 1, 1) := by decide +kernel
theorem dX6_drilled_25 : decode cX6_drilled 25 = .ok (.aaload, 1) := by decide +kernel
theorem dX6_drilled_26 : decode cX6_drilled 26 = .ok (.getfield 98, 3) := by decide +kernel
theorem dX6_drilled_29 : decode cX6_drilled 29 = .ok (.ifCond .ge 13, 3) := by decide +kernel
theorem dX6_drilled_32 : decode cX6_drilled 32 = .ok (.new 101, 3) := by decide +kernel
theorem dX6_drilled_35 : decode cX6_drilled 35 = .ok (.dup, 1) := by decide +kernel
theorem dX6_drilled_36 : decode cX6_drilled 36 = .ok (.ldc 103, 2) := by decide +kernel
theorem dX6_drilled_38 : decode cX6_drilled 38 = .ok (.invokespecial 105, 3) := by decide +kernel
theorem dX6_drilled_41 : decode cX6_drilled 41 = .ok (.athrow, 1) := by decide +kernel
theorem dX6_drilled_42 : decode cX6_drilled 42 = .ok (.aload_n 0, 1) := by decide +kernel
theorem dX6_drilled_43 : decode cX6_drilled 43 = .ok (.getfield 12, 3) := by decide +kernel
theorem dX6_drilled_46 : decode cX6_drilled 46 = .ok (.getfield 80, 3) := by decide +kernel
theorem dX6_drilled_49 : decode cX6_drilled 49 = .ok (.iload_n 1, 1) := by decide +kernel
theorem dX6_drilled_50 : decode cX6_drilled 50 = .ok (.aaload, 1) := by decide +kernel
theorem dX6_drilled_51 : decode cX6_drilled 51 = .ok (.getfield 88, 3) := by decide +kernel
theorem dX6_drilled_54 : decode cX6_drilled 54 = .ok (.invokestatic 94, 3) := by decide +kernel
theorem dX6_drilled_57 : decode cX6_drilled 57 = .ok (.ireturn, 1) := by decide +kernel
theorem dX6_mileOf_0 : decode cX6_mileOf 0 = .ok (.iload_n 1, 1) := by decide +kernel
theorem dX6_mileOf_1 : decode cX6_mileOf 1 = .ok (.invokestatic 72, 3) := by decide +kernel
theorem dX6_mileOf_4 : decode cX6_mileOf 4 = .ok (.ifCond .ne 13, 3) := by decide +kernel
theorem dX6_mileOf_7 : decode cX6_mileOf 7 = .ok (.new 75, 3) := by decide +kernel
theorem dX6_mileOf_10 : decode cX6_mileOf 10 = .ok (.dup, 1) := by decide +kernel
theorem dX6_mileOf_11 : decode cX6_mileOf 11 = .ok (.ldc 77, 2) := by decide +kernel
theorem dX6_mileOf_13 : decode cX6_mileOf 13 = .ok (.invokespecial 79, 3) := by decide +kernel
theorem dX6_mileOf_16 : decode cX6_mileOf 16 = .ok (.athrow, 1) := by decide +kernel
theorem dX6_mileOf_17 : decode cX6_mileOf 17 = .ok (.aload_n 0, 1) := by decide +kernel
theorem dX6_mileOf_18 : decode cX6_mileOf 18 = .ok (.getfield 12, 3) := by decide +kernel
theorem dX6_mileOf_21 : decode cX6_mileOf 21 = .ok (.getfield 80, 3) := by decide +kernel
theorem dX6_mileOf_24 : decode cX6_mileOf 24 = .ok (.iload_n 1, 1) := by decide +kernel
theorem dX6_mileOf_25 : decode cX6_mileOf 25 = .ok (.aaload, 1) := by decide +kernel
theorem dX6_mileOf_26 : decode cX6_mileOf 26 = .ok (.astore_n 3, 1) := by decide +kernel
theorem dX6_mileOf_27 : decode cX6_mileOf 27 = .ok (.iload_n 2, 1) := by decide +kernel
theorem dX6_mileOf_28 : decode cX6_mileOf 28 = .ok (.tableswitch 73 0 4 #[36, 41, 46, 51, 68], 36) := by decide +kernel
theorem dX6_mileOf_64 : decode cX6_mileOf 64 = .ok (.aload_n 3, 1) := by decide +kernel
theorem dX6_mileOf_65 : decode cX6_mileOf 65 = .ok (.getfield 106, 3) := by decide +kernel
theorem dX6_mileOf_68 : decode cX6_mileOf 68 = .ok (.ireturn, 1) := by decide +kernel
theorem dX6_mileOf_69 : decode cX6_mileOf 69 = .ok (.aload_n 3, 1) := by decide +kernel
theorem dX6_mileOf_70 : decode cX6_mileOf 70 = .ok (.getfield 109, 3) := by decide +kernel
theorem dX6_mileOf_73 : decode cX6_mileOf 73 = .ok (.ireturn, 1) := by decide +kernel
theorem dX6_mileOf_74 : decode cX6_mileOf 74 = .ok (.aload_n 3, 1) := by decide +kernel
theorem dX6_mileOf_75 : decode cX6_mileOf 75 = .ok (.getfield 98, 3) := by decide +kernel
theorem dX6_mileOf_78 : decode cX6_mileOf 78 = .ok (.ireturn, 1) := by decide +kernel
theorem dX6_mileOf_79 : decode cX6_mileOf 79 = .ok (.aload_n 0, 1) := by decide +kernel
theorem dX6_mileOf_80 : decode cX6_mileOf 80 = .ok (.getfield 12, 3) := by decide +kernel
theorem dX6_mileOf_83 : decode cX6_mileOf 83 = .ok (.aload_n 3, 1) := by decide +kernel
theorem dX6_mileOf_84 : decode cX6_mileOf 84 = .ok (.invokevirtual 112, 3) := by decide +kernel
theorem dX6_mileOf_87 : decode cX6_mileOf 87 = .ok (.ifCond .eq 7, 3) := by decide +kernel
theorem dX6_mileOf_90 : decode cX6_mileOf 90 = .ok (.iconst 1, 1) := by decide +kernel
theorem dX6_mileOf_91 : decode cX6_mileOf 91 = .ok (.goto 4, 3) := by decide +kernel
theorem dX6_mileOf_94 : decode cX6_mileOf 94 = .ok (.iconst 0, 1) := by decide +kernel
theorem dX6_mileOf_95 : decode cX6_mileOf 95 = .ok (.ireturn, 1) := by decide +kernel
theorem dX6_mileOf_96 : decode cX6_mileOf 96 = .ok (.aload_n 3, 1) := by decide +kernel
theorem dX6_mileOf_97 : decode cX6_mileOf 97 = .ok (.getfield 116, 3) := by decide +kernel
theorem dX6_mileOf_100 : decode cX6_mileOf 100 = .ok (.ireturn, 1) := by decide +kernel
theorem dX6_mileOf_101 : decode cX6_mileOf 101 = .ok (.new 51, 3) := by decide +kernel
theorem dX6_mileOf_104 : decode cX6_mileOf 104 = .ok (.dup, 1) := by decide +kernel
theorem dX6_mileOf_105 : decode cX6_mileOf 105 = .ok (.ldc 119, 2) := by decide +kernel
theorem dX6_mileOf_107 : decode cX6_mileOf 107 = .ok (.invokespecial 55, 3) := by decide +kernel
theorem dX6_mileOf_110 : decode cX6_mileOf 110 = .ok (.athrow, 1) := by decide +kernel
theorem dX6_ice_0 : decode cX6_ice 0 = .ok (.iload_n 1, 1) := by decide +kernel
theorem dX6_ice_1 : decode cX6_ice 1 = .ok (.invokestatic 72, 3) := by decide +kernel
theorem dX6_ice_4 : decode cX6_ice 4 = .ok (.ifCond .ne 13, 3) := by decide +kernel
theorem dX6_ice_7 : decode cX6_ice 7 = .ok (.new 75, 3) := by decide +kernel
theorem dX6_ice_10 : decode cX6_ice 10 = .ok (.dup, 1) := by decide +kernel
theorem dX6_ice_11 : decode cX6_ice 11 = .ok (.ldc 77, 2) := by decide +kernel
theorem dX6_ice_13 : decode cX6_ice 13 = .ok (.invokespecial 79, 3) := by decide +kernel
theorem dX6_ice_16 : decode cX6_ice 16 = .ok (.athrow, 1) := by decide +kernel
theorem dX6_ice_17 : decode cX6_ice 17 = .ok (.aload_n 0, 1) := by decide +kernel
theorem dX6_ice_18 : decode cX6_ice 18 = .ok (.getfield 12, 3) := by decide +kernel
theorem dX6_ice_21 : decode cX6_ice 21 = .ok (.getfield 80, 3) := by decide +kernel
theorem dX6_ice_24 : decode cX6_ice 24 = .ok (.iload_n 1, 1) := by decide +kernel
theorem dX6_ice_25 : decode cX6_ice 25 = .ok (.aaload, 1) := by decide +kernel
theorem dX6_ice_26 : decode cX6_ice 26 = .ok (.getfield 121, 3) := by decide +kernel
theorem dX6_ice_29 : decode cX6_ice 29 = .ok (.freturn, 1) := by decide +kernel
theorem dX6_bears_0 : decode cX6_bears 0 = .ok (.iload_n 1, 1) := by decide +kernel
theorem dX6_bears_1 : decode cX6_bears 1 = .ok (.invokestatic 72, 3) := by decide +kernel
theorem dX6_bears_4 : decode cX6_bears 4 = .ok (.ifCond .ne 13, 3) := by decide +kernel
theorem dX6_bears_7 : decode cX6_bears 7 = .ok (.new 75, 3) := by decide +kernel
theorem dX6_bears_10 : decode cX6_bears 10 = .ok (.dup, 1) := by decide +kernel
theorem dX6_bears_11 : decode cX6_bears 11 = .ok (.ldc 77, 2) := by decide +kernel
theorem dX6_bears_13 : decode cX6_bears 13 = .ok (.invokespecial 79, 3) := by decide +kernel
theorem dX6_bears_16 : decode cX6_bears 16 = .ok (.athrow, 1) := by decide +kernel
theorem dX6_bears_17 : decode cX6_bears 17 = .ok (.aload_n 0, 1) := by decide +kernel
theorem dX6_bears_18 : decode cX6_bears 18 = .ok (.getfield 12, 3) := by decide +kernel
theorem dX6_bears_21 : decode cX6_bears 21 = .ok (.aload_n 0, 1) := by decide +kernel
theorem dX6_bears_22 : decode cX6_bears 22 = .ok (.getfield 12, 3) := by decide +kernel
theorem dX6_bears_25 : decode cX6_bears 25 = .ok (.getfield 80, 3) := by decide +kernel
theorem dX6_bears_28 : decode cX6_bears 28 = .ok (.iload_n 1, 1) := by decide +kernel
theorem dX6_bears_29 : decode cX6_bears 29 = .ok (.aaload, 1) := by decide +kernel
theorem dX6_bears_30 : decode cX6_bears 30 = .ok (.invokevirtual 124, 3) := by decide +kernel
theorem dX6_bears_33 : decode cX6_bears 33 = .ok (.invokestatic 94, 3) := by decide +kernel
theorem dX6_bears_36 : decode cX6_bears 36 = .ok (.ireturn, 1) := by decide +kernel
theorem dX6_sign_0 : decode cX6_sign 0 = .ok (.iload_n 1, 1) := by decide +kernel
theorem dX6_sign_1 : decode cX6_sign 1 = .ok (.invokestatic 72, 3) := by decide +kernel
theorem dX6_sign_4 : decode cX6_sign 4 = .ok (.ifCond .ne 13, 3) := by decide +kernel
theorem dX6_sign_7 : decode cX6_sign 7 = .ok (.new 75, 3) := by decide +kernel
theorem dX6_sign_10 : decode cX6_sign 10 = .ok (.dup, 1) := by decide +kernel
theorem dX6_sign_11 : decode cX6_sign 11 = .ok (.ldc 77, 2) := by decide +kernel
theorem dX6_sign_13 : decode cX6_sign 13 = .ok (.invokespecial 79, 3) := by decide +kernel
theorem dX6_sign_16 : decode cX6_sign 16 = .ok (.athrow, 1) := by decide +kernel
theorem dX6_sign_17 : decode cX6_sign 17 = .ok (.aload_n 0, 1) := by decide +kernel
theorem dX6_sign_18 : decode cX6_sign 18 = .ok (.getfield 12, 3) := by decide +kernel
theorem dX6_sign_21 : decode cX6_sign 21 = .ok (.iload_n 1, 1) := by decide +kernel
theorem dX6_sign_22 : decode cX6_sign 22 = .ok (.invokevirtual 128, 3) := by decide +kernel
theorem dX6_sign_25 : decode cX6_sign 25 = .ok (.ifCond .lt 6, 3) := by decide +kernel
theorem dX6_sign_28 : decode cX6_sign 28 = .ok (.bipush 84, 2) := by decide +kernel
theorem dX6_sign_30 : decode cX6_sign 30 = .ok (.ireturn, 1) := by decide +kernel
theorem dX6_sign_31 : decode cX6_sign 31 = .ok (.aload_n 0, 1) := by decide +kernel
theorem dX6_sign_32 : decode cX6_sign 32 = .ok (.getfield 12, 3) := by decide +kernel
theorem dX6_sign_35 : decode cX6_sign 35 = .ok (.getfield 80, 3) := by decide +kernel
theorem dX6_sign_38 : decode cX6_sign 38 = .ok (.iload_n 1, 1) := by decide +kernel
theorem dX6_sign_39 : decode cX6_sign 39 = .ok (.aaload, 1) := by decide +kernel
theorem dX6_sign_40 : decode cX6_sign 40 = .ok (.astore_n 2, 1) := by decide +kernel
theorem dX6_sign_41 : decode cX6_sign 41 = .ok (.aload_n 0, 1) := by decide +kernel
theorem dX6_sign_42 : decode cX6_sign 42 = .ok (.getfield 12, 3) := by decide +kernel
theorem dX6_sign_45 : decode cX6_sign 45 = .ok (.aload_n 2, 1) := by decide +kernel
theorem dX6_sign_46 : decode cX6_sign 46 = .ok (.invokevirtual 112, 3) := by decide +kernel
theorem dX6_sign_49 : decode cX6_sign 49 = .ok (.ifCond .eq 14, 3) := by decide +kernel
theorem dX6_sign_52 : decode cX6_sign 52 = .ok (.bipush 48, 2) := by decide +kernel
theorem dX6_sign_54 : decode cX6_sign 54 = .ok (.aload_n 2, 1) := by decide +kernel
theorem dX6_sign_55 : decode cX6_sign 55 = .ok (.getfield 106, 3) := by decide +kernel
theorem dX6_sign_58 : decode cX6_sign 58 = .ok (.iadd, 1) := by decide +kernel
theorem dX6_sign_59 : decode cX6_sign 59 = .ok (.i2c, 1) := by decide +kernel
theorem dX6_sign_60 : decode cX6_sign 60 = .ok (.goto 5, 3) := by decide +kernel
theorem dX6_sign_63 : decode cX6_sign 63 = .ok (.bipush 63, 2) := by decide +kernel
theorem dX6_sign_65 : decode cX6_sign 65 = .ok (.ireturn, 1) := by decide +kernel
theorem dX6_weakest_0 : decode cX6_weakest 0 = .ok (.iconst 0, 1) := by decide +kernel
theorem dX6_weakest_1 : decode cX6_weakest 1 = .ok (.istore_n 1, 1) := by decide +kernel
theorem dX6_weakest_2 : decode cX6_weakest 2 = .ok (.aload_n 0, 1) := by decide +kernel
theorem dX6_weakest_3 : decode cX6_weakest 3 = .ok (.getfield 12, 3) := by decide +kernel
theorem dX6_weakest_6 : decode cX6_weakest 6 = .ok (.aload_n 0, 1) := by decide +kernel
theorem dX6_weakest_7 : decode cX6_weakest 7 = .ok (.getfield 12, 3) := by decide +kernel
theorem dX6_weakest_10 : decode cX6_weakest 10 = .ok (.getfield 80, 3) := by decide +kernel
theorem dX6_weakest_13 : decode cX6_weakest 13 = .ok (.iconst 0, 1) := by decide +kernel
theorem dX6_weakest_14 : decode cX6_weakest 14 = .ok (.aaload, 1) := by decide +kernel
theorem dX6_weakest_15 : decode cX6_weakest 15 = .ok (.invokevirtual 124, 3) := by decide +kernel
theorem dX6_weakest_18 : decode cX6_weakest 18 = .ok (.fstore_n 2, 1) := by decide +kernel
theorem dX6_weakest_19 : decode cX6_weakest 19 = .ok (.iconst 1, 1) := by decide +kernel
theorem dX6_weakest_20 : decode cX6_weakest 20 = .ok (.istore_n 3, 1) := by decide +kernel
theorem dX6_weakest_21 : decode cX6_weakest 21 = .ok (.iload_n 3, 1) := by decide +kernel
theorem dX6_weakest_22 : decode cX6_weakest 22 = .ok (.bipush 12, 2) := by decide +kernel
theorem dX6_weakest_24 : decode cX6_weakest 24 = .ok (.if_icmp .ge 39, 3) := by decide +kernel
theorem dX6_weakest_27 : decode cX6_weakest 27 = .ok (.aload_n 0, 1) := by decide +kernel
theorem dX6_weakest_28 : decode cX6_weakest 28 = .ok (.getfield 12, 3) := by decide +kernel
theorem dX6_weakest_31 : decode cX6_weakest 31 = .ok (.aload_n 0, 1) := by decide +kernel
theorem dX6_weakest_32 : decode cX6_weakest 32 = .ok (.getfield 12, 3) := by decide +kernel
theorem dX6_weakest_35 : decode cX6_weakest 35 = .ok (.getfield 80, 3) := by decide +kernel
theorem dX6_weakest_38 : decode cX6_weakest 38 = .ok (.iload_n 3, 1) := by decide +kernel
theorem dX6_weakest_39 : decode cX6_weakest 39 = .ok (.aaload, 1) := by decide +kernel
theorem dX6_weakest_40 : decode cX6_weakest 40 = .ok (.invokevirtual 124, 3) := by decide +kernel
theorem dX6_weakest_43 : decode cX6_weakest 43 = .ok (.fstore 4, 2) := by decide +kernel
theorem dX6_weakest_45 : decode cX6_weakest 45 = .ok (.fload 4, 2) := by decide +kernel
theorem dX6_weakest_47 : decode cX6_weakest 47 = .ok (.fload_n 2, 1) := by decide +kernel
theorem dX6_weakest_48 : decode cX6_weakest 48 = .ok (.fcmp .g, 1) := by decide +kernel
theorem dX6_weakest_49 : decode cX6_weakest 49 = .ok (.ifCond .ge 8, 3) := by decide +kernel
theorem dX6_weakest_52 : decode cX6_weakest 52 = .ok (.fload 4, 2) := by decide +kernel
theorem dX6_weakest_54 : decode cX6_weakest 54 = .ok (.fstore_n 2, 1) := by decide +kernel
theorem dX6_weakest_55 : decode cX6_weakest 55 = .ok (.iload_n 3, 1) := by decide +kernel
theorem dX6_weakest_56 : decode cX6_weakest 56 = .ok (.istore_n 1, 1) := by decide +kernel
theorem dX6_weakest_57 : decode cX6_weakest 57 = .ok (.iinc 3 1, 3) := by decide +kernel
theorem dX6_weakest_60 : decode cX6_weakest 60 = .ok (.goto (-39), 3) := by decide +kernel
theorem dX6_weakest_63 : decode cX6_weakest 63 = .ok (.iload_n 1, 1) := by decide +kernel
theorem dX6_weakest_64 : decode cX6_weakest 64 = .ok (.ireturn, 1) := by decide +kernel
theorem dX6_truck_0 : decode cX6_truck 0 = .ok (.iload 4, 2) := by decide +kernel
theorem dX6_truck_2 : decode cX6_truck 2 = .ok (.invokestatic 132, 3) := by decide +kernel
theorem dX6_truck_5 : decode cX6_truck 5 = .ok (.ifCond .ne 13, 3) := by decide +kernel
theorem dX6_truck_8 : decode cX6_truck 8 = .ok (.new 75, 3) := by decide +kernel
theorem dX6_truck_11 : decode cX6_truck 11 = .ok (.dup, 1) := by decide +kernel
theorem dX6_truck_12 : decode cX6_truck 12 = .ok (.ldc 135, 2) := by decide +kernel
theorem dX6_truck_14 : decode cX6_truck 14 = .ok (.invokespecial 79, 3) := by decide +kernel
theorem dX6_truck_17 : decode cX6_truck 17 = .ok (.athrow, 1) := by decide +kernel
theorem dX6_truck_18 : decode cX6_truck 18 = .ok (.iload_n 1, 1) := by decide +kernel
theorem dX6_truck_19 : decode cX6_truck 19 = .ok (.ifCond .lt 30, 3) := by decide +kernel
theorem dX6_truck_22 : decode cX6_truck 22 = .ok (.iload_n 1, 1) := by decide +kernel
theorem dX6_truck_23 : decode cX6_truck 23 = .ok (.iconst 1, 1) := by decide +kernel
theorem dX6_truck_24 : decode cX6_truck 24 = .ok (.if_icmp .gt 25, 3) := by decide +kernel
theorem dX6_truck_27 : decode cX6_truck 27 = .ok (.iload_n 2, 1) := by decide +kernel
theorem dX6_truck_28 : decode cX6_truck 28 = .ok (.iconst 5, 1) := by decide +kernel
theorem dX6_truck_29 : decode cX6_truck 29 = .ok (.if_icmp .lt 20, 3) := by decide +kernel
theorem dX6_truck_32 : decode cX6_truck 32 = .ok (.iload_n 2, 1) := by decide +kernel
theorem dX6_truck_33 : decode cX6_truck 33 = .ok (.bipush 60, 2) := by decide +kernel
theorem dX6_truck_35 : decode cX6_truck 35 = .ok (.if_icmp .gt 14, 3) := by decide +kernel
theorem dX6_truck_38 : decode cX6_truck 38 = .ok (.iload_n 3, 1) := by decide +kernel
theorem dX6_truck_39 : decode cX6_truck 39 = .ok (.iconst 2, 1) := by decide +kernel
theorem dX6_truck_40 : decode cX6_truck 40 = .ok (.if_icmp .lt 9, 3) := by decide +kernel
theorem dX6_truck_43 : decode cX6_truck 43 = .ok (.iload_n 3, 1) := by decide +kernel
theorem dX6_truck_44 : decode cX6_truck 44 = .ok (.bipush 6, 2) := by decide +kernel
theorem dX6_truck_46 : decode cX6_truck 46 = .ok (.if_icmp .le 13, 3) := by decide +kernel
theorem dX6_truck_49 : decode cX6_truck 49 = .ok (.new 51, 3) := by decide +kernel
theorem dX6_truck_52 : decode cX6_truck 52 = .ok (.dup, 1) := by decide +kernel
theorem dX6_truck_53 : decode cX6_truck 53 = .ok (.ldc 137, 2) := by decide +kernel
theorem dX6_truck_55 : decode cX6_truck 55 = .ok (.invokespecial 55, 3) := by decide +kernel
theorem dX6_truck_58 : decode cX6_truck 58 = .ok (.athrow, 1) := by decide +kernel
theorem dX6_truck_59 : decode cX6_truck 59 = .ok (.aload_n 0, 1) := by decide +kernel
theorem dX6_truck_60 : decode cX6_truck 60 = .ok (.getfield 12, 3) := by decide +kernel
theorem dX6_truck_63 : decode cX6_truck 63 = .ok (.iload 4, 2) := by decide +kernel
theorem dX6_truck_65 : decode cX6_truck 65 = .ok (.invokevirtual 139, 3) := by decide +kernel
theorem dX6_truck_68 : decode cX6_truck 68 = .ok (.istore 5, 2) := by decide +kernel
theorem dX6_truck_70 : decode cX6_truck 70 = .ok (.iload 5, 2) := by decide +kernel
theorem dX6_truck_72 : decode cX6_truck 72 = .ok (.ifCond .ge 23, 3) := by decide +kernel
theorem dX6_truck_75 : decode cX6_truck 75 = .ok (.aload_n 0, 1) := by decide +kernel
theorem dX6_truck_76 : decode cX6_truck 76 = .ok (.iconst 2, 1) := by decide +kernel
theorem dX6_truck_77 : decode cX6_truck 77 = .ok (.iload 4, 2) := by decide +kernel
theorem dX6_truck_79 : decode cX6_truck 79 = .ok (.invokestatic 142, 3) := by decide +kernel
theorem dX6_truck_82 : decode cX6_truck 82 = .ok (.putfield 44, 3) := by decide +kernel
theorem dX6_truck_85 : decode cX6_truck 85 = .ok (.new 146, 3) := by decide +kernel
theorem dX6_truck_88 : decode cX6_truck 88 = .ok (.dup, 1) := by decide +kernel
theorem dX6_truck_89 : decode cX6_truck 89 = .ok (.ldc 148, 2) := by decide +kernel
theorem dX6_truck_91 : decode cX6_truck 91 = .ok (.invokespecial 150, 3) := by decide +kernel
theorem dX6_truck_94 : decode cX6_truck 94 = .ok (.athrow, 1) := by decide +kernel
theorem dX6_truck_95 : decode cX6_truck 95 = .ok (.iload_n 1, 1) := by decide +kernel
theorem dX6_truck_96 : decode cX6_truck 96 = .ok (.iload 4, 2) := by decide +kernel
theorem dX6_truck_98 : decode cX6_truck 98 = .ok (.if_icmp .eq 23, 3) := by decide +kernel
theorem dX6_truck_101 : decode cX6_truck 101 = .ok (.aload_n 0, 1) := by decide +kernel
theorem dX6_truck_102 : decode cX6_truck 102 = .ok (.iconst 3, 1) := by decide +kernel
theorem dX6_truck_103 : decode cX6_truck 103 = .ok (.iload 4, 2) := by decide +kernel
theorem dX6_truck_105 : decode cX6_truck 105 = .ok (.invokestatic 142, 3) := by decide +kernel
theorem dX6_truck_108 : decode cX6_truck 108 = .ok (.putfield 44, 3) := by decide +kernel
theorem dX6_truck_111 : decode cX6_truck 111 = .ok (.new 146, 3) := by decide +kernel
theorem dX6_truck_114 : decode cX6_truck 114 = .ok (.dup, 1) := by decide +kernel
theorem dX6_truck_115 : decode cX6_truck 115 = .ok (.ldc 151, 2) := by decide +kernel
theorem dX6_truck_117 : decode cX6_truck 117 = .ok (.invokespecial 150, 3) := by decide +kernel
theorem dX6_truck_120 : decode cX6_truck 120 = .ok (.athrow, 1) := by decide +kernel
theorem dX6_truck_121 : decode cX6_truck 121 = .ok (.aload_n 0, 1) := by decide +kernel
theorem dX6_truck_122 : decode cX6_truck 122 = .ok (.getfield 29, 3) := by decide +kernel
theorem dX6_truck_125 : decode cX6_truck 125 = .ok (.aload_n 0, 1) := by decide +kernel
theorem dX6_truck_126 : decode cX6_truck 126 = .ok (.getfield 12, 3) := by decide +kernel
theorem dX6_truck_129 : decode cX6_truck 129 = .ok (.invokevirtual 58, 3) := by decide +kernel
theorem dX6_truck_132 : decode cX6_truck 132 = .ok (.aload_n 0, 1) := by decide +kernel
theorem dX6_truck_133 : decode cX6_truck 133 = .ok (.getfield 12, 3) := by decide +kernel
theorem dX6_truck_136 : decode cX6_truck 136 = .ok (.getfield 153, 3) := by decide +kernel
theorem dX6_truck_139 : decode cX6_truck 139 = .ok (.iload 4, 2) := by decide +kernel
theorem dX6_truck_141 : decode cX6_truck 141 = .ok (.iconst 5, 1) := by decide +kernel
theorem dX6_truck_142 : decode cX6_truck 142 = .ok (.imul, 1) := by decide +kernel
theorem dX6_truck_143 : decode cX6_truck 143 = .ok (.iload 5, 2) := by decide +kernel
theorem dX6_truck_145 : decode cX6_truck 145 = .ok (.iadd, 1) := by decide +kernel
theorem dX6_truck_146 : decode cX6_truck 146 = .ok (.new 157, 3) := by decide +kernel
theorem dX6_truck_149 : decode cX6_truck 149 = .ok (.dup, 1) := by decide +kernel
theorem dX6_truck_150 : decode cX6_truck 150 = .ok (.iload_n 1, 1) := by decide +kernel
theorem dX6_truck_151 : decode cX6_truck 151 = .ok (.iload_n 2, 1) := by decide +kernel
theorem dX6_truck_152 : decode cX6_truck 152 = .ok (.iload_n 3, 1) := by decide +kernel
theorem dX6_truck_153 : decode cX6_truck 153 = .ok (.invokespecial 159, 3) := by decide +kernel
theorem dX6_truck_156 : decode cX6_truck 156 = .ok (.aastore, 1) := by decide +kernel
theorem dX6_truck_157 : decode cX6_truck 157 = .ok (.aload_n 0, 1) := by decide +kernel
theorem dX6_truck_158 : decode cX6_truck 158 = .ok (.getfield 12, 3) := by decide +kernel
theorem dX6_truck_161 : decode cX6_truck 161 = .ok (.dup, 1) := by decide +kernel
theorem dX6_truck_162 : decode cX6_truck 162 = .ok (.getfield 162, 3) := by decide +kernel
theorem dX6_truck_165 : decode cX6_truck 165 = .ok (.iload_n 2, 1) := by decide +kernel
theorem dX6_truck_166 : decode cX6_truck 166 = .ok (.iadd, 1) := by decide +kernel
theorem dX6_truck_167 : decode cX6_truck 167 = .ok (.putfield 162, 3) := by decide +kernel
theorem dX6_truck_170 : decode cX6_truck 170 = .ok (.iload 5, 2) := by decide +kernel
theorem dX6_truck_172 : decode cX6_truck 172 = .ok (.ireturn, 1) := by decide +kernel
theorem dX6_inRow_0 : decode cX6_inRow 0 = .ok (.iload_n 1, 1) := by decide +kernel
theorem dX6_inRow_1 : decode cX6_inRow 1 = .ok (.invokestatic 132, 3) := by decide +kernel
theorem dX6_inRow_4 : decode cX6_inRow 4 = .ok (.ifCond .eq 10, 3) := by decide +kernel
theorem dX6_inRow_7 : decode cX6_inRow 7 = .ok (.iload_n 2, 1) := by decide +kernel
theorem dX6_inRow_8 : decode cX6_inRow 8 = .ok (.invokestatic 165, 3) := by decide +kernel
theorem dX6_inRow_11 : decode cX6_inRow 11 = .ok (.ifCond .ne 13, 3) := by decide +kernel
theorem dX6_inRow_14 : decode cX6_inRow 14 = .ok (.new 75, 3) := by decide +kernel
theorem dX6_inRow_17 : decode cX6_inRow 17 = .ok (.dup, 1) := by decide +kernel
theorem dX6_inRow_18 : decode cX6_inRow 18 = .ok (.ldc 168, 2) := by decide +kernel
theorem dX6_inRow_20 : decode cX6_inRow 20 = .ok (.invokespecial 79, 3) := by decide +kernel
theorem dX6_inRow_23 : decode cX6_inRow 23 = .ok (.athrow, 1) := by decide +kernel
theorem dX6_inRow_24 : decode cX6_inRow 24 = .ok (.aload_n 0, 1) := by decide +kernel
theorem dX6_inRow_25 : decode cX6_inRow 25 = .ok (.getfield 12, 3) := by decide +kernel
theorem dX6_inRow_28 : decode cX6_inRow 28 = .ok (.getfield 153, 3) := by decide +kernel
theorem dX6_inRow_31 : decode cX6_inRow 31 = .ok (.iload_n 1, 1) := by decide +kernel
theorem dX6_inRow_32 : decode cX6_inRow 32 = .ok (.iconst 5, 1) := by decide +kernel
theorem dX6_inRow_33 : decode cX6_inRow 33 = .ok (.imul, 1) := by decide +kernel
theorem dX6_inRow_34 : decode cX6_inRow 34 = .ok (.iload_n 2, 1) := by decide +kernel
theorem dX6_inRow_35 : decode cX6_inRow 35 = .ok (.iadd, 1) := by decide +kernel
theorem dX6_inRow_36 : decode cX6_inRow 36 = .ok (.aaload, 1) := by decide +kernel
theorem dX6_inRow_37 : decode cX6_inRow 37 = .ok (.astore 4, 2) := by decide +kernel
theorem dX6_inRow_39 : decode cX6_inRow 39 = .ok (.aload 4, 2) := by decide +kernel
theorem dX6_inRow_41 : decode cX6_inRow 41 = .ok (.ifnonnull 13, 3) := by decide +kernel
theorem dX6_inRow_44 : decode cX6_inRow 44 = .ok (.new 101, 3) := by decide +kernel
theorem dX6_inRow_47 : decode cX6_inRow 47 = .ok (.dup, 1) := by decide +kernel
theorem dX6_inRow_48 : decode cX6_inRow 48 = .ok (.ldc 170, 2) := by decide +kernel
theorem dX6_inRow_50 : decode cX6_inRow 50 = .ok (.invokespecial 105, 3) := by decide +kernel
theorem dX6_inRow_53 : decode cX6_inRow 53 = .ok (.athrow, 1) := by decide +kernel
theorem dX6_inRow_54 : decode cX6_inRow 54 = .ok (.iload_n 3, 1) := by decide +kernel
theorem dX6_inRow_55 : decode cX6_inRow 55 = .ok (.ifCond .lt 8, 3) := by decide +kernel
theorem dX6_inRow_58 : decode cX6_inRow 58 = .ok (.iload_n 3, 1) := by decide +kernel
theorem dX6_inRow_59 : decode cX6_inRow 59 = .ok (.iconst 1, 1) := by decide +kernel
theorem dX6_inRow_60 : decode cX6_inRow 60 = .ok (.if_icmp .le 13, 3) := by decide +kernel
theorem dX6_inRow_63 : decode cX6_inRow 63 = .ok (.new 51, 3) := by decide +kernel
theorem dX6_inRow_66 : decode cX6_inRow 66 = .ok (.dup, 1) := by decide +kernel
theorem dX6_inRow_67 : decode cX6_inRow 67 = .ok (.ldc 172, 2) := by decide +kernel
theorem dX6_inRow_69 : decode cX6_inRow 69 = .ok (.invokespecial 55, 3) := by decide +kernel
theorem dX6_inRow_72 : decode cX6_inRow 72 = .ok (.athrow, 1) := by decide +kernel
theorem dX6_inRow_73 : decode cX6_inRow 73 = .ok (.iload_n 3, 1) := by decide +kernel
theorem dX6_inRow_74 : decode cX6_inRow 74 = .ok (.ifCond .ne 11, 3) := by decide +kernel
theorem dX6_inRow_77 : decode cX6_inRow 77 = .ok (.aload 4, 2) := by decide +kernel
theorem dX6_inRow_79 : decode cX6_inRow 79 = .ok (.getfield 174, 3) := by decide +kernel
theorem dX6_inRow_82 : decode cX6_inRow 82 = .ok (.goto 8, 3) := by decide +kernel
theorem dX6_inRow_85 : decode cX6_inRow 85 = .ok (.aload 4, 2) := by decide +kernel
theorem dX6_inRow_87 : decode cX6_inRow 87 = .ok (.getfield 177, 3) := by decide +kernel
theorem dX6_inRow_90 : decode cX6_inRow 90 = .ok (.ireturn, 1) := by decide +kernel
theorem dX6_convoy_0 : decode cX6_convoy 0 = .ok (.iload_n 1, 1) := by decide +kernel
theorem dX6_convoy_1 : decode cX6_convoy 1 = .ok (.iconst 1, 1) := by decide +kernel
theorem dX6_convoy_2 : decode cX6_convoy 2 = .ok (.if_icmp .lt 8, 3) := by decide +kernel
theorem dX6_convoy_5 : decode cX6_convoy 5 = .ok (.iload_n 1, 1) := by decide +kernel
theorem dX6_convoy_6 : decode cX6_convoy 6 = .ok (.iconst 3, 1) := by decide +kernel
theorem dX6_convoy_7 : decode cX6_convoy 7 = .ok (.if_icmp .le 13, 3) := by decide +kernel
theorem dX6_convoy_10 : decode cX6_convoy 10 = .ok (.new 51, 3) := by decide +kernel
theorem dX6_convoy_13 : decode cX6_convoy 13 = .ok (.dup, 1) := by decide +kernel
theorem dX6_convoy_14 : decode cX6_convoy 14 = .ok (.ldc 180, 2) := by decide +kernel
theorem dX6_convoy_16 : decode cX6_convoy 16 = .ok (.invokespecial 55, 3) := by decide +kernel
theorem dX6_convoy_19 : decode cX6_convoy 19 = .ok (.athrow, 1) := by decide +kernel
theorem dX6_convoy_20 : decode cX6_convoy 20 = .ok (.aload_n 0, 1) := by decide +kernel
theorem dX6_convoy_21 : decode cX6_convoy 21 = .ok (.getfield 12, 3) := by decide +kernel
theorem dX6_convoy_24 : decode cX6_convoy 24 = .ok (.getfield 182, 3) := by decide +kernel
theorem dX6_convoy_27 : decode cX6_convoy 27 = .ok (.istore_n 2, 1) := by decide +kernel
theorem dX6_convoy_28 : decode cX6_convoy 28 = .ok (.iload_n 2, 1) := by decide +kernel
theorem dX6_convoy_29 : decode cX6_convoy 29 = .ok (.iconst 4, 1) := by decide +kernel
theorem dX6_convoy_30 : decode cX6_convoy 30 = .ok (.if_icmp .lt 22, 3) := by decide +kernel
theorem dX6_convoy_33 : decode cX6_convoy 33 = .ok (.aload_n 0, 1) := by decide +kernel
theorem dX6_convoy_34 : decode cX6_convoy 34 = .ok (.iconst 1, 1) := by decide +kernel
theorem dX6_convoy_35 : decode cX6_convoy 35 = .ok (.iconst 4, 1) := by decide +kernel
theorem dX6_convoy_36 : decode cX6_convoy 36 = .ok (.invokestatic 142, 3) := by decide +kernel
theorem dX6_convoy_39 : decode cX6_convoy 39 = .ok (.putfield 44, 3) := by decide +kernel
theorem dX6_convoy_42 : decode cX6_convoy 42 = .ok (.new 146, 3) := by decide +kernel
theorem dX6_convoy_45 : decode cX6_convoy 45 = .ok (.dup, 1) := by decide +kernel
theorem dX6_convoy_46 : decode cX6_convoy 46 = .ok (.ldc 185, 2) := by decide +kernel
theorem dX6_convoy_48 : decode cX6_convoy 48 = .ok (.invokespecial 150, 3) := by decide +kernel
theorem dX6_convoy_51 : decode cX6_convoy 51 = .ok (.athrow, 1) := by decide +kernel
theorem dX6_convoy_52 : decode cX6_convoy 52 = .ok (.aload_n 0, 1) := by decide +kernel
theorem dX6_convoy_53 : decode cX6_convoy 53 = .ok (.getfield 29, 3) := by decide +kernel
theorem dX6_convoy_56 : decode cX6_convoy 56 = .ok (.aload_n 0, 1) := by decide +kernel
theorem dX6_convoy_57 : decode cX6_convoy 57 = .ok (.getfield 12, 3) := by decide +kernel
theorem dX6_convoy_60 : decode cX6_convoy 60 = .ok (.invokevirtual 58, 3) := by decide +kernel
theorem dX6_convoy_63 : decode cX6_convoy 63 = .ok (.aload_n 0, 1) := by decide +kernel
theorem dX6_convoy_64 : decode cX6_convoy 64 = .ok (.getfield 12, 3) := by decide +kernel
theorem dX6_convoy_67 : decode cX6_convoy 67 = .ok (.getfield 187, 3) := by decide +kernel
theorem dX6_convoy_70 : decode cX6_convoy 70 = .ok (.iload_n 2, 1) := by decide +kernel
theorem dX6_convoy_71 : decode cX6_convoy 71 = .ok (.aaload, 1) := by decide +kernel
theorem dX6_convoy_72 : decode cX6_convoy 72 = .ok (.iload_n 1, 1) := by decide +kernel
theorem dX6_convoy_73 : decode cX6_convoy 73 = .ok (.putfield 191, 3) := by decide +kernel
theorem dX6_convoy_76 : decode cX6_convoy 76 = .ok (.aload_n 0, 1) := by decide +kernel
theorem dX6_convoy_77 : decode cX6_convoy 77 = .ok (.getfield 12, 3) := by decide +kernel
theorem dX6_convoy_80 : decode cX6_convoy 80 = .ok (.iload_n 2, 1) := by decide +kernel
theorem dX6_convoy_81 : decode cX6_convoy 81 = .ok (.iconst 1, 1) := by decide +kernel
theorem dX6_convoy_82 : decode cX6_convoy 82 = .ok (.iadd, 1) := by decide +kernel
theorem dX6_convoy_83 : decode cX6_convoy 83 = .ok (.putfield 182, 3) := by decide +kernel
theorem dX6_convoy_86 : decode cX6_convoy 86 = .ok (.iload_n 2, 1) := by decide +kernel
theorem dX6_convoy_87 : decode cX6_convoy 87 = .ok (.ireturn, 1) := by decide +kernel
theorem dX6_join_0 : decode cX6_join 0 = .ok (.aload_n 0, 1) := by decide +kernel
theorem dX6_join_1 : decode cX6_join 1 = .ok (.getfield 12, 3) := by decide +kernel
theorem dX6_join_4 : decode cX6_join 4 = .ok (.iload_n 1, 1) := by decide +kernel
theorem dX6_join_5 : decode cX6_join 5 = .ok (.iload_n 2, 1) := by decide +kernel
theorem dX6_join_6 : decode cX6_join 6 = .ok (.iload_n 3, 1) := by decide +kernel
theorem dX6_join_7 : decode cX6_join 7 = .ok (.invokevirtual 196, 3) := by decide +kernel
theorem dX6_join_10 : decode cX6_join 10 = .ok (.istore 4, 2) := by decide +kernel
theorem dX6_join_12 : decode cX6_join 12 = .ok (.iload 4, 2) := by decide +kernel
theorem dX6_join_14 : decode cX6_join 14 = .ok (.iconst (-1), 1) := by decide +kernel
theorem dX6_join_15 : decode cX6_join 15 = .ok (.if_icmp .ne 13, 3) := by decide +kernel
theorem dX6_join_18 : decode cX6_join 18 = .ok (.new 75, 3) := by decide +kernel
theorem dX6_join_21 : decode cX6_join 21 = .ok (.dup, 1) := by decide +kernel
theorem dX6_join_22 : decode cX6_join 22 = .ok (.ldc 200, 2) := by decide +kernel
theorem dX6_join_24 : decode cX6_join 24 = .ok (.invokespecial 79, 3) := by decide +kernel
theorem dX6_join_27 : decode cX6_join 27 = .ok (.athrow, 1) := by decide +kernel
theorem dX6_join_28 : decode cX6_join 28 = .ok (.iload 4, 2) := by decide +kernel
theorem dX6_join_30 : decode cX6_join 30 = .ok (.bipush (-2), 2) := by decide +kernel
theorem dX6_join_32 : decode cX6_join 32 = .ok (.if_icmp .ne 13, 3) := by decide +kernel
theorem dX6_join_35 : decode cX6_join 35 = .ok (.new 101, 3) := by decide +kernel
theorem dX6_join_38 : decode cX6_join 38 = .ok (.dup, 1) := by decide +kernel
theorem dX6_join_39 : decode cX6_join 39 = .ok (.ldc 170, 2) := by decide +kernel
theorem dX6_join_41 : decode cX6_join 41 = .ok (.invokespecial 105, 3) := by decide +kernel
theorem dX6_join_44 : decode cX6_join 44 = .ok (.athrow, 1) := by decide +kernel
theorem dX6_join_45 : decode cX6_join 45 = .ok (.iload 4, 2) := by decide +kernel
theorem dX6_join_47 : decode cX6_join 47 = .ok (.ifCond .eq 19, 3) := by decide +kernel
theorem dX6_join_50 : decode cX6_join 50 = .ok (.aload_n 0, 1) := by decide +kernel
theorem dX6_join_51 : decode cX6_join 51 = .ok (.iload 4, 2) := by decide +kernel
theorem dX6_join_53 : decode cX6_join 53 = .ok (.putfield 44, 3) := by decide +kernel
theorem dX6_join_56 : decode cX6_join 56 = .ok (.new 146, 3) := by decide +kernel
theorem dX6_join_59 : decode cX6_join 59 = .ok (.dup, 1) := by decide +kernel
theorem dX6_join_60 : decode cX6_join 60 = .ok (.ldc 202, 2) := by decide +kernel
theorem dX6_join_62 : decode cX6_join 62 = .ok (.invokespecial 150, 3) := by decide +kernel
theorem dX6_join_65 : decode cX6_join 65 = .ok (.athrow, 1) := by decide +kernel
theorem dX6_join_66 : decode cX6_join 66 = .ok (.aload_n 0, 1) := by decide +kernel
theorem dX6_join_67 : decode cX6_join 67 = .ok (.getfield 29, 3) := by decide +kernel
theorem dX6_join_70 : decode cX6_join 70 = .ok (.aload_n 0, 1) := by decide +kernel
theorem dX6_join_71 : decode cX6_join 71 = .ok (.getfield 12, 3) := by decide +kernel
theorem dX6_join_74 : decode cX6_join 74 = .ok (.invokevirtual 58, 3) := by decide +kernel
theorem dX6_join_77 : decode cX6_join 77 = .ok (.aload_n 0, 1) := by decide +kernel
theorem dX6_join_78 : decode cX6_join 78 = .ok (.getfield 12, 3) := by decide +kernel
theorem dX6_join_81 : decode cX6_join 81 = .ok (.aload_n 0, 1) := by decide +kernel
theorem dX6_join_82 : decode cX6_join 82 = .ok (.getfield 12, 3) := by decide +kernel
theorem dX6_join_85 : decode cX6_join 85 = .ok (.getfield 187, 3) := by decide +kernel
theorem dX6_join_88 : decode cX6_join 88 = .ok (.iload_n 1, 1) := by decide +kernel
theorem dX6_join_89 : decode cX6_join 89 = .ok (.aaload, 1) := by decide +kernel
theorem dX6_join_90 : decode cX6_join 90 = .ok (.iload_n 2, 1) := by decide +kernel
theorem dX6_join_91 : decode cX6_join 91 = .ok (.iconst 5, 1) := by decide +kernel
theorem dX6_join_92 : decode cX6_join 92 = .ok (.imul, 1) := by decide +kernel
theorem dX6_join_93 : decode cX6_join 93 = .ok (.iload_n 3, 1) := by decide +kernel
theorem dX6_join_94 : decode cX6_join 94 = .ok (.iadd, 1) := by decide +kernel
theorem dX6_join_95 : decode cX6_join 95 = .ok (.invokevirtual 204, 3) := by decide +kernel
theorem dX6_join_98 : decode cX6_join 98 = .ok (.aload_n 0, 1) := by decide +kernel
theorem dX6_join_99 : decode cX6_join 99 = .ok (.getfield 12, 3) := by decide +kernel
theorem dX6_join_102 : decode cX6_join 102 = .ok (.getfield 187, 3) := by decide +kernel
theorem dX6_join_105 : decode cX6_join 105 = .ok (.iload_n 1, 1) := by decide +kernel
theorem dX6_join_106 : decode cX6_join 106 = .ok (.aaload, 1) := by decide +kernel
theorem dX6_join_107 : decode cX6_join 107 = .ok (.getfield 208, 3) := by decide +kernel
theorem dX6_join_110 : decode cX6_join 110 = .ok (.ireturn, 1) := by decide +kernel
theorem dX6_start_0 : decode cX6_start 0 = .ok (.aload_n 0, 1) := by decide +kernel
theorem dX6_start_1 : decode cX6_start 1 = .ok (.getfield 12, 3) := by decide +kernel
theorem dX6_start_4 : decode cX6_start 4 = .ok (.iload_n 1, 1) := by decide +kernel
theorem dX6_start_5 : decode cX6_start 5 = .ok (.invokevirtual 211, 3) := by decide +kernel
theorem dX6_start_8 : decode cX6_start 8 = .ok (.istore_n 2, 1) := by decide +kernel
theorem dX6_start_9 : decode cX6_start 9 = .ok (.iload_n 2, 1) := by decide +kernel
theorem dX6_start_10 : decode cX6_start 10 = .ok (.iconst (-1), 1) := by decide +kernel
theorem dX6_start_11 : decode cX6_start 11 = .ok (.if_icmp .ne 13, 3) := by decide +kernel
theorem dX6_start_14 : decode cX6_start 14 = .ok (.new 75, 3) := by decide +kernel
theorem dX6_start_17 : decode cX6_start 17 = .ok (.dup, 1) := by decide +kernel
theorem dX6_start_18 : decode cX6_start 18 = .ok (.ldc 214, 2) := by decide +kernel
theorem dX6_start_20 : decode cX6_start 20 = .ok (.invokespecial 79, 3) := by decide +kernel
theorem dX6_start_23 : decode cX6_start 23 = .ok (.athrow, 1) := by decide +kernel
theorem dX6_start_24 : decode cX6_start 24 = .ok (.iload_n 2, 1) := by decide +kernel
theorem dX6_start_25 : decode cX6_start 25 = .ok (.ifCond .eq 18, 3) := by decide +kernel
theorem dX6_start_28 : decode cX6_start 28 = .ok (.aload_n 0, 1) := by decide +kernel
theorem dX6_start_29 : decode cX6_start 29 = .ok (.iload_n 2, 1) := by decide +kernel
theorem dX6_start_30 : decode cX6_start 30 = .ok (.putfield 44, 3) := by decide +kernel
theorem dX6_start_33 : decode cX6_start 33 = .ok (.new 146, 3) := by decide +kernel
theorem dX6_start_36 : decode cX6_start 36 = .ok (.dup, 1) := by decide +kernel
theorem dX6_start_37 : decode cX6_start 37 = .ok (.ldc 216, 2) := by decide +kernel
theorem dX6_start_39 : decode cX6_start 39 = .ok (.invokespecial 150, 3) := by decide +kernel
theorem dX6_start_42 : decode cX6_start 42 = .ok (.athrow, 1) := by decide +kernel
theorem dX6_start_43 : decode cX6_start 43 = .ok (.aload_n 0, 1) := by decide +kernel
theorem dX6_start_44 : decode cX6_start 44 = .ok (.getfield 29, 3) := by decide +kernel
theorem dX6_start_47 : decode cX6_start 47 = .ok (.aload_n 0, 1) := by decide +kernel
theorem dX6_start_48 : decode cX6_start 48 = .ok (.getfield 12, 3) := by decide +kernel
theorem dX6_start_51 : decode cX6_start 51 = .ok (.invokevirtual 58, 3) := by decide +kernel
theorem dX6_start_54 : decode cX6_start 54 = .ok (.aload_n 0, 1) := by decide +kernel
theorem dX6_start_55 : decode cX6_start 55 = .ok (.getfield 12, 3) := by decide +kernel
theorem dX6_start_58 : decode cX6_start 58 = .ok (.aload_n 0, 1) := by decide +kernel
theorem dX6_start_59 : decode cX6_start 59 = .ok (.getfield 12, 3) := by decide +kernel
theorem dX6_start_62 : decode cX6_start 62 = .ok (.getfield 187, 3) := by decide +kernel
theorem dX6_start_65 : decode cX6_start 65 = .ok (.iload_n 1, 1) := by decide +kernel
theorem dX6_start_66 : decode cX6_start 66 = .ok (.aaload, 1) := by decide +kernel
theorem dX6_start_67 : decode cX6_start 67 = .ok (.invokevirtual 218, 3) := by decide +kernel
theorem dX6_start_70 : decode cX6_start 70 = .ok (.aload_n 0, 1) := by decide +kernel
theorem dX6_start_71 : decode cX6_start 71 = .ok (.getfield 12, 3) := by decide +kernel
theorem dX6_start_74 : decode cX6_start 74 = .ok (.getfield 187, 3) := by decide +kernel
theorem dX6_start_77 : decode cX6_start 77 = .ok (.iload_n 1, 1) := by decide +kernel
theorem dX6_start_78 : decode cX6_start 78 = .ok (.aaload, 1) := by decide +kernel
theorem dX6_start_79 : decode cX6_start 79 = .ok (.getfield 208, 3) := by decide +kernel
theorem dX6_start_82 : decode cX6_start 82 = .ok (.ireturn, 1) := by decide +kernel
theorem dX6_roll_0 : decode cX6_roll 0 = .ok (.aload_n 0, 1) := by decide +kernel
theorem dX6_roll_1 : decode cX6_roll 1 = .ok (.getfield 12, 3) := by decide +kernel
theorem dX6_roll_4 : decode cX6_roll 4 = .ok (.iload_n 1, 1) := by decide +kernel
theorem dX6_roll_5 : decode cX6_roll 5 = .ok (.invokevirtual 222, 3) := by decide +kernel
theorem dX6_roll_8 : decode cX6_roll 8 = .ok (.istore_n 2, 1) := by decide +kernel
theorem dX6_roll_9 : decode cX6_roll 9 = .ok (.iload_n 2, 1) := by decide +kernel
theorem dX6_roll_10 : decode cX6_roll 10 = .ok (.iconst (-1), 1) := by decide +kernel
theorem dX6_roll_11 : decode cX6_roll 11 = .ok (.if_icmp .ne 13, 3) := by decide +kernel
theorem dX6_roll_14 : decode cX6_roll 14 = .ok (.new 75, 3) := by decide +kernel
theorem dX6_roll_17 : decode cX6_roll 17 = .ok (.dup, 1) := by decide +kernel
theorem dX6_roll_18 : decode cX6_roll 18 = .ok (.ldc 214, 2) := by decide +kernel
theorem dX6_roll_20 : decode cX6_roll 20 = .ok (.invokespecial 79, 3) := by decide +kernel
theorem dX6_roll_23 : decode cX6_roll 23 = .ok (.athrow, 1) := by decide +kernel
theorem dX6_roll_24 : decode cX6_roll 24 = .ok (.iload_n 2, 1) := by decide +kernel
theorem dX6_roll_25 : decode cX6_roll 25 = .ok (.ifCond .eq 18, 3) := by decide +kernel
theorem dX6_roll_28 : decode cX6_roll 28 = .ok (.aload_n 0, 1) := by decide +kernel
theorem dX6_roll_29 : decode cX6_roll 29 = .ok (.iload_n 2, 1) := by decide +kernel
theorem dX6_roll_30 : decode cX6_roll 30 = .ok (.putfield 44, 3) := by decide +kernel
theorem dX6_roll_33 : decode cX6_roll 33 = .ok (.new 146, 3) := by decide +kernel
theorem dX6_roll_36 : decode cX6_roll 36 = .ok (.dup, 1) := by decide +kernel
theorem dX6_roll_37 : decode cX6_roll 37 = .ok (.ldc 225, 2) := by decide +kernel
theorem dX6_roll_39 : decode cX6_roll 39 = .ok (.invokespecial 150, 3) := by decide +kernel
theorem dX6_roll_42 : decode cX6_roll 42 = .ok (.athrow, 1) := by decide +kernel
theorem dX6_roll_43 : decode cX6_roll 43 = .ok (.aload_n 0, 1) := by decide +kernel
theorem dX6_roll_44 : decode cX6_roll 44 = .ok (.getfield 29, 3) := by decide +kernel
theorem dX6_roll_47 : decode cX6_roll 47 = .ok (.aload_n 0, 1) := by decide +kernel
theorem dX6_roll_48 : decode cX6_roll 48 = .ok (.getfield 12, 3) := by decide +kernel
theorem dX6_roll_51 : decode cX6_roll 51 = .ok (.invokevirtual 58, 3) := by decide +kernel
theorem dX6_roll_54 : decode cX6_roll 54 = .ok (.aload_n 0, 1) := by decide +kernel
theorem dX6_roll_55 : decode cX6_roll 55 = .ok (.getfield 12, 3) := by decide +kernel
theorem dX6_roll_58 : decode cX6_roll 58 = .ok (.aload_n 0, 1) := by decide +kernel
theorem dX6_roll_59 : decode cX6_roll 59 = .ok (.getfield 12, 3) := by decide +kernel
theorem dX6_roll_62 : decode cX6_roll 62 = .ok (.getfield 187, 3) := by decide +kernel
theorem dX6_roll_65 : decode cX6_roll 65 = .ok (.iload_n 1, 1) := by decide +kernel
theorem dX6_roll_66 : decode cX6_roll 66 = .ok (.aaload, 1) := by decide +kernel
theorem dX6_roll_67 : decode cX6_roll 67 = .ok (.invokevirtual 218, 3) := by decide +kernel
theorem dX6_roll_70 : decode cX6_roll 70 = .ok (.aload_n 0, 1) := by decide +kernel
theorem dX6_roll_71 : decode cX6_roll 71 = .ok (.getfield 12, 3) := by decide +kernel
theorem dX6_roll_74 : decode cX6_roll 74 = .ok (.getfield 187, 3) := by decide +kernel
theorem dX6_roll_77 : decode cX6_roll 77 = .ok (.iload_n 1, 1) := by decide +kernel
theorem dX6_roll_78 : decode cX6_roll 78 = .ok (.aaload, 1) := by decide +kernel
theorem dX6_roll_79 : decode cX6_roll 79 = .ok (.invokevirtual 227, 3) := by decide +kernel
theorem dX6_roll_82 : decode cX6_roll 82 = .ok (.ireturn, 1) := by decide +kernel
theorem dX6_why_0 : decode cX6_why 0 = .ok (.aload_n 0, 1) := by decide +kernel
theorem dX6_why_1 : decode cX6_why 1 = .ok (.getfield 12, 3) := by decide +kernel
theorem dX6_why_4 : decode cX6_why 4 = .ok (.iload_n 1, 1) := by decide +kernel
theorem dX6_why_5 : decode cX6_why 5 = .ok (.invokevirtual 222, 3) := by decide +kernel
theorem dX6_why_8 : decode cX6_why 8 = .ok (.istore_n 3, 1) := by decide +kernel
theorem dX6_why_9 : decode cX6_why 9 = .ok (.iload_n 3, 1) := by decide +kernel
theorem dX6_why_10 : decode cX6_why 10 = .ok (.iconst (-1), 1) := by decide +kernel
theorem dX6_why_11 : decode cX6_why 11 = .ok (.if_icmp .ne 13, 3) := by decide +kernel
theorem dX6_why_14 : decode cX6_why 14 = .ok (.new 75, 3) := by decide +kernel
theorem dX6_why_17 : decode cX6_why 17 = .ok (.dup, 1) := by decide +kernel
theorem dX6_why_18 : decode cX6_why 18 = .ok (.ldc 214, 2) := by decide +kernel
theorem dX6_why_20 : decode cX6_why 20 = .ok (.invokespecial 79, 3) := by decide +kernel
theorem dX6_why_23 : decode cX6_why 23 = .ok (.athrow, 1) := by decide +kernel
theorem dX6_why_24 : decode cX6_why 24 = .ok (.iload_n 2, 1) := by decide +kernel
theorem dX6_why_25 : decode cX6_why 25 = .ok (.ifCond .eq 10, 3) := by decide +kernel
theorem dX6_why_28 : decode cX6_why 28 = .ok (.iload_n 3, 1) := by decide +kernel
theorem dX6_why_29 : decode cX6_why 29 = .ok (.bipush 16, 2) := by decide +kernel
theorem dX6_why_31 : decode cX6_why 31 = .ok (.irem, 1) := by decide +kernel
theorem dX6_why_32 : decode cX6_why 32 = .ok (.goto 7, 3) := by decide +kernel
theorem dX6_why_35 : decode cX6_why 35 = .ok (.iload_n 3, 1) := by decide +kernel
theorem dX6_why_36 : decode cX6_why 36 = .ok (.bipush 16, 2) := by decide +kernel
theorem dX6_why_38 : decode cX6_why 38 = .ok (.idiv, 1) := by decide +kernel
theorem dX6_why_39 : decode cX6_why 39 = .ok (.ireturn, 1) := by decide +kernel
theorem dX6_convoyOf_0 : decode cX6_convoyOf 0 = .ok (.aload_n 0, 1) := by decide +kernel
theorem dX6_convoyOf_1 : decode cX6_convoyOf 1 = .ok (.getfield 12, 3) := by decide +kernel
theorem dX6_convoyOf_4 : decode cX6_convoyOf 4 = .ok (.iload_n 1, 1) := by decide +kernel
theorem dX6_convoyOf_5 : decode cX6_convoyOf 5 = .ok (.invokevirtual 231, 3) := by decide +kernel
theorem dX6_convoyOf_8 : decode cX6_convoyOf 8 = .ok (.ifCond .ne 13, 3) := by decide +kernel
theorem dX6_convoyOf_11 : decode cX6_convoyOf 11 = .ok (.new 75, 3) := by decide +kernel
theorem dX6_convoyOf_14 : decode cX6_convoyOf 14 = .ok (.dup, 1) := by decide +kernel
theorem dX6_convoyOf_15 : decode cX6_convoyOf 15 = .ok (.ldc 214, 2) := by decide +kernel
theorem dX6_convoyOf_17 : decode cX6_convoyOf 17 = .ok (.invokespecial 79, 3) := by decide +kernel
theorem dX6_convoyOf_20 : decode cX6_convoyOf 20 = .ok (.athrow, 1) := by decide +kernel
theorem dX6_convoyOf_21 : decode cX6_convoyOf 21 = .ok (.aload_n 0, 1) := by decide +kernel
theorem dX6_convoyOf_22 : decode cX6_convoyOf 22 = .ok (.getfield 12, 3) := by decide +kernel
theorem dX6_convoyOf_25 : decode cX6_convoyOf 25 = .ok (.getfield 187, 3) := by decide +kernel
theorem dX6_convoyOf_28 : decode cX6_convoyOf 28 = .ok (.iload_n 1, 1) := by decide +kernel
theorem dX6_convoyOf_29 : decode cX6_convoyOf 29 = .ok (.aaload, 1) := by decide +kernel
theorem dX6_convoyOf_30 : decode cX6_convoyOf 30 = .ok (.astore_n 3, 1) := by decide +kernel
theorem dX6_convoyOf_31 : decode cX6_convoyOf 31 = .ok (.iload_n 2, 1) := by decide +kernel
theorem dX6_convoyOf_32 : decode cX6_convoyOf 32 = .ok (.tableswitch 78 0 5 #[40, 45, 50, 55, 60, 65], 40) := by decide +kernel
theorem dX6_convoyOf_72 : decode cX6_convoyOf 72 = .ok (.aload_n 3, 1) := by decide +kernel
theorem dX6_convoyOf_73 : decode cX6_convoyOf 73 = .ok (.getfield 191, 3) := by decide +kernel
theorem dX6_convoyOf_76 : decode cX6_convoyOf 76 = .ok (.ireturn, 1) := by decide +kernel
theorem dX6_convoyOf_77 : decode cX6_convoyOf 77 = .ok (.aload_n 3, 1) := by decide +kernel
theorem dX6_convoyOf_78 : decode cX6_convoyOf 78 = .ok (.getfield 208, 3) := by decide +kernel
theorem dX6_convoyOf_81 : decode cX6_convoyOf 81 = .ok (.ireturn, 1) := by decide +kernel
theorem dX6_convoyOf_82 : decode cX6_convoyOf 82 = .ok (.aload_n 3, 1) := by decide +kernel
theorem dX6_convoyOf_83 : decode cX6_convoyOf 83 = .ok (.getfield 234, 3) := by decide +kernel
theorem dX6_convoyOf_86 : decode cX6_convoyOf 86 = .ok (.ireturn, 1) := by decide +kernel
theorem dX6_convoyOf_87 : decode cX6_convoyOf 87 = .ok (.aload_n 3, 1) := by decide +kernel
theorem dX6_convoyOf_88 : decode cX6_convoyOf 88 = .ok (.invokevirtual 227, 3) := by decide +kernel
theorem dX6_convoyOf_91 : decode cX6_convoyOf 91 = .ok (.ireturn, 1) := by decide +kernel
theorem dX6_convoyOf_92 : decode cX6_convoyOf 92 = .ok (.aload_n 3, 1) := by decide +kernel
theorem dX6_convoyOf_93 : decode cX6_convoyOf 93 = .ok (.invokevirtual 237, 3) := by decide +kernel
theorem dX6_convoyOf_96 : decode cX6_convoyOf 96 = .ok (.ireturn, 1) := by decide +kernel
theorem dX6_convoyOf_97 : decode cX6_convoyOf 97 = .ok (.aload_n 3, 1) := by decide +kernel
theorem dX6_convoyOf_98 : decode cX6_convoyOf 98 = .ok (.invokevirtual 240, 3) := by decide +kernel
theorem dX6_convoyOf_101 : decode cX6_convoyOf 101 = .ok (.ifCond .eq 7, 3) := by decide +kernel
theorem dX6_convoyOf_104 : decode cX6_convoyOf 104 = .ok (.iconst 1, 1) := by decide +kernel
theorem dX6_convoyOf_105 : decode cX6_convoyOf 105 = .ok (.goto 4, 3) := by decide +kernel
theorem dX6_convoyOf_108 : decode cX6_convoyOf 108 = .ok (.iconst 0, 1) := by decide +kernel
theorem dX6_convoyOf_109 : decode cX6_convoyOf 109 = .ok (.ireturn, 1) := by decide +kernel
theorem dX6_convoyOf_110 : decode cX6_convoyOf 110 = .ok (.new 51, 3) := by decide +kernel
theorem dX6_convoyOf_113 : decode cX6_convoyOf 113 = .ok (.dup, 1) := by decide +kernel
theorem dX6_convoyOf_114 : decode cX6_convoyOf 114 = .ok (.ldc 244, 2) := by decide +kernel
theorem dX6_convoyOf_116 : decode cX6_convoyOf 116 = .ok (.invokespecial 55, 3) := by decide +kernel
theorem dX6_convoyOf_119 : decode cX6_convoyOf 119 = .ok (.athrow, 1) := by decide +kernel
theorem dX6_truckOf_0 : decode cX6_truckOf 0 = .ok (.aload_n 0, 1) := by decide +kernel
theorem dX6_truckOf_1 : decode cX6_truckOf 1 = .ok (.getfield 12, 3) := by decide +kernel
theorem dX6_truckOf_4 : decode cX6_truckOf 4 = .ok (.iload_n 1, 1) := by decide +kernel
theorem dX6_truckOf_5 : decode cX6_truckOf 5 = .ok (.iload_n 2, 1) := by decide +kernel
theorem dX6_truckOf_6 : decode cX6_truckOf 6 = .ok (.invokevirtual 246, 3) := by decide +kernel
theorem dX6_truckOf_9 : decode cX6_truckOf 9 = .ok (.astore 4, 2) := by decide +kernel
theorem dX6_truckOf_11 : decode cX6_truckOf 11 = .ok (.aload 4, 2) := by decide +kernel
theorem dX6_truckOf_13 : decode cX6_truckOf 13 = .ok (.ifnonnull 13, 3) := by decide +kernel
theorem dX6_truckOf_16 : decode cX6_truckOf 16 = .ok (.new 75, 3) := by decide +kernel
theorem dX6_truckOf_19 : decode cX6_truckOf 19 = .ok (.dup, 1) := by decide +kernel
theorem dX6_truckOf_20 : decode cX6_truckOf 20 = .ok (.ldc 250, 2) := by decide +kernel
theorem dX6_truckOf_22 : decode cX6_truckOf 22 = .ok (.invokespecial 79, 3) := by decide +kernel
theorem dX6_truckOf_25 : decode cX6_truckOf 25 = .ok (.athrow, 1) := by decide +kernel
theorem dX6_truckOf_26 : decode cX6_truckOf 26 = .ok (.iload_n 3, 1) := by decide +kernel
theorem dX6_truckOf_27 : decode cX6_truckOf 27 = .ok (.tableswitch 61 0 3 #[29, 35, 41, 47], 29) := by decide +kernel
theorem dX6_truckOf_56 : decode cX6_truckOf 56 = .ok (.aload 4, 2) := by decide +kernel
theorem dX6_truckOf_58 : decode cX6_truckOf 58 = .ok (.getfield 252, 3) := by decide +kernel
theorem dX6_truckOf_61 : decode cX6_truckOf 61 = .ok (.ireturn, 1) := by decide +kernel
theorem dX6_truckOf_62 : decode cX6_truckOf 62 = .ok (.aload 4, 2) := by decide +kernel
theorem dX6_truckOf_64 : decode cX6_truckOf 64 = .ok (.getfield 174, 3) := by decide +kernel
theorem dX6_truckOf_67 : decode cX6_truckOf 67 = .ok (.ireturn, 1) := by decide +kernel
theorem dX6_truckOf_68 : decode cX6_truckOf 68 = .ok (.aload 4, 2) := by decide +kernel
theorem dX6_truckOf_70 : decode cX6_truckOf 70 = .ok (.getfield 177, 3) := by decide +kernel
theorem dX6_truckOf_73 : decode cX6_truckOf 73 = .ok (.ireturn, 1) := by decide +kernel
theorem dX6_truckOf_74 : decode cX6_truckOf 74 = .ok (.aload_n 0, 1) := by decide +kernel
theorem dX6_truckOf_75 : decode cX6_truckOf 75 = .ok (.getfield 12, 3) := by decide +kernel
theorem dX6_truckOf_78 : decode cX6_truckOf 78 = .ok (.getfield 187, 3) := by decide +kernel
theorem dX6_truckOf_81 : decode cX6_truckOf 81 = .ok (.iload_n 1, 1) := by decide +kernel
theorem dX6_truckOf_82 : decode cX6_truckOf 82 = .ok (.aaload, 1) := by decide +kernel
theorem dX6_truckOf_83 : decode cX6_truckOf 83 = .ok (.iload_n 2, 1) := by decide +kernel
theorem dX6_truckOf_84 : decode cX6_truckOf 84 = .ok (.invokevirtual 255, 3) := by decide +kernel
theorem dX6_truckOf_87 : decode cX6_truckOf 87 = .ok (.ireturn, 1) := by decide +kernel
theorem dX6_truckOf_88 : decode cX6_truckOf 88 = .ok (.new 51, 3) := by decide +kernel
theorem dX6_truckOf_91 : decode cX6_truckOf 91 = .ok (.dup, 1) := by decide +kernel
theorem dX6_truckOf_92 : decode cX6_truckOf 92 = .ok (.ldc 172, 2) := by decide +kernel
theorem dX6_truckOf_94 : decode cX6_truckOf 94 = .ok (.invokespecial 55, 3) := by decide +kernel
theorem dX6_truckOf_97 : decode cX6_truckOf 97 = .ok (.athrow, 1) := by decide +kernel
theorem dX6_load_0 : decode cX6_load 0 = .ok (.aload_n 0, 1) := by decide +kernel
theorem dX6_load_1 : decode cX6_load 1 = .ok (.getfield 12, 3) := by decide +kernel
theorem dX6_load_4 : decode cX6_load 4 = .ok (.iload_n 1, 1) := by decide +kernel
theorem dX6_load_5 : decode cX6_load 5 = .ok (.iload_n 2, 1) := by decide +kernel
theorem dX6_load_6 : decode cX6_load 6 = .ok (.invokevirtual 246, 3) := by decide +kernel
theorem dX6_load_9 : decode cX6_load 9 = .ok (.astore_n 3, 1) := by decide +kernel
theorem dX6_load_10 : decode cX6_load 10 = .ok (.aload_n 3, 1) := by decide +kernel
theorem dX6_load_11 : decode cX6_load 11 = .ok (.ifnonnull 13, 3) := by decide +kernel
theorem dX6_load_14 : decode cX6_load 14 = .ok (.new 75, 3) := by decide +kernel
theorem dX6_load_17 : decode cX6_load 17 = .ok (.dup, 1) := by decide +kernel
theorem dX6_load_18 : decode cX6_load 18 = .ok (.ldc 250, 2) := by decide +kernel
theorem dX6_load_20 : decode cX6_load 20 = .ok (.invokespecial 79, 3) := by decide +kernel
theorem dX6_load_23 : decode cX6_load 23 = .ok (.athrow, 1) := by decide +kernel
theorem dX6_load_24 : decode cX6_load 24 = .ok (.aload_n 3, 1) := by decide +kernel
theorem dX6_load_25 : decode cX6_load 25 = .ok (.invokevirtual 258, 3) := by decide +kernel
theorem dX6_load_28 : decode cX6_load 28 = .ok (.freturn, 1) := by decide +kernel
theorem dX6_at_0 : decode cX6_at 0 = .ok (.iload_n 1, 1) := by decide +kernel
theorem dX6_at_1 : decode cX6_at 1 = .ok (.invokestatic 72, 3) := by decide +kernel
theorem dX6_at_4 : decode cX6_at 4 = .ok (.ifCond .ne 13, 3) := by decide +kernel
theorem dX6_at_7 : decode cX6_at 7 = .ok (.new 75, 3) := by decide +kernel
theorem dX6_at_10 : decode cX6_at 10 = .ok (.dup, 1) := by decide +kernel
theorem dX6_at_11 : decode cX6_at 11 = .ok (.ldc 77, 2) := by decide +kernel
theorem dX6_at_13 : decode cX6_at 13 = .ok (.invokespecial 79, 3) := by decide +kernel
theorem dX6_at_16 : decode cX6_at 16 = .ok (.athrow, 1) := by decide +kernel
theorem dX6_at_17 : decode cX6_at 17 = .ok (.aload_n 0, 1) := by decide +kernel
theorem dX6_at_18 : decode cX6_at 18 = .ok (.getfield 12, 3) := by decide +kernel
theorem dX6_at_21 : decode cX6_at 21 = .ok (.iload_n 1, 1) := by decide +kernel
theorem dX6_at_22 : decode cX6_at 22 = .ok (.invokevirtual 128, 3) := by decide +kernel
theorem dX6_at_25 : decode cX6_at 25 = .ok (.istore_n 2, 1) := by decide +kernel
theorem dX6_at_26 : decode cX6_at 26 = .ok (.iload_n 2, 1) := by decide +kernel
theorem dX6_at_27 : decode cX6_at 27 = .ok (.ifCond .ge 14, 3) := by decide +kernel
theorem dX6_at_30 : decode cX6_at 30 = .ok (.new 101, 3) := by decide +kernel
theorem dX6_at_33 : decode cX6_at 33 = .ok (.dup, 1) := by decide +kernel
theorem dX6_at_34 : decode cX6_at 34 = .ok (.ldc_w 262, 3) := by decide +kernel
theorem dX6_at_37 : decode cX6_at 37 = .ok (.invokespecial 105, 3) := by decide +kernel
theorem dX6_at_40 : decode cX6_at 40 = .ok (.athrow, 1) := by decide +kernel
theorem dX6_at_41 : decode cX6_at 41 = .ok (.bipush 10, 2) := by decide +kernel
theorem dX6_at_43 : decode cX6_at 43 = .ok (.iload_n 2, 1) := by decide +kernel
theorem dX6_at_44 : decode cX6_at 44 = .ok (.imul, 1) := by decide +kernel
theorem dX6_at_45 : decode cX6_at 45 = .ok (.aload_n 0, 1) := by decide +kernel
theorem dX6_at_46 : decode cX6_at 46 = .ok (.getfield 12, 3) := by decide +kernel
theorem dX6_at_49 : decode cX6_at 49 = .ok (.getfield 187, 3) := by decide +kernel
theorem dX6_at_52 : decode cX6_at 52 = .ok (.iload_n 2, 1) := by decide +kernel
theorem dX6_at_53 : decode cX6_at 53 = .ok (.aaload, 1) := by decide +kernel
theorem dX6_at_54 : decode cX6_at 54 = .ok (.iload_n 1, 1) := by decide +kernel
theorem dX6_at_55 : decode cX6_at 55 = .ok (.invokevirtual 264, 3) := by decide +kernel
theorem dX6_at_58 : decode cX6_at 58 = .ok (.iadd, 1) := by decide +kernel
theorem dX6_at_59 : decode cX6_at 59 = .ok (.ireturn, 1) := by decide +kernel
theorem dX6_rolls_0 : decode cX6_rolls 0 = .ok (.aload_n 0, 1) := by decide +kernel
theorem dX6_rolls_1 : decode cX6_rolls 1 = .ok (.getfield 12, 3) := by decide +kernel
theorem dX6_rolls_4 : decode cX6_rolls 4 = .ok (.iload_n 1, 1) := by decide +kernel
theorem dX6_rolls_5 : decode cX6_rolls 5 = .ok (.invokevirtual 231, 3) := by decide +kernel
theorem dX6_rolls_8 : decode cX6_rolls 8 = .ok (.ifCond .ne 13, 3) := by decide +kernel
theorem dX6_rolls_11 : decode cX6_rolls 11 = .ok (.new 75, 3) := by decide +kernel
theorem dX6_rolls_14 : decode cX6_rolls 14 = .ok (.dup, 1) := by decide +kernel
theorem dX6_rolls_15 : decode cX6_rolls 15 = .ok (.ldc 214, 2) := by decide +kernel
theorem dX6_rolls_17 : decode cX6_rolls 17 = .ok (.invokespecial 79, 3) := by decide +kernel
theorem dX6_rolls_20 : decode cX6_rolls 20 = .ok (.athrow, 1) := by decide +kernel
theorem dX6_rolls_21 : decode cX6_rolls 21 = .ok (.aload_n 0, 1) := by decide +kernel
theorem dX6_rolls_22 : decode cX6_rolls 22 = .ok (.getfield 12, 3) := by decide +kernel
theorem dX6_rolls_25 : decode cX6_rolls 25 = .ok (.iload_n 1, 1) := by decide +kernel
theorem dX6_rolls_26 : decode cX6_rolls 26 = .ok (.invokevirtual 267, 3) := by decide +kernel
theorem dX6_rolls_29 : decode cX6_rolls 29 = .ok (.ireturn, 1) := by decide +kernel
theorem dX6_rollsAgain_0 : decode cX6_rollsAgain 0 = .ok (.aload_n 0, 1) := by decide +kernel
theorem dX6_rollsAgain_1 : decode cX6_rollsAgain 1 = .ok (.getfield 12, 3) := by decide +kernel
theorem dX6_rollsAgain_4 : decode cX6_rollsAgain 4 = .ok (.iload_n 1, 1) := by decide +kernel
theorem dX6_rollsAgain_5 : decode cX6_rollsAgain 5 = .ok (.invokevirtual 231, 3) := by decide +kernel
theorem dX6_rollsAgain_8 : decode cX6_rollsAgain 8 = .ok (.ifCond .ne 13, 3) := by decide +kernel
theorem dX6_rollsAgain_11 : decode cX6_rollsAgain 11 = .ok (.new 75, 3) := by decide +kernel
theorem dX6_rollsAgain_14 : decode cX6_rollsAgain 14 = .ok (.dup, 1) := by decide +kernel
theorem dX6_rollsAgain_15 : decode cX6_rollsAgain 15 = .ok (.ldc 214, 2) := by decide +kernel
theorem dX6_rollsAgain_17 : decode cX6_rollsAgain 17 = .ok (.invokespecial 79, 3) := by decide +kernel
theorem dX6_rollsAgain_20 : decode cX6_rollsAgain 20 = .ok (.athrow, 1) := by decide +kernel
theorem dX6_rollsAgain_21 : decode cX6_rollsAgain 21 = .ok (.aload_n 0, 1) := by decide +kernel
theorem dX6_rollsAgain_22 : decode cX6_rollsAgain 22 = .ok (.getfield 16, 3) := by decide +kernel
theorem dX6_rollsAgain_25 : decode cX6_rollsAgain 25 = .ok (.aload_n 0, 1) := by decide +kernel
theorem dX6_rollsAgain_26 : decode cX6_rollsAgain 26 = .ok (.getfield 12, 3) := by decide +kernel
theorem dX6_rollsAgain_29 : decode cX6_rollsAgain 29 = .ok (.invokevirtual 270, 3) := by decide +kernel
theorem dX6_rollsAgain_32 : decode cX6_rollsAgain 32 = .ok (.iconst 0, 1) := by decide +kernel
theorem dX6_rollsAgain_33 : decode cX6_rollsAgain 33 = .ok (.istore_n 2, 1) := by decide +kernel
theorem dX6_rollsAgain_34 : decode cX6_rollsAgain 34 = .ok (.iload_n 2, 1) := by decide +kernel
theorem dX6_rollsAgain_35 : decode cX6_rollsAgain 35 = .ok (.bipush 24, 2) := by decide +kernel
theorem dX6_rollsAgain_37 : decode cX6_rollsAgain 37 = .ok (.if_icmp .ge 36, 3) := by decide +kernel
theorem dX6_rollsAgain_40 : decode cX6_rollsAgain 40 = .ok (.aload_n 0, 1) := by decide +kernel
theorem dX6_rollsAgain_41 : decode cX6_rollsAgain 41 = .ok (.getfield 16, 3) := by decide +kernel
theorem dX6_rollsAgain_44 : decode cX6_rollsAgain 44 = .ok (.iload_n 1, 1) := by decide +kernel
theorem dX6_rollsAgain_45 : decode cX6_rollsAgain 45 = .ok (.invokevirtual 222, 3) := by decide +kernel
theorem dX6_rollsAgain_48 : decode cX6_rollsAgain 48 = .ok (.ifCond .ne 25, 3) := by decide +kernel
theorem dX6_rollsAgain_51 : decode cX6_rollsAgain 51 = .ok (.aload_n 0, 1) := by decide +kernel
theorem dX6_rollsAgain_52 : decode cX6_rollsAgain 52 = .ok (.getfield 16, 3) := by decide +kernel
theorem dX6_rollsAgain_55 : decode cX6_rollsAgain 55 = .ok (.aload_n 0, 1) := by decide +kernel
theorem dX6_rollsAgain_56 : decode cX6_rollsAgain 56 = .ok (.getfield 16, 3) := by decide +kernel
theorem dX6_rollsAgain_59 : decode cX6_rollsAgain 59 = .ok (.getfield 187, 3) := by decide +kernel
theorem dX6_rollsAgain_62 : decode cX6_rollsAgain 62 = .ok (.iload_n 1, 1) := by decide +kernel
theorem dX6_rollsAgain_63 : decode cX6_rollsAgain 63 = .ok (.aaload, 1) := by decide +kernel
theorem dX6_rollsAgain_64 : decode cX6_rollsAgain 64 = .ok (.invokevirtual 218, 3) := by decide +kernel
theorem dX6_rollsAgain_67 : decode cX6_rollsAgain 67 = .ok (.iinc 2 1, 3) := by decide +kernel
theorem dX6_rollsAgain_70 : decode cX6_rollsAgain 70 = .ok (.goto (-36), 3) := by decide +kernel
theorem dX6_rollsAgain_73 : decode cX6_rollsAgain 73 = .ok (.iload_n 2, 1) := by decide +kernel
theorem dX6_rollsAgain_74 : decode cX6_rollsAgain 74 = .ok (.ireturn, 1) := by decide +kernel
theorem dX6_iceIn_0 : decode cX6_iceIn 0 = .ok (.iload_n 1, 1) := by decide +kernel
theorem dX6_iceIn_1 : decode cX6_iceIn 1 = .ok (.invokestatic 72, 3) := by decide +kernel
theorem dX6_iceIn_4 : decode cX6_iceIn 4 = .ok (.ifCond .ne 13, 3) := by decide +kernel
theorem dX6_iceIn_7 : decode cX6_iceIn 7 = .ok (.new 75, 3) := by decide +kernel
theorem dX6_iceIn_10 : decode cX6_iceIn 10 = .ok (.dup, 1) := by decide +kernel
theorem dX6_iceIn_11 : decode cX6_iceIn 11 = .ok (.ldc 77, 2) := by decide +kernel
theorem dX6_iceIn_13 : decode cX6_iceIn 13 = .ok (.invokespecial 79, 3) := by decide +kernel
theorem dX6_iceIn_16 : decode cX6_iceIn 16 = .ok (.athrow, 1) := by decide +kernel
theorem dX6_iceIn_17 : decode cX6_iceIn 17 = .ok (.iload_n 2, 1) := by decide +kernel
theorem dX6_iceIn_18 : decode cX6_iceIn 18 = .ok (.ifCond .lt 9, 3) := by decide +kernel
theorem dX6_iceIn_21 : decode cX6_iceIn 21 = .ok (.iload_n 2, 1) := by decide +kernel
theorem dX6_iceIn_22 : decode cX6_iceIn 22 = .ok (.bipush 60, 2) := by decide +kernel
theorem dX6_iceIn_24 : decode cX6_iceIn 24 = .ok (.if_icmp .le 14, 3) := by decide +kernel
theorem dX6_iceIn_27 : decode cX6_iceIn 27 = .ok (.new 51, 3) := by decide +kernel
theorem dX6_iceIn_30 : decode cX6_iceIn 30 = .ok (.dup, 1) := by decide +kernel
theorem dX6_iceIn_31 : decode cX6_iceIn 31 = .ok (.ldc_w 273, 3) := by decide +kernel
theorem dX6_iceIn_34 : decode cX6_iceIn 34 = .ok (.invokespecial 55, 3) := by decide +kernel
theorem dX6_iceIn_37 : decode cX6_iceIn 37 = .ok (.athrow, 1) := by decide +kernel
theorem dX6_iceIn_38 : decode cX6_iceIn 38 = .ok (.aload_n 0, 1) := by decide +kernel
theorem dX6_iceIn_39 : decode cX6_iceIn 39 = .ok (.getfield 12, 3) := by decide +kernel
theorem dX6_iceIn_42 : decode cX6_iceIn 42 = .ok (.getfield 80, 3) := by decide +kernel
theorem dX6_iceIn_45 : decode cX6_iceIn 45 = .ok (.iload_n 1, 1) := by decide +kernel
theorem dX6_iceIn_46 : decode cX6_iceIn 46 = .ok (.aaload, 1) := by decide +kernel
theorem dX6_iceIn_47 : decode cX6_iceIn 47 = .ok (.getfield 121, 3) := by decide +kernel
theorem dX6_iceIn_50 : decode cX6_iceIn 50 = .ok (.fstore_n 3, 1) := by decide +kernel
theorem dX6_iceIn_51 : decode cX6_iceIn 51 = .ok (.iconst 0, 1) := by decide +kernel
theorem dX6_iceIn_52 : decode cX6_iceIn 52 = .ok (.istore 4, 2) := by decide +kernel
theorem dX6_iceIn_54 : decode cX6_iceIn 54 = .ok (.iload 4, 2) := by decide +kernel
theorem dX6_iceIn_56 : decode cX6_iceIn 56 = .ok (.iload_n 2, 1) := by decide +kernel
theorem dX6_iceIn_57 : decode cX6_iceIn 57 = .ok (.if_icmp .ge 23, 3) := by decide +kernel
theorem dX6_iceIn_60 : decode cX6_iceIn 60 = .ok (.fload_n 3, 1) := by decide +kernel
theorem dX6_iceIn_61 : decode cX6_iceIn 61 = .ok (.aload_n 0, 1) := by decide +kernel
theorem dX6_iceIn_62 : decode cX6_iceIn 62 = .ok (.getfield 12, 3) := by decide +kernel
theorem dX6_iceIn_65 : decode cX6_iceIn 65 = .ok (.getfield 62, 3) := by decide +kernel
theorem dX6_iceIn_68 : decode cX6_iceIn 68 = .ok (.iconst 0, 1) := by decide +kernel
theorem dX6_iceIn_69 : decode cX6_iceIn 69 = .ok (.iaload, 1) := by decide +kernel
theorem dX6_iceIn_70 : decode cX6_iceIn 70 = .ok (.invokestatic 275, 3) := by decide +kernel
theorem dX6_iceIn_73 : decode cX6_iceIn 73 = .ok (.fstore_n 3, 1) := by decide +kernel
theorem dX6_iceIn_74 : decode cX6_iceIn 74 = .ok (.iinc 4 1, 3) := by decide +kernel
theorem dX6_iceIn_77 : decode cX6_iceIn 77 = .ok (.goto (-23), 3) := by decide +kernel
theorem dX6_iceIn_80 : decode cX6_iceIn 80 = .ok (.fload_n 3, 1) := by decide +kernel
theorem dX6_iceIn_81 : decode cX6_iceIn 81 = .ok (.invokestatic 94, 3) := by decide +kernel
theorem dX6_iceIn_84 : decode cX6_iceIn 84 = .ok (.ireturn, 1) := by decide +kernel
theorem dX6_bearsIn_0 : decode cX6_bearsIn 0 = .ok (.iload_n 1, 1) := by decide +kernel
theorem dX6_bearsIn_1 : decode cX6_bearsIn 1 = .ok (.invokestatic 72, 3) := by decide +kernel
theorem dX6_bearsIn_4 : decode cX6_bearsIn 4 = .ok (.ifCond .ne 13, 3) := by decide +kernel
theorem dX6_bearsIn_7 : decode cX6_bearsIn 7 = .ok (.new 75, 3) := by decide +kernel
theorem dX6_bearsIn_10 : decode cX6_bearsIn 10 = .ok (.dup, 1) := by decide +kernel
theorem dX6_bearsIn_11 : decode cX6_bearsIn 11 = .ok (.ldc 77, 2) := by decide +kernel
theorem dX6_bearsIn_13 : decode cX6_bearsIn 13 = .ok (.invokespecial 79, 3) := by decide +kernel
theorem dX6_bearsIn_16 : decode cX6_bearsIn 16 = .ok (.athrow, 1) := by decide +kernel
theorem dX6_bearsIn_17 : decode cX6_bearsIn 17 = .ok (.iload_n 2, 1) := by decide +kernel
theorem dX6_bearsIn_18 : decode cX6_bearsIn 18 = .ok (.iconst 1, 1) := by decide +kernel
theorem dX6_bearsIn_19 : decode cX6_bearsIn 19 = .ok (.if_icmp .lt 9, 3) := by decide +kernel
theorem dX6_bearsIn_22 : decode cX6_bearsIn 22 = .ok (.iload_n 2, 1) := by decide +kernel
theorem dX6_bearsIn_23 : decode cX6_bearsIn 23 = .ok (.bipush 99, 2) := by decide +kernel
theorem dX6_bearsIn_25 : decode cX6_bearsIn 25 = .ok (.if_icmp .le 14, 3) := by decide +kernel
theorem dX6_bearsIn_28 : decode cX6_bearsIn 28 = .ok (.new 51, 3) := by decide +kernel
theorem dX6_bearsIn_31 : decode cX6_bearsIn 31 = .ok (.dup, 1) := by decide +kernel
theorem dX6_bearsIn_32 : decode cX6_bearsIn 32 = .ok (.ldc_w 279, 3) := by decide +kernel
theorem dX6_bearsIn_35 : decode cX6_bearsIn 35 = .ok (.invokespecial 55, 3) := by decide +kernel
theorem dX6_bearsIn_38 : decode cX6_bearsIn 38 = .ok (.athrow, 1) := by decide +kernel
theorem dX6_bearsIn_39 : decode cX6_bearsIn 39 = .ok (.aload_n 0, 1) := by decide +kernel
theorem dX6_bearsIn_40 : decode cX6_bearsIn 40 = .ok (.getfield 12, 3) := by decide +kernel
theorem dX6_bearsIn_43 : decode cX6_bearsIn 43 = .ok (.getfield 80, 3) := by decide +kernel
theorem dX6_bearsIn_46 : decode cX6_bearsIn 46 = .ok (.iload_n 1, 1) := by decide +kernel
theorem dX6_bearsIn_47 : decode cX6_bearsIn 47 = .ok (.aaload, 1) := by decide +kernel
theorem dX6_bearsIn_48 : decode cX6_bearsIn 48 = .ok (.getfield 121, 3) := by decide +kernel
theorem dX6_bearsIn_51 : decode cX6_bearsIn 51 = .ok (.fstore_n 3, 1) := by decide +kernel
theorem dX6_bearsIn_52 : decode cX6_bearsIn 52 = .ok (.iconst 0, 1) := by decide +kernel
theorem dX6_bearsIn_53 : decode cX6_bearsIn 53 = .ok (.istore 4, 2) := by decide +kernel
theorem dX6_bearsIn_55 : decode cX6_bearsIn 55 = .ok (.iload 4, 2) := by decide +kernel
theorem dX6_bearsIn_57 : decode cX6_bearsIn 57 = .ok (.bipush 90, 2) := by decide +kernel
theorem dX6_bearsIn_59 : decode cX6_bearsIn 59 = .ok (.if_icmp .gt 39, 3) := by decide +kernel
theorem dX6_bearsIn_62 : decode cX6_bearsIn 62 = .ok (.fload_n 3, 1) := by decide +kernel
theorem dX6_bearsIn_63 : decode cX6_bearsIn 63 = .ok (.fload_n 3, 1) := by decide +kernel
theorem dX6_bearsIn_64 : decode cX6_bearsIn 64 = .ok (.fmul, 1) := by decide +kernel
theorem dX6_bearsIn_65 : decode cX6_bearsIn 65 = .ok (.ldc_w 281, 3) := by decide +kernel
theorem dX6_bearsIn_68 : decode cX6_bearsIn 68 = .ok (.fmul, 1) := by decide +kernel
theorem dX6_bearsIn_69 : decode cX6_bearsIn 69 = .ok (.iload_n 2, 1) := by decide +kernel
theorem dX6_bearsIn_70 : decode cX6_bearsIn 70 = .ok (.i2f, 1) := by decide +kernel
theorem dX6_bearsIn_71 : decode cX6_bearsIn 71 = .ok (.fcmp .l, 1) := by decide +kernel
theorem dX6_bearsIn_72 : decode cX6_bearsIn 72 = .ok (.ifCond .lt 6, 3) := by decide +kernel
theorem dX6_bearsIn_75 : decode cX6_bearsIn 75 = .ok (.iload 4, 2) := by decide +kernel
theorem dX6_bearsIn_77 : decode cX6_bearsIn 77 = .ok (.ireturn, 1) := by decide +kernel
theorem dX6_bearsIn_78 : decode cX6_bearsIn 78 = .ok (.fload_n 3, 1) := by decide +kernel
theorem dX6_bearsIn_79 : decode cX6_bearsIn 79 = .ok (.aload_n 0, 1) := by decide +kernel
theorem dX6_bearsIn_80 : decode cX6_bearsIn 80 = .ok (.getfield 12, 3) := by decide +kernel
theorem dX6_bearsIn_83 : decode cX6_bearsIn 83 = .ok (.getfield 62, 3) := by decide +kernel
theorem dX6_bearsIn_86 : decode cX6_bearsIn 86 = .ok (.iconst 0, 1) := by decide +kernel
theorem dX6_bearsIn_87 : decode cX6_bearsIn 87 = .ok (.iaload, 1) := by decide +kernel
theorem dX6_bearsIn_88 : decode cX6_bearsIn 88 = .ok (.invokestatic 275, 3) := by decide +kernel
theorem dX6_bearsIn_91 : decode cX6_bearsIn 91 = .ok (.fstore_n 3, 1) := by decide +kernel
theorem dX6_bearsIn_92 : decode cX6_bearsIn 92 = .ok (.iinc 4 1, 3) := by decide +kernel
theorem dX6_bearsIn_95 : decode cX6_bearsIn 95 = .ok (.goto (-40), 3) := by decide +kernel
theorem dX6_bearsIn_98 : decode cX6_bearsIn 98 = .ok (.new 101, 3) := by decide +kernel
theorem dX6_bearsIn_101 : decode cX6_bearsIn 101 = .ok (.dup, 1) := by decide +kernel
theorem dX6_bearsIn_102 : decode cX6_bearsIn 102 = .ok (.ldc_w 282, 3) := by decide +kernel
theorem dX6_bearsIn_105 : decode cX6_bearsIn 105 = .ok (.invokespecial 105, 3) := by decide +kernel
theorem dX6_bearsIn_108 : decode cX6_bearsIn 108 = .ok (.athrow, 1) := by decide +kernel
theorem dX6_pass_0 : decode cX6_pass 0 = .ok (.iload_n 1, 1) := by decide +kernel
theorem dX6_pass_1 : decode cX6_pass 1 = .ok (.invokestatic 284, 3) := by decide +kernel
theorem dX6_pass_4 : decode cX6_pass 4 = .ok (.ifCond .ne 14, 3) := by decide +kernel
theorem dX6_pass_7 : decode cX6_pass 7 = .ok (.new 51, 3) := by decide +kernel
theorem dX6_pass_10 : decode cX6_pass 10 = .ok (.dup, 1) := by decide +kernel
theorem dX6_pass_11 : decode cX6_pass 11 = .ok (.ldc_w 273, 3) := by decide +kernel
theorem dX6_pass_14 : decode cX6_pass 14 = .ok (.invokespecial 55, 3) := by decide +kernel
theorem dX6_pass_17 : decode cX6_pass 17 = .ok (.athrow, 1) := by decide +kernel
theorem dX6_pass_18 : decode cX6_pass 18 = .ok (.aload_n 0, 1) := by decide +kernel
theorem dX6_pass_19 : decode cX6_pass 19 = .ok (.getfield 29, 3) := by decide +kernel
theorem dX6_pass_22 : decode cX6_pass 22 = .ok (.aload_n 0, 1) := by decide +kernel
theorem dX6_pass_23 : decode cX6_pass 23 = .ok (.getfield 12, 3) := by decide +kernel
theorem dX6_pass_26 : decode cX6_pass 26 = .ok (.invokevirtual 58, 3) := by decide +kernel
theorem dX6_pass_29 : decode cX6_pass 29 = .ok (.aload_n 0, 1) := by decide +kernel
theorem dX6_pass_30 : decode cX6_pass 30 = .ok (.getfield 12, 3) := by decide +kernel
theorem dX6_pass_33 : decode cX6_pass 33 = .ok (.invokevirtual 287, 3) := by decide +kernel
theorem dX6_pass_36 : decode cX6_pass 36 = .ok (.istore_n 2, 1) := by decide +kernel
theorem dX6_pass_37 : decode cX6_pass 37 = .ok (.aload_n 0, 1) := by decide +kernel
theorem dX6_pass_38 : decode cX6_pass 38 = .ok (.getfield 12, 3) := by decide +kernel
theorem dX6_pass_41 : decode cX6_pass 41 = .ok (.iload_n 1, 1) := by decide +kernel
theorem dX6_pass_42 : decode cX6_pass 42 = .ok (.invokevirtual 290, 3) := by decide +kernel
theorem dX6_pass_45 : decode cX6_pass 45 = .ok (.iload_n 2, 1) := by decide +kernel
theorem dX6_pass_46 : decode cX6_pass 46 = .ok (.aload_n 0, 1) := by decide +kernel
theorem dX6_pass_47 : decode cX6_pass 47 = .ok (.getfield 12, 3) := by decide +kernel
theorem dX6_pass_50 : decode cX6_pass 50 = .ok (.invokevirtual 287, 3) := by decide +kernel
theorem dX6_pass_53 : decode cX6_pass 53 = .ok (.isub, 1) := by decide +kernel
theorem dX6_pass_54 : decode cX6_pass 54 = .ok (.ireturn, 1) := by decide +kernel
theorem dX6_append_0 : decode cX6_append 0 = .ok (.aload_n 0, 1) := by decide +kernel
theorem dX6_append_1 : decode cX6_append 1 = .ok (.getfield 36, 3) := by decide +kernel
theorem dX6_append_4 : decode cX6_append 4 = .ok (.getfield 294, 3) := by decide +kernel
theorem dX6_append_7 : decode cX6_append 7 = .ok (.bipush 60, 2) := by decide +kernel
theorem dX6_append_9 : decode cX6_append 9 = .ok (.if_icmp .lt 14, 3) := by decide +kernel
theorem dX6_append_12 : decode cX6_append 12 = .ok (.new 297, 3) := by decide +kernel
theorem dX6_append_15 : decode cX6_append 15 = .ok (.dup, 1) := by decide +kernel
theorem dX6_append_16 : decode cX6_append 16 = .ok (.ldc_w 299, 3) := by decide +kernel
theorem dX6_append_19 : decode cX6_append 19 = .ok (.invokespecial 301, 3) := by decide +kernel
theorem dX6_append_22 : decode cX6_append 22 = .ok (.athrow, 1) := by decide +kernel
theorem dX6_append_23 : decode cX6_append 23 = .ok (.aload_n 0, 1) := by decide +kernel
theorem dX6_append_24 : decode cX6_append 24 = .ok (.getfield 36, 3) := by decide +kernel
theorem dX6_append_27 : decode cX6_append 27 = .ok (.getfield 302, 3) := by decide +kernel
theorem dX6_append_30 : decode cX6_append 30 = .ok (.aload_n 0, 1) := by decide +kernel
theorem dX6_append_31 : decode cX6_append 31 = .ok (.getfield 36, 3) := by decide +kernel
theorem dX6_append_34 : decode cX6_append 34 = .ok (.getfield 294, 3) := by decide +kernel
theorem dX6_append_37 : decode cX6_append 37 = .ok (.iload_n 1, 1) := by decide +kernel
theorem dX6_append_38 : decode cX6_append 38 = .ok (.castore, 1) := by decide +kernel
theorem dX6_append_39 : decode cX6_append 39 = .ok (.aload_n 0, 1) := by decide +kernel
theorem dX6_append_40 : decode cX6_append 40 = .ok (.getfield 36, 3) := by decide +kernel
theorem dX6_append_43 : decode cX6_append 43 = .ok (.dup, 1) := by decide +kernel
theorem dX6_append_44 : decode cX6_append 44 = .ok (.getfield 294, 3) := by decide +kernel
theorem dX6_append_47 : decode cX6_append 47 = .ok (.iconst 1, 1) := by decide +kernel
theorem dX6_append_48 : decode cX6_append 48 = .ok (.iadd, 1) := by decide +kernel
theorem dX6_append_49 : decode cX6_append 49 = .ok (.putfield 294, 3) := by decide +kernel
theorem dX6_append_52 : decode cX6_append 52 = .ok (.aload_n 0, 1) := by decide +kernel
theorem dX6_append_53 : decode cX6_append 53 = .ok (.getfield 36, 3) := by decide +kernel
theorem dX6_append_56 : decode cX6_append 56 = .ok (.getfield 294, 3) := by decide +kernel
theorem dX6_append_59 : decode cX6_append 59 = .ok (.ireturn, 1) := by decide +kernel
theorem dX6_read_0 : decode cX6_read 0 = .ok (.aload_n 0, 1) := by decide +kernel
theorem dX6_read_1 : decode cX6_read 1 = .ok (.aload_n 0, 1) := by decide +kernel
theorem dX6_read_2 : decode cX6_read 2 = .ok (.getfield 36, 3) := by decide +kernel
theorem dX6_read_5 : decode cX6_read 5 = .ok (.invokevirtual 306, 3) := by decide +kernel
theorem dX6_read_8 : decode cX6_read 8 = .ok (.putfield 40, 3) := by decide +kernel
theorem dX6_read_11 : decode cX6_read 11 = .ok (.aload_n 0, 1) := by decide +kernel
theorem dX6_read_12 : decode cX6_read 12 = .ok (.getfield 36, 3) := by decide +kernel
theorem dX6_read_15 : decode cX6_read 15 = .ok (.iconst 0, 1) := by decide +kernel
theorem dX6_read_16 : decode cX6_read 16 = .ok (.putfield 294, 3) := by decide +kernel
theorem dX6_read_19 : decode cX6_read 19 = .ok (.aload_n 0, 1) := by decide +kernel
theorem dX6_read_20 : decode cX6_read 20 = .ok (.getfield 40, 3) := by decide +kernel
theorem dX6_read_23 : decode cX6_read 23 = .ok (.ifCond .lt 14, 3) := by decide +kernel
theorem dX6_read_26 : decode cX6_read 26 = .ok (.new 51, 3) := by decide +kernel
theorem dX6_read_29 : decode cX6_read 29 = .ok (.dup, 1) := by decide +kernel
theorem dX6_read_30 : decode cX6_read 30 = .ok (.ldc_w 309, 3) := by decide +kernel
theorem dX6_read_33 : decode cX6_read 33 = .ok (.invokespecial 55, 3) := by decide +kernel
theorem dX6_read_36 : decode cX6_read 36 = .ok (.athrow, 1) := by decide +kernel
theorem dX6_read_37 : decode cX6_read 37 = .ok (.aload_n 0, 1) := by decide +kernel
theorem dX6_read_38 : decode cX6_read 38 = .ok (.getfield 16, 3) := by decide +kernel
theorem dX6_read_41 : decode cX6_read 41 = .ok (.aload_n 0, 1) := by decide +kernel
theorem dX6_read_42 : decode cX6_read 42 = .ok (.getfield 12, 3) := by decide +kernel
theorem dX6_read_45 : decode cX6_read 45 = .ok (.invokevirtual 270, 3) := by decide +kernel
theorem dX6_read_48 : decode cX6_read 48 = .ok (.iconst 0, 1) := by decide +kernel
theorem dX6_read_49 : decode cX6_read 49 = .ok (.istore_n 1, 1) := by decide +kernel
theorem dX6_read_50 : decode cX6_read 50 = .ok (.iload_n 1, 1) := by decide +kernel
theorem dX6_read_51 : decode cX6_read 51 = .ok (.aload_n 0, 1) := by decide +kernel
theorem dX6_read_52 : decode cX6_read 52 = .ok (.getfield 36, 3) := by decide +kernel
theorem dX6_read_55 : decode cX6_read 55 = .ok (.getfield 311, 3) := by decide +kernel
theorem dX6_read_58 : decode cX6_read 58 = .ok (.if_icmp .ge 57, 3) := by decide +kernel
theorem dX6_read_61 : decode cX6_read 61 = .ok (.aload_n 0, 1) := by decide +kernel
theorem dX6_read_62 : decode cX6_read 62 = .ok (.getfield 36, 3) := by decide +kernel
theorem dX6_read_65 : decode cX6_read 65 = .ok (.iload_n 1, 1) := by decide +kernel
theorem dX6_read_66 : decode cX6_read 66 = .ok (.aload_n 0, 1) := by decide +kernel
theorem dX6_read_67 : decode cX6_read 67 = .ok (.getfield 16, 3) := by decide +kernel
theorem dX6_read_70 : decode cX6_read 70 = .ok (.invokevirtual 314, 3) := by decide +kernel
theorem dX6_read_73 : decode cX6_read 73 = .ok (.istore_n 2, 1) := by decide +kernel
theorem dX6_read_74 : decode cX6_read 74 = .ok (.iload_n 2, 1) := by decide +kernel
theorem dX6_read_75 : decode cX6_read 75 = .ok (.ifCond .ge 14, 3) := by decide +kernel
theorem dX6_read_78 : decode cX6_read 78 = .ok (.new 51, 3) := by decide +kernel
theorem dX6_read_81 : decode cX6_read 81 = .ok (.dup, 1) := by decide +kernel
theorem dX6_read_82 : decode cX6_read 82 = .ok (.ldc_w 318, 3) := by decide +kernel
theorem dX6_read_85 : decode cX6_read 85 = .ok (.invokespecial 55, 3) := by decide +kernel
theorem dX6_read_88 : decode cX6_read 88 = .ok (.athrow, 1) := by decide +kernel
theorem dX6_read_89 : decode cX6_read 89 = .ok (.iload_n 2, 1) := by decide +kernel
theorem dX6_read_90 : decode cX6_read 90 = .ok (.ifCond .le 19, 3) := by decide +kernel
theorem dX6_read_93 : decode cX6_read 93 = .ok (.aload_n 0, 1) := by decide +kernel
theorem dX6_read_94 : decode cX6_read 94 = .ok (.iload_n 2, 1) := by decide +kernel
theorem dX6_read_95 : decode cX6_read 95 = .ok (.putfield 44, 3) := by decide +kernel
theorem dX6_read_98 : decode cX6_read 98 = .ok (.new 146, 3) := by decide +kernel
theorem dX6_read_101 : decode cX6_read 101 = .ok (.dup, 1) := by decide +kernel
theorem dX6_read_102 : decode cX6_read 102 = .ok (.ldc_w 320, 3) := by decide +kernel
theorem dX6_read_105 : decode cX6_read 105 = .ok (.invokespecial 150, 3) := by decide +kernel
theorem dX6_read_108 : decode cX6_read 108 = .ok (.athrow, 1) := by decide +kernel
theorem dX6_read_109 : decode cX6_read 109 = .ok (.iinc 1 1, 3) := by decide +kernel
theorem dX6_read_112 : decode cX6_read 112 = .ok (.goto (-62), 3) := by decide +kernel
theorem dX6_read_115 : decode cX6_read 115 = .ok (.aload_n 0, 1) := by decide +kernel
theorem dX6_read_116 : decode cX6_read 116 = .ok (.getfield 29, 3) := by decide +kernel
theorem dX6_read_119 : decode cX6_read 119 = .ok (.aload_n 0, 1) := by decide +kernel
theorem dX6_read_120 : decode cX6_read 120 = .ok (.getfield 12, 3) := by decide +kernel
theorem dX6_read_123 : decode cX6_read 123 = .ok (.invokevirtual 58, 3) := by decide +kernel
theorem dX6_read_126 : decode cX6_read 126 = .ok (.aload_n 0, 1) := by decide +kernel
theorem dX6_read_127 : decode cX6_read 127 = .ok (.getfield 12, 3) := by decide +kernel
theorem dX6_read_130 : decode cX6_read 130 = .ok (.aload_n 0, 1) := by decide +kernel
theorem dX6_read_131 : decode cX6_read 131 = .ok (.getfield 16, 3) := by decide +kernel
theorem dX6_read_134 : decode cX6_read 134 = .ok (.invokevirtual 270, 3) := by decide +kernel
theorem dX6_read_137 : decode cX6_read 137 = .ok (.aload_n 0, 1) := by decide +kernel
theorem dX6_read_138 : decode cX6_read 138 = .ok (.getfield 36, 3) := by decide +kernel
theorem dX6_read_141 : decode cX6_read 141 = .ok (.getfield 311, 3) := by decide +kernel
theorem dX6_read_144 : decode cX6_read 144 = .ok (.ireturn, 1) := by decide +kernel
theorem dX6_refusal_0 : decode cX6_refusal 0 = .ok (.aload_n 0, 1) := by decide +kernel
theorem dX6_refusal_1 : decode cX6_refusal 1 = .ok (.getfield 44, 3) := by decide +kernel
theorem dX6_refusal_4 : decode cX6_refusal 4 = .ok (.ifCond .ne 14, 3) := by decide +kernel
theorem dX6_refusal_7 : decode cX6_refusal 7 = .ok (.new 101, 3) := by decide +kernel
theorem dX6_refusal_10 : decode cX6_refusal 10 = .ok (.dup, 1) := by decide +kernel
theorem dX6_refusal_11 : decode cX6_refusal 11 = .ok (.ldc_w 322, 3) := by decide +kernel
theorem dX6_refusal_14 : decode cX6_refusal 14 = .ok (.invokespecial 105, 3) := by decide +kernel
theorem dX6_refusal_17 : decode cX6_refusal 17 = .ok (.athrow, 1) := by decide +kernel
theorem dX6_refusal_18 : decode cX6_refusal 18 = .ok (.iload_n 1, 1) := by decide +kernel
theorem dX6_refusal_19 : decode cX6_refusal 19 = .ok (.ifCond .eq 13, 3) := by decide +kernel
theorem dX6_refusal_22 : decode cX6_refusal 22 = .ok (.aload_n 0, 1) := by decide +kernel
theorem dX6_refusal_23 : decode cX6_refusal 23 = .ok (.getfield 44, 3) := by decide +kernel
theorem dX6_refusal_26 : decode cX6_refusal 26 = .ok (.bipush 16, 2) := by decide +kernel
theorem dX6_refusal_28 : decode cX6_refusal 28 = .ok (.irem, 1) := by decide +kernel
theorem dX6_refusal_29 : decode cX6_refusal 29 = .ok (.goto 10, 3) := by decide +kernel
theorem dX6_refusal_32 : decode cX6_refusal 32 = .ok (.aload_n 0, 1) := by decide +kernel
theorem dX6_refusal_33 : decode cX6_refusal 33 = .ok (.getfield 44, 3) := by decide +kernel
theorem dX6_refusal_36 : decode cX6_refusal 36 = .ok (.bipush 16, 2) := by decide +kernel
theorem dX6_refusal_38 : decode cX6_refusal 38 = .ok (.idiv, 1) := by decide +kernel
theorem dX6_refusal_39 : decode cX6_refusal 39 = .ok (.ireturn, 1) := by decide +kernel
theorem dX6_account_0 : decode cX6_account 0 = .ok (.iload_n 1, 1) := by decide +kernel
theorem dX6_account_1 : decode cX6_account 1 = .ok (.tableswitch 211 0 14 #[75, 83, 91, 99, 115, 123, 131, 139, 147, 163, 171, 179, 187, 195, 203], 75) := by decide +kernel
theorem dX6_account_76 : decode cX6_account 76 = .ok (.aload_n 0, 1) := by decide +kernel
theorem dX6_account_77 : decode cX6_account 77 = .ok (.getfield 12, 3) := by decide +kernel
theorem dX6_account_80 : decode cX6_account 80 = .ok (.getfield 324, 3) := by decide +kernel
theorem dX6_account_83 : decode cX6_account 83 = .ok (.ireturn, 1) := by decide +kernel
theorem dX6_account_84 : decode cX6_account 84 = .ok (.aload_n 0, 1) := by decide +kernel
theorem dX6_account_85 : decode cX6_account 85 = .ok (.getfield 12, 3) := by decide +kernel
theorem dX6_account_88 : decode cX6_account 88 = .ok (.invokevirtual 327, 3) := by decide +kernel
theorem dX6_account_91 : decode cX6_account 91 = .ok (.ireturn, 1) := by decide +kernel
theorem dX6_account_92 : decode cX6_account 92 = .ok (.aload_n 0, 1) := by decide +kernel
theorem dX6_account_93 : decode cX6_account 93 = .ok (.getfield 12, 3) := by decide +kernel
theorem dX6_account_96 : decode cX6_account 96 = .ok (.getfield 182, 3) := by decide +kernel
theorem dX6_account_99 : decode cX6_account 99 = .ok (.ireturn, 1) := by decide +kernel
theorem dX6_account_100 : decode cX6_account 100 = .ok (.aload_n 0, 1) := by decide +kernel
theorem dX6_account_101 : decode cX6_account 101 = .ok (.getfield 12, 3) := by decide +kernel
theorem dX6_account_104 : decode cX6_account 104 = .ok (.invokevirtual 330, 3) := by decide +kernel
theorem dX6_account_107 : decode cX6_account 107 = .ok (.aload_n 0, 1) := by decide +kernel
theorem dX6_account_108 : decode cX6_account 108 = .ok (.getfield 12, 3) := by decide +kernel
theorem dX6_account_111 : decode cX6_account 111 = .ok (.invokevirtual 333, 3) := by decide +kernel
theorem dX6_account_114 : decode cX6_account 114 = .ok (.isub, 1) := by decide +kernel
theorem dX6_account_115 : decode cX6_account 115 = .ok (.ireturn, 1) := by decide +kernel
theorem dX6_account_116 : decode cX6_account 116 = .ok (.aload_n 0, 1) := by decide +kernel
theorem dX6_account_117 : decode cX6_account 117 = .ok (.getfield 12, 3) := by decide +kernel
theorem dX6_account_120 : decode cX6_account 120 = .ok (.invokevirtual 333, 3) := by decide +kernel
theorem dX6_account_123 : decode cX6_account 123 = .ok (.ireturn, 1) := by decide +kernel
theorem dX6_account_124 : decode cX6_account 124 = .ok (.aload_n 0, 1) := by decide +kernel
theorem dX6_account_125 : decode cX6_account 125 = .ok (.getfield 12, 3) := by decide +kernel
theorem dX6_account_128 : decode cX6_account 128 = .ok (.invokevirtual 336, 3) := by decide +kernel
theorem dX6_account_131 : decode cX6_account 131 = .ok (.ireturn, 1) := by decide +kernel
theorem dX6_account_132 : decode cX6_account 132 = .ok (.aload_n 0, 1) := by decide +kernel
theorem dX6_account_133 : decode cX6_account 133 = .ok (.getfield 12, 3) := by decide +kernel
theorem dX6_account_136 : decode cX6_account 136 = .ok (.invokevirtual 337, 3) := by decide +kernel
theorem dX6_account_139 : decode cX6_account 139 = .ok (.ireturn, 1) := by decide +kernel
theorem dX6_account_140 : decode cX6_account 140 = .ok (.aload_n 0, 1) := by decide +kernel
theorem dX6_account_141 : decode cX6_account 141 = .ok (.getfield 12, 3) := by decide +kernel
theorem dX6_account_144 : decode cX6_account 144 = .ok (.getfield 338, 3) := by decide +kernel
theorem dX6_account_147 : decode cX6_account 147 = .ok (.ireturn, 1) := by decide +kernel
theorem dX6_account_148 : decode cX6_account 148 = .ok (.aload_n 0, 1) := by decide +kernel
theorem dX6_account_149 : decode cX6_account 149 = .ok (.getfield 12, 3) := by decide +kernel
theorem dX6_account_152 : decode cX6_account 152 = .ok (.getfield 162, 3) := by decide +kernel
theorem dX6_account_155 : decode cX6_account 155 = .ok (.aload_n 0, 1) := by decide +kernel
theorem dX6_account_156 : decode cX6_account 156 = .ok (.getfield 12, 3) := by decide +kernel
theorem dX6_account_159 : decode cX6_account 159 = .ok (.getfield 338, 3) := by decide +kernel
theorem dX6_account_162 : decode cX6_account 162 = .ok (.isub, 1) := by decide +kernel
theorem dX6_account_163 : decode cX6_account 163 = .ok (.ireturn, 1) := by decide +kernel
theorem dX6_account_164 : decode cX6_account 164 = .ok (.aload_n 0, 1) := by decide +kernel
theorem dX6_account_165 : decode cX6_account 165 = .ok (.getfield 12, 3) := by decide +kernel
theorem dX6_account_168 : decode cX6_account 168 = .ok (.invokevirtual 341, 3) := by decide +kernel
theorem dX6_account_171 : decode cX6_account 171 = .ok (.ireturn, 1) := by decide +kernel
theorem dX6_account_172 : decode cX6_account 172 = .ok (.aload_n 0, 1) := by decide +kernel
theorem dX6_account_173 : decode cX6_account 173 = .ok (.getfield 12, 3) := by decide +kernel
theorem dX6_account_176 : decode cX6_account 176 = .ok (.invokevirtual 287, 3) := by decide +kernel
theorem dX6_account_179 : decode cX6_account 179 = .ok (.ireturn, 1) := by decide +kernel
theorem dX6_account_180 : decode cX6_account 180 = .ok (.aload_n 0, 1) := by decide +kernel
theorem dX6_account_181 : decode cX6_account 181 = .ok (.getfield 12, 3) := by decide +kernel
theorem dX6_account_184 : decode cX6_account 184 = .ok (.getfield 344, 3) := by decide +kernel
theorem dX6_account_187 : decode cX6_account 187 = .ok (.ireturn, 1) := by decide +kernel
theorem dX6_account_188 : decode cX6_account 188 = .ok (.aload_n 0, 1) := by decide +kernel
theorem dX6_account_189 : decode cX6_account 189 = .ok (.getfield 12, 3) := by decide +kernel
theorem dX6_account_192 : decode cX6_account 192 = .ok (.getfield 162, 3) := by decide +kernel
theorem dX6_account_195 : decode cX6_account 195 = .ok (.ireturn, 1) := by decide +kernel
theorem dX6_account_196 : decode cX6_account 196 = .ok (.aload_n 0, 1) := by decide +kernel
theorem dX6_account_197 : decode cX6_account 197 = .ok (.getfield 36, 3) := by decide +kernel
theorem dX6_account_200 : decode cX6_account 200 = .ok (.getfield 294, 3) := by decide +kernel
theorem dX6_account_203 : decode cX6_account 203 = .ok (.ireturn, 1) := by decide +kernel
theorem dX6_account_204 : decode cX6_account 204 = .ok (.aload_n 0, 1) := by decide +kernel
theorem dX6_account_205 : decode cX6_account 205 = .ok (.getfield 29, 3) := by decide +kernel
theorem dX6_account_208 : decode cX6_account 208 = .ok (.getfield 347, 3) := by decide +kernel
theorem dX6_account_211 : decode cX6_account 211 = .ok (.ireturn, 1) := by decide +kernel
theorem dX6_account_212 : decode cX6_account 212 = .ok (.new 51, 3) := by decide +kernel
theorem dX6_account_215 : decode cX6_account 215 = .ok (.dup, 1) := by decide +kernel
theorem dX6_account_216 : decode cX6_account 216 = .ok (.ldc_w 348, 3) := by decide +kernel
theorem dX6_account_219 : decode cX6_account 219 = .ok (.invokespecial 55, 3) := by decide +kernel
theorem dX6_account_222 : decode cX6_account 222 = .ok (.athrow, 1) := by decide +kernel
theorem dX6_isWell_0 : decode cX6_isWell 0 = .ok (.aload_n 0, 1) := by decide +kernel
theorem dX6_isWell_1 : decode cX6_isWell 1 = .ok (.getfield 12, 3) := by decide +kernel
theorem dX6_isWell_4 : decode cX6_isWell 4 = .ok (.getfield 162, 3) := by decide +kernel
theorem dX6_isWell_7 : decode cX6_isWell 7 = .ok (.aload_n 0, 1) := by decide +kernel
theorem dX6_isWell_8 : decode cX6_isWell 8 = .ok (.getfield 12, 3) := by decide +kernel
theorem dX6_isWell_11 : decode cX6_isWell 11 = .ok (.getfield 338, 3) := by decide +kernel
theorem dX6_isWell_14 : decode cX6_isWell 14 = .ok (.aload_n 0, 1) := by decide +kernel
theorem dX6_isWell_15 : decode cX6_isWell 15 = .ok (.getfield 12, 3) := by decide +kernel
theorem dX6_isWell_18 : decode cX6_isWell 18 = .ok (.invokevirtual 350, 3) := by decide +kernel
theorem dX6_isWell_21 : decode cX6_isWell 21 = .ok (.iadd, 1) := by decide +kernel
theorem dX6_isWell_22 : decode cX6_isWell 22 = .ok (.aload_n 0, 1) := by decide +kernel
theorem dX6_isWell_23 : decode cX6_isWell 23 = .ok (.getfield 12, 3) := by decide +kernel
theorem dX6_isWell_26 : decode cX6_isWell 26 = .ok (.invokevirtual 353, 3) := by decide +kernel
theorem dX6_isWell_29 : decode cX6_isWell 29 = .ok (.iadd, 1) := by decide +kernel
theorem dX6_isWell_30 : decode cX6_isWell 30 = .ok (.if_icmp .ne 27, 3) := by decide +kernel
theorem dX6_isWell_33 : decode cX6_isWell 33 = .ok (.aload_n 0, 1) := by decide +kernel
theorem dX6_isWell_34 : decode cX6_isWell 34 = .ok (.getfield 12, 3) := by decide +kernel
theorem dX6_isWell_37 : decode cX6_isWell 37 = .ok (.invokevirtual 356, 3) := by decide +kernel
theorem dX6_isWell_40 : decode cX6_isWell 40 = .ok (.ifCond .eq 17, 3) := by decide +kernel
theorem dX6_isWell_43 : decode cX6_isWell 43 = .ok (.aload_n 0, 1) := by decide +kernel
theorem dX6_isWell_44 : decode cX6_isWell 44 = .ok (.getfield 12, 3) := by decide +kernel
theorem dX6_isWell_47 : decode cX6_isWell 47 = .ok (.invokevirtual 359, 3) := by decide +kernel
theorem dX6_isWell_50 : decode cX6_isWell 50 = .ok (.ifCond .eq 7, 3) := by decide +kernel
theorem dX6_isWell_53 : decode cX6_isWell 53 = .ok (.iconst 1, 1) := by decide +kernel
theorem dX6_isWell_54 : decode cX6_isWell 54 = .ok (.goto 4, 3) := by decide +kernel
theorem dX6_isWell_57 : decode cX6_isWell 57 = .ok (.iconst 0, 1) := by decide +kernel
theorem dX6_isWell_58 : decode cX6_isWell 58 = .ok (.ireturn, 1) := by decide +kernel
theorem dX6_meanBits_0 : decode cX6_meanBits 0 = .ok (.dconst 0, 1) := by decide +kernel
theorem dX6_meanBits_1 : decode cX6_meanBits 1 = .ok (.dstore_n 1, 1) := by decide +kernel
theorem dX6_meanBits_2 : decode cX6_meanBits 2 = .ok (.iconst 0, 1) := by decide +kernel
theorem dX6_meanBits_3 : decode cX6_meanBits 3 = .ok (.istore_n 3, 1) := by decide +kernel
theorem dX6_meanBits_4 : decode cX6_meanBits 4 = .ok (.iload_n 3, 1) := by decide +kernel
theorem dX6_meanBits_5 : decode cX6_meanBits 5 = .ok (.bipush 12, 2) := by decide +kernel
theorem dX6_meanBits_7 : decode cX6_meanBits 7 = .ok (.if_icmp .ge 25, 3) := by decide +kernel
theorem dX6_meanBits_10 : decode cX6_meanBits 10 = .ok (.dload_n 1, 1) := by decide +kernel
theorem dX6_meanBits_11 : decode cX6_meanBits 11 = .ok (.aload_n 0, 1) := by decide +kernel
theorem dX6_meanBits_12 : decode cX6_meanBits 12 = .ok (.getfield 12, 3) := by decide +kernel
theorem dX6_meanBits_15 : decode cX6_meanBits 15 = .ok (.getfield 80, 3) := by decide +kernel
theorem dX6_meanBits_18 : decode cX6_meanBits 18 = .ok (.iload_n 3, 1) := by decide +kernel
theorem dX6_meanBits_19 : decode cX6_meanBits 19 = .ok (.aaload, 1) := by decide +kernel
theorem dX6_meanBits_20 : decode cX6_meanBits 20 = .ok (.getfield 121, 3) := by decide +kernel
theorem dX6_meanBits_23 : decode cX6_meanBits 23 = .ok (.f2d, 1) := by decide +kernel
theorem dX6_meanBits_24 : decode cX6_meanBits 24 = .ok (.dadd, 1) := by decide +kernel
theorem dX6_meanBits_25 : decode cX6_meanBits 25 = .ok (.dstore_n 1, 1) := by decide +kernel
theorem dX6_meanBits_26 : decode cX6_meanBits 26 = .ok (.iinc 3 1, 3) := by decide +kernel
theorem dX6_meanBits_29 : decode cX6_meanBits 29 = .ok (.goto (-25), 3) := by decide +kernel
theorem dX6_meanBits_32 : decode cX6_meanBits 32 = .ok (.dload_n 1, 1) := by decide +kernel
theorem dX6_meanBits_33 : decode cX6_meanBits 33 = .ok (.ldc2_w 362, 3) := by decide +kernel
theorem dX6_meanBits_36 : decode cX6_meanBits 36 = .ok (.ddiv, 1) := by decide +kernel
theorem dX6_meanBits_37 : decode cX6_meanBits 37 = .ok (.invokestatic 364, 3) := by decide +kernel
theorem dX6_meanBits_40 : decode cX6_meanBits 40 = .ok (.lreturn, 1) := by decide +kernel
theorem dX6_share_0 : decode cX6_share 0 = .ok (.aload_n 0, 1) := by decide +kernel
theorem dX6_share_1 : decode cX6_share 1 = .ok (.getfield 12, 3) := by decide +kernel
theorem dX6_share_4 : decode cX6_share 4 = .ok (.getfield 162, 3) := by decide +kernel
theorem dX6_share_7 : decode cX6_share 7 = .ok (.ifCond .ne 14, 3) := by decide +kernel
theorem dX6_share_10 : decode cX6_share 10 = .ok (.new 368, 3) := by decide +kernel
theorem dX6_share_13 : decode cX6_share 13 = .ok (.dup, 1) := by decide +kernel
theorem dX6_share_14 : decode cX6_share 14 = .ok (.ldc_w 370, 3) := by decide +kernel
theorem dX6_share_17 : decode cX6_share 17 = .ok (.invokespecial 372, 3) := by decide +kernel
theorem dX6_share_20 : decode cX6_share 20 = .ok (.athrow, 1) := by decide +kernel
theorem dX6_share_21 : decode cX6_share 21 = .ok (.aload_n 0, 1) := by decide +kernel
theorem dX6_share_22 : decode cX6_share 22 = .ok (.getfield 12, 3) := by decide +kernel
theorem dX6_share_25 : decode cX6_share 25 = .ok (.getfield 338, 3) := by decide +kernel
theorem dX6_share_28 : decode cX6_share 28 = .ok (.i2f, 1) := by decide +kernel
theorem dX6_share_29 : decode cX6_share 29 = .ok (.aload_n 0, 1) := by decide +kernel
theorem dX6_share_30 : decode cX6_share 30 = .ok (.getfield 12, 3) := by decide +kernel
theorem dX6_share_33 : decode cX6_share 33 = .ok (.getfield 162, 3) := by decide +kernel
theorem dX6_share_36 : decode cX6_share 36 = .ok (.i2f, 1) := by decide +kernel
theorem dX6_share_37 : decode cX6_share 37 = .ok (.fdiv, 1) := by decide +kernel
theorem dX6_share_38 : decode cX6_share 38 = .ok (.freturn, 1) := by decide +kernel
theorem dX6_undo_0 : decode cX6_undo 0 = .ok (.aload_n 0, 1) := by decide +kernel
theorem dX6_undo_1 : decode cX6_undo 1 = .ok (.getfield 29, 3) := by decide +kernel
theorem dX6_undo_4 : decode cX6_undo 4 = .ok (.getfield 347, 3) := by decide +kernel
theorem dX6_undo_7 : decode cX6_undo 7 = .ok (.ifCond .ne 14, 3) := by decide +kernel
theorem dX6_undo_10 : decode cX6_undo 10 = .ok (.new 297, 3) := by decide +kernel
theorem dX6_undo_13 : decode cX6_undo 13 = .ok (.dup, 1) := by decide +kernel
theorem dX6_undo_14 : decode cX6_undo 14 = .ok (.ldc_w 373, 3) := by decide +kernel
theorem dX6_undo_17 : decode cX6_undo 17 = .ok (.invokespecial 301, 3) := by decide +kernel
theorem dX6_undo_20 : decode cX6_undo 20 = .ok (.athrow, 1) := by decide +kernel
theorem dX6_undo_21 : decode cX6_undo 21 = .ok (.aload_n 0, 1) := by decide +kernel
theorem dX6_undo_22 : decode cX6_undo 22 = .ok (.getfield 29, 3) := by decide +kernel
theorem dX6_undo_25 : decode cX6_undo 25 = .ok (.aload_n 0, 1) := by decide +kernel
theorem dX6_undo_26 : decode cX6_undo 26 = .ok (.getfield 12, 3) := by decide +kernel
theorem dX6_undo_29 : decode cX6_undo 29 = .ok (.invokevirtual 375, 3) := by decide +kernel
theorem dX6_undo_32 : decode cX6_undo 32 = .ok (.aload_n 0, 1) := by decide +kernel
theorem dX6_undo_33 : decode cX6_undo 33 = .ok (.getfield 29, 3) := by decide +kernel
theorem dX6_undo_36 : decode cX6_undo 36 = .ok (.getfield 347, 3) := by decide +kernel
theorem dX6_undo_39 : decode cX6_undo 39 = .ok (.ireturn, 1) := by decide +kernel
theorem dX6_isSetting_0 : decode cX6_isSetting 0 = .ok (.iload_n 0, 1) := by decide +kernel
theorem dX6_isSetting_1 : decode cX6_isSetting 1 = .ok (.ifCond .lt 15, 3) := by decide +kernel
theorem dX6_isSetting_4 : decode cX6_isSetting 4 = .ok (.iload_n 0, 1) := by decide +kernel
theorem dX6_isSetting_5 : decode cX6_isSetting 5 = .ok (.getstatic 380, 3) := by decide +kernel
theorem dX6_isSetting_8 : decode cX6_isSetting 8 = .ok (.arraylength, 1) := by decide +kernel
theorem dX6_isSetting_9 : decode cX6_isSetting 9 = .ok (.if_icmp .ge 7, 3) := by decide +kernel
theorem dX6_isSetting_12 : decode cX6_isSetting 12 = .ok (.iconst 1, 1) := by decide +kernel
theorem dX6_isSetting_13 : decode cX6_isSetting 13 = .ok (.goto 4, 3) := by decide +kernel
theorem dX6_isSetting_16 : decode cX6_isSetting 16 = .ok (.iconst 0, 1) := by decide +kernel
theorem dX6_isSetting_17 : decode cX6_isSetting 17 = .ok (.ireturn, 1) := by decide +kernel
theorem dX6_isSettingValue_0 : decode cX6_isSettingValue 0 = .ok (.iload_n 0, 1) := by decide +kernel
theorem dX6_isSettingValue_1 : decode cX6_isSettingValue 1 = .ok (.invokestatic 66, 3) := by decide +kernel
theorem dX6_isSettingValue_4 : decode cX6_isSettingValue 4 = .ok (.ifCond .eq 25, 3) := by decide +kernel
theorem dX6_isSettingValue_7 : decode cX6_isSettingValue 7 = .ok (.iload_n 1, 1) := by decide +kernel
theorem dX6_isSettingValue_8 : decode cX6_isSettingValue 8 = .ok (.getstatic 380, 3) := by decide +kernel
theorem dX6_isSettingValue_11 : decode cX6_isSettingValue 11 = .ok (.iload_n 0, 1) := by decide +kernel
theorem dX6_isSettingValue_12 : decode cX6_isSettingValue 12 = .ok (.iaload, 1) := by decide +kernel
theorem dX6_isSettingValue_13 : decode cX6_isSettingValue 13 = .ok (.if_icmp .lt 16, 3) := by decide +kernel
theorem dX6_isSettingValue_16 : decode cX6_isSettingValue 16 = .ok (.iload_n 1, 1) := by decide +kernel
theorem dX6_isSettingValue_17 : decode cX6_isSettingValue 17 = .ok (.getstatic 383, 3) := by decide +kernel
theorem dX6_isSettingValue_20 : decode cX6_isSettingValue 20 = .ok (.iload_n 0, 1) := by decide +kernel
theorem dX6_isSettingValue_21 : decode cX6_isSettingValue 21 = .ok (.iaload, 1) := by decide +kernel
theorem dX6_isSettingValue_22 : decode cX6_isSettingValue 22 = .ok (.if_icmp .gt 7, 3) := by decide +kernel
theorem dX6_isSettingValue_25 : decode cX6_isSettingValue 25 = .ok (.iconst 1, 1) := by decide +kernel
theorem dX6_isSettingValue_26 : decode cX6_isSettingValue 26 = .ok (.goto 4, 3) := by decide +kernel
theorem dX6_isSettingValue_29 : decode cX6_isSettingValue 29 = .ok (.iconst 0, 1) := by decide +kernel
theorem dX6_isSettingValue_30 : decode cX6_isSettingValue 30 = .ok (.ireturn, 1) := by decide +kernel
theorem dX6_isMile_0 : decode cX6_isMile 0 = .ok (.iload_n 0, 1) := by decide +kernel
theorem dX6_isMile_1 : decode cX6_isMile 1 = .ok (.ifCond .lt 13, 3) := by decide +kernel
theorem dX6_isMile_4 : decode cX6_isMile 4 = .ok (.iload_n 0, 1) := by decide +kernel
theorem dX6_isMile_5 : decode cX6_isMile 5 = .ok (.bipush 12, 2) := by decide +kernel
theorem dX6_isMile_7 : decode cX6_isMile 7 = .ok (.if_icmp .ge 7, 3) := by decide +kernel
theorem dX6_isMile_10 : decode cX6_isMile 10 = .ok (.iconst 1, 1) := by decide +kernel
theorem dX6_isMile_11 : decode cX6_isMile 11 = .ok (.goto 4, 3) := by decide +kernel
theorem dX6_isMile_14 : decode cX6_isMile 14 = .ok (.iconst 0, 1) := by decide +kernel
theorem dX6_isMile_15 : decode cX6_isMile 15 = .ok (.ireturn, 1) := by decide +kernel
theorem dX6_isRow_0 : decode cX6_isRow 0 = .ok (.iload_n 0, 1) := by decide +kernel
theorem dX6_isRow_1 : decode cX6_isRow 1 = .ok (.ifCond .lt 12, 3) := by decide +kernel
theorem dX6_isRow_4 : decode cX6_isRow 4 = .ok (.iload_n 0, 1) := by decide +kernel
theorem dX6_isRow_5 : decode cX6_isRow 5 = .ok (.iconst 2, 1) := by decide +kernel
theorem dX6_isRow_6 : decode cX6_isRow 6 = .ok (.if_icmp .ge 7, 3) := by decide +kernel
theorem dX6_isRow_9 : decode cX6_isRow 9 = .ok (.iconst 1, 1) := by decide +kernel
theorem dX6_isRow_10 : decode cX6_isRow 10 = .ok (.goto 4, 3) := by decide +kernel
theorem dX6_isRow_13 : decode cX6_isRow 13 = .ok (.iconst 0, 1) := by decide +kernel
theorem dX6_isRow_14 : decode cX6_isRow 14 = .ok (.ireturn, 1) := by decide +kernel
theorem dX6_isPlace_0 : decode cX6_isPlace 0 = .ok (.iload_n 0, 1) := by decide +kernel
theorem dX6_isPlace_1 : decode cX6_isPlace 1 = .ok (.ifCond .lt 12, 3) := by decide +kernel
theorem dX6_isPlace_4 : decode cX6_isPlace 4 = .ok (.iload_n 0, 1) := by decide +kernel
theorem dX6_isPlace_5 : decode cX6_isPlace 5 = .ok (.iconst 5, 1) := by decide +kernel
theorem dX6_isPlace_6 : decode cX6_isPlace 6 = .ok (.if_icmp .ge 7, 3) := by decide +kernel
theorem dX6_isPlace_9 : decode cX6_isPlace 9 = .ok (.iconst 1, 1) := by decide +kernel
theorem dX6_isPlace_10 : decode cX6_isPlace 10 = .ok (.goto 4, 3) := by decide +kernel
theorem dX6_isPlace_13 : decode cX6_isPlace 13 = .ok (.iconst 0, 1) := by decide +kernel
theorem dX6_isPlace_14 : decode cX6_isPlace 14 = .ok (.ireturn, 1) := by decide +kernel
theorem dX6_isDaysToPass_0 : decode cX6_isDaysToPass 0 = .ok (.iload_n 0, 1) := by decide +kernel
theorem dX6_isDaysToPass_1 : decode cX6_isDaysToPass 1 = .ok (.iconst 1, 1) := by decide +kernel
theorem dX6_isDaysToPass_2 : decode cX6_isDaysToPass 2 = .ok (.if_icmp .lt 13, 3) := by decide +kernel
theorem dX6_isDaysToPass_5 : decode cX6_isDaysToPass 5 = .ok (.iload_n 0, 1) := by decide +kernel
theorem dX6_isDaysToPass_6 : decode cX6_isDaysToPass 6 = .ok (.bipush 30, 2) := by decide +kernel
theorem dX6_isDaysToPass_8 : decode cX6_isDaysToPass 8 = .ok (.if_icmp .gt 7, 3) := by decide +kernel
theorem dX6_isDaysToPass_11 : decode cX6_isDaysToPass 11 = .ok (.iconst 1, 1) := by decide +kernel
theorem dX6_isDaysToPass_12 : decode cX6_isDaysToPass 12 = .ok (.goto 4, 3) := by decide +kernel
theorem dX6_isDaysToPass_15 : decode cX6_isDaysToPass 15 = .ok (.iconst 0, 1) := by decide +kernel
theorem dX6_isDaysToPass_16 : decode cX6_isDaysToPass 16 = .ok (.ireturn, 1) := by decide +kernel
theorem dX6_refusalFor_0 : decode cX6_refusalFor 0 = .ok (.iload_n 0, 1) := by decide +kernel
theorem dX6_refusalFor_1 : decode cX6_refusalFor 1 = .ok (.bipush 16, 2) := by decide +kernel
theorem dX6_refusalFor_3 : decode cX6_refusalFor 3 = .ok (.imul, 1) := by decide +kernel
theorem dX6_refusalFor_4 : decode cX6_refusalFor 4 = .ok (.iload_n 1, 1) := by decide +kernel
theorem dX6_refusalFor_5 : decode cX6_refusalFor 5 = .ok (.iadd, 1) := by decide +kernel
theorem dX6_refusalFor_6 : decode cX6_refusalFor 6 = .ok (.ireturn, 1) := by decide +kernel
theorem dX6_nextIce_0 : decode cX6_nextIce 0 = .ok (.iload_n 1, 1) := by decide +kernel
theorem dX6_nextIce_1 : decode cX6_nextIce 1 = .ok (.ifCond .ge 21, 3) := by decide +kernel
theorem dX6_nextIce_4 : decode cX6_nextIce 4 = .ok (.fload_n 0, 1) := by decide +kernel
theorem dX6_nextIce_5 : decode cX6_nextIce 5 = .ok (.iload_n 1, 1) := by decide +kernel
theorem dX6_nextIce_6 : decode cX6_nextIce 6 = .ok (.ineg, 1) := by decide +kernel
theorem dX6_nextIce_7 : decode cX6_nextIce 7 = .ok (.i2f, 1) := by decide +kernel
theorem dX6_nextIce_8 : decode cX6_nextIce 8 = .ok (.ldc_w 386, 3) := by decide +kernel
theorem dX6_nextIce_11 : decode cX6_nextIce 11 = .ok (.fmul, 1) := by decide +kernel
theorem dX6_nextIce_12 : decode cX6_nextIce 12 = .ok (.fload_n 0, 1) := by decide +kernel
theorem dX6_nextIce_13 : decode cX6_nextIce 13 = .ok (.ldc_w 387, 3) := by decide +kernel
theorem dX6_nextIce_16 : decode cX6_nextIce 16 = .ok (.fadd, 1) := by decide +kernel
theorem dX6_nextIce_17 : decode cX6_nextIce 17 = .ok (.fdiv, 1) := by decide +kernel
theorem dX6_nextIce_18 : decode cX6_nextIce 18 = .ok (.fadd, 1) := by decide +kernel
theorem dX6_nextIce_19 : decode cX6_nextIce 19 = .ok (.goto 11, 3) := by decide +kernel
theorem dX6_nextIce_22 : decode cX6_nextIce 22 = .ok (.fload_n 0, 1) := by decide +kernel
theorem dX6_nextIce_23 : decode cX6_nextIce 23 = .ok (.ldc_w 388, 3) := by decide +kernel
theorem dX6_nextIce_26 : decode cX6_nextIce 26 = .ok (.iload_n 1, 1) := by decide +kernel
theorem dX6_nextIce_27 : decode cX6_nextIce 27 = .ok (.i2f, 1) := by decide +kernel
theorem dX6_nextIce_28 : decode cX6_nextIce 28 = .ok (.fmul, 1) := by decide +kernel
theorem dX6_nextIce_29 : decode cX6_nextIce 29 = .ok (.fsub, 1) := by decide +kernel
theorem dX6_nextIce_30 : decode cX6_nextIce 30 = .ok (.fstore_n 2, 1) := by decide +kernel
theorem dX6_nextIce_31 : decode cX6_nextIce 31 = .ok (.fload_n 2, 1) := by decide +kernel
theorem dX6_nextIce_32 : decode cX6_nextIce 32 = .ok (.fconst 0, 1) := by decide +kernel
theorem dX6_nextIce_33 : decode cX6_nextIce 33 = .ok (.fcmp .g, 1) := by decide +kernel
theorem dX6_nextIce_34 : decode cX6_nextIce 34 = .ok (.ifCond .ge 5, 3) := by decide +kernel
theorem dX6_nextIce_37 : decode cX6_nextIce 37 = .ok (.fconst 0, 1) := by decide +kernel
theorem dX6_nextIce_38 : decode cX6_nextIce 38 = .ok (.freturn, 1) := by decide +kernel
theorem dX6_nextIce_39 : decode cX6_nextIce 39 = .ok (.fload_n 2, 1) := by decide +kernel
theorem dX6_nextIce_40 : decode cX6_nextIce 40 = .ok (.ldc_w 389, 3) := by decide +kernel
theorem dX6_nextIce_43 : decode cX6_nextIce 43 = .ok (.fcmp .l, 1) := by decide +kernel
theorem dX6_nextIce_44 : decode cX6_nextIce 44 = .ok (.ifCond .le 9, 3) := by decide +kernel
theorem dX6_nextIce_47 : decode cX6_nextIce 47 = .ok (.ldc_w 389, 3) := by decide +kernel
theorem dX6_nextIce_50 : decode cX6_nextIce 50 = .ok (.goto 4, 3) := by decide +kernel
theorem dX6_nextIce_53 : decode cX6_nextIce 53 = .ok (.fload_n 2, 1) := by decide +kernel
theorem dX6_nextIce_54 : decode cX6_nextIce 54 = .ok (.freturn, 1) := by decide +kernel
theorem dX6_borneBy_0 : decode cX6_borneBy 0 = .ok (.fload_n 0, 1) := by decide +kernel
theorem dX6_borneBy_1 : decode cX6_borneBy 1 = .ok (.fload_n 0, 1) := by decide +kernel
theorem dX6_borneBy_2 : decode cX6_borneBy 2 = .ok (.fmul, 1) := by decide +kernel
theorem dX6_borneBy_3 : decode cX6_borneBy 3 = .ok (.ldc_w 281, 3) := by decide +kernel
theorem dX6_borneBy_6 : decode cX6_borneBy 6 = .ok (.fmul, 1) := by decide +kernel
theorem dX6_borneBy_7 : decode cX6_borneBy 7 = .ok (.fconst 1, 1) := by decide +kernel
theorem dX6_borneBy_8 : decode cX6_borneBy 8 = .ok (.ldc_w 390, 3) := by decide +kernel
theorem dX6_borneBy_11 : decode cX6_borneBy 11 = .ok (.iload_n 1, 1) := by decide +kernel
theorem dX6_borneBy_12 : decode cX6_borneBy 12 = .ok (.i2f, 1) := by decide +kernel
theorem dX6_borneBy_13 : decode cX6_borneBy 13 = .ok (.fmul, 1) := by decide +kernel
theorem dX6_borneBy_14 : decode cX6_borneBy 14 = .ok (.fsub, 1) := by decide +kernel
theorem dX6_borneBy_15 : decode cX6_borneBy 15 = .ok (.fmul, 1) := by decide +kernel
theorem dX6_borneBy_16 : decode cX6_borneBy 16 = .ok (.iload_n 2, 1) := by decide +kernel
theorem dX6_borneBy_17 : decode cX6_borneBy 17 = .ok (.i2f, 1) := by decide +kernel
theorem dX6_borneBy_18 : decode cX6_borneBy 18 = .ok (.ldc_w 391, 3) := by decide +kernel
theorem dX6_borneBy_21 : decode cX6_borneBy 21 = .ok (.fdiv, 1) := by decide +kernel
theorem dX6_borneBy_22 : decode cX6_borneBy 22 = .ok (.fmul, 1) := by decide +kernel
theorem dX6_borneBy_23 : decode cX6_borneBy 23 = .ok (.freturn, 1) := by decide +kernel
theorem dX6_floatBits_0 : decode cX6_floatBits 0 = .ok (.fload_n 0, 1) := by decide +kernel
theorem dX6_floatBits_1 : decode cX6_floatBits 1 = .ok (.fconst 0, 1) := by decide +kernel
theorem dX6_floatBits_2 : decode cX6_floatBits 2 = .ok (.fcmp .g, 1) := by decide +kernel
theorem dX6_floatBits_3 : decode cX6_floatBits 3 = .ok (.ifCond .gt 5, 3) := by decide +kernel
theorem dX6_floatBits_6 : decode cX6_floatBits 6 = .ok (.iconst 0, 1) := by decide +kernel
theorem dX6_floatBits_7 : decode cX6_floatBits 7 = .ok (.ireturn, 1) := by decide +kernel
theorem dX6_floatBits_8 : decode cX6_floatBits 8 = .ok (.fload_n 0, 1) := by decide +kernel
theorem dX6_floatBits_9 : decode cX6_floatBits 9 = .ok (.fstore_n 1, 1) := by decide +kernel
theorem dX6_floatBits_10 : decode cX6_floatBits 10 = .ok (.bipush 127, 2) := by decide +kernel
theorem dX6_floatBits_12 : decode cX6_floatBits 12 = .ok (.istore_n 2, 1) := by decide +kernel
theorem dX6_floatBits_13 : decode cX6_floatBits 13 = .ok (.iload_n 2, 1) := by decide +kernel
theorem dX6_floatBits_14 : decode cX6_floatBits 14 = .ok (.sipush 254, 3) := by decide +kernel
theorem dX6_floatBits_17 : decode cX6_floatBits 17 = .ok (.if_icmp .ge 19, 3) := by decide +kernel
theorem dX6_floatBits_20 : decode cX6_floatBits 20 = .ok (.fload_n 1, 1) := by decide +kernel
theorem dX6_floatBits_21 : decode cX6_floatBits 21 = .ok (.fconst 2, 1) := by decide +kernel
theorem dX6_floatBits_22 : decode cX6_floatBits 22 = .ok (.fcmp .l, 1) := by decide +kernel
theorem dX6_floatBits_23 : decode cX6_floatBits 23 = .ok (.ifCond .lt 13, 3) := by decide +kernel
theorem dX6_floatBits_26 : decode cX6_floatBits 26 = .ok (.fload_n 1, 1) := by decide +kernel
theorem dX6_floatBits_27 : decode cX6_floatBits 27 = .ok (.fconst 2, 1) := by decide +kernel
theorem dX6_floatBits_28 : decode cX6_floatBits 28 = .ok (.fdiv, 1) := by decide +kernel
theorem dX6_floatBits_29 : decode cX6_floatBits 29 = .ok (.fstore_n 1, 1) := by decide +kernel
theorem dX6_floatBits_30 : decode cX6_floatBits 30 = .ok (.iinc 2 1, 3) := by decide +kernel
theorem dX6_floatBits_33 : decode cX6_floatBits 33 = .ok (.goto (-20), 3) := by decide +kernel
theorem dX6_floatBits_36 : decode cX6_floatBits 36 = .ok (.iload_n 2, 1) := by decide +kernel
theorem dX6_floatBits_37 : decode cX6_floatBits 37 = .ok (.iconst 1, 1) := by decide +kernel
theorem dX6_floatBits_38 : decode cX6_floatBits 38 = .ok (.if_icmp .le 19, 3) := by decide +kernel
theorem dX6_floatBits_41 : decode cX6_floatBits 41 = .ok (.fload_n 1, 1) := by decide +kernel
theorem dX6_floatBits_42 : decode cX6_floatBits 42 = .ok (.fconst 1, 1) := by decide +kernel
theorem dX6_floatBits_43 : decode cX6_floatBits 43 = .ok (.fcmp .g, 1) := by decide +kernel
theorem dX6_floatBits_44 : decode cX6_floatBits 44 = .ok (.ifCond .ge 13, 3) := by decide +kernel
theorem dX6_floatBits_47 : decode cX6_floatBits 47 = .ok (.fload_n 1, 1) := by decide +kernel
theorem dX6_floatBits_48 : decode cX6_floatBits 48 = .ok (.fconst 2, 1) := by decide +kernel
theorem dX6_floatBits_49 : decode cX6_floatBits 49 = .ok (.fmul, 1) := by decide +kernel
theorem dX6_floatBits_50 : decode cX6_floatBits 50 = .ok (.fstore_n 1, 1) := by decide +kernel
theorem dX6_floatBits_51 : decode cX6_floatBits 51 = .ok (.iinc 2 (-1), 3) := by decide +kernel
theorem dX6_floatBits_54 : decode cX6_floatBits 54 = .ok (.goto (-18), 3) := by decide +kernel
theorem dX6_floatBits_57 : decode cX6_floatBits 57 = .ok (.iload_n 2, 1) := by decide +kernel
theorem dX6_floatBits_58 : decode cX6_floatBits 58 = .ok (.iconst 1, 1) := by decide +kernel
theorem dX6_floatBits_59 : decode cX6_floatBits 59 = .ok (.isub, 1) := by decide +kernel
theorem dX6_floatBits_60 : decode cX6_floatBits 60 = .ok (.bipush 23, 2) := by decide +kernel
theorem dX6_floatBits_62 : decode cX6_floatBits 62 = .ok (.ishl, 1) := by decide +kernel
theorem dX6_floatBits_63 : decode cX6_floatBits 63 = .ok (.fload_n 1, 1) := by decide +kernel
theorem dX6_floatBits_64 : decode cX6_floatBits 64 = .ok (.ldc_w 392, 3) := by decide +kernel
theorem dX6_floatBits_67 : decode cX6_floatBits 67 = .ok (.fmul, 1) := by decide +kernel
theorem dX6_floatBits_68 : decode cX6_floatBits 68 = .ok (.f2i, 1) := by decide +kernel
theorem dX6_floatBits_69 : decode cX6_floatBits 69 = .ok (.iadd, 1) := by decide +kernel
theorem dX6_floatBits_70 : decode cX6_floatBits 70 = .ok (.ireturn, 1) := by decide +kernel
theorem dX6_doubleBits_0 : decode cX6_doubleBits 0 = .ok (.dload_n 0, 1) := by decide +kernel
theorem dX6_doubleBits_1 : decode cX6_doubleBits 1 = .ok (.dconst 0, 1) := by decide +kernel
theorem dX6_doubleBits_2 : decode cX6_doubleBits 2 = .ok (.dcmp .g, 1) := by decide +kernel
theorem dX6_doubleBits_3 : decode cX6_doubleBits 3 = .ok (.ifCond .gt 5, 3) := by decide +kernel
theorem dX6_doubleBits_6 : decode cX6_doubleBits 6 = .ok (.lconst 0, 1) := by decide +kernel
theorem dX6_doubleBits_7 : decode cX6_doubleBits 7 = .ok (.lreturn, 1) := by decide +kernel
theorem dX6_doubleBits_8 : decode cX6_doubleBits 8 = .ok (.dload_n 0, 1) := by decide +kernel
theorem dX6_doubleBits_9 : decode cX6_doubleBits 9 = .ok (.dstore_n 2, 1) := by decide +kernel
theorem dX6_doubleBits_10 : decode cX6_doubleBits 10 = .ok (.sipush 1023, 3) := by decide +kernel
theorem dX6_doubleBits_13 : decode cX6_doubleBits 13 = .ok (.istore 4, 2) := by decide +kernel
theorem dX6_doubleBits_15 : decode cX6_doubleBits 15 = .ok (.iload 4, 2) := by decide +kernel
theorem dX6_doubleBits_17 : decode cX6_doubleBits 17 = .ok (.sipush 2046, 3) := by decide +kernel
theorem dX6_doubleBits_20 : decode cX6_doubleBits 20 = .ok (.if_icmp .ge 23, 3) := by decide +kernel
theorem dX6_doubleBits_23 : decode cX6_doubleBits 23 = .ok (.dload_n 2, 1) := by decide +kernel
theorem dX6_doubleBits_24 : decode cX6_doubleBits 24 = .ok (.ldc2_w 393, 3) := by decide +kernel
theorem dX6_doubleBits_27 : decode cX6_doubleBits 27 = .ok (.dcmp .l, 1) := by decide +kernel
theorem dX6_doubleBits_28 : decode cX6_doubleBits 28 = .ok (.ifCond .lt 15, 3) := by decide +kernel
theorem dX6_doubleBits_31 : decode cX6_doubleBits 31 = .ok (.dload_n 2, 1) := by decide +kernel
theorem dX6_doubleBits_32 : decode cX6_doubleBits 32 = .ok (.ldc2_w 393, 3) := by decide +kernel
theorem dX6_doubleBits_35 : decode cX6_doubleBits 35 = .ok (.ddiv, 1) := by decide +kernel
theorem dX6_doubleBits_36 : decode cX6_doubleBits 36 = .ok (.dstore_n 2, 1) := by decide +kernel
theorem dX6_doubleBits_37 : decode cX6_doubleBits 37 = .ok (.iinc 4 1, 3) := by decide +kernel
theorem dX6_doubleBits_40 : decode cX6_doubleBits 40 = .ok (.goto (-25), 3) := by decide +kernel
theorem dX6_doubleBits_43 : decode cX6_doubleBits 43 = .ok (.iload 4, 2) := by decide +kernel
theorem dX6_doubleBits_45 : decode cX6_doubleBits 45 = .ok (.iconst 1, 1) := by decide +kernel
theorem dX6_doubleBits_46 : decode cX6_doubleBits 46 = .ok (.if_icmp .le 21, 3) := by decide +kernel
theorem dX6_doubleBits_49 : decode cX6_doubleBits 49 = .ok (.dload_n 2, 1) := by decide +kernel
theorem dX6_doubleBits_50 : decode cX6_doubleBits 50 = .ok (.dconst 1, 1) := by decide +kernel
theorem dX6_doubleBits_51 : decode cX6_doubleBits 51 = .ok (.dcmp .g, 1) := by decide +kernel
theorem dX6_doubleBits_52 : decode cX6_doubleBits 52 = .ok (.ifCond .ge 15, 3) := by decide +kernel
theorem dX6_doubleBits_55 : decode cX6_doubleBits 55 = .ok (.dload_n 2, 1) := by decide +kernel
theorem dX6_doubleBits_56 : decode cX6_doubleBits 56 = .ok (.ldc2_w 393, 3) := by decide +kernel
theorem dX6_doubleBits_59 : decode cX6_doubleBits 59 = .ok (.dmul, 1) := by decide +kernel
theorem dX6_doubleBits_60 : decode cX6_doubleBits 60 = .ok (.dstore_n 2, 1) := by decide +kernel
theorem dX6_doubleBits_61 : decode cX6_doubleBits 61 = .ok (.iinc 4 (-1), 3) := by decide +kernel
theorem dX6_doubleBits_64 : decode cX6_doubleBits 64 = .ok (.goto (-21), 3) := by decide +kernel
theorem dX6_doubleBits_67 : decode cX6_doubleBits 67 = .ok (.iload 4, 2) := by decide +kernel
theorem dX6_doubleBits_69 : decode cX6_doubleBits 69 = .ok (.iconst 1, 1) := by decide +kernel
theorem dX6_doubleBits_70 : decode cX6_doubleBits 70 = .ok (.isub, 1) := by decide +kernel
theorem dX6_doubleBits_71 : decode cX6_doubleBits 71 = .ok (.i2l, 1) := by decide +kernel
theorem dX6_doubleBits_72 : decode cX6_doubleBits 72 = .ok (.bipush 52, 2) := by decide +kernel
theorem dX6_doubleBits_74 : decode cX6_doubleBits 74 = .ok (.lshl, 1) := by decide +kernel
theorem dX6_doubleBits_75 : decode cX6_doubleBits 75 = .ok (.dload_n 2, 1) := by decide +kernel
theorem dX6_doubleBits_76 : decode cX6_doubleBits 76 = .ok (.ldc2_w 395, 3) := by decide +kernel
theorem dX6_doubleBits_79 : decode cX6_doubleBits 79 = .ok (.dmul, 1) := by decide +kernel
theorem dX6_doubleBits_80 : decode cX6_doubleBits 80 = .ok (.d2l, 1) := by decide +kernel
theorem dX6_doubleBits_81 : decode cX6_doubleBits 81 = .ok (.ladd, 1) := by decide +kernel
theorem dX6_doubleBits_82 : decode cX6_doubleBits 82 = .ok (.lreturn, 1) := by decide +kernel
theorem dJ5_init_d00df_0 : decode cJ5_init_d00df 0 = .ok (.aload_n 0, 1) := by decide +kernel
theorem dJ5_init_d00df_1 : decode cJ5_init_d00df 1 = .ok (.invokespecial 3, 3) := by decide +kernel
theorem dJ5_init_d00df_4 : decode cJ5_init_d00df 4 = .ok (.getstatic 18, 3) := by decide +kernel
theorem dJ5_init_d00df_7 : decode cJ5_init_d00df 7 = .ok (.ifCond .eq 18, 3) := by decide +kernel
theorem dJ5_init_d00df_10 : decode cJ5_init_d00df 10 = .ok (.aload_n 0, 1) := by decide +kernel
theorem dJ5_init_d00df_11 : decode cJ5_init_d00df 11 = .ok (.iload_n 1, 1) := by decide +kernel
theorem dJ5_init_d00df_12 : decode cJ5_init_d00df 12 = .ok (.newarray .byte, 2) := by decide +kernel
theorem dJ5_init_d00df_14 : decode cJ5_init_d00df 14 = .ok (.putfield 15, 3) := by decide +kernel
theorem dJ5_init_d00df_17 : decode cJ5_init_d00df 17 = .ok (.aload_n 0, 1) := by decide +kernel
theorem dJ5_init_d00df_18 : decode cJ5_init_d00df 18 = .ok (.iconst 0, 1) := by decide +kernel
theorem dJ5_init_d00df_19 : decode cJ5_init_d00df 19 = .ok (.putfield 22, 3) := by decide +kernel
theorem dJ5_init_d00df_22 : decode cJ5_init_d00df 22 = .ok (.goto 16, 3) := by decide +kernel
theorem dJ5_init_d00df_25 : decode cJ5_init_d00df 25 = .ok (.aload_n 0, 1) := by decide +kernel
theorem dJ5_init_d00df_26 : decode cJ5_init_d00df 26 = .ok (.iload_n 1, 1) := by decide +kernel
theorem dJ5_init_d00df_27 : decode cJ5_init_d00df 27 = .ok (.invokestatic 26, 3) := by decide +kernel
theorem dJ5_init_d00df_30 : decode cJ5_init_d00df 30 = .ok (.putfield 15, 3) := by decide +kernel
theorem dJ5_init_d00df_33 : decode cJ5_init_d00df 33 = .ok (.aload_n 0, 1) := by decide +kernel
theorem dJ5_init_d00df_34 : decode cJ5_init_d00df 34 = .ok (.iconst 1, 1) := by decide +kernel
theorem dJ5_init_d00df_35 : decode cJ5_init_d00df 35 = .ok (.putfield 22, 3) := by decide +kernel
theorem dJ5_init_d00df_38 : decode cJ5_init_d00df 38 = .ok (.return_, 1) := by decide +kernel
theorem dJ5_length_8abf5_0 : decode cJ5_length_8abf5 0 = .ok (.aload_n 0, 1) := by decide +kernel
theorem dJ5_length_8abf5_1 : decode cJ5_length_8abf5 1 = .ok (.getfield 79, 3) := by decide +kernel
theorem dJ5_length_8abf5_4 : decode cJ5_length_8abf5 4 = .ok (.ireturn, 1) := by decide +kernel
theorem dJ5_ensureCapacityInternal_d00df_0 : decode cJ5_ensureCapacityInternal_d00df 0 = .ok (.aload_n 0, 1) := by decide +kernel
theorem dJ5_ensureCapacityInternal_d00df_1 : decode cJ5_ensureCapacityInternal_d00df 1 = .ok (.getfield 15, 3) := by decide +kernel
theorem dJ5_ensureCapacityInternal_d00df_4 : decode cJ5_ensureCapacityInternal_d00df 4 = .ok (.arraylength, 1) := by decide +kernel
theorem dJ5_ensureCapacityInternal_d00df_5 : decode cJ5_ensureCapacityInternal_d00df 5 = .ok (.aload_n 0, 1) := by decide +kernel
theorem dJ5_ensureCapacityInternal_d00df_6 : decode cJ5_ensureCapacityInternal_d00df 6 = .ok (.getfield 22, 3) := by decide +kernel
theorem dJ5_ensureCapacityInternal_d00df_9 : decode cJ5_ensureCapacityInternal_d00df 9 = .ok (.ishr, 1) := by decide +kernel
theorem dJ5_ensureCapacityInternal_d00df_10 : decode cJ5_ensureCapacityInternal_d00df 10 = .ok (.istore_n 2, 1) := by decide +kernel
theorem dJ5_ensureCapacityInternal_d00df_11 : decode cJ5_ensureCapacityInternal_d00df 11 = .ok (.iload_n 1, 1) := by decide +kernel
theorem dJ5_ensureCapacityInternal_d00df_12 : decode cJ5_ensureCapacityInternal_d00df 12 = .ok (.iload_n 2, 1) := by decide +kernel
theorem dJ5_ensureCapacityInternal_d00df_13 : decode cJ5_ensureCapacityInternal_d00df 13 = .ok (.isub, 1) := by decide +kernel
theorem dJ5_ensureCapacityInternal_d00df_14 : decode cJ5_ensureCapacityInternal_d00df 14 = .ok (.ifCond .le 24, 3) := by decide +kernel
theorem dJ5_ensureCapacityInternal_d00df_17 : decode cJ5_ensureCapacityInternal_d00df 17 = .ok (.aload_n 0, 1) := by decide +kernel
theorem dJ5_ensureCapacityInternal_d00df_18 : decode cJ5_ensureCapacityInternal_d00df 18 = .ok (.aload_n 0, 1) := by decide +kernel
theorem dJ5_ensureCapacityInternal_d00df_19 : decode cJ5_ensureCapacityInternal_d00df 19 = .ok (.getfield 15, 3) := by decide +kernel
theorem dJ5_ensureCapacityInternal_d00df_22 : decode cJ5_ensureCapacityInternal_d00df 22 = .ok (.aload_n 0, 1) := by decide +kernel
theorem dJ5_ensureCapacityInternal_d00df_23 : decode cJ5_ensureCapacityInternal_d00df 23 = .ok (.iload_n 1, 1) := by decide +kernel
theorem dJ5_ensureCapacityInternal_d00df_24 : decode cJ5_ensureCapacityInternal_d00df 24 = .ok (.invokevirtual 104, 3) := by decide +kernel
theorem dJ5_ensureCapacityInternal_d00df_27 : decode cJ5_ensureCapacityInternal_d00df 27 = .ok (.aload_n 0, 1) := by decide +kernel
theorem dJ5_ensureCapacityInternal_d00df_28 : decode cJ5_ensureCapacityInternal_d00df 28 = .ok (.getfield 22, 3) := by decide +kernel
theorem dJ5_ensureCapacityInternal_d00df_31 : decode cJ5_ensureCapacityInternal_d00df 31 = .ok (.ishl, 1) := by decide +kernel
theorem dJ5_ensureCapacityInternal_d00df_32 : decode cJ5_ensureCapacityInternal_d00df 32 = .ok (.invokestatic 108, 3) := by decide +kernel
theorem dJ5_ensureCapacityInternal_d00df_35 : decode cJ5_ensureCapacityInternal_d00df 35 = .ok (.putfield 15, 3) := by decide +kernel
theorem dJ5_ensureCapacityInternal_d00df_38 : decode cJ5_ensureCapacityInternal_d00df 38 = .ok (.return_, 1) := by decide +kernel
theorem dJ5_append_cf1ce_0 : decode cJ5_append_cf1ce 0 = .ok (.aload_n 1, 1) := by decide +kernel
theorem dJ5_append_cf1ce_1 : decode cJ5_append_cf1ce 1 = .ok (.ifnonnull 8, 3) := by decide +kernel
theorem dJ5_append_cf1ce_4 : decode cJ5_append_cf1ce 4 = .ok (.aload_n 0, 1) := by decide +kernel
theorem dJ5_append_cf1ce_5 : decode cJ5_append_cf1ce 5 = .ok (.invokevirtual 204, 3) := by decide +kernel
theorem dJ5_append_cf1ce_8 : decode cJ5_append_cf1ce 8 = .ok (.areturn, 1) := by decide +kernel
theorem dJ5_append_cf1ce_9 : decode cJ5_append_cf1ce 9 = .ok (.aload_n 1, 1) := by decide +kernel
theorem dJ5_append_cf1ce_10 : decode cJ5_append_cf1ce 10 = .ok (.invokevirtual 32, 3) := by decide +kernel
theorem dJ5_append_cf1ce_13 : decode cJ5_append_cf1ce 13 = .ok (.istore_n 2, 1) := by decide +kernel
theorem dJ5_append_cf1ce_14 : decode cJ5_append_cf1ce 14 = .ok (.aload_n 0, 1) := by decide +kernel
theorem dJ5_append_cf1ce_15 : decode cJ5_append_cf1ce 15 = .ok (.aload_n 0, 1) := by decide +kernel
theorem dJ5_append_cf1ce_16 : decode cJ5_append_cf1ce 16 = .ok (.getfield 79, 3) := by decide +kernel
theorem dJ5_append_cf1ce_19 : decode cJ5_append_cf1ce 19 = .ok (.iload_n 2, 1) := by decide +kernel
theorem dJ5_append_cf1ce_20 : decode cJ5_append_cf1ce 20 = .ok (.iadd, 1) := by decide +kernel
theorem dJ5_append_cf1ce_21 : decode cJ5_append_cf1ce 21 = .ok (.invokevirtual 100, 3) := by decide +kernel
theorem dJ5_append_cf1ce_24 : decode cJ5_append_cf1ce 24 = .ok (.aload_n 0, 1) := by decide +kernel
theorem dJ5_append_cf1ce_25 : decode cJ5_append_cf1ce 25 = .ok (.aload_n 0, 1) := by decide +kernel
theorem dJ5_append_cf1ce_26 : decode cJ5_append_cf1ce 26 = .ok (.getfield 79, 3) := by decide +kernel
theorem dJ5_append_cf1ce_29 : decode cJ5_append_cf1ce 29 = .ok (.aload_n 1, 1) := by decide +kernel
theorem dJ5_append_cf1ce_30 : decode cJ5_append_cf1ce 30 = .ok (.invokevirtual 208, 3) := by decide +kernel
theorem dJ5_append_cf1ce_33 : decode cJ5_append_cf1ce 33 = .ok (.aload_n 0, 1) := by decide +kernel
theorem dJ5_append_cf1ce_34 : decode cJ5_append_cf1ce 34 = .ok (.dup, 1) := by decide +kernel
theorem dJ5_append_cf1ce_35 : decode cJ5_append_cf1ce 35 = .ok (.getfield 79, 3) := by decide +kernel
theorem dJ5_append_cf1ce_38 : decode cJ5_append_cf1ce 38 = .ok (.iload_n 2, 1) := by decide +kernel
theorem dJ5_append_cf1ce_39 : decode cJ5_append_cf1ce 39 = .ok (.iadd, 1) := by decide +kernel
theorem dJ5_append_cf1ce_40 : decode cJ5_append_cf1ce 40 = .ok (.putfield 79, 3) := by decide +kernel
theorem dJ5_append_cf1ce_43 : decode cJ5_append_cf1ce 43 = .ok (.aload_n 0, 1) := by decide +kernel
theorem dJ5_append_cf1ce_44 : decode cJ5_append_cf1ce 44 = .ok (.areturn, 1) := by decide +kernel
theorem dJ5_append_c97b9_0 : decode cJ5_append_c97b9 0 = .ok (.aload_n 0, 1) := by decide +kernel
theorem dJ5_append_c97b9_1 : decode cJ5_append_c97b9 1 = .ok (.getfield 79, 3) := by decide +kernel
theorem dJ5_append_c97b9_4 : decode cJ5_append_c97b9 4 = .ok (.istore_n 2, 1) := by decide +kernel
theorem dJ5_append_c97b9_5 : decode cJ5_append_c97b9 5 = .ok (.iload_n 2, 1) := by decide +kernel
theorem dJ5_append_c97b9_6 : decode cJ5_append_c97b9 6 = .ok (.iload_n 1, 1) := by decide +kernel
theorem dJ5_append_c97b9_7 : decode cJ5_append_c97b9 7 = .ok (.invokestatic 245, 3) := by decide +kernel
theorem dJ5_append_c97b9_10 : decode cJ5_append_c97b9 10 = .ok (.iadd, 1) := by decide +kernel
theorem dJ5_append_c97b9_11 : decode cJ5_append_c97b9 11 = .ok (.istore_n 3, 1) := by decide +kernel
theorem dJ5_append_c97b9_12 : decode cJ5_append_c97b9 12 = .ok (.aload_n 0, 1) := by decide +kernel
theorem dJ5_append_c97b9_13 : decode cJ5_append_c97b9 13 = .ok (.iload_n 3, 1) := by decide +kernel
theorem dJ5_append_c97b9_14 : decode cJ5_append_c97b9 14 = .ok (.invokevirtual 100, 3) := by decide +kernel
theorem dJ5_append_c97b9_17 : decode cJ5_append_c97b9 17 = .ok (.aload_n 0, 1) := by decide +kernel
theorem dJ5_append_c97b9_18 : decode cJ5_append_c97b9 18 = .ok (.invokevirtual 83, 3) := by decide +kernel
theorem dJ5_append_c97b9_21 : decode cJ5_append_c97b9 21 = .ok (.ifCond .eq 16, 3) := by decide +kernel
theorem dJ5_append_c97b9_24 : decode cJ5_append_c97b9 24 = .ok (.iload_n 1, 1) := by decide +kernel
theorem dJ5_append_c97b9_25 : decode cJ5_append_c97b9 25 = .ok (.iload_n 3, 1) := by decide +kernel
theorem dJ5_append_c97b9_26 : decode cJ5_append_c97b9 26 = .ok (.aload_n 0, 1) := by decide +kernel
theorem dJ5_append_c97b9_27 : decode cJ5_append_c97b9 27 = .ok (.getfield 15, 3) := by decide +kernel
theorem dJ5_append_c97b9_30 : decode cJ5_append_c97b9 30 = .ok (.invokestatic 248, 3) := by decide +kernel
theorem dJ5_append_c97b9_33 : decode cJ5_append_c97b9 33 = .ok (.pop, 1) := by decide +kernel
theorem dJ5_append_c97b9_34 : decode cJ5_append_c97b9 34 = .ok (.goto 14, 3) := by decide +kernel
theorem dJ5_append_c97b9_37 : decode cJ5_append_c97b9 37 = .ok (.iload_n 1, 1) := by decide +kernel
theorem dJ5_append_c97b9_38 : decode cJ5_append_c97b9 38 = .ok (.iload_n 2, 1) := by decide +kernel
theorem dJ5_append_c97b9_39 : decode cJ5_append_c97b9 39 = .ok (.iload_n 3, 1) := by decide +kernel
theorem dJ5_append_c97b9_40 : decode cJ5_append_c97b9 40 = .ok (.aload_n 0, 1) := by decide +kernel
theorem dJ5_append_c97b9_41 : decode cJ5_append_c97b9 41 = .ok (.getfield 15, 3) := by decide +kernel
theorem dJ5_append_c97b9_44 : decode cJ5_append_c97b9 44 = .ok (.invokestatic 251, 3) := by decide +kernel
theorem dJ5_append_c97b9_47 : decode cJ5_append_c97b9 47 = .ok (.pop, 1) := by decide +kernel
theorem dJ5_append_c97b9_48 : decode cJ5_append_c97b9 48 = .ok (.aload_n 0, 1) := by decide +kernel
theorem dJ5_append_c97b9_49 : decode cJ5_append_c97b9 49 = .ok (.iload_n 3, 1) := by decide +kernel
theorem dJ5_append_c97b9_50 : decode cJ5_append_c97b9 50 = .ok (.putfield 79, 3) := by decide +kernel
theorem dJ5_append_c97b9_53 : decode cJ5_append_c97b9 53 = .ok (.aload_n 0, 1) := by decide +kernel
theorem dJ5_append_c97b9_54 : decode cJ5_append_c97b9 54 = .ok (.areturn, 1) := by decide +kernel
theorem dJ5_getValue_6d5f1_0 : decode cJ5_getValue_6d5f1 0 = .ok (.aload_n 0, 1) := by decide +kernel
theorem dJ5_getValue_6d5f1_1 : decode cJ5_getValue_6d5f1 1 = .ok (.getfield 15, 3) := by decide +kernel
theorem dJ5_getValue_6d5f1_4 : decode cJ5_getValue_6d5f1 4 = .ok (.areturn, 1) := by decide +kernel
theorem dJ5_isLatin1_aae02_0 : decode cJ5_isLatin1_aae02 0 = .ok (.getstatic 18, 3) := by decide +kernel
theorem dJ5_isLatin1_aae02_3 : decode cJ5_isLatin1_aae02 3 = .ok (.ifCond .eq 14, 3) := by decide +kernel
theorem dJ5_isLatin1_aae02_6 : decode cJ5_isLatin1_aae02 6 = .ok (.aload_n 0, 1) := by decide +kernel
theorem dJ5_isLatin1_aae02_7 : decode cJ5_isLatin1_aae02 7 = .ok (.getfield 22, 3) := by decide +kernel
theorem dJ5_isLatin1_aae02_10 : decode cJ5_isLatin1_aae02 10 = .ok (.ifCond .ne 7, 3) := by decide +kernel
theorem dJ5_isLatin1_aae02_13 : decode cJ5_isLatin1_aae02 13 = .ok (.iconst 1, 1) := by decide +kernel
theorem dJ5_isLatin1_aae02_14 : decode cJ5_isLatin1_aae02 14 = .ok (.goto 4, 3) := by decide +kernel
theorem dJ5_isLatin1_aae02_17 : decode cJ5_isLatin1_aae02 17 = .ok (.iconst 0, 1) := by decide +kernel
theorem dJ5_isLatin1_aae02_18 : decode cJ5_isLatin1_aae02 18 = .ok (.ireturn, 1) := by decide +kernel
theorem dJ5_inflateIfNeededFor_a7421_0 : decode cJ5_inflateIfNeededFor_a7421 0 = .ok (.getstatic 18, 3) := by decide +kernel
theorem dJ5_inflateIfNeededFor_a7421_3 : decode cJ5_inflateIfNeededFor_a7421 3 = .ok (.ifCond .eq 18, 3) := by decide +kernel
theorem dJ5_inflateIfNeededFor_a7421_6 : decode cJ5_inflateIfNeededFor_a7421 6 = .ok (.aload_n 0, 1) := by decide +kernel
theorem dJ5_inflateIfNeededFor_a7421_7 : decode cJ5_inflateIfNeededFor_a7421 7 = .ok (.getfield 22, 3) := by decide +kernel
theorem dJ5_inflateIfNeededFor_a7421_10 : decode cJ5_inflateIfNeededFor_a7421 10 = .ok (.aload_n 1, 1) := by decide +kernel
theorem dJ5_inflateIfNeededFor_a7421_11 : decode cJ5_inflateIfNeededFor_a7421 11 = .ok (.invokevirtual 40, 3) := by decide +kernel
theorem dJ5_inflateIfNeededFor_a7421_14 : decode cJ5_inflateIfNeededFor_a7421 14 = .ok (.if_icmp .eq 7, 3) := by decide +kernel
theorem dJ5_inflateIfNeededFor_a7421_17 : decode cJ5_inflateIfNeededFor_a7421 17 = .ok (.aload_n 0, 1) := by decide +kernel
theorem dJ5_inflateIfNeededFor_a7421_18 : decode cJ5_inflateIfNeededFor_a7421 18 = .ok (.invokevirtual 195, 3) := by decide +kernel
theorem dJ5_inflateIfNeededFor_a7421_21 : decode cJ5_inflateIfNeededFor_a7421 21 = .ok (.return_, 1) := by decide +kernel
theorem dJ5_putStringAt_47b60_0 : decode cJ5_putStringAt_47b60 0 = .ok (.aload_n 0, 1) := by decide +kernel
theorem dJ5_putStringAt_47b60_1 : decode cJ5_putStringAt_47b60 1 = .ok (.aload_n 2, 1) := by decide +kernel
theorem dJ5_putStringAt_47b60_2 : decode cJ5_putStringAt_47b60 2 = .ok (.invokevirtual 397, 3) := by decide +kernel
theorem dJ5_putStringAt_47b60_5 : decode cJ5_putStringAt_47b60 5 = .ok (.aload_n 2, 1) := by decide +kernel
theorem dJ5_putStringAt_47b60_6 : decode cJ5_putStringAt_47b60 6 = .ok (.aload_n 0, 1) := by decide +kernel
theorem dJ5_putStringAt_47b60_7 : decode cJ5_putStringAt_47b60 7 = .ok (.getfield 15, 3) := by decide +kernel
theorem dJ5_putStringAt_47b60_10 : decode cJ5_putStringAt_47b60 10 = .ok (.iload_n 1, 1) := by decide +kernel
theorem dJ5_putStringAt_47b60_11 : decode cJ5_putStringAt_47b60 11 = .ok (.aload_n 0, 1) := by decide +kernel
theorem dJ5_putStringAt_47b60_12 : decode cJ5_putStringAt_47b60 12 = .ok (.getfield 22, 3) := by decide +kernel
theorem dJ5_putStringAt_47b60_15 : decode cJ5_putStringAt_47b60 15 = .ok (.invokevirtual 399, 3) := by decide +kernel
theorem dJ5_putStringAt_47b60_18 : decode cJ5_putStringAt_47b60 18 = .ok (.return_, 1) := by decide +kernel
theorem dJx00060_init_a7421_0 : decode cJx00060_init_a7421 0 = .ok (.aload_n 0, 1) := by decide +kernel
theorem dJx00060_init_a7421_1 : decode cJx00060_init_a7421 1 = .ok (.aload_n 1, 1) := by decide +kernel
theorem dJx00060_init_a7421_2 : decode cJx00060_init_a7421 2 = .ok (.invokespecial 7, 3) := by decide +kernel
theorem dJx00060_init_a7421_5 : decode cJx00060_init_a7421 5 = .ok (.return_, 1) := by decide +kernel
theorem dJxe99ae_isNaN_b9ae7_0 : decode cJxe99ae_isNaN_b9ae7 0 = .ok (.dload_n 0, 1) := by decide +kernel
theorem dJxe99ae_isNaN_b9ae7_1 : decode cJxe99ae_isNaN_b9ae7 1 = .ok (.dload_n 0, 1) := by decide +kernel
theorem dJxe99ae_isNaN_b9ae7_2 : decode cJxe99ae_isNaN_b9ae7 2 = .ok (.dcmp .l, 1) := by decide +kernel
theorem dJxe99ae_isNaN_b9ae7_3 : decode cJxe99ae_isNaN_b9ae7 3 = .ok (.ifCond .eq 7, 3) := by decide +kernel
theorem dJxe99ae_isNaN_b9ae7_6 : decode cJxe99ae_isNaN_b9ae7 6 = .ok (.iconst 1, 1) := by decide +kernel
theorem dJxe99ae_isNaN_b9ae7_7 : decode cJxe99ae_isNaN_b9ae7 7 = .ok (.goto 4, 3) := by decide +kernel
theorem dJxe99ae_isNaN_b9ae7_10 : decode cJxe99ae_isNaN_b9ae7 10 = .ok (.iconst 0, 1) := by decide +kernel
theorem dJxe99ae_isNaN_b9ae7_11 : decode cJxe99ae_isNaN_b9ae7 11 = .ok (.ireturn, 1) := by decide +kernel
theorem dJxe99ae_doubleToLongBits_ccdee_0 : decode cJxe99ae_doubleToLongBits_ccdee 0 = .ok (.dload_n 0, 1) := by decide +kernel
theorem dJxe99ae_doubleToLongBits_ccdee_1 : decode cJxe99ae_doubleToLongBits_ccdee 1 = .ok (.invokestatic 122, 3) := by decide +kernel
theorem dJxe99ae_doubleToLongBits_ccdee_4 : decode cJxe99ae_doubleToLongBits_ccdee 4 = .ok (.ifCond .ne 8, 3) := by decide +kernel
theorem dJxe99ae_doubleToLongBits_ccdee_7 : decode cJxe99ae_doubleToLongBits_ccdee 7 = .ok (.dload_n 0, 1) := by decide +kernel
theorem dJxe99ae_doubleToLongBits_ccdee_8 : decode cJxe99ae_doubleToLongBits_ccdee 8 = .ok (.invokestatic 134, 3) := by decide +kernel
theorem dJxe99ae_doubleToLongBits_ccdee_11 : decode cJxe99ae_doubleToLongBits_ccdee 11 = .ok (.lreturn, 1) := by decide +kernel
theorem dJxe99ae_doubleToLongBits_ccdee_12 : decode cJxe99ae_doubleToLongBits_ccdee 12 = .ok (.ldc2_w 137, 3) := by decide +kernel
theorem dJxe99ae_doubleToLongBits_ccdee_15 : decode cJxe99ae_doubleToLongBits_ccdee 15 = .ok (.lreturn, 1) := by decide +kernel
theorem dJxf58ca_isNaN_12338_0 : decode cJxf58ca_isNaN_12338 0 = .ok (.fload_n 0, 1) := by decide +kernel
theorem dJxf58ca_isNaN_12338_1 : decode cJxf58ca_isNaN_12338 1 = .ok (.fload_n 0, 1) := by decide +kernel
theorem dJxf58ca_isNaN_12338_2 : decode cJxf58ca_isNaN_12338 2 = .ok (.fcmp .l, 1) := by decide +kernel
theorem dJxf58ca_isNaN_12338_3 : decode cJxf58ca_isNaN_12338 3 = .ok (.ifCond .eq 7, 3) := by decide +kernel
theorem dJxf58ca_isNaN_12338_6 : decode cJxf58ca_isNaN_12338 6 = .ok (.iconst 1, 1) := by decide +kernel
theorem dJxf58ca_isNaN_12338_7 : decode cJxf58ca_isNaN_12338 7 = .ok (.goto 4, 3) := by decide +kernel
theorem dJxf58ca_isNaN_12338_10 : decode cJxf58ca_isNaN_12338 10 = .ok (.iconst 0, 1) := by decide +kernel
theorem dJxf58ca_isNaN_12338_11 : decode cJxf58ca_isNaN_12338 11 = .ok (.ireturn, 1) := by decide +kernel
theorem dJxf58ca_floatToIntBits_5c35a_0 : decode cJxf58ca_floatToIntBits_5c35a 0 = .ok (.fload_n 0, 1) := by decide +kernel
theorem dJxf58ca_floatToIntBits_5c35a_1 : decode cJxf58ca_floatToIntBits_5c35a 1 = .ok (.invokestatic 59, 3) := by decide +kernel
theorem dJxf58ca_floatToIntBits_5c35a_4 : decode cJxf58ca_floatToIntBits_5c35a 4 = .ok (.ifCond .ne 8, 3) := by decide +kernel
theorem dJxf58ca_floatToIntBits_5c35a_7 : decode cJxf58ca_floatToIntBits_5c35a 7 = .ok (.fload_n 0, 1) := by decide +kernel
theorem dJxf58ca_floatToIntBits_5c35a_8 : decode cJxf58ca_floatToIntBits_5c35a 8 = .ok (.invokestatic 74, 3) := by decide +kernel
theorem dJxf58ca_floatToIntBits_5c35a_11 : decode cJxf58ca_floatToIntBits_5c35a 11 = .ok (.ireturn, 1) := by decide +kernel
theorem dJxf58ca_floatToIntBits_5c35a_12 : decode cJxf58ca_floatToIntBits_5c35a 12 = .ok (.ldc 77, 2) := by decide +kernel
theorem dJxf58ca_floatToIntBits_5c35a_14 : decode cJxf58ca_floatToIntBits_5c35a 14 = .ok (.ireturn, 1) := by decide +kernel
theorem dJ6_getChars_ba4f3_0 : decode cJ6_getChars_ba4f3 0 = .ok (.iload_n 1, 1) := by decide +kernel
theorem dJ6_getChars_ba4f3_1 : decode cJ6_getChars_ba4f3 1 = .ok (.istore 5, 2) := by decide +kernel
theorem dJ6_getChars_ba4f3_3 : decode cJ6_getChars_ba4f3 3 = .ok (.iload_n 0, 1) := by decide +kernel
theorem dJ6_getChars_ba4f3_4 : decode cJ6_getChars_ba4f3 4 = .ok (.ifCond .ge 7, 3) := by decide +kernel
theorem dJ6_getChars_ba4f3_7 : decode cJ6_getChars_ba4f3 7 = .ok (.iconst 1, 1) := by decide +kernel
theorem dJ6_getChars_ba4f3_8 : decode cJ6_getChars_ba4f3 8 = .ok (.goto 4, 3) := by decide +kernel
theorem dJ6_getChars_ba4f3_11 : decode cJ6_getChars_ba4f3 11 = .ok (.iconst 0, 1) := by decide +kernel
theorem dJ6_getChars_ba4f3_12 : decode cJ6_getChars_ba4f3 12 = .ok (.istore 6, 2) := by decide +kernel
theorem dJ6_getChars_ba4f3_14 : decode cJ6_getChars_ba4f3 14 = .ok (.iload 6, 2) := by decide +kernel
theorem dJ6_getChars_ba4f3_16 : decode cJ6_getChars_ba4f3 16 = .ok (.ifCond .ne 6, 3) := by decide +kernel
theorem dJ6_getChars_ba4f3_19 : decode cJ6_getChars_ba4f3 19 = .ok (.iload_n 0, 1) := by decide +kernel
theorem dJ6_getChars_ba4f3_20 : decode cJ6_getChars_ba4f3 20 = .ok (.ineg, 1) := by decide +kernel
theorem dJ6_getChars_ba4f3_21 : decode cJ6_getChars_ba4f3 21 = .ok (.istore_n 0, 1) := by decide +kernel
theorem dJ6_getChars_ba4f3_22 : decode cJ6_getChars_ba4f3 22 = .ok (.iload_n 0, 1) := by decide +kernel
theorem dJ6_getChars_ba4f3_23 : decode cJ6_getChars_ba4f3 23 = .ok (.bipush (-100), 2) := by decide +kernel
theorem dJ6_getChars_ba4f3_25 : decode cJ6_getChars_ba4f3 25 = .ok (.if_icmp .gt 47, 3) := by decide +kernel
theorem dJ6_getChars_ba4f3_28 : decode cJ6_getChars_ba4f3 28 = .ok (.iload_n 0, 1) := by decide +kernel
theorem dJ6_getChars_ba4f3_29 : decode cJ6_getChars_ba4f3 29 = .ok (.bipush 100, 2) := by decide +kernel
theorem dJ6_getChars_ba4f3_31 : decode cJ6_getChars_ba4f3 31 = .ok (.idiv, 1) := by decide +kernel
theorem dJ6_getChars_ba4f3_32 : decode cJ6_getChars_ba4f3 32 = .ok (.istore_n 3, 1) := by decide +kernel
theorem dJ6_getChars_ba4f3_33 : decode cJ6_getChars_ba4f3 33 = .ok (.iload_n 3, 1) := by decide +kernel
theorem dJ6_getChars_ba4f3_34 : decode cJ6_getChars_ba4f3 34 = .ok (.bipush 100, 2) := by decide +kernel
theorem dJ6_getChars_ba4f3_36 : decode cJ6_getChars_ba4f3 36 = .ok (.imul, 1) := by decide +kernel
theorem dJ6_getChars_ba4f3_37 : decode cJ6_getChars_ba4f3 37 = .ok (.iload_n 0, 1) := by decide +kernel
theorem dJ6_getChars_ba4f3_38 : decode cJ6_getChars_ba4f3 38 = .ok (.isub, 1) := by decide +kernel
theorem dJ6_getChars_ba4f3_39 : decode cJ6_getChars_ba4f3 39 = .ok (.istore 4, 2) := by decide +kernel
theorem dJ6_getChars_ba4f3_41 : decode cJ6_getChars_ba4f3 41 = .ok (.iload_n 3, 1) := by decide +kernel
theorem dJ6_getChars_ba4f3_42 : decode cJ6_getChars_ba4f3 42 = .ok (.istore_n 0, 1) := by decide +kernel
theorem dJ6_getChars_ba4f3_43 : decode cJ6_getChars_ba4f3 43 = .ok (.aload_n 2, 1) := by decide +kernel
theorem dJ6_getChars_ba4f3_44 : decode cJ6_getChars_ba4f3 44 = .ok (.iinc 5 (-1), 3) := by decide +kernel
theorem dJ6_getChars_ba4f3_47 : decode cJ6_getChars_ba4f3 47 = .ok (.iload 5, 2) := by decide +kernel
theorem dJ6_getChars_ba4f3_49 : decode cJ6_getChars_ba4f3 49 = .ok (.getstatic 83, 3) := by decide +kernel
theorem dJ6_getChars_ba4f3_52 : decode cJ6_getChars_ba4f3 52 = .ok (.iload 4, 2) := by decide +kernel
theorem dJ6_getChars_ba4f3_54 : decode cJ6_getChars_ba4f3 54 = .ok (.baload, 1) := by decide +kernel
theorem dJ6_getChars_ba4f3_55 : decode cJ6_getChars_ba4f3 55 = .ok (.bastore, 1) := by decide +kernel
theorem dJ6_getChars_ba4f3_56 : decode cJ6_getChars_ba4f3 56 = .ok (.aload_n 2, 1) := by decide +kernel
theorem dJ6_getChars_ba4f3_57 : decode cJ6_getChars_ba4f3 57 = .ok (.iinc 5 (-1), 3) := by decide +kernel
theorem dJ6_getChars_ba4f3_60 : decode cJ6_getChars_ba4f3 60 = .ok (.iload 5, 2) := by decide +kernel
theorem dJ6_getChars_ba4f3_62 : decode cJ6_getChars_ba4f3 62 = .ok (.getstatic 87, 3) := by decide +kernel
theorem dJ6_getChars_ba4f3_65 : decode cJ6_getChars_ba4f3 65 = .ok (.iload 4, 2) := by decide +kernel
theorem dJ6_getChars_ba4f3_67 : decode cJ6_getChars_ba4f3 67 = .ok (.baload, 1) := by decide +kernel
theorem dJ6_getChars_ba4f3_68 : decode cJ6_getChars_ba4f3 68 = .ok (.bastore, 1) := by decide +kernel
theorem dJ6_getChars_ba4f3_69 : decode cJ6_getChars_ba4f3 69 = .ok (.goto (-47), 3) := by decide +kernel
theorem dJ6_getChars_ba4f3_72 : decode cJ6_getChars_ba4f3 72 = .ok (.aload_n 2, 1) := by decide +kernel
theorem dJ6_getChars_ba4f3_73 : decode cJ6_getChars_ba4f3 73 = .ok (.iinc 5 (-1), 3) := by decide +kernel
theorem dJ6_getChars_ba4f3_76 : decode cJ6_getChars_ba4f3 76 = .ok (.iload 5, 2) := by decide +kernel
theorem dJ6_getChars_ba4f3_78 : decode cJ6_getChars_ba4f3 78 = .ok (.getstatic 83, 3) := by decide +kernel
theorem dJ6_getChars_ba4f3_81 : decode cJ6_getChars_ba4f3 81 = .ok (.iload_n 0, 1) := by decide +kernel
theorem dJ6_getChars_ba4f3_82 : decode cJ6_getChars_ba4f3 82 = .ok (.ineg, 1) := by decide +kernel
theorem dJ6_getChars_ba4f3_83 : decode cJ6_getChars_ba4f3 83 = .ok (.baload, 1) := by decide +kernel
theorem dJ6_getChars_ba4f3_84 : decode cJ6_getChars_ba4f3 84 = .ok (.bastore, 1) := by decide +kernel
theorem dJ6_getChars_ba4f3_85 : decode cJ6_getChars_ba4f3 85 = .ok (.iload_n 0, 1) := by decide +kernel
theorem dJ6_getChars_ba4f3_86 : decode cJ6_getChars_ba4f3 86 = .ok (.bipush (-9), 2) := by decide +kernel
theorem dJ6_getChars_ba4f3_88 : decode cJ6_getChars_ba4f3 88 = .ok (.if_icmp .ge 16, 3) := by decide +kernel
theorem dJ6_getChars_ba4f3_91 : decode cJ6_getChars_ba4f3 91 = .ok (.aload_n 2, 1) := by decide +kernel
theorem dJ6_getChars_ba4f3_92 : decode cJ6_getChars_ba4f3 92 = .ok (.iinc 5 (-1), 3) := by decide +kernel
theorem dJ6_getChars_ba4f3_95 : decode cJ6_getChars_ba4f3 95 = .ok (.iload 5, 2) := by decide +kernel
theorem dJ6_getChars_ba4f3_97 : decode cJ6_getChars_ba4f3 97 = .ok (.getstatic 87, 3) := by decide +kernel
theorem dJ6_getChars_ba4f3_100 : decode cJ6_getChars_ba4f3 100 = .ok (.iload_n 0, 1) := by decide +kernel
theorem dJ6_getChars_ba4f3_101 : decode cJ6_getChars_ba4f3 101 = .ok (.ineg, 1) := by decide +kernel
theorem dJ6_getChars_ba4f3_102 : decode cJ6_getChars_ba4f3 102 = .ok (.baload, 1) := by decide +kernel
theorem dJ6_getChars_ba4f3_103 : decode cJ6_getChars_ba4f3 103 = .ok (.bastore, 1) := by decide +kernel
theorem dJ6_getChars_ba4f3_104 : decode cJ6_getChars_ba4f3 104 = .ok (.iload 6, 2) := by decide +kernel
theorem dJ6_getChars_ba4f3_106 : decode cJ6_getChars_ba4f3 106 = .ok (.ifCond .eq 12, 3) := by decide +kernel
theorem dJ6_getChars_ba4f3_109 : decode cJ6_getChars_ba4f3 109 = .ok (.aload_n 2, 1) := by decide +kernel
theorem dJ6_getChars_ba4f3_110 : decode cJ6_getChars_ba4f3 110 = .ok (.iinc 5 (-1), 3) := by decide +kernel
theorem dJ6_getChars_ba4f3_113 : decode cJ6_getChars_ba4f3 113 = .ok (.iload 5, 2) := by decide +kernel
theorem dJ6_getChars_ba4f3_115 : decode cJ6_getChars_ba4f3 115 = .ok (.bipush 45, 2) := by decide +kernel
theorem dJ6_getChars_ba4f3_117 : decode cJ6_getChars_ba4f3 117 = .ok (.bastore, 1) := by decide +kernel
theorem dJ6_getChars_ba4f3_118 : decode cJ6_getChars_ba4f3 118 = .ok (.iload 5, 2) := by decide +kernel
theorem dJ6_getChars_ba4f3_120 : decode cJ6_getChars_ba4f3 120 = .ok (.ireturn, 1) := by decide +kernel
theorem dJ6_stringSize_0f7a4_0 : decode cJ6_stringSize_0f7a4 0 = .ok (.iconst 1, 1) := by decide +kernel
theorem dJ6_stringSize_0f7a4_1 : decode cJ6_stringSize_0f7a4 1 = .ok (.istore_n 1, 1) := by decide +kernel
theorem dJ6_stringSize_0f7a4_2 : decode cJ6_stringSize_0f7a4 2 = .ok (.iload_n 0, 1) := by decide +kernel
theorem dJ6_stringSize_0f7a4_3 : decode cJ6_stringSize_0f7a4 3 = .ok (.ifCond .lt 8, 3) := by decide +kernel
theorem dJ6_stringSize_0f7a4_6 : decode cJ6_stringSize_0f7a4 6 = .ok (.iconst 0, 1) := by decide +kernel
theorem dJ6_stringSize_0f7a4_7 : decode cJ6_stringSize_0f7a4 7 = .ok (.istore_n 1, 1) := by decide +kernel
theorem dJ6_stringSize_0f7a4_8 : decode cJ6_stringSize_0f7a4 8 = .ok (.iload_n 0, 1) := by decide +kernel
theorem dJ6_stringSize_0f7a4_9 : decode cJ6_stringSize_0f7a4 9 = .ok (.ineg, 1) := by decide +kernel
theorem dJ6_stringSize_0f7a4_10 : decode cJ6_stringSize_0f7a4 10 = .ok (.istore_n 0, 1) := by decide +kernel
theorem dJ6_stringSize_0f7a4_11 : decode cJ6_stringSize_0f7a4 11 = .ok (.bipush (-10), 2) := by decide +kernel
theorem dJ6_stringSize_0f7a4_13 : decode cJ6_stringSize_0f7a4 13 = .ok (.istore_n 2, 1) := by decide +kernel
theorem dJ6_stringSize_0f7a4_14 : decode cJ6_stringSize_0f7a4 14 = .ok (.iconst 1, 1) := by decide +kernel
theorem dJ6_stringSize_0f7a4_15 : decode cJ6_stringSize_0f7a4 15 = .ok (.istore_n 3, 1) := by decide +kernel
theorem dJ6_stringSize_0f7a4_16 : decode cJ6_stringSize_0f7a4 16 = .ok (.iload_n 3, 1) := by decide +kernel
theorem dJ6_stringSize_0f7a4_17 : decode cJ6_stringSize_0f7a4 17 = .ok (.bipush 10, 2) := by decide +kernel
theorem dJ6_stringSize_0f7a4_19 : decode cJ6_stringSize_0f7a4 19 = .ok (.if_icmp .ge 23, 3) := by decide +kernel
theorem dJ6_stringSize_0f7a4_22 : decode cJ6_stringSize_0f7a4 22 = .ok (.iload_n 0, 1) := by decide +kernel
theorem dJ6_stringSize_0f7a4_23 : decode cJ6_stringSize_0f7a4 23 = .ok (.iload_n 2, 1) := by decide +kernel
theorem dJ6_stringSize_0f7a4_24 : decode cJ6_stringSize_0f7a4 24 = .ok (.if_icmp .le 7, 3) := by decide +kernel
theorem dJ6_stringSize_0f7a4_27 : decode cJ6_stringSize_0f7a4 27 = .ok (.iload_n 3, 1) := by decide +kernel
theorem dJ6_stringSize_0f7a4_28 : decode cJ6_stringSize_0f7a4 28 = .ok (.iload_n 1, 1) := by decide +kernel
theorem dJ6_stringSize_0f7a4_29 : decode cJ6_stringSize_0f7a4 29 = .ok (.iadd, 1) := by decide +kernel
theorem dJ6_stringSize_0f7a4_30 : decode cJ6_stringSize_0f7a4 30 = .ok (.ireturn, 1) := by decide +kernel
theorem dJ6_stringSize_0f7a4_31 : decode cJ6_stringSize_0f7a4 31 = .ok (.bipush 10, 2) := by decide +kernel
theorem dJ6_stringSize_0f7a4_33 : decode cJ6_stringSize_0f7a4 33 = .ok (.iload_n 2, 1) := by decide +kernel
theorem dJ6_stringSize_0f7a4_34 : decode cJ6_stringSize_0f7a4 34 = .ok (.imul, 1) := by decide +kernel
theorem dJ6_stringSize_0f7a4_35 : decode cJ6_stringSize_0f7a4 35 = .ok (.istore_n 2, 1) := by decide +kernel
theorem dJ6_stringSize_0f7a4_36 : decode cJ6_stringSize_0f7a4 36 = .ok (.iinc 3 1, 3) := by decide +kernel
theorem dJ6_stringSize_0f7a4_39 : decode cJ6_stringSize_0f7a4 39 = .ok (.goto (-23), 3) := by decide +kernel
theorem dJ6_stringSize_0f7a4_42 : decode cJ6_stringSize_0f7a4 42 = .ok (.bipush 10, 2) := by decide +kernel
theorem dJ6_stringSize_0f7a4_44 : decode cJ6_stringSize_0f7a4 44 = .ok (.iload_n 1, 1) := by decide +kernel
theorem dJ6_stringSize_0f7a4_45 : decode cJ6_stringSize_0f7a4 45 = .ok (.iadd, 1) := by decide +kernel
theorem dJ6_stringSize_0f7a4_46 : decode cJ6_stringSize_0f7a4 46 = .ok (.ireturn, 1) := by decide +kernel
theorem dJ0_init_81219_0 : decode cJ0_init_81219 0 = .ok (.aload_n 0, 1) := by decide +kernel
theorem dJ0_init_81219_1 : decode cJ0_init_81219 1 = .ok (.aload_n 1, 1) := by decide +kernel
theorem dJ0_init_81219_2 : decode cJ0_init_81219 2 = .ok (.aconst_null, 1) := by decide +kernel
theorem dJ0_init_81219_3 : decode cJ0_init_81219 3 = .ok (.invokespecial 489, 3) := by decide +kernel
theorem dJ0_init_81219_6 : decode cJ0_init_81219 6 = .ok (.return_, 1) := by decide +kernel
theorem dJ0_length_8abf5_0 : decode cJ0_length_8abf5 0 = .ok (.aload_n 0, 1) := by decide +kernel
theorem dJ0_length_8abf5_1 : decode cJ0_length_8abf5 1 = .ok (.getfield 9, 3) := by decide +kernel
theorem dJ0_length_8abf5_4 : decode cJ0_length_8abf5 4 = .ok (.arraylength, 1) := by decide +kernel
theorem dJ0_length_8abf5_5 : decode cJ0_length_8abf5 5 = .ok (.aload_n 0, 1) := by decide +kernel
theorem dJ0_length_8abf5_6 : decode cJ0_length_8abf5 6 = .ok (.invokevirtual 335, 3) := by decide +kernel
theorem dJ0_length_8abf5_9 : decode cJ0_length_8abf5 9 = .ok (.ishr, 1) := by decide +kernel
theorem dJ0_length_8abf5_10 : decode cJ0_length_8abf5 10 = .ok (.ireturn, 1) := by decide +kernel
theorem dJ0_charAt_5068e_0 : decode cJ0_charAt_5068e 0 = .ok (.aload_n 0, 1) := by decide +kernel
theorem dJ0_charAt_5068e_1 : decode cJ0_charAt_5068e 1 = .ok (.invokevirtual 492, 3) := by decide +kernel
theorem dJ0_charAt_5068e_4 : decode cJ0_charAt_5068e 4 = .ok (.ifCond .eq 12, 3) := by decide +kernel
theorem dJ0_charAt_5068e_7 : decode cJ0_charAt_5068e 7 = .ok (.aload_n 0, 1) := by decide +kernel
theorem dJ0_charAt_5068e_8 : decode cJ0_charAt_5068e 8 = .ok (.getfield 9, 3) := by decide +kernel
theorem dJ0_charAt_5068e_11 : decode cJ0_charAt_5068e 11 = .ok (.iload_n 1, 1) := by decide +kernel
theorem dJ0_charAt_5068e_12 : decode cJ0_charAt_5068e 12 = .ok (.invokestatic 495, 3) := by decide +kernel
theorem dJ0_charAt_5068e_15 : decode cJ0_charAt_5068e 15 = .ok (.ireturn, 1) := by decide +kernel
theorem dJ0_charAt_5068e_16 : decode cJ0_charAt_5068e 16 = .ok (.aload_n 0, 1) := by decide +kernel
theorem dJ0_charAt_5068e_17 : decode cJ0_charAt_5068e 17 = .ok (.getfield 9, 3) := by decide +kernel
theorem dJ0_charAt_5068e_20 : decode cJ0_charAt_5068e 20 = .ok (.iload_n 1, 1) := by decide +kernel
theorem dJ0_charAt_5068e_21 : decode cJ0_charAt_5068e 21 = .ok (.invokestatic 498, 3) := by decide +kernel
theorem dJ0_charAt_5068e_24 : decode cJ0_charAt_5068e 24 = .ok (.ireturn, 1) := by decide +kernel
theorem dJ0_getBytes_840e7_0 : decode cJ0_getBytes_840e7 0 = .ok (.aload_n 0, 1) := by decide +kernel
theorem dJ0_getBytes_840e7_1 : decode cJ0_getBytes_840e7 1 = .ok (.invokevirtual 335, 3) := by decide +kernel
theorem dJ0_getBytes_840e7_4 : decode cJ0_getBytes_840e7 4 = .ok (.iload_n 3, 1) := by decide +kernel
theorem dJ0_getBytes_840e7_5 : decode cJ0_getBytes_840e7 5 = .ok (.if_icmp .ne 23, 3) := by decide +kernel
theorem dJ0_getBytes_840e7_8 : decode cJ0_getBytes_840e7 8 = .ok (.aload_n 0, 1) := by decide +kernel
theorem dJ0_getBytes_840e7_9 : decode cJ0_getBytes_840e7 9 = .ok (.getfield 9, 3) := by decide +kernel
theorem dJ0_getBytes_840e7_12 : decode cJ0_getBytes_840e7 12 = .ok (.iconst 0, 1) := by decide +kernel
theorem dJ0_getBytes_840e7_13 : decode cJ0_getBytes_840e7 13 = .ok (.aload_n 1, 1) := by decide +kernel
theorem dJ0_getBytes_840e7_14 : decode cJ0_getBytes_840e7 14 = .ok (.iload_n 2, 1) := by decide +kernel
theorem dJ0_getBytes_840e7_15 : decode cJ0_getBytes_840e7 15 = .ok (.iload_n 3, 1) := by decide +kernel
theorem dJ0_getBytes_840e7_16 : decode cJ0_getBytes_840e7 16 = .ok (.ishl, 1) := by decide +kernel
theorem dJ0_getBytes_840e7_17 : decode cJ0_getBytes_840e7 17 = .ok (.aload_n 0, 1) := by decide +kernel
theorem dJ0_getBytes_840e7_18 : decode cJ0_getBytes_840e7 18 = .ok (.getfield 9, 3) := by decide +kernel
theorem dJ0_getBytes_840e7_21 : decode cJ0_getBytes_840e7 21 = .ok (.arraylength, 1) := by decide +kernel
theorem dJ0_getBytes_840e7_22 : decode cJ0_getBytes_840e7 22 = .ok (.invokestatic 212, 3) := by decide +kernel
theorem dJ0_getBytes_840e7_25 : decode cJ0_getBytes_840e7 25 = .ok (.goto 18, 3) := by decide +kernel
theorem dJ0_getBytes_840e7_28 : decode cJ0_getBytes_840e7 28 = .ok (.aload_n 0, 1) := by decide +kernel
theorem dJ0_getBytes_840e7_29 : decode cJ0_getBytes_840e7 29 = .ok (.getfield 9, 3) := by decide +kernel
theorem dJ0_getBytes_840e7_32 : decode cJ0_getBytes_840e7 32 = .ok (.iconst 0, 1) := by decide +kernel
theorem dJ0_getBytes_840e7_33 : decode cJ0_getBytes_840e7 33 = .ok (.aload_n 1, 1) := by decide +kernel
theorem dJ0_getBytes_840e7_34 : decode cJ0_getBytes_840e7 34 = .ok (.iload_n 2, 1) := by decide +kernel
theorem dJ0_getBytes_840e7_35 : decode cJ0_getBytes_840e7 35 = .ok (.aload_n 0, 1) := by decide +kernel
theorem dJ0_getBytes_840e7_36 : decode cJ0_getBytes_840e7 36 = .ok (.getfield 9, 3) := by decide +kernel
theorem dJ0_getBytes_840e7_39 : decode cJ0_getBytes_840e7 39 = .ok (.arraylength, 1) := by decide +kernel
theorem dJ0_getBytes_840e7_40 : decode cJ0_getBytes_840e7 40 = .ok (.invokestatic 106, 3) := by decide +kernel
theorem dJ0_getBytes_840e7_43 : decode cJ0_getBytes_840e7 43 = .ok (.return_, 1) := by decide +kernel
theorem dJ0_init_db425_0 : decode cJ0_init_db425 0 = .ok (.aload_n 0, 1) := by decide +kernel
theorem dJ0_init_db425_1 : decode cJ0_init_db425 1 = .ok (.invokespecial 1, 3) := by decide +kernel
theorem dJ0_init_db425_4 : decode cJ0_init_db425 4 = .ok (.aload_n 1, 1) := by decide +kernel
theorem dJ0_init_db425_5 : decode cJ0_init_db425 5 = .ok (.invokevirtual 552, 3) := by decide +kernel
theorem dJ0_init_db425_8 : decode cJ0_init_db425 8 = .ok (.astore_n 3, 1) := by decide +kernel
theorem dJ0_init_db425_9 : decode cJ0_init_db425 9 = .ok (.aload_n 1, 1) := by decide +kernel
theorem dJ0_init_db425_10 : decode cJ0_init_db425 10 = .ok (.invokevirtual 549, 3) := by decide +kernel
theorem dJ0_init_db425_13 : decode cJ0_init_db425 13 = .ok (.istore 4, 2) := by decide +kernel
theorem dJ0_init_db425_15 : decode cJ0_init_db425 15 = .ok (.aload_n 1, 1) := by decide +kernel
theorem dJ0_init_db425_16 : decode cJ0_init_db425 16 = .ok (.invokevirtual 1047, 3) := by decide +kernel
theorem dJ0_init_db425_19 : decode cJ0_init_db425 19 = .ok (.ifCond .eq 22, 3) := by decide +kernel
theorem dJ0_init_db425_22 : decode cJ0_init_db425 22 = .ok (.aload_n 0, 1) := by decide +kernel
theorem dJ0_init_db425_23 : decode cJ0_init_db425 23 = .ok (.iconst 0, 1) := by decide +kernel
theorem dJ0_init_db425_24 : decode cJ0_init_db425 24 = .ok (.putfield 15, 3) := by decide +kernel
theorem dJ0_init_db425_27 : decode cJ0_init_db425 27 = .ok (.aload_n 0, 1) := by decide +kernel
theorem dJ0_init_db425_28 : decode cJ0_init_db425 28 = .ok (.aload_n 3, 1) := by decide +kernel
theorem dJ0_init_db425_29 : decode cJ0_init_db425 29 = .ok (.iconst 0, 1) := by decide +kernel
theorem dJ0_init_db425_30 : decode cJ0_init_db425 30 = .ok (.iload 4, 2) := by decide +kernel
theorem dJ0_init_db425_32 : decode cJ0_init_db425 32 = .ok (.invokestatic 54, 3) := by decide +kernel
theorem dJ0_init_db425_35 : decode cJ0_init_db425 35 = .ok (.putfield 9, 3) := by decide +kernel
theorem dJ0_init_db425_38 : decode cJ0_init_db425 38 = .ok (.goto 59, 3) := by decide +kernel
theorem dJ0_init_db425_41 : decode cJ0_init_db425 41 = .ok (.getstatic 38, 3) := by decide +kernel
theorem dJ0_init_db425_44 : decode cJ0_init_db425 44 = .ok (.ifCond .eq 35, 3) := by decide +kernel
theorem dJ0_init_db425_47 : decode cJ0_init_db425 47 = .ok (.aload_n 1, 1) := by decide +kernel
theorem dJ0_init_db425_48 : decode cJ0_init_db425 48 = .ok (.getfield 1048, 3) := by decide +kernel
theorem dJ0_init_db425_51 : decode cJ0_init_db425 51 = .ok (.ifCond .eq 28, 3) := by decide +kernel
theorem dJ0_init_db425_54 : decode cJ0_init_db425 54 = .ok (.aload_n 0, 1) := by decide +kernel
theorem dJ0_init_db425_55 : decode cJ0_init_db425 55 = .ok (.aload_n 3, 1) := by decide +kernel
theorem dJ0_init_db425_56 : decode cJ0_init_db425 56 = .ok (.iconst 0, 1) := by decide +kernel
theorem dJ0_init_db425_57 : decode cJ0_init_db425 57 = .ok (.iload 4, 2) := by decide +kernel
theorem dJ0_init_db425_59 : decode cJ0_init_db425 59 = .ok (.invokestatic 1051, 3) := by decide +kernel
theorem dJ0_init_db425_62 : decode cJ0_init_db425 62 = .ok (.putfield 9, 3) := by decide +kernel
theorem dJ0_init_db425_65 : decode cJ0_init_db425 65 = .ok (.aload_n 0, 1) := by decide +kernel
theorem dJ0_init_db425_66 : decode cJ0_init_db425 66 = .ok (.aload_n 0, 1) := by decide +kernel
theorem dJ0_init_db425_67 : decode cJ0_init_db425 67 = .ok (.getfield 9, 3) := by decide +kernel
theorem dJ0_init_db425_70 : decode cJ0_init_db425 70 = .ok (.iload 4, 2) := by decide +kernel
theorem dJ0_init_db425_72 : decode cJ0_init_db425 72 = .ok (.invokestatic 47, 3) := by decide +kernel
theorem dJ0_init_db425_75 : decode cJ0_init_db425 75 = .ok (.putfield 15, 3) := by decide +kernel
theorem dJ0_init_db425_78 : decode cJ0_init_db425 78 = .ok (.return_, 1) := by decide +kernel
theorem dJ0_init_db425_79 : decode cJ0_init_db425 79 = .ok (.aload_n 0, 1) := by decide +kernel
theorem dJ0_init_db425_80 : decode cJ0_init_db425 80 = .ok (.iconst 1, 1) := by decide +kernel
theorem dJ0_init_db425_81 : decode cJ0_init_db425 81 = .ok (.putfield 15, 3) := by decide +kernel
theorem dJ0_init_db425_84 : decode cJ0_init_db425 84 = .ok (.aload_n 0, 1) := by decide +kernel
theorem dJ0_init_db425_85 : decode cJ0_init_db425 85 = .ok (.aload_n 3, 1) := by decide +kernel
theorem dJ0_init_db425_86 : decode cJ0_init_db425 86 = .ok (.iconst 0, 1) := by decide +kernel
theorem dJ0_init_db425_87 : decode cJ0_init_db425 87 = .ok (.iload 4, 2) := by decide +kernel
theorem dJ0_init_db425_89 : decode cJ0_init_db425 89 = .ok (.iconst 1, 1) := by decide +kernel
theorem dJ0_init_db425_90 : decode cJ0_init_db425 90 = .ok (.ishl, 1) := by decide +kernel
theorem dJ0_init_db425_91 : decode cJ0_init_db425 91 = .ok (.invokestatic 54, 3) := by decide +kernel
theorem dJ0_init_db425_94 : decode cJ0_init_db425 94 = .ok (.putfield 9, 3) := by decide +kernel
theorem dJ0_init_db425_97 : decode cJ0_init_db425 97 = .ok (.return_, 1) := by decide +kernel
theorem dJ0_coder_7d493_0 : decode cJ0_coder_7d493 0 = .ok (.getstatic 38, 3) := by decide +kernel
theorem dJ0_coder_7d493_3 : decode cJ0_coder_7d493 3 = .ok (.ifCond .eq 10, 3) := by decide +kernel
theorem dJ0_coder_7d493_6 : decode cJ0_coder_7d493 6 = .ok (.aload_n 0, 1) := by decide +kernel
theorem dJ0_coder_7d493_7 : decode cJ0_coder_7d493 7 = .ok (.getfield 15, 3) := by decide +kernel
theorem dJ0_coder_7d493_10 : decode cJ0_coder_7d493 10 = .ok (.goto 4, 3) := by decide +kernel
theorem dJ0_coder_7d493_13 : decode cJ0_coder_7d493 13 = .ok (.iconst 1, 1) := by decide +kernel
theorem dJ0_coder_7d493_14 : decode cJ0_coder_7d493 14 = .ok (.ireturn, 1) := by decide +kernel
theorem dJ0_isLatin1_aae02_0 : decode cJ0_isLatin1_aae02 0 = .ok (.getstatic 38, 3) := by decide +kernel
theorem dJ0_isLatin1_aae02_3 : decode cJ0_isLatin1_aae02 3 = .ok (.ifCond .eq 14, 3) := by decide +kernel
theorem dJ0_isLatin1_aae02_6 : decode cJ0_isLatin1_aae02 6 = .ok (.aload_n 0, 1) := by decide +kernel
theorem dJ0_isLatin1_aae02_7 : decode cJ0_isLatin1_aae02 7 = .ok (.getfield 15, 3) := by decide +kernel
theorem dJ0_isLatin1_aae02_10 : decode cJ0_isLatin1_aae02 10 = .ok (.ifCond .ne 7, 3) := by decide +kernel
theorem dJ0_isLatin1_aae02_13 : decode cJ0_isLatin1_aae02 13 = .ok (.iconst 1, 1) := by decide +kernel
theorem dJ0_isLatin1_aae02_14 : decode cJ0_isLatin1_aae02 14 = .ok (.goto 4, 3) := by decide +kernel
theorem dJ0_isLatin1_aae02_17 : decode cJ0_isLatin1_aae02 17 = .ok (.iconst 0, 1) := by decide +kernel
theorem dJ0_isLatin1_aae02_18 : decode cJ0_isLatin1_aae02 18 = .ok (.ireturn, 1) := by decide +kernel
theorem dJ0_checkIndex_df160_0 : decode cJ0_checkIndex_df160 0 = .ok (.iload_n 0, 1) := by decide +kernel
theorem dJ0_checkIndex_df160_1 : decode cJ0_checkIndex_df160 1 = .ok (.iload_n 1, 1) := by decide +kernel
theorem dJ0_checkIndex_df160_2 : decode cJ0_checkIndex_df160 2 = .ok (.getstatic 1053, 3) := by decide +kernel
theorem dJ0_checkIndex_df160_5 : decode cJ0_checkIndex_df160 5 = .ok (.invokestatic 1059, 3) := by decide +kernel
theorem dJ0_checkIndex_df160_8 : decode cJ0_checkIndex_df160 8 = .ok (.pop, 1) := by decide +kernel
theorem dJ0_checkIndex_df160_9 : decode cJ0_checkIndex_df160 9 = .ok (.return_, 1) := by decide +kernel
theorem dJ0_checkBoundsOffCount_cabcc_0 : decode cJ0_checkBoundsOffCount_cabcc 0 = .ok (.iload_n 0, 1) := by decide +kernel
theorem dJ0_checkBoundsOffCount_cabcc_1 : decode cJ0_checkBoundsOffCount_cabcc 1 = .ok (.iload_n 1, 1) := by decide +kernel
theorem dJ0_checkBoundsOffCount_cabcc_2 : decode cJ0_checkBoundsOffCount_cabcc 2 = .ok (.iload_n 2, 1) := by decide +kernel
theorem dJ0_checkBoundsOffCount_cabcc_3 : decode cJ0_checkBoundsOffCount_cabcc 3 = .ok (.getstatic 1053, 3) := by decide +kernel
theorem dJ0_checkBoundsOffCount_cabcc_6 : decode cJ0_checkBoundsOffCount_cabcc 6 = .ok (.invokestatic 1065, 3) := by decide +kernel
theorem dJ0_checkBoundsOffCount_cabcc_9 : decode cJ0_checkBoundsOffCount_cabcc 9 = .ok (.ireturn, 1) := by decide +kernel
theorem dJ0_checkBoundsBeginEnd_23922_0 : decode cJ0_checkBoundsBeginEnd_23922 0 = .ok (.iload_n 0, 1) := by decide +kernel
theorem dJ0_checkBoundsBeginEnd_23922_1 : decode cJ0_checkBoundsBeginEnd_23922 1 = .ok (.iload_n 1, 1) := by decide +kernel
theorem dJ0_checkBoundsBeginEnd_23922_2 : decode cJ0_checkBoundsBeginEnd_23922 2 = .ok (.iload_n 2, 1) := by decide +kernel
theorem dJ0_checkBoundsBeginEnd_23922_3 : decode cJ0_checkBoundsBeginEnd_23922 3 = .ok (.getstatic 1053, 3) := by decide +kernel
theorem dJ0_checkBoundsBeginEnd_23922_6 : decode cJ0_checkBoundsBeginEnd_23922 6 = .ok (.invokestatic 1062, 3) := by decide +kernel
theorem dJ0_checkBoundsBeginEnd_23922_9 : decode cJ0_checkBoundsBeginEnd_23922 9 = .ok (.pop, 1) := by decide +kernel
theorem dJ0_checkBoundsBeginEnd_23922_10 : decode cJ0_checkBoundsBeginEnd_23922 10 = .ok (.return_, 1) := by decide +kernel
theorem dJ4_init_da8c8_0 : decode cJ4_init_da8c8 0 = .ok (.aload_n 0, 1) := by decide +kernel
theorem dJ4_init_da8c8_1 : decode cJ4_init_da8c8 1 = .ok (.bipush 16, 2) := by decide +kernel
theorem dJ4_init_da8c8_3 : decode cJ4_init_da8c8 3 = .ok (.invokespecial 1, 3) := by decide +kernel
theorem dJ4_init_da8c8_6 : decode cJ4_init_da8c8 6 = .ok (.return_, 1) := by decide +kernel
theorem dJ4_append_15ec4_0 : decode cJ4_append_15ec4 0 = .ok (.aload_n 0, 1) := by decide +kernel
theorem dJ4_append_15ec4_1 : decode cJ4_append_15ec4 1 = .ok (.aload_n 1, 1) := by decide +kernel
theorem dJ4_append_15ec4_2 : decode cJ4_append_15ec4 2 = .ok (.invokespecial 29, 3) := by decide +kernel
theorem dJ4_append_15ec4_5 : decode cJ4_append_15ec4 5 = .ok (.pop, 1) := by decide +kernel
theorem dJ4_append_15ec4_6 : decode cJ4_append_15ec4 6 = .ok (.aload_n 0, 1) := by decide +kernel
theorem dJ4_append_15ec4_7 : decode cJ4_append_15ec4 7 = .ok (.areturn, 1) := by decide +kernel
theorem dJ4_append_bf812_0 : decode cJ4_append_bf812 0 = .ok (.aload_n 0, 1) := by decide +kernel
theorem dJ4_append_bf812_1 : decode cJ4_append_bf812 1 = .ok (.iload_n 1, 1) := by decide +kernel
theorem dJ4_append_bf812_2 : decode cJ4_append_bf812 2 = .ok (.invokespecial 53, 3) := by decide +kernel
theorem dJ4_append_bf812_5 : decode cJ4_append_bf812 5 = .ok (.pop, 1) := by decide +kernel
theorem dJ4_append_bf812_6 : decode cJ4_append_bf812 6 = .ok (.aload_n 0, 1) := by decide +kernel
theorem dJ4_append_bf812_7 : decode cJ4_append_bf812 7 = .ok (.areturn, 1) := by decide +kernel
theorem dJ4_toString_0e30d_0 : decode cJ4_toString_0e30d 0 = .ok (.new 18, 3) := by decide +kernel
theorem dJ4_toString_0e30d_3 : decode cJ4_toString_0e30d 3 = .ok (.dup, 1) := by decide +kernel
theorem dJ4_toString_0e30d_4 : decode cJ4_toString_0e30d 4 = .ok (.aload_n 0, 1) := by decide +kernel
theorem dJ4_toString_0e30d_5 : decode cJ4_toString_0e30d 5 = .ok (.invokespecial 137, 3) := by decide +kernel
theorem dJ4_toString_0e30d_8 : decode cJ4_toString_0e30d 8 = .ok (.areturn, 1) := by decide +kernel
theorem dJ4_length_8abf5_0 : decode cJ4_length_8abf5 0 = .ok (.aload_n 0, 1) := by decide +kernel
theorem dJ4_length_8abf5_1 : decode cJ4_length_8abf5 1 = .ok (.invokespecial 343, 3) := by decide +kernel
theorem dJ4_length_8abf5_4 : decode cJ4_length_8abf5 4 = .ok (.ireturn, 1) := by decide +kernel
theorem dJ1_charAt_3b067_0 : decode cJ1_charAt_3b067 0 = .ok (.iload_n 1, 1) := by decide +kernel
theorem dJ1_charAt_3b067_1 : decode cJ1_charAt_3b067 1 = .ok (.aload_n 0, 1) := by decide +kernel
theorem dJ1_charAt_3b067_2 : decode cJ1_charAt_3b067 2 = .ok (.arraylength, 1) := by decide +kernel
theorem dJ1_charAt_3b067_3 : decode cJ1_charAt_3b067 3 = .ok (.invokestatic 9, 3) := by decide +kernel
theorem dJ1_charAt_3b067_6 : decode cJ1_charAt_3b067 6 = .ok (.aload_n 0, 1) := by decide +kernel
theorem dJ1_charAt_3b067_7 : decode cJ1_charAt_3b067 7 = .ok (.iload_n 1, 1) := by decide +kernel
theorem dJ1_charAt_3b067_8 : decode cJ1_charAt_3b067 8 = .ok (.baload, 1) := by decide +kernel
theorem dJ1_charAt_3b067_9 : decode cJ1_charAt_3b067 9 = .ok (.sipush 255, 3) := by decide +kernel
theorem dJ1_charAt_3b067_12 : decode cJ1_charAt_3b067 12 = .ok (.iand, 1) := by decide +kernel
theorem dJ1_charAt_3b067_13 : decode cJ1_charAt_3b067 13 = .ok (.i2c, 1) := by decide +kernel
theorem dJ1_charAt_3b067_14 : decode cJ1_charAt_3b067 14 = .ok (.ireturn, 1) := by decide +kernel
theorem dJ7_checkLength_df160_0 : decode cJ7_checkLength_df160 0 = .ok (.iload_n 1, 1) := by decide +kernel
theorem dJ7_checkLength_df160_1 : decode cJ7_checkLength_df160 1 = .ok (.iload_n 0, 1) := by decide +kernel
theorem dJ7_checkLength_df160_2 : decode cJ7_checkLength_df160 2 = .ok (.if_icmp .ge 35, 3) := by decide +kernel
theorem dJ7_checkLength_df160_5 : decode cJ7_checkLength_df160 5 = .ok (.new 43, 3) := by decide +kernel
theorem dJ7_checkLength_df160_8 : decode cJ7_checkLength_df160 8 = .ok (.dup, 1) := by decide +kernel
theorem dJ7_checkLength_df160_9 : decode cJ7_checkLength_df160 9 = .ok (.new 45, 3) := by decide +kernel
theorem dJ7_checkLength_df160_12 : decode cJ7_checkLength_df160 12 = .ok (.dup, 1) := by decide +kernel
theorem dJ7_checkLength_df160_13 : decode cJ7_checkLength_df160 13 = .ok (.invokespecial 47, 3) := by decide +kernel
theorem dJ7_checkLength_df160_16 : decode cJ7_checkLength_df160 16 = .ok (.iload_n 0, 1) := by decide +kernel
theorem dJ7_checkLength_df160_17 : decode cJ7_checkLength_df160 17 = .ok (.invokevirtual 54, 3) := by decide +kernel
theorem dJ7_checkLength_df160_20 : decode cJ7_checkLength_df160 20 = .ok (.ldc_w 337, 3) := by decide +kernel
theorem dJ7_checkLength_df160_23 : decode cJ7_checkLength_df160 23 = .ok (.invokevirtual 50, 3) := by decide +kernel
theorem dJ7_checkLength_df160_26 : decode cJ7_checkLength_df160 26 = .ok (.iload_n 1, 1) := by decide +kernel
theorem dJ7_checkLength_df160_27 : decode cJ7_checkLength_df160 27 = .ok (.invokevirtual 54, 3) := by decide +kernel
theorem dJ7_checkLength_df160_30 : decode cJ7_checkLength_df160 30 = .ok (.invokevirtual 61, 3) := by decide +kernel
theorem dJ7_checkLength_df160_33 : decode cJ7_checkLength_df160 33 = .ok (.invokespecial 65, 3) := by decide +kernel
theorem dJ7_checkLength_df160_36 : decode cJ7_checkLength_df160 36 = .ok (.athrow, 1) := by decide +kernel
theorem dJ7_checkLength_df160_37 : decode cJ7_checkLength_df160 37 = .ok (.return_, 1) := by decide +kernel
theorem dJ7_copyOfRange_39247_0 : decode cJ7_copyOfRange_39247 0 = .ok (.iload_n 1, 1) := by decide +kernel
theorem dJ7_copyOfRange_39247_1 : decode cJ7_copyOfRange_39247 1 = .ok (.ifCond .ne 9, 3) := by decide +kernel
theorem dJ7_copyOfRange_39247_4 : decode cJ7_copyOfRange_39247 4 = .ok (.iload_n 2, 1) := by decide +kernel
theorem dJ7_copyOfRange_39247_5 : decode cJ7_copyOfRange_39247 5 = .ok (.aload_n 0, 1) := by decide +kernel
theorem dJ7_copyOfRange_39247_6 : decode cJ7_copyOfRange_39247 6 = .ok (.arraylength, 1) := by decide +kernel
theorem dJ7_copyOfRange_39247_7 : decode cJ7_copyOfRange_39247 7 = .ok (.if_icmp .eq 10, 3) := by decide +kernel
theorem dJ7_copyOfRange_39247_10 : decode cJ7_copyOfRange_39247 10 = .ok (.aload_n 0, 1) := by decide +kernel
theorem dJ7_copyOfRange_39247_11 : decode cJ7_copyOfRange_39247 11 = .ok (.iload_n 1, 1) := by decide +kernel
theorem dJ7_copyOfRange_39247_12 : decode cJ7_copyOfRange_39247 12 = .ok (.iload_n 2, 1) := by decide +kernel
theorem dJ7_copyOfRange_39247_13 : decode cJ7_copyOfRange_39247 13 = .ok (.invokestatic 339, 3) := by decide +kernel
theorem dJ7_copyOfRange_39247_16 : decode cJ7_copyOfRange_39247 16 = .ok (.areturn, 1) := by decide +kernel
theorem dJ7_copyOfRange_39247_17 : decode cJ7_copyOfRange_39247 17 = .ok (.aload_n 0, 1) := by decide +kernel
theorem dJ7_copyOfRange_39247_18 : decode cJ7_copyOfRange_39247 18 = .ok (.invokevirtual 310, 3) := by decide +kernel
theorem dJ7_copyOfRange_39247_21 : decode cJ7_copyOfRange_39247 21 = .ok (.checkcast 311, 3) := by decide +kernel
theorem dJ7_copyOfRange_39247_24 : decode cJ7_copyOfRange_39247 24 = .ok (.areturn, 1) := by decide +kernel
theorem dJ7_copyOfRangeByte_39247_0 : decode cJ7_copyOfRangeByte_39247 0 = .ok (.iload_n 1, 1) := by decide +kernel
theorem dJ7_copyOfRangeByte_39247_1 : decode cJ7_copyOfRangeByte_39247 1 = .ok (.iload_n 2, 1) := by decide +kernel
theorem dJ7_copyOfRangeByte_39247_2 : decode cJ7_copyOfRangeByte_39247 2 = .ok (.invokestatic 343, 3) := by decide +kernel
theorem dJ7_copyOfRangeByte_39247_5 : decode cJ7_copyOfRangeByte_39247 5 = .ok (.iload_n 2, 1) := by decide +kernel
theorem dJ7_copyOfRangeByte_39247_6 : decode cJ7_copyOfRangeByte_39247 6 = .ok (.iload_n 1, 1) := by decide +kernel
theorem dJ7_copyOfRangeByte_39247_7 : decode cJ7_copyOfRangeByte_39247 7 = .ok (.isub, 1) := by decide +kernel
theorem dJ7_copyOfRangeByte_39247_8 : decode cJ7_copyOfRangeByte_39247 8 = .ok (.istore_n 3, 1) := by decide +kernel
theorem dJ7_copyOfRangeByte_39247_9 : decode cJ7_copyOfRangeByte_39247 9 = .ok (.iload_n 3, 1) := by decide +kernel
theorem dJ7_copyOfRangeByte_39247_10 : decode cJ7_copyOfRangeByte_39247 10 = .ok (.newarray .byte, 2) := by decide +kernel
theorem dJ7_copyOfRangeByte_39247_12 : decode cJ7_copyOfRangeByte_39247 12 = .ok (.astore 4, 2) := by decide +kernel
theorem dJ7_copyOfRangeByte_39247_14 : decode cJ7_copyOfRangeByte_39247 14 = .ok (.aload_n 0, 1) := by decide +kernel
theorem dJ7_copyOfRangeByte_39247_15 : decode cJ7_copyOfRangeByte_39247 15 = .ok (.iload_n 1, 1) := by decide +kernel
theorem dJ7_copyOfRangeByte_39247_16 : decode cJ7_copyOfRangeByte_39247 16 = .ok (.aload 4, 2) := by decide +kernel
theorem dJ7_copyOfRangeByte_39247_18 : decode cJ7_copyOfRangeByte_39247 18 = .ok (.iconst 0, 1) := by decide +kernel
theorem dJ7_copyOfRangeByte_39247_19 : decode cJ7_copyOfRangeByte_39247 19 = .ok (.aload_n 0, 1) := by decide +kernel
theorem dJ7_copyOfRangeByte_39247_20 : decode cJ7_copyOfRangeByte_39247 20 = .ok (.arraylength, 1) := by decide +kernel
theorem dJ7_copyOfRangeByte_39247_21 : decode cJ7_copyOfRangeByte_39247 21 = .ok (.iload_n 1, 1) := by decide +kernel
theorem dJ7_copyOfRangeByte_39247_22 : decode cJ7_copyOfRangeByte_39247 22 = .ok (.isub, 1) := by decide +kernel
theorem dJ7_copyOfRangeByte_39247_23 : decode cJ7_copyOfRangeByte_39247 23 = .ok (.iload_n 3, 1) := by decide +kernel
theorem dJ7_copyOfRangeByte_39247_24 : decode cJ7_copyOfRangeByte_39247 24 = .ok (.invokestatic 304, 3) := by decide +kernel
theorem dJ7_copyOfRangeByte_39247_27 : decode cJ7_copyOfRangeByte_39247 27 = .ok (.invokestatic 150, 3) := by decide +kernel
theorem dJ7_copyOfRangeByte_39247_30 : decode cJ7_copyOfRangeByte_39247 30 = .ok (.aload 4, 2) := by decide +kernel
theorem dJ7_copyOfRangeByte_39247_32 : decode cJ7_copyOfRangeByte_39247 32 = .ok (.areturn, 1) := by decide +kernel
theorem dJ3_checkIndex_8e157_0 : decode cJ3_checkIndex_8e157 0 = .ok (.iload_n 0, 1) := by decide +kernel
theorem dJ3_checkIndex_8e157_1 : decode cJ3_checkIndex_8e157 1 = .ok (.ifCond .lt 8, 3) := by decide +kernel
theorem dJ3_checkIndex_8e157_4 : decode cJ3_checkIndex_8e157 4 = .ok (.iload_n 0, 1) := by decide +kernel
theorem dJ3_checkIndex_8e157_5 : decode cJ3_checkIndex_8e157 5 = .ok (.iload_n 1, 1) := by decide +kernel
theorem dJ3_checkIndex_8e157_6 : decode cJ3_checkIndex_8e157 6 = .ok (.if_icmp .lt 10, 3) := by decide +kernel
theorem dJ3_checkIndex_8e157_9 : decode cJ3_checkIndex_8e157 9 = .ok (.aload_n 2, 1) := by decide +kernel
theorem dJ3_checkIndex_8e157_10 : decode cJ3_checkIndex_8e157 10 = .ok (.iload_n 0, 1) := by decide +kernel
theorem dJ3_checkIndex_8e157_11 : decode cJ3_checkIndex_8e157 11 = .ok (.iload_n 1, 1) := by decide +kernel
theorem dJ3_checkIndex_8e157_12 : decode cJ3_checkIndex_8e157 12 = .ok (.invokestatic 95, 3) := by decide +kernel
theorem dJ3_checkIndex_8e157_15 : decode cJ3_checkIndex_8e157 15 = .ok (.athrow, 1) := by decide +kernel
theorem dJ3_checkIndex_8e157_16 : decode cJ3_checkIndex_8e157 16 = .ok (.iload_n 0, 1) := by decide +kernel
theorem dJ3_checkIndex_8e157_17 : decode cJ3_checkIndex_8e157 17 = .ok (.ireturn, 1) := by decide +kernel
end
section
theorem dL_cell_0 : decode cL_cell 0 = .ok (.iload_n 1, 1) := by decide +kernel
theorem dL_cell_1 : decode cL_cell 1 = .ok (.aload_n 0, 1) := by decide +kernel
theorem dL_cell_2 : decode cL_cell 2 = .ok (.arraylength, 1) := by decide +kernel
theorem dL_cell_3 : decode cL_cell 3 = .ok (.if_icmp .ge 9, 3) := by decide +kernel
theorem dL_cell_6 : decode cL_cell 6 = .ok (.aload_n 0, 1) := by decide +kernel
theorem dL_cell_7 : decode cL_cell 7 = .ok (.iload_n 1, 1) := by decide +kernel
theorem dL_cell_8 : decode cL_cell 8 = .ok (.iaload, 1) := by decide +kernel
theorem dL_cell_9 : decode cL_cell 9 = .ok (.goto 7, 3) := by decide +kernel
theorem dL_cell_12 : decode cL_cell 12 = .ok (.ldc 7, 2) := by decide +kernel
theorem dL_cell_14 : decode cL_cell 14 = .ok (.iload_n 1, 1) := by decide +kernel
theorem dL_cell_15 : decode cL_cell 15 = .ok (.imul, 1) := by decide +kernel
theorem dL_cell_16 : decode cL_cell 16 = .ok (.ireturn, 1) := by decide +kernel
theorem dL_set_0 : decode cL_set 0 = .ok (.aload_n 0, 1) := by decide +kernel
theorem dL_set_1 : decode cL_set 1 = .ok (.iload_n 1, 1) := by decide +kernel
theorem dL_set_2 : decode cL_set 2 = .ok (.iload_n 2, 1) := by decide +kernel
theorem dL_set_3 : decode cL_set 3 = .ok (.invokevirtual 8, 3) := by decide +kernel
theorem dL_set_6 : decode cL_set 6 = .ok (.ireturn, 1) := by decide +kernel
theorem dL_set_7 : decode cL_set 7 = .ok (.astore_n 3, 1) := by decide +kernel
theorem dL_set_8 : decode cL_set 8 = .ok (.bipush (-101), 2) := by decide +kernel
theorem dL_set_10 : decode cL_set 10 = .ok (.ireturn, 1) := by decide +kernel
theorem dL_drill_0 : decode cL_drill 0 = .ok (.aload_n 0, 1) := by decide +kernel
theorem dL_drill_1 : decode cL_drill 1 = .ok (.iload_n 1, 1) := by decide +kernel
theorem dL_drill_2 : decode cL_drill 2 = .ok (.invokevirtual 16, 3) := by decide +kernel
theorem dL_drill_5 : decode cL_drill 5 = .ok (.ireturn, 1) := by decide +kernel
theorem dL_drill_6 : decode cL_drill 6 = .ok (.astore_n 2, 1) := by decide +kernel
theorem dL_drill_7 : decode cL_drill 7 = .ok (.iconst (-1), 1) := by decide +kernel
theorem dL_drill_8 : decode cL_drill 8 = .ok (.ireturn, 1) := by decide +kernel
theorem dL_drilled_0 : decode cL_drilled 0 = .ok (.aload_n 0, 1) := by decide +kernel
theorem dL_drilled_1 : decode cL_drilled 1 = .ok (.iload_n 1, 1) := by decide +kernel
theorem dL_drilled_2 : decode cL_drilled 2 = .ok (.invokevirtual 22, 3) := by decide +kernel
theorem dL_drilled_5 : decode cL_drilled 5 = .ok (.ireturn, 1) := by decide +kernel
theorem dL_drilled_6 : decode cL_drilled 6 = .ok (.astore_n 2, 1) := by decide +kernel
theorem dL_drilled_7 : decode cL_drilled 7 = .ok (.bipush (-11), 2) := by decide +kernel
theorem dL_drilled_9 : decode cL_drilled 9 = .ok (.ireturn, 1) := by decide +kernel
theorem dL_drilled_10 : decode cL_drilled 10 = .ok (.astore_n 2, 1) := by decide +kernel
theorem dL_drilled_11 : decode cL_drilled 11 = .ok (.bipush (-13), 2) := by decide +kernel
theorem dL_drilled_13 : decode cL_drilled 13 = .ok (.ireturn, 1) := by decide +kernel
theorem dL_mileOf_0 : decode cL_mileOf 0 = .ok (.aload_n 0, 1) := by decide +kernel
theorem dL_mileOf_1 : decode cL_mileOf 1 = .ok (.iload_n 1, 1) := by decide +kernel
theorem dL_mileOf_2 : decode cL_mileOf 2 = .ok (.iload_n 2, 1) := by decide +kernel
theorem dL_mileOf_3 : decode cL_mileOf 3 = .ok (.invokevirtual 27, 3) := by decide +kernel
theorem dL_mileOf_6 : decode cL_mileOf 6 = .ok (.ireturn, 1) := by decide +kernel
theorem dL_mileOf_7 : decode cL_mileOf 7 = .ok (.astore_n 3, 1) := by decide +kernel
theorem dL_mileOf_8 : decode cL_mileOf 8 = .ok (.bipush (-11), 2) := by decide +kernel
theorem dL_mileOf_10 : decode cL_mileOf 10 = .ok (.ireturn, 1) := by decide +kernel
theorem dL_mileOf_11 : decode cL_mileOf 11 = .ok (.astore_n 3, 1) := by decide +kernel
theorem dL_mileOf_12 : decode cL_mileOf 12 = .ok (.bipush (-12), 2) := by decide +kernel
theorem dL_mileOf_14 : decode cL_mileOf 14 = .ok (.ireturn, 1) := by decide +kernel
theorem dL_truck_0 : decode cL_truck 0 = .ok (.aload_n 0, 1) := by decide +kernel
theorem dL_truck_1 : decode cL_truck 1 = .ok (.iload_n 1, 1) := by decide +kernel
theorem dL_truck_2 : decode cL_truck 2 = .ok (.iload_n 2, 1) := by decide +kernel
theorem dL_truck_3 : decode cL_truck 3 = .ok (.iload_n 3, 1) := by decide +kernel
theorem dL_truck_4 : decode cL_truck 4 = .ok (.iload 4, 2) := by decide +kernel
theorem dL_truck_6 : decode cL_truck 6 = .ok (.invokevirtual 30, 3) := by decide +kernel
theorem dL_truck_9 : decode cL_truck 9 = .ok (.ireturn, 1) := by decide +kernel
theorem dL_truck_10 : decode cL_truck 10 = .ok (.astore 5, 2) := by decide +kernel
theorem dL_truck_12 : decode cL_truck 12 = .ok (.iconst (-1), 1) := by decide +kernel
theorem dL_truck_13 : decode cL_truck 13 = .ok (.ireturn, 1) := by decide +kernel
theorem dL_truck_14 : decode cL_truck 14 = .ok (.astore 5, 2) := by decide +kernel
theorem dL_truck_16 : decode cL_truck 16 = .ok (.bipush (-2), 2) := by decide +kernel
theorem dL_truck_18 : decode cL_truck 18 = .ok (.ireturn, 1) := by decide +kernel
theorem dL_truck_19 : decode cL_truck 19 = .ok (.astore 5, 2) := by decide +kernel
theorem dL_truck_21 : decode cL_truck 21 = .ok (.bipush (-3), 2) := by decide +kernel
theorem dL_truck_23 : decode cL_truck 23 = .ok (.ireturn, 1) := by decide +kernel
theorem dL_inRow_0 : decode cL_inRow 0 = .ok (.aload_n 0, 1) := by decide +kernel
theorem dL_inRow_1 : decode cL_inRow 1 = .ok (.iload_n 1, 1) := by decide +kernel
theorem dL_inRow_2 : decode cL_inRow 2 = .ok (.iload_n 2, 1) := by decide +kernel
theorem dL_inRow_3 : decode cL_inRow 3 = .ok (.iload_n 3, 1) := by decide +kernel
theorem dL_inRow_4 : decode cL_inRow 4 = .ok (.invokevirtual 36, 3) := by decide +kernel
theorem dL_inRow_7 : decode cL_inRow 7 = .ok (.ireturn, 1) := by decide +kernel
theorem dL_inRow_8 : decode cL_inRow 8 = .ok (.astore 4, 2) := by decide +kernel
theorem dL_inRow_10 : decode cL_inRow 10 = .ok (.bipush (-11), 2) := by decide +kernel
theorem dL_inRow_12 : decode cL_inRow 12 = .ok (.ireturn, 1) := by decide +kernel
theorem dL_inRow_13 : decode cL_inRow 13 = .ok (.astore 4, 2) := by decide +kernel
theorem dL_inRow_15 : decode cL_inRow 15 = .ok (.bipush (-13), 2) := by decide +kernel
theorem dL_inRow_17 : decode cL_inRow 17 = .ok (.ireturn, 1) := by decide +kernel
theorem dL_inRow_18 : decode cL_inRow 18 = .ok (.astore 4, 2) := by decide +kernel
theorem dL_inRow_20 : decode cL_inRow 20 = .ok (.bipush (-12), 2) := by decide +kernel
theorem dL_inRow_22 : decode cL_inRow 22 = .ok (.ireturn, 1) := by decide +kernel
theorem dL_convoy_0 : decode cL_convoy 0 = .ok (.aload_n 0, 1) := by decide +kernel
theorem dL_convoy_1 : decode cL_convoy 1 = .ok (.iload_n 1, 1) := by decide +kernel
theorem dL_convoy_2 : decode cL_convoy 2 = .ok (.invokevirtual 40, 3) := by decide +kernel
theorem dL_convoy_5 : decode cL_convoy 5 = .ok (.ireturn, 1) := by decide +kernel
theorem dL_convoy_6 : decode cL_convoy 6 = .ok (.astore_n 2, 1) := by decide +kernel
theorem dL_convoy_7 : decode cL_convoy 7 = .ok (.iconst (-1), 1) := by decide +kernel
theorem dL_convoy_8 : decode cL_convoy 8 = .ok (.ireturn, 1) := by decide +kernel
theorem dL_convoy_9 : decode cL_convoy 9 = .ok (.astore_n 2, 1) := by decide +kernel
theorem dL_convoy_10 : decode cL_convoy 10 = .ok (.bipush (-2), 2) := by decide +kernel
theorem dL_convoy_12 : decode cL_convoy 12 = .ok (.ireturn, 1) := by decide +kernel
theorem dL_join_0 : decode cL_join 0 = .ok (.aload_n 0, 1) := by decide +kernel
theorem dL_join_1 : decode cL_join 1 = .ok (.iload_n 1, 1) := by decide +kernel
theorem dL_join_2 : decode cL_join 2 = .ok (.iload_n 2, 1) := by decide +kernel
theorem dL_join_3 : decode cL_join 3 = .ok (.iload_n 3, 1) := by decide +kernel
theorem dL_join_4 : decode cL_join 4 = .ok (.invokevirtual 43, 3) := by decide +kernel
theorem dL_join_7 : decode cL_join 7 = .ok (.ireturn, 1) := by decide +kernel
theorem dL_join_8 : decode cL_join 8 = .ok (.astore 4, 2) := by decide +kernel
theorem dL_join_10 : decode cL_join 10 = .ok (.iconst (-1), 1) := by decide +kernel
theorem dL_join_11 : decode cL_join 11 = .ok (.ireturn, 1) := by decide +kernel
theorem dL_join_12 : decode cL_join 12 = .ok (.astore 4, 2) := by decide +kernel
theorem dL_join_14 : decode cL_join 14 = .ok (.bipush (-2), 2) := by decide +kernel
theorem dL_join_16 : decode cL_join 16 = .ok (.ireturn, 1) := by decide +kernel
theorem dL_join_17 : decode cL_join 17 = .ok (.astore 4, 2) := by decide +kernel
theorem dL_join_19 : decode cL_join 19 = .ok (.bipush (-3), 2) := by decide +kernel
theorem dL_join_21 : decode cL_join 21 = .ok (.ireturn, 1) := by decide +kernel
theorem dL_start_0 : decode cL_start 0 = .ok (.aload_n 0, 1) := by decide +kernel
theorem dL_start_1 : decode cL_start 1 = .ok (.iload_n 1, 1) := by decide +kernel
theorem dL_start_2 : decode cL_start 2 = .ok (.invokevirtual 46, 3) := by decide +kernel
theorem dL_start_5 : decode cL_start 5 = .ok (.ireturn, 1) := by decide +kernel
theorem dL_start_6 : decode cL_start 6 = .ok (.astore_n 2, 1) := by decide +kernel
theorem dL_start_7 : decode cL_start 7 = .ok (.iconst (-1), 1) := by decide +kernel
theorem dL_start_8 : decode cL_start 8 = .ok (.ireturn, 1) := by decide +kernel
theorem dL_start_9 : decode cL_start 9 = .ok (.astore_n 2, 1) := by decide +kernel
theorem dL_start_10 : decode cL_start 10 = .ok (.bipush (-2), 2) := by decide +kernel
theorem dL_start_12 : decode cL_start 12 = .ok (.ireturn, 1) := by decide +kernel
theorem dL_roll_0 : decode cL_roll 0 = .ok (.aload_n 0, 1) := by decide +kernel
theorem dL_roll_1 : decode cL_roll 1 = .ok (.iload_n 1, 1) := by decide +kernel
theorem dL_roll_2 : decode cL_roll 2 = .ok (.invokevirtual 49, 3) := by decide +kernel
theorem dL_roll_5 : decode cL_roll 5 = .ok (.ireturn, 1) := by decide +kernel
theorem dL_roll_6 : decode cL_roll 6 = .ok (.astore_n 2, 1) := by decide +kernel
theorem dL_roll_7 : decode cL_roll 7 = .ok (.iconst (-1), 1) := by decide +kernel
theorem dL_roll_8 : decode cL_roll 8 = .ok (.ireturn, 1) := by decide +kernel
theorem dL_roll_9 : decode cL_roll 9 = .ok (.astore_n 2, 1) := by decide +kernel
theorem dL_roll_10 : decode cL_roll 10 = .ok (.bipush (-2), 2) := by decide +kernel
theorem dL_roll_12 : decode cL_roll 12 = .ok (.ireturn, 1) := by decide +kernel
theorem dL_why_0 : decode cL_why 0 = .ok (.aload_n 0, 1) := by decide +kernel
theorem dL_why_1 : decode cL_why 1 = .ok (.iload_n 1, 1) := by decide +kernel
theorem dL_why_2 : decode cL_why 2 = .ok (.iload_n 2, 1) := by decide +kernel
theorem dL_why_3 : decode cL_why 3 = .ok (.invokevirtual 52, 3) := by decide +kernel
theorem dL_why_6 : decode cL_why 6 = .ok (.ireturn, 1) := by decide +kernel
theorem dL_why_7 : decode cL_why 7 = .ok (.astore_n 3, 1) := by decide +kernel
theorem dL_why_8 : decode cL_why 8 = .ok (.bipush (-11), 2) := by decide +kernel
theorem dL_why_10 : decode cL_why 10 = .ok (.ireturn, 1) := by decide +kernel
theorem dL_convoyOf_0 : decode cL_convoyOf 0 = .ok (.aload_n 0, 1) := by decide +kernel
theorem dL_convoyOf_1 : decode cL_convoyOf 1 = .ok (.iload_n 1, 1) := by decide +kernel
theorem dL_convoyOf_2 : decode cL_convoyOf 2 = .ok (.iload_n 2, 1) := by decide +kernel
theorem dL_convoyOf_3 : decode cL_convoyOf 3 = .ok (.invokevirtual 56, 3) := by decide +kernel
theorem dL_convoyOf_6 : decode cL_convoyOf 6 = .ok (.ireturn, 1) := by decide +kernel
theorem dL_convoyOf_7 : decode cL_convoyOf 7 = .ok (.astore_n 3, 1) := by decide +kernel
theorem dL_convoyOf_8 : decode cL_convoyOf 8 = .ok (.bipush (-11), 2) := by decide +kernel
theorem dL_convoyOf_10 : decode cL_convoyOf 10 = .ok (.ireturn, 1) := by decide +kernel
theorem dL_convoyOf_11 : decode cL_convoyOf 11 = .ok (.astore_n 3, 1) := by decide +kernel
theorem dL_convoyOf_12 : decode cL_convoyOf 12 = .ok (.bipush (-12), 2) := by decide +kernel
theorem dL_convoyOf_14 : decode cL_convoyOf 14 = .ok (.ireturn, 1) := by decide +kernel
theorem dL_truckOf_0 : decode cL_truckOf 0 = .ok (.aload_n 0, 1) := by decide +kernel
theorem dL_truckOf_1 : decode cL_truckOf 1 = .ok (.iload_n 1, 1) := by decide +kernel
theorem dL_truckOf_2 : decode cL_truckOf 2 = .ok (.iload_n 2, 1) := by decide +kernel
theorem dL_truckOf_3 : decode cL_truckOf 3 = .ok (.iload_n 3, 1) := by decide +kernel
theorem dL_truckOf_4 : decode cL_truckOf 4 = .ok (.invokevirtual 59, 3) := by decide +kernel
theorem dL_truckOf_7 : decode cL_truckOf 7 = .ok (.ireturn, 1) := by decide +kernel
theorem dL_truckOf_8 : decode cL_truckOf 8 = .ok (.astore 4, 2) := by decide +kernel
theorem dL_truckOf_10 : decode cL_truckOf 10 = .ok (.bipush (-111), 2) := by decide +kernel
theorem dL_truckOf_12 : decode cL_truckOf 12 = .ok (.ireturn, 1) := by decide +kernel
theorem dL_truckOf_13 : decode cL_truckOf 13 = .ok (.astore 4, 2) := by decide +kernel
theorem dL_truckOf_15 : decode cL_truckOf 15 = .ok (.bipush (-112), 2) := by decide +kernel
theorem dL_truckOf_17 : decode cL_truckOf 17 = .ok (.ireturn, 1) := by decide +kernel
theorem dL_at_0 : decode cL_at 0 = .ok (.aload_n 0, 1) := by decide +kernel
theorem dL_at_1 : decode cL_at 1 = .ok (.iload_n 1, 1) := by decide +kernel
theorem dL_at_2 : decode cL_at 2 = .ok (.invokevirtual 62, 3) := by decide +kernel
theorem dL_at_5 : decode cL_at 5 = .ok (.ireturn, 1) := by decide +kernel
theorem dL_at_6 : decode cL_at 6 = .ok (.astore_n 2, 1) := by decide +kernel
theorem dL_at_7 : decode cL_at 7 = .ok (.bipush (-11), 2) := by decide +kernel
theorem dL_at_9 : decode cL_at 9 = .ok (.ireturn, 1) := by decide +kernel
theorem dL_at_10 : decode cL_at 10 = .ok (.astore_n 2, 1) := by decide +kernel
theorem dL_at_11 : decode cL_at 11 = .ok (.bipush (-13), 2) := by decide +kernel
theorem dL_at_13 : decode cL_at 13 = .ok (.ireturn, 1) := by decide +kernel
theorem dL_rolls_0 : decode cL_rolls 0 = .ok (.iload_n 2, 1) := by decide +kernel
theorem dL_rolls_1 : decode cL_rolls 1 = .ok (.ifCond .eq 11, 3) := by decide +kernel
theorem dL_rolls_4 : decode cL_rolls 4 = .ok (.aload_n 0, 1) := by decide +kernel
theorem dL_rolls_5 : decode cL_rolls 5 = .ok (.iload_n 1, 1) := by decide +kernel
theorem dL_rolls_6 : decode cL_rolls 6 = .ok (.invokevirtual 65, 3) := by decide +kernel
theorem dL_rolls_9 : decode cL_rolls 9 = .ok (.goto 8, 3) := by decide +kernel
theorem dL_rolls_12 : decode cL_rolls 12 = .ok (.aload_n 0, 1) := by decide +kernel
theorem dL_rolls_13 : decode cL_rolls 13 = .ok (.iload_n 1, 1) := by decide +kernel
theorem dL_rolls_14 : decode cL_rolls 14 = .ok (.invokevirtual 68, 3) := by decide +kernel
theorem dL_rolls_17 : decode cL_rolls 17 = .ok (.ireturn, 1) := by decide +kernel
theorem dL_rolls_18 : decode cL_rolls 18 = .ok (.astore_n 3, 1) := by decide +kernel
theorem dL_rolls_19 : decode cL_rolls 19 = .ok (.bipush (-11), 2) := by decide +kernel
theorem dL_rolls_21 : decode cL_rolls 21 = .ok (.ireturn, 1) := by decide +kernel
theorem dL_iceIn_0 : decode cL_iceIn 0 = .ok (.aload_n 0, 1) := by decide +kernel
theorem dL_iceIn_1 : decode cL_iceIn 1 = .ok (.iload_n 1, 1) := by decide +kernel
theorem dL_iceIn_2 : decode cL_iceIn 2 = .ok (.iload_n 2, 1) := by decide +kernel
theorem dL_iceIn_3 : decode cL_iceIn 3 = .ok (.invokevirtual 71, 3) := by decide +kernel
theorem dL_iceIn_6 : decode cL_iceIn 6 = .ok (.ireturn, 1) := by decide +kernel
theorem dL_iceIn_7 : decode cL_iceIn 7 = .ok (.astore_n 3, 1) := by decide +kernel
theorem dL_iceIn_8 : decode cL_iceIn 8 = .ok (.bipush (-11), 2) := by decide +kernel
theorem dL_iceIn_10 : decode cL_iceIn 10 = .ok (.ireturn, 1) := by decide +kernel
theorem dL_iceIn_11 : decode cL_iceIn 11 = .ok (.astore_n 3, 1) := by decide +kernel
theorem dL_iceIn_12 : decode cL_iceIn 12 = .ok (.bipush (-12), 2) := by decide +kernel
theorem dL_iceIn_14 : decode cL_iceIn 14 = .ok (.ireturn, 1) := by decide +kernel
theorem dL_bearsIn_0 : decode cL_bearsIn 0 = .ok (.aload_n 0, 1) := by decide +kernel
theorem dL_bearsIn_1 : decode cL_bearsIn 1 = .ok (.iload_n 1, 1) := by decide +kernel
theorem dL_bearsIn_2 : decode cL_bearsIn 2 = .ok (.iload_n 2, 1) := by decide +kernel
theorem dL_bearsIn_3 : decode cL_bearsIn 3 = .ok (.invokevirtual 74, 3) := by decide +kernel
theorem dL_bearsIn_6 : decode cL_bearsIn 6 = .ok (.ireturn, 1) := by decide +kernel
theorem dL_bearsIn_7 : decode cL_bearsIn 7 = .ok (.astore_n 3, 1) := by decide +kernel
theorem dL_bearsIn_8 : decode cL_bearsIn 8 = .ok (.bipush (-11), 2) := by decide +kernel
theorem dL_bearsIn_10 : decode cL_bearsIn 10 = .ok (.ireturn, 1) := by decide +kernel
theorem dL_bearsIn_11 : decode cL_bearsIn 11 = .ok (.astore_n 3, 1) := by decide +kernel
theorem dL_bearsIn_12 : decode cL_bearsIn 12 = .ok (.bipush (-12), 2) := by decide +kernel
theorem dL_bearsIn_14 : decode cL_bearsIn 14 = .ok (.ireturn, 1) := by decide +kernel
theorem dL_bearsIn_15 : decode cL_bearsIn 15 = .ok (.astore_n 3, 1) := by decide +kernel
theorem dL_bearsIn_16 : decode cL_bearsIn 16 = .ok (.bipush (-13), 2) := by decide +kernel
theorem dL_bearsIn_18 : decode cL_bearsIn 18 = .ok (.ireturn, 1) := by decide +kernel
theorem dL_pass_0 : decode cL_pass 0 = .ok (.aload_n 0, 1) := by decide +kernel
theorem dL_pass_1 : decode cL_pass 1 = .ok (.iload_n 1, 1) := by decide +kernel
theorem dL_pass_2 : decode cL_pass 2 = .ok (.invokevirtual 77, 3) := by decide +kernel
theorem dL_pass_5 : decode cL_pass 5 = .ok (.ireturn, 1) := by decide +kernel
theorem dL_pass_6 : decode cL_pass 6 = .ok (.astore_n 2, 1) := by decide +kernel
theorem dL_pass_7 : decode cL_pass 7 = .ok (.iconst (-1), 1) := by decide +kernel
theorem dL_pass_8 : decode cL_pass 8 = .ok (.ireturn, 1) := by decide +kernel
theorem dL_refusal_0 : decode cL_refusal 0 = .ok (.aload_n 0, 1) := by decide +kernel
theorem dL_refusal_1 : decode cL_refusal 1 = .ok (.iload_n 1, 1) := by decide +kernel
theorem dL_refusal_2 : decode cL_refusal 2 = .ok (.invokevirtual 80, 3) := by decide +kernel
theorem dL_refusal_5 : decode cL_refusal 5 = .ok (.ireturn, 1) := by decide +kernel
theorem dL_refusal_6 : decode cL_refusal 6 = .ok (.astore_n 2, 1) := by decide +kernel
theorem dL_refusal_7 : decode cL_refusal 7 = .ok (.bipush (-101), 2) := by decide +kernel
theorem dL_refusal_9 : decode cL_refusal 9 = .ok (.ireturn, 1) := by decide +kernel
theorem dL_append_0 : decode cL_append 0 = .ok (.aload_n 0, 1) := by decide +kernel
theorem dL_append_1 : decode cL_append 1 = .ok (.iload_n 1, 1) := by decide +kernel
theorem dL_append_2 : decode cL_append 2 = .ok (.invokevirtual 84, 3) := by decide +kernel
theorem dL_append_5 : decode cL_append 5 = .ok (.ireturn, 1) := by decide +kernel
theorem dL_append_6 : decode cL_append 6 = .ok (.astore_n 2, 1) := by decide +kernel
theorem dL_append_7 : decode cL_append 7 = .ok (.iconst (-1), 1) := by decide +kernel
theorem dL_append_8 : decode cL_append 8 = .ok (.ireturn, 1) := by decide +kernel
theorem dL_does_0 : decode cL_does 0 = .ok (.aload_n 0, 1) := by decide +kernel
theorem dL_does_1 : decode cL_does 1 = .ok (.invokevirtual 90, 3) := by decide +kernel
theorem dL_does_4 : decode cL_does 4 = .ok (.ireturn, 1) := by decide +kernel
theorem dL_does_5 : decode cL_does 5 = .ok (.astore_n 1, 1) := by decide +kernel
theorem dL_does_6 : decode cL_does 6 = .ok (.iconst (-1), 1) := by decide +kernel
theorem dL_does_7 : decode cL_does 7 = .ok (.ireturn, 1) := by decide +kernel
theorem dL_does_8 : decode cL_does 8 = .ok (.astore_n 1, 1) := by decide +kernel
theorem dL_does_9 : decode cL_does 9 = .ok (.bipush (-2), 2) := by decide +kernel
theorem dL_does_11 : decode cL_does 11 = .ok (.ireturn, 1) := by decide +kernel
theorem dL_read_0 : decode cL_read 0 = .ok (.iconst 0, 1) := by decide +kernel
theorem dL_read_1 : decode cL_read 1 = .ok (.istore_n 2, 1) := by decide +kernel
theorem dL_read_2 : decode cL_read 2 = .ok (.iload_n 2, 1) := by decide +kernel
theorem dL_read_3 : decode cL_read 3 = .ok (.aload_n 1, 1) := by decide +kernel
theorem dL_read_4 : decode cL_read 4 = .ok (.invokevirtual 94, 3) := by decide +kernel
theorem dL_read_7 : decode cL_read 7 = .ok (.if_icmp .ge 27, 3) := by decide +kernel
theorem dL_read_10 : decode cL_read 10 = .ok (.aload_n 0, 1) := by decide +kernel
theorem dL_read_11 : decode cL_read 11 = .ok (.aload_n 1, 1) := by decide +kernel
theorem dL_read_12 : decode cL_read 12 = .ok (.iload_n 2, 1) := by decide +kernel
theorem dL_read_13 : decode cL_read 13 = .ok (.invokevirtual 99, 3) := by decide +kernel
theorem dL_read_16 : decode cL_read 16 = .ok (.invokestatic 103, 3) := by decide +kernel
theorem dL_read_19 : decode cL_read 19 = .ok (.iload_n 2, 1) := by decide +kernel
theorem dL_read_20 : decode cL_read 20 = .ok (.iconst 1, 1) := by decide +kernel
theorem dL_read_21 : decode cL_read 21 = .ok (.iadd, 1) := by decide +kernel
theorem dL_read_22 : decode cL_read 22 = .ok (.if_icmp .eq 6, 3) := by decide +kernel
theorem dL_read_25 : decode cL_read 25 = .ok (.bipush (-9), 2) := by decide +kernel
theorem dL_read_27 : decode cL_read 27 = .ok (.ireturn, 1) := by decide +kernel
theorem dL_read_28 : decode cL_read 28 = .ok (.iinc 2 1, 3) := by decide +kernel
theorem dL_read_31 : decode cL_read 31 = .ok (.goto (-29), 3) := by decide +kernel
theorem dL_read_34 : decode cL_read 34 = .ok (.aload_n 0, 1) := by decide +kernel
theorem dL_read_35 : decode cL_read 35 = .ok (.invokestatic 108, 3) := by decide +kernel
theorem dL_read_38 : decode cL_read 38 = .ok (.ireturn, 1) := by decide +kernel
theorem dL_undo_0 : decode cL_undo 0 = .ok (.aload_n 0, 1) := by decide +kernel
theorem dL_undo_1 : decode cL_undo 1 = .ok (.invokevirtual 112, 3) := by decide +kernel
theorem dL_undo_4 : decode cL_undo 4 = .ok (.ireturn, 1) := by decide +kernel
theorem dL_undo_5 : decode cL_undo 5 = .ok (.astore_n 1, 1) := by decide +kernel
theorem dL_undo_6 : decode cL_undo 6 = .ok (.iconst (-1), 1) := by decide +kernel
theorem dL_undo_7 : decode cL_undo 7 = .ok (.ireturn, 1) := by decide +kernel
theorem dL_bears_0 : decode cL_bears 0 = .ok (.aload_n 0, 1) := by decide +kernel
theorem dL_bears_1 : decode cL_bears 1 = .ok (.iload_n 1, 1) := by decide +kernel
theorem dL_bears_2 : decode cL_bears 2 = .ok (.invokevirtual 115, 3) := by decide +kernel
theorem dL_bears_5 : decode cL_bears 5 = .ok (.invokestatic 118, 3) := by decide +kernel
theorem dL_bears_8 : decode cL_bears 8 = .ok (.freturn, 1) := by decide +kernel
theorem dL_drawn_0 : decode cL_drawn 0 = .ok (.new 9, 3) := by decide +kernel
theorem dL_drawn_3 : decode cL_drawn 3 = .ok (.dup, 1) := by decide +kernel
theorem dL_drawn_4 : decode cL_drawn 4 = .ok (.invokespecial 124, 3) := by decide +kernel
theorem dL_drawn_7 : decode cL_drawn 7 = .ok (.astore_n 1, 1) := by decide +kernel
theorem dL_drawn_8 : decode cL_drawn 8 = .ok (.aload_n 0, 1) := by decide +kernel
theorem dL_drawn_9 : decode cL_drawn 9 = .ok (.iconst 0, 1) := by decide +kernel
theorem dL_drawn_10 : decode cL_drawn 10 = .ok (.invokestatic 125, 3) := by decide +kernel
theorem dL_drawn_13 : decode cL_drawn 13 = .ok (.iconst 1, 1) := by decide +kernel
theorem dL_drawn_14 : decode cL_drawn 14 = .ok (.iushr, 1) := by decide +kernel
theorem dL_drawn_15 : decode cL_drawn 15 = .ok (.istore_n 2, 1) := by decide +kernel
theorem dL_drawn_16 : decode cL_drawn 16 = .ok (.aload_n 1, 1) := by decide +kernel
theorem dL_drawn_17 : decode cL_drawn 17 = .ok (.iconst 0, 1) := by decide +kernel
theorem dL_drawn_18 : decode cL_drawn 18 = .ok (.iload_n 2, 1) := by decide +kernel
theorem dL_drawn_19 : decode cL_drawn 19 = .ok (.bipush 41, 2) := by decide +kernel
theorem dL_drawn_21 : decode cL_drawn 21 = .ok (.irem, 1) := by decide +kernel
theorem dL_drawn_22 : decode cL_drawn 22 = .ok (.ineg, 1) := by decide +kernel
theorem dL_drawn_23 : decode cL_drawn 23 = .ok (.invokestatic 129, 3) := by decide +kernel
theorem dL_drawn_26 : decode cL_drawn 26 = .ok (.bipush (-20), 2) := by decide +kernel
theorem dL_drawn_28 : decode cL_drawn 28 = .ok (.if_icmp .ne 58, 3) := by decide +kernel
theorem dL_drawn_31 : decode cL_drawn 31 = .ok (.aload_n 1, 1) := by decide +kernel
theorem dL_drawn_32 : decode cL_drawn 32 = .ok (.iconst 1, 1) := by decide +kernel
theorem dL_drawn_33 : decode cL_drawn 33 = .ok (.bipush 60, 2) := by decide +kernel
theorem dL_drawn_35 : decode cL_drawn 35 = .ok (.iload_n 2, 1) := by decide +kernel
theorem dL_drawn_36 : decode cL_drawn 36 = .ok (.bipush 6, 2) := by decide +kernel
theorem dL_drawn_38 : decode cL_drawn 38 = .ok (.iushr, 1) := by decide +kernel
theorem dL_drawn_39 : decode cL_drawn 39 = .ok (.bipush 41, 2) := by decide +kernel
theorem dL_drawn_41 : decode cL_drawn 41 = .ok (.irem, 1) := by decide +kernel
theorem dL_drawn_42 : decode cL_drawn 42 = .ok (.iadd, 1) := by decide +kernel
theorem dL_drawn_43 : decode cL_drawn 43 = .ok (.invokestatic 129, 3) := by decide +kernel
theorem dL_drawn_46 : decode cL_drawn 46 = .ok (.bipush 100, 2) := by decide +kernel
theorem dL_drawn_48 : decode cL_drawn 48 = .ok (.if_icmp .ne 38, 3) := by decide +kernel
theorem dL_drawn_51 : decode cL_drawn 51 = .ok (.aload_n 1, 1) := by decide +kernel
theorem dL_drawn_52 : decode cL_drawn 52 = .ok (.iconst 2, 1) := by decide +kernel
theorem dL_drawn_53 : decode cL_drawn 53 = .ok (.iconst 1, 1) := by decide +kernel
theorem dL_drawn_54 : decode cL_drawn 54 = .ok (.iload_n 2, 1) := by decide +kernel
theorem dL_drawn_55 : decode cL_drawn 55 = .ok (.bipush 12, 2) := by decide +kernel
theorem dL_drawn_57 : decode cL_drawn 57 = .ok (.iushr, 1) := by decide +kernel
theorem dL_drawn_58 : decode cL_drawn 58 = .ok (.bipush 14, 2) := by decide +kernel
theorem dL_drawn_60 : decode cL_drawn 60 = .ok (.irem, 1) := by decide +kernel
theorem dL_drawn_61 : decode cL_drawn 61 = .ok (.iadd, 1) := by decide +kernel
theorem dL_drawn_62 : decode cL_drawn 62 = .ok (.invokestatic 129, 3) := by decide +kernel
theorem dL_drawn_65 : decode cL_drawn 65 = .ok (.bipush 7, 2) := by decide +kernel
theorem dL_drawn_67 : decode cL_drawn 67 = .ok (.if_icmp .ne 19, 3) := by decide +kernel
theorem dL_drawn_70 : decode cL_drawn 70 = .ok (.aload_n 1, 1) := by decide +kernel
theorem dL_drawn_71 : decode cL_drawn 71 = .ok (.iconst 1, 1) := by decide +kernel
theorem dL_drawn_72 : decode cL_drawn 72 = .ok (.iload_n 2, 1) := by decide +kernel
theorem dL_drawn_73 : decode cL_drawn 73 = .ok (.bipush 16, 2) := by decide +kernel
theorem dL_drawn_75 : decode cL_drawn 75 = .ok (.iushr, 1) := by decide +kernel
theorem dL_drawn_76 : decode cL_drawn 76 = .ok (.bipush 25, 2) := by decide +kernel
theorem dL_drawn_78 : decode cL_drawn 78 = .ok (.irem, 1) := by decide +kernel
theorem dL_drawn_79 : decode cL_drawn 79 = .ok (.iadd, 1) := by decide +kernel
theorem dL_drawn_80 : decode cL_drawn 80 = .ok (.invokestatic 132, 3) := by decide +kernel
theorem dL_drawn_83 : decode cL_drawn 83 = .ok (.ifCond .eq 5, 3) := by decide +kernel
theorem dL_drawn_86 : decode cL_drawn 86 = .ok (.aconst_null, 1) := by decide +kernel
theorem dL_drawn_87 : decode cL_drawn 87 = .ok (.areturn, 1) := by decide +kernel
theorem dL_drawn_88 : decode cL_drawn 88 = .ok (.iconst 1, 1) := by decide +kernel
theorem dL_drawn_89 : decode cL_drawn 89 = .ok (.iload_n 2, 1) := by decide +kernel
theorem dL_drawn_90 : decode cL_drawn 90 = .ok (.bipush 21, 2) := by decide +kernel
theorem dL_drawn_92 : decode cL_drawn 92 = .ok (.iushr, 1) := by decide +kernel
theorem dL_drawn_93 : decode cL_drawn 93 = .ok (.iconst 3, 1) := by decide +kernel
theorem dL_drawn_94 : decode cL_drawn 94 = .ok (.irem, 1) := by decide +kernel
theorem dL_drawn_95 : decode cL_drawn 95 = .ok (.iadd, 1) := by decide +kernel
theorem dL_drawn_96 : decode cL_drawn 96 = .ok (.istore_n 3, 1) := by decide +kernel
theorem dL_drawn_97 : decode cL_drawn 97 = .ok (.iconst 0, 1) := by decide +kernel
theorem dL_drawn_98 : decode cL_drawn 98 = .ok (.istore 4, 2) := by decide +kernel
theorem dL_drawn_100 : decode cL_drawn 100 = .ok (.iload 4, 2) := by decide +kernel
theorem dL_drawn_102 : decode cL_drawn 102 = .ok (.iload_n 3, 1) := by decide +kernel
theorem dL_drawn_103 : decode cL_drawn 103 = .ok (.if_icmp .ge 155, 3) := by decide +kernel
theorem dL_drawn_106 : decode cL_drawn 106 = .ok (.aload_n 0, 1) := by decide +kernel
theorem dL_drawn_107 : decode cL_drawn 107 = .ok (.iconst 1, 1) := by decide +kernel
theorem dL_drawn_108 : decode cL_drawn 108 = .ok (.iload 4, 2) := by decide +kernel
theorem dL_drawn_110 : decode cL_drawn 110 = .ok (.iadd, 1) := by decide +kernel
theorem dL_drawn_111 : decode cL_drawn 111 = .ok (.invokestatic 125, 3) := by decide +kernel
theorem dL_drawn_114 : decode cL_drawn 114 = .ok (.iconst 1, 1) := by decide +kernel
theorem dL_drawn_115 : decode cL_drawn 115 = .ok (.iushr, 1) := by decide +kernel
theorem dL_drawn_116 : decode cL_drawn 116 = .ok (.istore 5, 2) := by decide +kernel
theorem dL_drawn_118 : decode cL_drawn 118 = .ok (.aload_n 1, 1) := by decide +kernel
theorem dL_drawn_119 : decode cL_drawn 119 = .ok (.iconst 1, 1) := by decide +kernel
theorem dL_drawn_120 : decode cL_drawn 120 = .ok (.iload 5, 2) := by decide +kernel
theorem dL_drawn_122 : decode cL_drawn 122 = .ok (.iconst 3, 1) := by decide +kernel
theorem dL_drawn_123 : decode cL_drawn 123 = .ok (.irem, 1) := by decide +kernel
theorem dL_drawn_124 : decode cL_drawn 124 = .ok (.iadd, 1) := by decide +kernel
theorem dL_drawn_125 : decode cL_drawn 125 = .ok (.invokestatic 135, 3) := by decide +kernel
theorem dL_drawn_128 : decode cL_drawn 128 = .ok (.iload 4, 2) := by decide +kernel
theorem dL_drawn_130 : decode cL_drawn 130 = .ok (.if_icmp .eq 5, 3) := by decide +kernel
theorem dL_drawn_133 : decode cL_drawn 133 = .ok (.aconst_null, 1) := by decide +kernel
theorem dL_drawn_134 : decode cL_drawn 134 = .ok (.areturn, 1) := by decide +kernel
theorem dL_drawn_135 : decode cL_drawn 135 = .ok (.iconst 0, 1) := by decide +kernel
theorem dL_drawn_136 : decode cL_drawn 136 = .ok (.istore 6, 2) := by decide +kernel
theorem dL_drawn_138 : decode cL_drawn 138 = .ok (.iload 6, 2) := by decide +kernel
theorem dL_drawn_140 : decode cL_drawn 140 = .ok (.iconst 1, 1) := by decide +kernel
theorem dL_drawn_141 : decode cL_drawn 141 = .ok (.iload 5, 2) := by decide +kernel
theorem dL_drawn_143 : decode cL_drawn 143 = .ok (.iconst 2, 1) := by decide +kernel
theorem dL_drawn_144 : decode cL_drawn 144 = .ok (.iushr, 1) := by decide +kernel
theorem dL_drawn_145 : decode cL_drawn 145 = .ok (.iconst 3, 1) := by decide +kernel
theorem dL_drawn_146 : decode cL_drawn 146 = .ok (.irem, 1) := by decide +kernel
theorem dL_drawn_147 : decode cL_drawn 147 = .ok (.iadd, 1) := by decide +kernel
theorem dL_drawn_148 : decode cL_drawn 148 = .ok (.if_icmp .ge 104, 3) := by decide +kernel
theorem dL_drawn_151 : decode cL_drawn 151 = .ok (.aload_n 0, 1) := by decide +kernel
theorem dL_drawn_152 : decode cL_drawn 152 = .ok (.iconst 4, 1) := by decide +kernel
theorem dL_drawn_153 : decode cL_drawn 153 = .ok (.iconst 3, 1) := by decide +kernel
theorem dL_drawn_154 : decode cL_drawn 154 = .ok (.iload 4, 2) := by decide +kernel
theorem dL_drawn_156 : decode cL_drawn 156 = .ok (.imul, 1) := by decide +kernel
theorem dL_drawn_157 : decode cL_drawn 157 = .ok (.iadd, 1) := by decide +kernel
theorem dL_drawn_158 : decode cL_drawn 158 = .ok (.iload 6, 2) := by decide +kernel
theorem dL_drawn_160 : decode cL_drawn 160 = .ok (.iadd, 1) := by decide +kernel
theorem dL_drawn_161 : decode cL_drawn 161 = .ok (.invokestatic 125, 3) := by decide +kernel
theorem dL_drawn_164 : decode cL_drawn 164 = .ok (.iconst 1, 1) := by decide +kernel
theorem dL_drawn_165 : decode cL_drawn 165 = .ok (.iushr, 1) := by decide +kernel
theorem dL_drawn_166 : decode cL_drawn 166 = .ok (.istore 7, 2) := by decide +kernel
theorem dL_drawn_168 : decode cL_drawn 168 = .ok (.iload 7, 2) := by decide +kernel
theorem dL_drawn_170 : decode cL_drawn 170 = .ok (.iconst 2, 1) := by decide +kernel
theorem dL_drawn_171 : decode cL_drawn 171 = .ok (.irem, 1) := by decide +kernel
theorem dL_drawn_172 : decode cL_drawn 172 = .ok (.istore 8, 2) := by decide +kernel
theorem dL_drawn_174 : decode cL_drawn 174 = .ok (.iload 7, 2) := by decide +kernel
theorem dL_drawn_176 : decode cL_drawn 176 = .ok (.iconst 1, 1) := by decide +kernel
theorem dL_drawn_177 : decode cL_drawn 177 = .ok (.iushr, 1) := by decide +kernel
theorem dL_drawn_178 : decode cL_drawn 178 = .ok (.iconst 4, 1) := by decide +kernel
theorem dL_drawn_179 : decode cL_drawn 179 = .ok (.irem, 1) := by decide +kernel
theorem dL_drawn_180 : decode cL_drawn 180 = .ok (.ifCond .ne 15, 3) := by decide +kernel
theorem dL_drawn_183 : decode cL_drawn 183 = .ok (.iconst 5, 1) := by decide +kernel
theorem dL_drawn_184 : decode cL_drawn 184 = .ok (.iload 7, 2) := by decide +kernel
theorem dL_drawn_186 : decode cL_drawn 186 = .ok (.iconst 3, 1) := by decide +kernel
theorem dL_drawn_187 : decode cL_drawn 187 = .ok (.iushr, 1) := by decide +kernel
theorem dL_drawn_188 : decode cL_drawn 188 = .ok (.bipush 56, 2) := by decide +kernel
theorem dL_drawn_190 : decode cL_drawn 190 = .ok (.irem, 1) := by decide +kernel
theorem dL_drawn_191 : decode cL_drawn 191 = .ok (.iadd, 1) := by decide +kernel
theorem dL_drawn_192 : decode cL_drawn 192 = .ok (.goto 12, 3) := by decide +kernel
theorem dL_drawn_195 : decode cL_drawn 195 = .ok (.iconst 5, 1) := by decide +kernel
theorem dL_drawn_196 : decode cL_drawn 196 = .ok (.iload 7, 2) := by decide +kernel
theorem dL_drawn_198 : decode cL_drawn 198 = .ok (.iconst 3, 1) := by decide +kernel
theorem dL_drawn_199 : decode cL_drawn 199 = .ok (.iushr, 1) := by decide +kernel
theorem dL_drawn_200 : decode cL_drawn 200 = .ok (.bipush 26, 2) := by decide +kernel
theorem dL_drawn_202 : decode cL_drawn 202 = .ok (.irem, 1) := by decide +kernel
theorem dL_drawn_203 : decode cL_drawn 203 = .ok (.iadd, 1) := by decide +kernel
theorem dL_drawn_204 : decode cL_drawn 204 = .ok (.istore 9, 2) := by decide +kernel
theorem dL_drawn_206 : decode cL_drawn 206 = .ok (.aload_n 1, 1) := by decide +kernel
theorem dL_drawn_207 : decode cL_drawn 207 = .ok (.iload 8, 2) := by decide +kernel
theorem dL_drawn_209 : decode cL_drawn 209 = .ok (.iload 9, 2) := by decide +kernel
theorem dL_drawn_211 : decode cL_drawn 211 = .ok (.iconst 2, 1) := by decide +kernel
theorem dL_drawn_212 : decode cL_drawn 212 = .ok (.iload 7, 2) := by decide +kernel
theorem dL_drawn_214 : decode cL_drawn 214 = .ok (.bipush 9, 2) := by decide +kernel
theorem dL_drawn_216 : decode cL_drawn 216 = .ok (.iushr, 1) := by decide +kernel
theorem dL_drawn_217 : decode cL_drawn 217 = .ok (.iconst 5, 1) := by decide +kernel
theorem dL_drawn_218 : decode cL_drawn 218 = .ok (.irem, 1) := by decide +kernel
theorem dL_drawn_219 : decode cL_drawn 219 = .ok (.iadd, 1) := by decide +kernel
theorem dL_drawn_220 : decode cL_drawn 220 = .ok (.iload 8, 2) := by decide +kernel
theorem dL_drawn_222 : decode cL_drawn 222 = .ok (.invokestatic 137, 3) := by decide +kernel
theorem dL_drawn_225 : decode cL_drawn 225 = .ok (.ifCond .ne 19, 3) := by decide +kernel
theorem dL_drawn_228 : decode cL_drawn 228 = .ok (.aload_n 1, 1) := by decide +kernel
theorem dL_drawn_229 : decode cL_drawn 229 = .ok (.iload 4, 2) := by decide +kernel
theorem dL_drawn_231 : decode cL_drawn 231 = .ok (.iload 8, 2) := by decide +kernel
theorem dL_drawn_233 : decode cL_drawn 233 = .ok (.iconst 0, 1) := by decide +kernel
theorem dL_drawn_234 : decode cL_drawn 234 = .ok (.invokestatic 140, 3) := by decide +kernel
theorem dL_drawn_237 : decode cL_drawn 237 = .ok (.iload 6, 2) := by decide +kernel
theorem dL_drawn_239 : decode cL_drawn 239 = .ok (.iconst 1, 1) := by decide +kernel
theorem dL_drawn_240 : decode cL_drawn 240 = .ok (.iadd, 1) := by decide +kernel
theorem dL_drawn_241 : decode cL_drawn 241 = .ok (.if_icmp .eq 5, 3) := by decide +kernel
theorem dL_drawn_244 : decode cL_drawn 244 = .ok (.aconst_null, 1) := by decide +kernel
theorem dL_drawn_245 : decode cL_drawn 245 = .ok (.areturn, 1) := by decide +kernel
theorem dL_drawn_246 : decode cL_drawn 246 = .ok (.iinc 6 1, 3) := by decide +kernel
theorem dL_drawn_249 : decode cL_drawn 249 = .ok (.goto (-111), 3) := by decide +kernel
theorem dL_drawn_252 : decode cL_drawn 252 = .ok (.iinc 4 1, 3) := by decide +kernel
theorem dL_drawn_255 : decode cL_drawn 255 = .ok (.goto (-155), 3) := by decide +kernel
theorem dL_drawn_258 : decode cL_drawn 258 = .ok (.iconst 0, 1) := by decide +kernel
theorem dL_drawn_259 : decode cL_drawn 259 = .ok (.istore 4, 2) := by decide +kernel
theorem dL_drawn_261 : decode cL_drawn 261 = .ok (.iload 4, 2) := by decide +kernel
theorem dL_drawn_263 : decode cL_drawn 263 = .ok (.bipush 12, 2) := by decide +kernel
theorem dL_drawn_265 : decode cL_drawn 265 = .ok (.if_icmp .ge 45, 3) := by decide +kernel
theorem dL_drawn_268 : decode cL_drawn 268 = .ok (.aload_n 0, 1) := by decide +kernel
theorem dL_drawn_269 : decode cL_drawn 269 = .ok (.bipush 13, 2) := by decide +kernel
theorem dL_drawn_271 : decode cL_drawn 271 = .ok (.invokestatic 125, 3) := by decide +kernel
theorem dL_drawn_274 : decode cL_drawn 274 = .ok (.iload 4, 2) := by decide +kernel
theorem dL_drawn_276 : decode cL_drawn 276 = .ok (.iconst 1, 1) := by decide +kernel
theorem dL_drawn_277 : decode cL_drawn 277 = .ok (.iadd, 1) := by decide +kernel
theorem dL_drawn_278 : decode cL_drawn 278 = .ok (.iushr, 1) := by decide +kernel
theorem dL_drawn_279 : decode cL_drawn 279 = .ok (.iconst 3, 1) := by decide +kernel
theorem dL_drawn_280 : decode cL_drawn 280 = .ok (.iand, 1) := by decide +kernel
theorem dL_drawn_281 : decode cL_drawn 281 = .ok (.ifCond .eq 23, 3) := by decide +kernel
theorem dL_drawn_284 : decode cL_drawn 284 = .ok (.aload_n 1, 1) := by decide +kernel
theorem dL_drawn_285 : decode cL_drawn 285 = .ok (.iload 4, 2) := by decide +kernel
theorem dL_drawn_287 : decode cL_drawn 287 = .ok (.invokestatic 143, 3) := by decide +kernel
theorem dL_drawn_290 : decode cL_drawn 290 = .ok (.aload_n 1, 1) := by decide +kernel
theorem dL_drawn_291 : decode cL_drawn 291 = .ok (.iload 4, 2) := by decide +kernel
theorem dL_drawn_293 : decode cL_drawn 293 = .ok (.invokevirtual 145, 3) := by decide +kernel
theorem dL_drawn_296 : decode cL_drawn 296 = .ok (.invokestatic 148, 3) := by decide +kernel
theorem dL_drawn_299 : decode cL_drawn 299 = .ok (.if_icmp .eq 5, 3) := by decide +kernel
theorem dL_drawn_302 : decode cL_drawn 302 = .ok (.aconst_null, 1) := by decide +kernel
theorem dL_drawn_303 : decode cL_drawn 303 = .ok (.areturn, 1) := by decide +kernel
theorem dL_drawn_304 : decode cL_drawn 304 = .ok (.iinc 4 1, 3) := by decide +kernel
theorem dL_drawn_307 : decode cL_drawn 307 = .ok (.goto (-46), 3) := by decide +kernel
theorem dL_drawn_310 : decode cL_drawn 310 = .ok (.bipush 6, 2) := by decide +kernel
theorem dL_drawn_312 : decode cL_drawn 312 = .ok (.aload_n 0, 1) := by decide +kernel
theorem dL_drawn_313 : decode cL_drawn 313 = .ok (.bipush 14, 2) := by decide +kernel
theorem dL_drawn_315 : decode cL_drawn 315 = .ok (.invokestatic 125, 3) := by decide +kernel
theorem dL_drawn_318 : decode cL_drawn 318 = .ok (.iconst 1, 1) := by decide +kernel
theorem dL_drawn_319 : decode cL_drawn 319 = .ok (.iushr, 1) := by decide +kernel
theorem dL_drawn_320 : decode cL_drawn 320 = .ok (.bipush 28, 2) := by decide +kernel
theorem dL_drawn_322 : decode cL_drawn 322 = .ok (.irem, 1) := by decide +kernel
theorem dL_drawn_323 : decode cL_drawn 323 = .ok (.iadd, 1) := by decide +kernel
theorem dL_drawn_324 : decode cL_drawn 324 = .ok (.istore 4, 2) := by decide +kernel
theorem dL_drawn_326 : decode cL_drawn 326 = .ok (.iconst 0, 1) := by decide +kernel
theorem dL_drawn_327 : decode cL_drawn 327 = .ok (.istore 5, 2) := by decide +kernel
theorem dL_drawn_329 : decode cL_drawn 329 = .ok (.iload 5, 2) := by decide +kernel
theorem dL_drawn_331 : decode cL_drawn 331 = .ok (.iload 4, 2) := by decide +kernel
theorem dL_drawn_333 : decode cL_drawn 333 = .ok (.if_icmp .ge 188, 3) := by decide +kernel
theorem dL_drawn_336 : decode cL_drawn 336 = .ok (.aload_n 0, 1) := by decide +kernel
theorem dL_drawn_337 : decode cL_drawn 337 = .ok (.bipush 15, 2) := by decide +kernel
theorem dL_drawn_339 : decode cL_drawn 339 = .ok (.iload 5, 2) := by decide +kernel
theorem dL_drawn_341 : decode cL_drawn 341 = .ok (.iadd, 1) := by decide +kernel
theorem dL_drawn_342 : decode cL_drawn 342 = .ok (.invokestatic 125, 3) := by decide +kernel
theorem dL_drawn_345 : decode cL_drawn 345 = .ok (.iconst 1, 1) := by decide +kernel
theorem dL_drawn_346 : decode cL_drawn 346 = .ok (.iushr, 1) := by decide +kernel
theorem dL_drawn_347 : decode cL_drawn 347 = .ok (.istore 6, 2) := by decide +kernel
theorem dL_drawn_349 : decode cL_drawn 349 = .ok (.iload 6, 2) := by decide +kernel
theorem dL_drawn_351 : decode cL_drawn 351 = .ok (.bipush 10, 2) := by decide +kernel
theorem dL_drawn_353 : decode cL_drawn 353 = .ok (.irem, 1) := by decide +kernel
theorem dL_drawn_354 : decode cL_drawn 354 = .ok (.tableswitch 117 0 3 #[30, 47, 72, 102], 30) := by decide +kernel
theorem dL_drawn_384 : decode cL_drawn 384 = .ok (.aload_n 1, 1) := by decide +kernel
theorem dL_drawn_385 : decode cL_drawn 385 = .ok (.iconst 1, 1) := by decide +kernel
theorem dL_drawn_386 : decode cL_drawn 386 = .ok (.iload 6, 2) := by decide +kernel
theorem dL_drawn_388 : decode cL_drawn 388 = .ok (.iconst 4, 1) := by decide +kernel
theorem dL_drawn_389 : decode cL_drawn 389 = .ok (.iushr, 1) := by decide +kernel
theorem dL_drawn_390 : decode cL_drawn 390 = .ok (.iconst 4, 1) := by decide +kernel
theorem dL_drawn_391 : decode cL_drawn 391 = .ok (.irem, 1) := by decide +kernel
theorem dL_drawn_392 : decode cL_drawn 392 = .ok (.iadd, 1) := by decide +kernel
theorem dL_drawn_393 : decode cL_drawn 393 = .ok (.invokestatic 132, 3) := by decide +kernel
theorem dL_drawn_396 : decode cL_drawn 396 = .ok (.istore 7, 2) := by decide +kernel
theorem dL_drawn_398 : decode cL_drawn 398 = .ok (.goto 85, 3) := by decide +kernel
theorem dL_drawn_401 : decode cL_drawn 401 = .ok (.aload_n 1, 1) := by decide +kernel
theorem dL_drawn_402 : decode cL_drawn 402 = .ok (.iload 6, 2) := by decide +kernel
theorem dL_drawn_404 : decode cL_drawn 404 = .ok (.iconst 4, 1) := by decide +kernel
theorem dL_drawn_405 : decode cL_drawn 405 = .ok (.iushr, 1) := by decide +kernel
theorem dL_drawn_406 : decode cL_drawn 406 = .ok (.bipush 12, 2) := by decide +kernel
theorem dL_drawn_408 : decode cL_drawn 408 = .ok (.irem, 1) := by decide +kernel
theorem dL_drawn_409 : decode cL_drawn 409 = .ok (.invokestatic 143, 3) := by decide +kernel
theorem dL_drawn_412 : decode cL_drawn 412 = .ok (.iconst (-1), 1) := by decide +kernel
theorem dL_drawn_413 : decode cL_drawn 413 = .ok (.if_icmp .ne 7, 3) := by decide +kernel
theorem dL_drawn_416 : decode cL_drawn 416 = .ok (.iconst (-1), 1) := by decide +kernel
theorem dL_drawn_417 : decode cL_drawn 417 = .ok (.goto 4, 3) := by decide +kernel
theorem dL_drawn_420 : decode cL_drawn 420 = .ok (.iconst 0, 1) := by decide +kernel
theorem dL_drawn_421 : decode cL_drawn 421 = .ok (.istore 7, 2) := by decide +kernel
theorem dL_drawn_423 : decode cL_drawn 423 = .ok (.goto 60, 3) := by decide +kernel
theorem dL_drawn_426 : decode cL_drawn 426 = .ok (.aload_n 1, 1) := by decide +kernel
theorem dL_drawn_427 : decode cL_drawn 427 = .ok (.iconst 0, 1) := by decide +kernel
theorem dL_drawn_428 : decode cL_drawn 428 = .ok (.iload 6, 2) := by decide +kernel
theorem dL_drawn_430 : decode cL_drawn 430 = .ok (.iconst 4, 1) := by decide +kernel
theorem dL_drawn_431 : decode cL_drawn 431 = .ok (.iushr, 1) := by decide +kernel
theorem dL_drawn_432 : decode cL_drawn 432 = .ok (.bipush 51, 2) := by decide +kernel
theorem dL_drawn_434 : decode cL_drawn 434 = .ok (.irem, 1) := by decide +kernel
theorem dL_drawn_435 : decode cL_drawn 435 = .ok (.bipush 40, 2) := by decide +kernel
theorem dL_drawn_437 : decode cL_drawn 437 = .ok (.isub, 1) := by decide +kernel
theorem dL_drawn_438 : decode cL_drawn 438 = .ok (.invokestatic 129, 3) := by decide +kernel
theorem dL_drawn_441 : decode cL_drawn 441 = .ok (.bipush (-40), 2) := by decide +kernel
theorem dL_drawn_443 : decode cL_drawn 443 = .ok (.if_icmp .ge 7, 3) := by decide +kernel
theorem dL_drawn_446 : decode cL_drawn 446 = .ok (.iconst (-1), 1) := by decide +kernel
theorem dL_drawn_447 : decode cL_drawn 447 = .ok (.goto 4, 3) := by decide +kernel
theorem dL_drawn_450 : decode cL_drawn 450 = .ok (.iconst 0, 1) := by decide +kernel
theorem dL_drawn_451 : decode cL_drawn 451 = .ok (.istore 7, 2) := by decide +kernel
theorem dL_drawn_453 : decode cL_drawn 453 = .ok (.goto 30, 3) := by decide +kernel
theorem dL_drawn_456 : decode cL_drawn 456 = .ok (.aload_n 1, 1) := by decide +kernel
theorem dL_drawn_457 : decode cL_drawn 457 = .ok (.iload 6, 2) := by decide +kernel
theorem dL_drawn_459 : decode cL_drawn 459 = .ok (.iconst 4, 1) := by decide +kernel
theorem dL_drawn_460 : decode cL_drawn 460 = .ok (.iushr, 1) := by decide +kernel
theorem dL_drawn_461 : decode cL_drawn 461 = .ok (.iload_n 3, 1) := by decide +kernel
theorem dL_drawn_462 : decode cL_drawn 462 = .ok (.irem, 1) := by decide +kernel
theorem dL_drawn_463 : decode cL_drawn 463 = .ok (.invokestatic 152, 3) := by decide +kernel
theorem dL_drawn_466 : decode cL_drawn 466 = .ok (.istore 7, 2) := by decide +kernel
theorem dL_drawn_468 : decode cL_drawn 468 = .ok (.goto 15, 3) := by decide +kernel
theorem dL_drawn_471 : decode cL_drawn 471 = .ok (.aload_n 1, 1) := by decide +kernel
theorem dL_drawn_472 : decode cL_drawn 472 = .ok (.iload 6, 2) := by decide +kernel
theorem dL_drawn_474 : decode cL_drawn 474 = .ok (.iconst 4, 1) := by decide +kernel
theorem dL_drawn_475 : decode cL_drawn 475 = .ok (.iushr, 1) := by decide +kernel
theorem dL_drawn_476 : decode cL_drawn 476 = .ok (.iload_n 3, 1) := by decide +kernel
theorem dL_drawn_477 : decode cL_drawn 477 = .ok (.irem, 1) := by decide +kernel
theorem dL_drawn_478 : decode cL_drawn 478 = .ok (.invokestatic 154, 3) := by decide +kernel
theorem dL_drawn_481 : decode cL_drawn 481 = .ok (.istore 7, 2) := by decide +kernel
theorem dL_drawn_483 : decode cL_drawn 483 = .ok (.iload 7, 2) := by decide +kernel
theorem dL_drawn_485 : decode cL_drawn 485 = .ok (.iconst (-1), 1) := by decide +kernel
theorem dL_drawn_486 : decode cL_drawn 486 = .ok (.if_icmp .eq 27, 3) := by decide +kernel
theorem dL_drawn_489 : decode cL_drawn 489 = .ok (.iload 7, 2) := by decide +kernel
theorem dL_drawn_491 : decode cL_drawn 491 = .ok (.ifCond .ge 24, 3) := by decide +kernel
theorem dL_drawn_494 : decode cL_drawn 494 = .ok (.aload_n 1, 1) := by decide +kernel
theorem dL_drawn_495 : decode cL_drawn 495 = .ok (.iconst 0, 1) := by decide +kernel
theorem dL_drawn_496 : decode cL_drawn 496 = .ok (.invokestatic 156, 3) := by decide +kernel
theorem dL_drawn_499 : decode cL_drawn 499 = .ok (.iconst 4, 1) := by decide +kernel
theorem dL_drawn_500 : decode cL_drawn 500 = .ok (.if_icmp .lt 13, 3) := by decide +kernel
theorem dL_drawn_503 : decode cL_drawn 503 = .ok (.aload_n 1, 1) := by decide +kernel
theorem dL_drawn_504 : decode cL_drawn 504 = .ok (.iconst 0, 1) := by decide +kernel
theorem dL_drawn_505 : decode cL_drawn 505 = .ok (.invokestatic 156, 3) := by decide +kernel
theorem dL_drawn_508 : decode cL_drawn 508 = .ok (.bipush 8, 2) := by decide +kernel
theorem dL_drawn_510 : decode cL_drawn 510 = .ok (.if_icmp .le 5, 3) := by decide +kernel
theorem dL_drawn_513 : decode cL_drawn 513 = .ok (.aconst_null, 1) := by decide +kernel
theorem dL_drawn_514 : decode cL_drawn 514 = .ok (.areturn, 1) := by decide +kernel
theorem dL_drawn_515 : decode cL_drawn 515 = .ok (.iinc 5 1, 3) := by decide +kernel
theorem dL_drawn_518 : decode cL_drawn 518 = .ok (.goto (-189), 3) := by decide +kernel
theorem dL_drawn_521 : decode cL_drawn 521 = .ok (.aload_n 1, 1) := by decide +kernel
theorem dL_drawn_522 : decode cL_drawn 522 = .ok (.areturn, 1) := by decide +kernel
theorem dL_law_0 : decode cL_law 0 = .ok (.aload_n 0, 1) := by decide +kernel
theorem dL_law_1 : decode cL_law 1 = .ok (.invokestatic 159, 3) := by decide +kernel
theorem dL_law_4 : decode cL_law 4 = .ok (.astore_n 1, 1) := by decide +kernel
theorem dL_law_5 : decode cL_law 5 = .ok (.aload_n 1, 1) := by decide +kernel
theorem dL_law_6 : decode cL_law 6 = .ok (.ifnull 44, 3) := by decide +kernel
theorem dL_law_9 : decode cL_law 9 = .ok (.aload_n 1, 1) := by decide +kernel
theorem dL_law_10 : decode cL_law 10 = .ok (.invokestatic 163, 3) := by decide +kernel
theorem dL_law_13 : decode cL_law 13 = .ok (.ifCond .eq 37, 3) := by decide +kernel
theorem dL_law_16 : decode cL_law 16 = .ok (.aload_n 1, 1) := by decide +kernel
theorem dL_law_17 : decode cL_law 17 = .ok (.invokestatic 167, 3) := by decide +kernel
theorem dL_law_20 : decode cL_law 20 = .ok (.ifCond .eq 30, 3) := by decide +kernel
theorem dL_law_23 : decode cL_law 23 = .ok (.aload_n 1, 1) := by decide +kernel
theorem dL_law_24 : decode cL_law 24 = .ok (.invokestatic 170, 3) := by decide +kernel
theorem dL_law_27 : decode cL_law 27 = .ok (.ifCond .eq 23, 3) := by decide +kernel
theorem dL_law_30 : decode cL_law 30 = .ok (.aload_n 0, 1) := by decide +kernel
theorem dL_law_31 : decode cL_law 31 = .ok (.aload_n 1, 1) := by decide +kernel
theorem dL_law_32 : decode cL_law 32 = .ok (.invokestatic 173, 3) := by decide +kernel
theorem dL_law_35 : decode cL_law 35 = .ok (.ifCond .eq 15, 3) := by decide +kernel
theorem dL_law_38 : decode cL_law 38 = .ok (.aload_n 0, 1) := by decide +kernel
theorem dL_law_39 : decode cL_law 39 = .ok (.aload_n 1, 1) := by decide +kernel
theorem dL_law_40 : decode cL_law 40 = .ok (.invokestatic 177, 3) := by decide +kernel
theorem dL_law_43 : decode cL_law 43 = .ok (.ifCond .eq 7, 3) := by decide +kernel
theorem dL_law_46 : decode cL_law 46 = .ok (.iconst 1, 1) := by decide +kernel
theorem dL_law_47 : decode cL_law 47 = .ok (.goto 4, 3) := by decide +kernel
theorem dL_law_50 : decode cL_law 50 = .ok (.iconst 0, 1) := by decide +kernel
theorem dL_law_51 : decode cL_law 51 = .ok (.ireturn, 1) := by decide +kernel
theorem dL_miles_0 : decode cL_miles 0 = .ok (.iconst 0, 1) := by decide +kernel
theorem dL_miles_1 : decode cL_miles 1 = .ok (.istore_n 1, 1) := by decide +kernel
theorem dL_miles_2 : decode cL_miles 2 = .ok (.dconst 0, 1) := by decide +kernel
theorem dL_miles_3 : decode cL_miles 3 = .ok (.dstore_n 2, 1) := by decide +kernel
theorem dL_miles_4 : decode cL_miles 4 = .ok (.iconst 0, 1) := by decide +kernel
theorem dL_miles_5 : decode cL_miles 5 = .ok (.istore 4, 2) := by decide +kernel
theorem dL_miles_7 : decode cL_miles 7 = .ok (.iconst 0, 1) := by decide +kernel
theorem dL_miles_8 : decode cL_miles 8 = .ok (.istore 5, 2) := by decide +kernel
theorem dL_miles_10 : decode cL_miles 10 = .ok (.iconst 0, 1) := by decide +kernel
theorem dL_miles_11 : decode cL_miles 11 = .ok (.istore 6, 2) := by decide +kernel
theorem dL_miles_13 : decode cL_miles 13 = .ok (.iload 6, 2) := by decide +kernel
theorem dL_miles_15 : decode cL_miles 15 = .ok (.bipush 12, 2) := by decide +kernel
theorem dL_miles_17 : decode cL_miles 17 = .ok (.if_icmp .ge 331, 3) := by decide +kernel
theorem dL_miles_20 : decode cL_miles 20 = .ok (.aload_n 0, 1) := by decide +kernel
theorem dL_miles_21 : decode cL_miles 21 = .ok (.iload 6, 2) := by decide +kernel
theorem dL_miles_23 : decode cL_miles 23 = .ok (.iconst 2, 1) := by decide +kernel
theorem dL_miles_24 : decode cL_miles 24 = .ok (.invokestatic 180, 3) := by decide +kernel
theorem dL_miles_27 : decode cL_miles 27 = .ok (.istore 7, 2) := by decide +kernel
theorem dL_miles_29 : decode cL_miles 29 = .ok (.iload 7, 2) := by decide +kernel
theorem dL_miles_31 : decode cL_miles 31 = .ok (.ifCond .lt 23, 3) := by decide +kernel
theorem dL_miles_34 : decode cL_miles 34 = .ok (.aload_n 0, 1) := by decide +kernel
theorem dL_miles_35 : decode cL_miles 35 = .ok (.iconst 0, 1) := by decide +kernel
theorem dL_miles_36 : decode cL_miles 36 = .ok (.invokevirtual 182, 3) := by decide +kernel
theorem dL_miles_39 : decode cL_miles 39 = .ok (.iload 7, 2) := by decide +kernel
theorem dL_miles_41 : decode cL_miles 41 = .ok (.aload_n 0, 1) := by decide +kernel
theorem dL_miles_42 : decode cL_miles 42 = .ok (.iconst 2, 1) := by decide +kernel
theorem dL_miles_43 : decode cL_miles 43 = .ok (.invokevirtual 185, 3) := by decide +kernel
theorem dL_miles_46 : decode cL_miles 46 = .ok (.iadd, 1) := by decide +kernel
theorem dL_miles_47 : decode cL_miles 47 = .ok (.if_icmp .gt 7, 3) := by decide +kernel
theorem dL_miles_50 : decode cL_miles 50 = .ok (.iconst 1, 1) := by decide +kernel
theorem dL_miles_51 : decode cL_miles 51 = .ok (.goto 4, 3) := by decide +kernel
theorem dL_miles_54 : decode cL_miles 54 = .ok (.iconst 0, 1) := by decide +kernel
theorem dL_miles_55 : decode cL_miles 55 = .ok (.istore 8, 2) := by decide +kernel
theorem dL_miles_57 : decode cL_miles 57 = .ok (.iload 7, 2) := by decide +kernel
theorem dL_miles_59 : decode cL_miles 59 = .ok (.ifCond .ge 7, 3) := by decide +kernel
theorem dL_miles_62 : decode cL_miles 62 = .ok (.fconst 0, 1) := by decide +kernel
theorem dL_miles_63 : decode cL_miles 63 = .ok (.goto 12, 3) := by decide +kernel
theorem dL_miles_66 : decode cL_miles 66 = .ok (.aload_n 0, 1) := by decide +kernel
theorem dL_miles_67 : decode cL_miles 67 = .ok (.iload 6, 2) := by decide +kernel
theorem dL_miles_69 : decode cL_miles 69 = .ok (.invokestatic 188, 3) := by decide +kernel
theorem dL_miles_72 : decode cL_miles 72 = .ok (.invokestatic 118, 3) := by decide +kernel
theorem dL_miles_75 : decode cL_miles 75 = .ok (.fstore 9, 2) := by decide +kernel
theorem dL_miles_77 : decode cL_miles 77 = .ok (.iload 8, 2) := by decide +kernel
theorem dL_miles_79 : decode cL_miles 79 = .ok (.ifCond .eq 38, 3) := by decide +kernel
theorem dL_miles_82 : decode cL_miles 82 = .ok (.fload 9, 2) := by decide +kernel
theorem dL_miles_84 : decode cL_miles 84 = .ok (.fload 9, 2) := by decide +kernel
theorem dL_miles_86 : decode cL_miles 86 = .ok (.fmul, 1) := by decide +kernel
theorem dL_miles_87 : decode cL_miles 87 = .ok (.ldc 190, 2) := by decide +kernel
theorem dL_miles_89 : decode cL_miles 89 = .ok (.fmul, 1) := by decide +kernel
theorem dL_miles_90 : decode cL_miles 90 = .ok (.fconst 1, 1) := by decide +kernel
theorem dL_miles_91 : decode cL_miles 91 = .ok (.ldc 191, 2) := by decide +kernel
theorem dL_miles_93 : decode cL_miles 93 = .ok (.aload_n 0, 1) := by decide +kernel
theorem dL_miles_94 : decode cL_miles 94 = .ok (.iload 6, 2) := by decide +kernel
theorem dL_miles_96 : decode cL_miles 96 = .ok (.iconst 0, 1) := by decide +kernel
theorem dL_miles_97 : decode cL_miles 97 = .ok (.invokestatic 180, 3) := by decide +kernel
theorem dL_miles_100 : decode cL_miles 100 = .ok (.i2f, 1) := by decide +kernel
theorem dL_miles_101 : decode cL_miles 101 = .ok (.fmul, 1) := by decide +kernel
theorem dL_miles_102 : decode cL_miles 102 = .ok (.fsub, 1) := by decide +kernel
theorem dL_miles_103 : decode cL_miles 103 = .ok (.fmul, 1) := by decide +kernel
theorem dL_miles_104 : decode cL_miles 104 = .ok (.aload_n 0, 1) := by decide +kernel
theorem dL_miles_105 : decode cL_miles 105 = .ok (.iconst 1, 1) := by decide +kernel
theorem dL_miles_106 : decode cL_miles 106 = .ok (.invokevirtual 185, 3) := by decide +kernel
theorem dL_miles_109 : decode cL_miles 109 = .ok (.i2f, 1) := by decide +kernel
theorem dL_miles_110 : decode cL_miles 110 = .ok (.ldc 192, 2) := by decide +kernel
theorem dL_miles_112 : decode cL_miles 112 = .ok (.fdiv, 1) := by decide +kernel
theorem dL_miles_113 : decode cL_miles 113 = .ok (.fmul, 1) := by decide +kernel
theorem dL_miles_114 : decode cL_miles 114 = .ok (.goto 4, 3) := by decide +kernel
theorem dL_miles_117 : decode cL_miles 117 = .ok (.fconst 0, 1) := by decide +kernel
theorem dL_miles_118 : decode cL_miles 118 = .ok (.fstore 10, 2) := by decide +kernel
theorem dL_miles_120 : decode cL_miles 120 = .ok (.aload_n 0, 1) := by decide +kernel
theorem dL_miles_121 : decode cL_miles 121 = .ok (.iload 6, 2) := by decide +kernel
theorem dL_miles_123 : decode cL_miles 123 = .ok (.invokestatic 193, 3) := by decide +kernel
theorem dL_miles_126 : decode cL_miles 126 = .ok (.ifCond .lt 8, 3) := by decide +kernel
theorem dL_miles_129 : decode cL_miles 129 = .ok (.bipush 84, 2) := by decide +kernel
theorem dL_miles_131 : decode cL_miles 131 = .ok (.goto 24, 3) := by decide +kernel
theorem dL_miles_134 : decode cL_miles 134 = .ok (.iload 8, 2) := by decide +kernel
theorem dL_miles_136 : decode cL_miles 136 = .ok (.ifCond .eq 17, 3) := by decide +kernel
theorem dL_miles_139 : decode cL_miles 139 = .ok (.bipush 48, 2) := by decide +kernel
theorem dL_miles_141 : decode cL_miles 141 = .ok (.aload_n 0, 1) := by decide +kernel
theorem dL_miles_142 : decode cL_miles 142 = .ok (.iload 6, 2) := by decide +kernel
theorem dL_miles_144 : decode cL_miles 144 = .ok (.iconst 0, 1) := by decide +kernel
theorem dL_miles_145 : decode cL_miles 145 = .ok (.invokestatic 180, 3) := by decide +kernel
theorem dL_miles_148 : decode cL_miles 148 = .ok (.iadd, 1) := by decide +kernel
theorem dL_miles_149 : decode cL_miles 149 = .ok (.i2c, 1) := by decide +kernel
theorem dL_miles_150 : decode cL_miles 150 = .ok (.goto 5, 3) := by decide +kernel
theorem dL_miles_153 : decode cL_miles 153 = .ok (.bipush 63, 2) := by decide +kernel
theorem dL_miles_155 : decode cL_miles 155 = .ok (.istore 11, 2) := by decide +kernel
theorem dL_miles_157 : decode cL_miles 157 = .ok (.dload_n 2, 1) := by decide +kernel
theorem dL_miles_158 : decode cL_miles 158 = .ok (.aload_n 0, 1) := by decide +kernel
theorem dL_miles_159 : decode cL_miles 159 = .ok (.iload 6, 2) := by decide +kernel
theorem dL_miles_161 : decode cL_miles 161 = .ok (.invokevirtual 145, 3) := by decide +kernel
theorem dL_miles_164 : decode cL_miles 164 = .ok (.f2d, 1) := by decide +kernel
theorem dL_miles_165 : decode cL_miles 165 = .ok (.dadd, 1) := by decide +kernel
theorem dL_miles_166 : decode cL_miles 166 = .ok (.dstore_n 2, 1) := by decide +kernel
theorem dL_miles_167 : decode cL_miles 167 = .ok (.iload 4, 2) := by decide +kernel
theorem dL_miles_169 : decode cL_miles 169 = .ok (.aload_n 0, 1) := by decide +kernel
theorem dL_miles_170 : decode cL_miles 170 = .ok (.iload 6, 2) := by decide +kernel
theorem dL_miles_172 : decode cL_miles 172 = .ok (.iconst 0, 1) := by decide +kernel
theorem dL_miles_173 : decode cL_miles 173 = .ok (.invokestatic 180, 3) := by decide +kernel
theorem dL_miles_176 : decode cL_miles 176 = .ok (.iadd, 1) := by decide +kernel
theorem dL_miles_177 : decode cL_miles 177 = .ok (.istore 4, 2) := by decide +kernel
theorem dL_miles_179 : decode cL_miles 179 = .ok (.iload 5, 2) := by decide +kernel
theorem dL_miles_181 : decode cL_miles 181 = .ok (.iload 8, 2) := by decide +kernel
theorem dL_miles_183 : decode cL_miles 183 = .ok (.ifCond .eq 7, 3) := by decide +kernel
theorem dL_miles_186 : decode cL_miles 186 = .ok (.iconst 1, 1) := by decide +kernel
theorem dL_miles_187 : decode cL_miles 187 = .ok (.goto 4, 3) := by decide +kernel
theorem dL_miles_190 : decode cL_miles 190 = .ok (.iconst 0, 1) := by decide +kernel
theorem dL_miles_191 : decode cL_miles 191 = .ok (.iadd, 1) := by decide +kernel
theorem dL_miles_192 : decode cL_miles 192 = .ok (.istore 5, 2) := by decide +kernel
theorem dL_miles_194 : decode cL_miles 194 = .ok (.aload_n 0, 1) := by decide +kernel
theorem dL_miles_195 : decode cL_miles 195 = .ok (.iload 6, 2) := by decide +kernel
theorem dL_miles_197 : decode cL_miles 197 = .ok (.invokestatic 195, 3) := by decide +kernel
theorem dL_miles_200 : decode cL_miles 200 = .ok (.fload 10, 2) := by decide +kernel
theorem dL_miles_202 : decode cL_miles 202 = .ok (.fcmp .l, 1) := by decide +kernel
theorem dL_miles_203 : decode cL_miles 203 = .ok (.ifCond .ne 119, 3) := by decide +kernel
theorem dL_miles_206 : decode cL_miles 206 = .ok (.aload_n 0, 1) := by decide +kernel
theorem dL_miles_207 : decode cL_miles 207 = .ok (.iload 6, 2) := by decide +kernel
theorem dL_miles_209 : decode cL_miles 209 = .ok (.invokevirtual 198, 3) := by decide +kernel
theorem dL_miles_212 : decode cL_miles 212 = .ok (.iload 11, 2) := by decide +kernel
theorem dL_miles_214 : decode cL_miles 214 = .ok (.if_icmp .ne 108, 3) := by decide +kernel
theorem dL_miles_217 : decode cL_miles 217 = .ok (.aload_n 0, 1) := by decide +kernel
theorem dL_miles_218 : decode cL_miles 218 = .ok (.iload 6, 2) := by decide +kernel
theorem dL_miles_220 : decode cL_miles 220 = .ok (.iconst 3, 1) := by decide +kernel
theorem dL_miles_221 : decode cL_miles 221 = .ok (.invokestatic 180, 3) := by decide +kernel
theorem dL_miles_224 : decode cL_miles 224 = .ok (.iload 8, 2) := by decide +kernel
theorem dL_miles_226 : decode cL_miles 226 = .ok (.ifCond .eq 7, 3) := by decide +kernel
theorem dL_miles_229 : decode cL_miles 229 = .ok (.iconst 1, 1) := by decide +kernel
theorem dL_miles_230 : decode cL_miles 230 = .ok (.goto 4, 3) := by decide +kernel
theorem dL_miles_233 : decode cL_miles 233 = .ok (.iconst 0, 1) := by decide +kernel
theorem dL_miles_234 : decode cL_miles 234 = .ok (.if_icmp .ne 88, 3) := by decide +kernel
theorem dL_miles_237 : decode cL_miles 237 = .ok (.aload_n 0, 1) := by decide +kernel
theorem dL_miles_238 : decode cL_miles 238 = .ok (.iload 6, 2) := by decide +kernel
theorem dL_miles_240 : decode cL_miles 240 = .ok (.invokestatic 188, 3) := by decide +kernel
theorem dL_miles_243 : decode cL_miles 243 = .ok (.bipush (-13), 2) := by decide +kernel
theorem dL_miles_245 : decode cL_miles 245 = .ok (.if_icmp .ne 7, 3) := by decide +kernel
theorem dL_miles_248 : decode cL_miles 248 = .ok (.iconst 1, 1) := by decide +kernel
theorem dL_miles_249 : decode cL_miles 249 = .ok (.goto 4, 3) := by decide +kernel
theorem dL_miles_252 : decode cL_miles 252 = .ok (.iconst 0, 1) := by decide +kernel
theorem dL_miles_253 : decode cL_miles 253 = .ok (.iload 7, 2) := by decide +kernel
theorem dL_miles_255 : decode cL_miles 255 = .ok (.ifCond .ge 7, 3) := by decide +kernel
theorem dL_miles_258 : decode cL_miles 258 = .ok (.iconst 1, 1) := by decide +kernel
theorem dL_miles_259 : decode cL_miles 259 = .ok (.goto 4, 3) := by decide +kernel
theorem dL_miles_262 : decode cL_miles 262 = .ok (.iconst 0, 1) := by decide +kernel
theorem dL_miles_263 : decode cL_miles 263 = .ok (.if_icmp .ne 59, 3) := by decide +kernel
theorem dL_miles_266 : decode cL_miles 266 = .ok (.aload_n 0, 1) := by decide +kernel
theorem dL_miles_267 : decode cL_miles 267 = .ok (.iload 6, 2) := by decide +kernel
theorem dL_miles_269 : decode cL_miles 269 = .ok (.invokevirtual 145, 3) := by decide +kernel
theorem dL_miles_272 : decode cL_miles 272 = .ok (.fconst 0, 1) := by decide +kernel
theorem dL_miles_273 : decode cL_miles 273 = .ok (.fcmp .g, 1) := by decide +kernel
theorem dL_miles_274 : decode cL_miles 274 = .ok (.ifCond .lt 48, 3) := by decide +kernel
theorem dL_miles_277 : decode cL_miles 277 = .ok (.aload_n 0, 1) := by decide +kernel
theorem dL_miles_278 : decode cL_miles 278 = .ok (.iload 6, 2) := by decide +kernel
theorem dL_miles_280 : decode cL_miles 280 = .ok (.invokevirtual 145, 3) := by decide +kernel
theorem dL_miles_283 : decode cL_miles 283 = .ok (.ldc 201, 2) := by decide +kernel
theorem dL_miles_285 : decode cL_miles 285 = .ok (.fcmp .l, 1) := by decide +kernel
theorem dL_miles_286 : decode cL_miles 286 = .ok (.ifCond .gt 36, 3) := by decide +kernel
theorem dL_miles_289 : decode cL_miles 289 = .ok (.aload_n 0, 1) := by decide +kernel
theorem dL_miles_290 : decode cL_miles 290 = .ok (.iload 6, 2) := by decide +kernel
theorem dL_miles_292 : decode cL_miles 292 = .ok (.iconst 0, 1) := by decide +kernel
theorem dL_miles_293 : decode cL_miles 293 = .ok (.invokestatic 180, 3) := by decide +kernel
theorem dL_miles_296 : decode cL_miles 296 = .ok (.iconst 5, 1) := by decide +kernel
theorem dL_miles_297 : decode cL_miles 297 = .ok (.if_icmp .gt 25, 3) := by decide +kernel
theorem dL_miles_300 : decode cL_miles 300 = .ok (.aload_n 0, 1) := by decide +kernel
theorem dL_miles_301 : decode cL_miles 301 = .ok (.iload 6, 2) := by decide +kernel
theorem dL_miles_303 : decode cL_miles 303 = .ok (.iconst 1, 1) := by decide +kernel
theorem dL_miles_304 : decode cL_miles 304 = .ok (.invokestatic 180, 3) := by decide +kernel
theorem dL_miles_307 : decode cL_miles 307 = .ok (.bipush 19, 2) := by decide +kernel
theorem dL_miles_309 : decode cL_miles 309 = .ok (.if_icmp .gt 13, 3) := by decide +kernel
theorem dL_miles_312 : decode cL_miles 312 = .ok (.aload_n 0, 1) := by decide +kernel
theorem dL_miles_313 : decode cL_miles 313 = .ok (.iload 6, 2) := by decide +kernel
theorem dL_miles_315 : decode cL_miles 315 = .ok (.iconst 1, 1) := by decide +kernel
theorem dL_miles_316 : decode cL_miles 316 = .ok (.invokestatic 180, 3) := by decide +kernel
theorem dL_miles_319 : decode cL_miles 319 = .ok (.ifCond .ge 5, 3) := by decide +kernel
theorem dL_miles_322 : decode cL_miles 322 = .ok (.iconst 0, 1) := by decide +kernel
theorem dL_miles_323 : decode cL_miles 323 = .ok (.ireturn, 1) := by decide +kernel
theorem dL_miles_324 : decode cL_miles 324 = .ok (.fload 10, 2) := by decide +kernel
theorem dL_miles_326 : decode cL_miles 326 = .ok (.aload_n 0, 1) := by decide +kernel
theorem dL_miles_327 : decode cL_miles 327 = .ok (.iload_n 1, 1) := by decide +kernel
theorem dL_miles_328 : decode cL_miles 328 = .ok (.invokestatic 195, 3) := by decide +kernel
theorem dL_miles_331 : decode cL_miles 331 = .ok (.fcmp .g, 1) := by decide +kernel
theorem dL_miles_332 : decode cL_miles 332 = .ok (.ifCond .ge 8, 3) := by decide +kernel
theorem dL_miles_335 : decode cL_miles 335 = .ok (.iload 6, 2) := by decide +kernel
theorem dL_miles_337 : decode cL_miles 337 = .ok (.goto 4, 3) := by decide +kernel
theorem dL_miles_340 : decode cL_miles 340 = .ok (.iload_n 1, 1) := by decide +kernel
theorem dL_miles_341 : decode cL_miles 341 = .ok (.istore_n 1, 1) := by decide +kernel
theorem dL_miles_342 : decode cL_miles 342 = .ok (.iinc 6 1, 3) := by decide +kernel
theorem dL_miles_345 : decode cL_miles 345 = .ok (.goto (-332), 3) := by decide +kernel
theorem dL_miles_348 : decode cL_miles 348 = .ok (.aload_n 0, 1) := by decide +kernel
theorem dL_miles_349 : decode cL_miles 349 = .ok (.invokevirtual 202, 3) := by decide +kernel
theorem dL_miles_352 : decode cL_miles 352 = .ok (.iload_n 1, 1) := by decide +kernel
theorem dL_miles_353 : decode cL_miles 353 = .ok (.if_icmp .ne 45, 3) := by decide +kernel
theorem dL_miles_356 : decode cL_miles 356 = .ok (.aload_n 0, 1) := by decide +kernel
theorem dL_miles_357 : decode cL_miles 357 = .ok (.invokevirtual 205, 3) := by decide +kernel
theorem dL_miles_360 : decode cL_miles 360 = .ok (.dload_n 2, 1) := by decide +kernel
theorem dL_miles_361 : decode cL_miles 361 = .ok (.ldc2_w 209, 3) := by decide +kernel
theorem dL_miles_364 : decode cL_miles 364 = .ok (.ddiv, 1) := by decide +kernel
theorem dL_miles_365 : decode cL_miles 365 = .ok (.invokestatic 211, 3) := by decide +kernel
theorem dL_miles_368 : decode cL_miles 368 = .ok (.lcmp, 1) := by decide +kernel
theorem dL_miles_369 : decode cL_miles 369 = .ok (.ifCond .ne 29, 3) := by decide +kernel
theorem dL_miles_372 : decode cL_miles 372 = .ok (.aload_n 0, 1) := by decide +kernel
theorem dL_miles_373 : decode cL_miles 373 = .ok (.bipush 9, 2) := by decide +kernel
theorem dL_miles_375 : decode cL_miles 375 = .ok (.invokevirtual 182, 3) := by decide +kernel
theorem dL_miles_378 : decode cL_miles 378 = .ok (.iload 4, 2) := by decide +kernel
theorem dL_miles_380 : decode cL_miles 380 = .ok (.if_icmp .ne 18, 3) := by decide +kernel
theorem dL_miles_383 : decode cL_miles 383 = .ok (.aload_n 0, 1) := by decide +kernel
theorem dL_miles_384 : decode cL_miles 384 = .ok (.bipush 10, 2) := by decide +kernel
theorem dL_miles_386 : decode cL_miles 386 = .ok (.invokevirtual 182, 3) := by decide +kernel
theorem dL_miles_389 : decode cL_miles 389 = .ok (.iload 5, 2) := by decide +kernel
theorem dL_miles_391 : decode cL_miles 391 = .ok (.if_icmp .ne 7, 3) := by decide +kernel
theorem dL_miles_394 : decode cL_miles 394 = .ok (.iconst 1, 1) := by decide +kernel
theorem dL_miles_395 : decode cL_miles 395 = .ok (.goto 4, 3) := by decide +kernel
theorem dL_miles_398 : decode cL_miles 398 = .ok (.iconst 0, 1) := by decide +kernel
theorem dL_miles_399 : decode cL_miles 399 = .ok (.ireturn, 1) := by decide +kernel
theorem dL_sums_0 : decode cL_sums 0 = .ok (.bipush 12, 2) := by decide +kernel
theorem dL_sums_2 : decode cL_sums 2 = .ok (.newarray .int, 2) := by decide +kernel
theorem dL_sums_4 : decode cL_sums 4 = .ok (.astore_n 1, 1) := by decide +kernel
theorem dL_sums_5 : decode cL_sums 5 = .ok (.iconst 0, 1) := by decide +kernel
theorem dL_sums_6 : decode cL_sums 6 = .ok (.istore_n 2, 1) := by decide +kernel
theorem dL_sums_7 : decode cL_sums 7 = .ok (.iconst 0, 1) := by decide +kernel
theorem dL_sums_8 : decode cL_sums 8 = .ok (.istore_n 3, 1) := by decide +kernel
theorem dL_sums_9 : decode cL_sums 9 = .ok (.iconst 0, 1) := by decide +kernel
theorem dL_sums_10 : decode cL_sums 10 = .ok (.istore 4, 2) := by decide +kernel
theorem dL_sums_12 : decode cL_sums 12 = .ok (.iload 4, 2) := by decide +kernel
theorem dL_sums_14 : decode cL_sums 14 = .ok (.bipush 10, 2) := by decide +kernel
theorem dL_sums_16 : decode cL_sums 16 = .ok (.if_icmp .ge 46, 3) := by decide +kernel
theorem dL_sums_19 : decode cL_sums 19 = .ok (.aload_n 0, 1) := by decide +kernel
theorem dL_sums_20 : decode cL_sums 20 = .ok (.iload 4, 2) := by decide +kernel
theorem dL_sums_22 : decode cL_sums 22 = .ok (.iconst 5, 1) := by decide +kernel
theorem dL_sums_23 : decode cL_sums 23 = .ok (.idiv, 1) := by decide +kernel
theorem dL_sums_24 : decode cL_sums 24 = .ok (.iload 4, 2) := by decide +kernel
theorem dL_sums_26 : decode cL_sums 26 = .ok (.iconst 5, 1) := by decide +kernel
theorem dL_sums_27 : decode cL_sums 27 = .ok (.irem, 1) := by decide +kernel
theorem dL_sums_28 : decode cL_sums 28 = .ok (.iconst 0, 1) := by decide +kernel
theorem dL_sums_29 : decode cL_sums 29 = .ok (.invokestatic 217, 3) := by decide +kernel
theorem dL_sums_32 : decode cL_sums 32 = .ok (.istore 5, 2) := by decide +kernel
theorem dL_sums_34 : decode cL_sums 34 = .ok (.iload_n 2, 1) := by decide +kernel
theorem dL_sums_35 : decode cL_sums 35 = .ok (.iload 5, 2) := by decide +kernel
theorem dL_sums_37 : decode cL_sums 37 = .ok (.ifCond .le 7, 3) := by decide +kernel
theorem dL_sums_40 : decode cL_sums 40 = .ok (.iconst 1, 1) := by decide +kernel
theorem dL_sums_41 : decode cL_sums 41 = .ok (.goto 4, 3) := by decide +kernel
theorem dL_sums_44 : decode cL_sums 44 = .ok (.iconst 0, 1) := by decide +kernel
theorem dL_sums_45 : decode cL_sums 45 = .ok (.iadd, 1) := by decide +kernel
theorem dL_sums_46 : decode cL_sums 46 = .ok (.istore_n 2, 1) := by decide +kernel
theorem dL_sums_47 : decode cL_sums 47 = .ok (.iload_n 3, 1) := by decide +kernel
theorem dL_sums_48 : decode cL_sums 48 = .ok (.iconst 0, 1) := by decide +kernel
theorem dL_sums_49 : decode cL_sums 49 = .ok (.iload 5, 2) := by decide +kernel
theorem dL_sums_51 : decode cL_sums 51 = .ok (.invokestatic 219, 3) := by decide +kernel
theorem dL_sums_54 : decode cL_sums 54 = .ok (.iadd, 1) := by decide +kernel
theorem dL_sums_55 : decode cL_sums 55 = .ok (.istore_n 3, 1) := by decide +kernel
theorem dL_sums_56 : decode cL_sums 56 = .ok (.iinc 4 1, 3) := by decide +kernel
theorem dL_sums_59 : decode cL_sums 59 = .ok (.goto (-47), 3) := by decide +kernel
theorem dL_sums_62 : decode cL_sums 62 = .ok (.iconst 0, 1) := by decide +kernel
theorem dL_sums_63 : decode cL_sums 63 = .ok (.istore 4, 2) := by decide +kernel
theorem dL_sums_65 : decode cL_sums 65 = .ok (.iconst 0, 1) := by decide +kernel
theorem dL_sums_66 : decode cL_sums 66 = .ok (.istore 5, 2) := by decide +kernel
theorem dL_sums_68 : decode cL_sums 68 = .ok (.iconst 0, 1) := by decide +kernel
theorem dL_sums_69 : decode cL_sums 69 = .ok (.istore 6, 2) := by decide +kernel
theorem dL_sums_71 : decode cL_sums 71 = .ok (.iconst 0, 1) := by decide +kernel
theorem dL_sums_72 : decode cL_sums 72 = .ok (.istore 7, 2) := by decide +kernel
theorem dL_sums_74 : decode cL_sums 74 = .ok (.iconst 0, 1) := by decide +kernel
theorem dL_sums_75 : decode cL_sums 75 = .ok (.istore 8, 2) := by decide +kernel
theorem dL_sums_77 : decode cL_sums 77 = .ok (.iconst 0, 1) := by decide +kernel
theorem dL_sums_78 : decode cL_sums 78 = .ok (.istore 9, 2) := by decide +kernel
theorem dL_sums_80 : decode cL_sums 80 = .ok (.iload 9, 2) := by decide +kernel
theorem dL_sums_82 : decode cL_sums 82 = .ok (.aload_n 0, 1) := by decide +kernel
theorem dL_sums_83 : decode cL_sums 83 = .ok (.iconst 2, 1) := by decide +kernel
theorem dL_sums_84 : decode cL_sums 84 = .ok (.invokevirtual 182, 3) := by decide +kernel
theorem dL_sums_87 : decode cL_sums 87 = .ok (.if_icmp .ge 367, 3) := by decide +kernel
theorem dL_sums_90 : decode cL_sums 90 = .ok (.aload_n 0, 1) := by decide +kernel
theorem dL_sums_91 : decode cL_sums 91 = .ok (.iload 9, 2) := by decide +kernel
theorem dL_sums_93 : decode cL_sums 93 = .ok (.iconst 2, 1) := by decide +kernel
theorem dL_sums_94 : decode cL_sums 94 = .ok (.invokestatic 224, 3) := by decide +kernel
theorem dL_sums_97 : decode cL_sums 97 = .ok (.istore 10, 2) := by decide +kernel
theorem dL_sums_99 : decode cL_sums 99 = .ok (.iconst 0, 1) := by decide +kernel
theorem dL_sums_100 : decode cL_sums 100 = .ok (.istore 11, 2) := by decide +kernel
theorem dL_sums_102 : decode cL_sums 102 = .ok (.iconst 0, 1) := by decide +kernel
theorem dL_sums_103 : decode cL_sums 103 = .ok (.istore 12, 2) := by decide +kernel
theorem dL_sums_105 : decode cL_sums 105 = .ok (.iconst 0, 1) := by decide +kernel
theorem dL_sums_106 : decode cL_sums 106 = .ok (.istore 13, 2) := by decide +kernel
theorem dL_sums_108 : decode cL_sums 108 = .ok (.iload 13, 2) := by decide +kernel
theorem dL_sums_110 : decode cL_sums 110 = .ok (.aload_n 0, 1) := by decide +kernel
theorem dL_sums_111 : decode cL_sums 111 = .ok (.iload 9, 2) := by decide +kernel
theorem dL_sums_113 : decode cL_sums 113 = .ok (.iconst 1, 1) := by decide +kernel
theorem dL_sums_114 : decode cL_sums 114 = .ok (.invokestatic 224, 3) := by decide +kernel
theorem dL_sums_117 : decode cL_sums 117 = .ok (.if_icmp .ge 212, 3) := by decide +kernel
theorem dL_sums_120 : decode cL_sums 120 = .ok (.iload 10, 2) := by decide +kernel
theorem dL_sums_122 : decode cL_sums 122 = .ok (.ifCond .ge 7, 3) := by decide +kernel
theorem dL_sums_125 : decode cL_sums 125 = .ok (.iconst (-1), 1) := by decide +kernel
theorem dL_sums_126 : decode cL_sums 126 = .ok (.goto 18, 3) := by decide +kernel
theorem dL_sums_129 : decode cL_sums 129 = .ok (.iload 10, 2) := by decide +kernel
theorem dL_sums_131 : decode cL_sums 131 = .ok (.iload 13, 2) := by decide +kernel
theorem dL_sums_133 : decode cL_sums 133 = .ok (.iconst 1, 1) := by decide +kernel
theorem dL_sums_134 : decode cL_sums 134 = .ok (.aload_n 0, 1) := by decide +kernel
theorem dL_sums_135 : decode cL_sums 135 = .ok (.iload 9, 2) := by decide +kernel
theorem dL_sums_137 : decode cL_sums 137 = .ok (.iconst 0, 1) := by decide +kernel
theorem dL_sums_138 : decode cL_sums 138 = .ok (.invokestatic 224, 3) := by decide +kernel
theorem dL_sums_141 : decode cL_sums 141 = .ok (.iadd, 1) := by decide +kernel
theorem dL_sums_142 : decode cL_sums 142 = .ok (.imul, 1) := by decide +kernel
theorem dL_sums_143 : decode cL_sums 143 = .ok (.isub, 1) := by decide +kernel
theorem dL_sums_144 : decode cL_sums 144 = .ok (.istore 14, 2) := by decide +kernel
theorem dL_sums_146 : decode cL_sums 146 = .ok (.aload_n 0, 1) := by decide +kernel
theorem dL_sums_147 : decode cL_sums 147 = .ok (.iload 9, 2) := by decide +kernel
theorem dL_sums_149 : decode cL_sums 149 = .ok (.iload 13, 2) := by decide +kernel
theorem dL_sums_151 : decode cL_sums 151 = .ok (.iconst 1, 1) := by decide +kernel
theorem dL_sums_152 : decode cL_sums 152 = .ok (.invokestatic 226, 3) := by decide +kernel
theorem dL_sums_155 : decode cL_sums 155 = .ok (.i2f, 1) := by decide +kernel
theorem dL_sums_156 : decode cL_sums 156 = .ok (.fstore 15, 2) := by decide +kernel
theorem dL_sums_158 : decode cL_sums 158 = .ok (.aload_n 0, 1) := by decide +kernel
theorem dL_sums_159 : decode cL_sums 159 = .ok (.iload 9, 2) := by decide +kernel
theorem dL_sums_161 : decode cL_sums 161 = .ok (.iload 13, 2) := by decide +kernel
theorem dL_sums_163 : decode cL_sums 163 = .ok (.iconst 0, 1) := by decide +kernel
theorem dL_sums_164 : decode cL_sums 164 = .ok (.invokestatic 226, 3) := by decide +kernel
theorem dL_sums_167 : decode cL_sums 167 = .ok (.iconst 1, 1) := by decide +kernel
theorem dL_sums_168 : decode cL_sums 168 = .ok (.if_icmp .ne 22, 3) := by decide +kernel
theorem dL_sums_171 : decode cL_sums 171 = .ok (.fload 15, 2) := by decide +kernel
theorem dL_sums_173 : decode cL_sums 173 = .ok (.ldc 228, 2) := by decide +kernel
theorem dL_sums_175 : decode cL_sums 175 = .ok (.aload_n 0, 1) := by decide +kernel
theorem dL_sums_176 : decode cL_sums 176 = .ok (.iload 9, 2) := by decide +kernel
theorem dL_sums_178 : decode cL_sums 178 = .ok (.iload 13, 2) := by decide +kernel
theorem dL_sums_180 : decode cL_sums 180 = .ok (.iconst 2, 1) := by decide +kernel
theorem dL_sums_181 : decode cL_sums 181 = .ok (.invokestatic 226, 3) := by decide +kernel
theorem dL_sums_184 : decode cL_sums 184 = .ok (.i2f, 1) := by decide +kernel
theorem dL_sums_185 : decode cL_sums 185 = .ok (.fmul, 1) := by decide +kernel
theorem dL_sums_186 : decode cL_sums 186 = .ok (.fadd, 1) := by decide +kernel
theorem dL_sums_187 : decode cL_sums 187 = .ok (.goto 5, 3) := by decide +kernel
theorem dL_sums_190 : decode cL_sums 190 = .ok (.fload 15, 2) := by decide +kernel
theorem dL_sums_192 : decode cL_sums 192 = .ok (.fstore 15, 2) := by decide +kernel
theorem dL_sums_194 : decode cL_sums 194 = .ok (.aload_n 0, 1) := by decide +kernel
theorem dL_sums_195 : decode cL_sums 195 = .ok (.iload 9, 2) := by decide +kernel
theorem dL_sums_197 : decode cL_sums 197 = .ok (.iload 13, 2) := by decide +kernel
theorem dL_sums_199 : decode cL_sums 199 = .ok (.iconst 3, 1) := by decide +kernel
theorem dL_sums_200 : decode cL_sums 200 = .ok (.invokestatic 226, 3) := by decide +kernel
theorem dL_sums_203 : decode cL_sums 203 = .ok (.iload 14, 2) := by decide +kernel
theorem dL_sums_205 : decode cL_sums 205 = .ok (.if_icmp .ne 17, 3) := by decide +kernel
theorem dL_sums_208 : decode cL_sums 208 = .ok (.aload_n 0, 1) := by decide +kernel
theorem dL_sums_209 : decode cL_sums 209 = .ok (.iload 9, 2) := by decide +kernel
theorem dL_sums_211 : decode cL_sums 211 = .ok (.iload 13, 2) := by decide +kernel
theorem dL_sums_213 : decode cL_sums 213 = .ok (.invokevirtual 229, 3) := by decide +kernel
theorem dL_sums_216 : decode cL_sums 216 = .ok (.fload 15, 2) := by decide +kernel
theorem dL_sums_218 : decode cL_sums 218 = .ok (.fcmp .l, 1) := by decide +kernel
theorem dL_sums_219 : decode cL_sums 219 = .ok (.ifCond .eq 5, 3) := by decide +kernel
theorem dL_sums_222 : decode cL_sums 222 = .ok (.iconst 0, 1) := by decide +kernel
theorem dL_sums_223 : decode cL_sums 223 = .ok (.ireturn, 1) := by decide +kernel
theorem dL_sums_224 : decode cL_sums 224 = .ok (.iload 14, 2) := by decide +kernel
theorem dL_sums_226 : decode cL_sums 226 = .ok (.ifCond .lt 32, 3) := by decide +kernel
theorem dL_sums_229 : decode cL_sums 229 = .ok (.iload 14, 2) := by decide +kernel
theorem dL_sums_231 : decode cL_sums 231 = .ok (.bipush 12, 2) := by decide +kernel
theorem dL_sums_233 : decode cL_sums 233 = .ok (.if_icmp .ge 25, 3) := by decide +kernel
theorem dL_sums_236 : decode cL_sums 236 = .ok (.aload_n 1, 1) := by decide +kernel
theorem dL_sums_237 : decode cL_sums 237 = .ok (.iload 14, 2) := by decide +kernel
theorem dL_sums_239 : decode cL_sums 239 = .ok (.dup2, 1) := by decide +kernel
theorem dL_sums_240 : decode cL_sums 240 = .ok (.iaload, 1) := by decide +kernel
theorem dL_sums_241 : decode cL_sums 241 = .ok (.bipush 10, 2) := by decide +kernel
theorem dL_sums_243 : decode cL_sums 243 = .ok (.iload 9, 2) := by decide +kernel
theorem dL_sums_245 : decode cL_sums 245 = .ok (.imul, 1) := by decide +kernel
theorem dL_sums_246 : decode cL_sums 246 = .ok (.iload 13, 2) := by decide +kernel
theorem dL_sums_248 : decode cL_sums 248 = .ok (.iadd, 1) := by decide +kernel
theorem dL_sums_249 : decode cL_sums 249 = .ok (.sipush 1000, 3) := by decide +kernel
theorem dL_sums_252 : decode cL_sums 252 = .ok (.iadd, 1) := by decide +kernel
theorem dL_sums_253 : decode cL_sums 253 = .ok (.iadd, 1) := by decide +kernel
theorem dL_sums_254 : decode cL_sums 254 = .ok (.iastore, 1) := by decide +kernel
theorem dL_sums_255 : decode cL_sums 255 = .ok (.iinc 11 1, 3) := by decide +kernel
theorem dL_sums_258 : decode cL_sums 258 = .ok (.iload 12, 2) := by decide +kernel
theorem dL_sums_260 : decode cL_sums 260 = .ok (.iload 14, 2) := by decide +kernel
theorem dL_sums_262 : decode cL_sums 262 = .ok (.bipush 11, 2) := by decide +kernel
theorem dL_sums_264 : decode cL_sums 264 = .ok (.if_icmp .le 7, 3) := by decide +kernel
theorem dL_sums_267 : decode cL_sums 267 = .ok (.iconst 1, 1) := by decide +kernel
theorem dL_sums_268 : decode cL_sums 268 = .ok (.goto 4, 3) := by decide +kernel
theorem dL_sums_271 : decode cL_sums 271 = .ok (.iconst 0, 1) := by decide +kernel
theorem dL_sums_272 : decode cL_sums 272 = .ok (.iadd, 1) := by decide +kernel
theorem dL_sums_273 : decode cL_sums 273 = .ok (.istore 12, 2) := by decide +kernel
theorem dL_sums_275 : decode cL_sums 275 = .ok (.iload 5, 2) := by decide +kernel
theorem dL_sums_277 : decode cL_sums 277 = .ok (.iload 14, 2) := by decide +kernel
theorem dL_sums_279 : decode cL_sums 279 = .ok (.bipush 11, 2) := by decide +kernel
theorem dL_sums_281 : decode cL_sums 281 = .ok (.if_icmp .le 15, 3) := by decide +kernel
theorem dL_sums_284 : decode cL_sums 284 = .ok (.aload_n 0, 1) := by decide +kernel
theorem dL_sums_285 : decode cL_sums 285 = .ok (.iload 9, 2) := by decide +kernel
theorem dL_sums_287 : decode cL_sums 287 = .ok (.iload 13, 2) := by decide +kernel
theorem dL_sums_289 : decode cL_sums 289 = .ok (.iconst 1, 1) := by decide +kernel
theorem dL_sums_290 : decode cL_sums 290 = .ok (.invokestatic 226, 3) := by decide +kernel
theorem dL_sums_293 : decode cL_sums 293 = .ok (.goto 4, 3) := by decide +kernel
theorem dL_sums_296 : decode cL_sums 296 = .ok (.iconst 0, 1) := by decide +kernel
theorem dL_sums_297 : decode cL_sums 297 = .ok (.iadd, 1) := by decide +kernel
theorem dL_sums_298 : decode cL_sums 298 = .ok (.istore 5, 2) := by decide +kernel
theorem dL_sums_300 : decode cL_sums 300 = .ok (.iload_n 3, 1) := by decide +kernel
theorem dL_sums_301 : decode cL_sums 301 = .ok (.iload 14, 2) := by decide +kernel
theorem dL_sums_303 : decode cL_sums 303 = .ok (.bipush 11, 2) := by decide +kernel
theorem dL_sums_305 : decode cL_sums 305 = .ok (.if_icmp .le 7, 3) := by decide +kernel
theorem dL_sums_308 : decode cL_sums 308 = .ok (.iconst 0, 1) := by decide +kernel
theorem dL_sums_309 : decode cL_sums 309 = .ok (.goto 12, 3) := by decide +kernel
theorem dL_sums_312 : decode cL_sums 312 = .ok (.aload_n 0, 1) := by decide +kernel
theorem dL_sums_313 : decode cL_sums 313 = .ok (.iload 9, 2) := by decide +kernel
theorem dL_sums_315 : decode cL_sums 315 = .ok (.iload 13, 2) := by decide +kernel
theorem dL_sums_317 : decode cL_sums 317 = .ok (.iconst 1, 1) := by decide +kernel
theorem dL_sums_318 : decode cL_sums 318 = .ok (.invokestatic 226, 3) := by decide +kernel
theorem dL_sums_321 : decode cL_sums 321 = .ok (.iadd, 1) := by decide +kernel
theorem dL_sums_322 : decode cL_sums 322 = .ok (.istore_n 3, 1) := by decide +kernel
theorem dL_sums_323 : decode cL_sums 323 = .ok (.iinc 13 1, 3) := by decide +kernel
theorem dL_sums_326 : decode cL_sums 326 = .ok (.goto (-218), 3) := by decide +kernel
theorem dL_sums_329 : decode cL_sums 329 = .ok (.iload 12, 2) := by decide +kernel
theorem dL_sums_331 : decode cL_sums 331 = .ok (.ifCond .le 19, 3) := by decide +kernel
theorem dL_sums_334 : decode cL_sums 334 = .ok (.iload 12, 2) := by decide +kernel
theorem dL_sums_336 : decode cL_sums 336 = .ok (.aload_n 0, 1) := by decide +kernel
theorem dL_sums_337 : decode cL_sums 337 = .ok (.iload 9, 2) := by decide +kernel
theorem dL_sums_339 : decode cL_sums 339 = .ok (.iconst 1, 1) := by decide +kernel
theorem dL_sums_340 : decode cL_sums 340 = .ok (.invokestatic 224, 3) := by decide +kernel
theorem dL_sums_343 : decode cL_sums 343 = .ok (.if_icmp .ne 7, 3) := by decide +kernel
theorem dL_sums_346 : decode cL_sums 346 = .ok (.iconst 1, 1) := by decide +kernel
theorem dL_sums_347 : decode cL_sums 347 = .ok (.goto 4, 3) := by decide +kernel
theorem dL_sums_350 : decode cL_sums 350 = .ok (.iconst 0, 1) := by decide +kernel
theorem dL_sums_351 : decode cL_sums 351 = .ok (.istore 13, 2) := by decide +kernel
theorem dL_sums_353 : decode cL_sums 353 = .ok (.iload 7, 2) := by decide +kernel
theorem dL_sums_355 : decode cL_sums 355 = .ok (.iload 13, 2) := by decide +kernel
theorem dL_sums_357 : decode cL_sums 357 = .ok (.ifCond .eq 7, 3) := by decide +kernel
theorem dL_sums_360 : decode cL_sums 360 = .ok (.iconst 1, 1) := by decide +kernel
theorem dL_sums_361 : decode cL_sums 361 = .ok (.goto 4, 3) := by decide +kernel
theorem dL_sums_364 : decode cL_sums 364 = .ok (.iconst 0, 1) := by decide +kernel
theorem dL_sums_365 : decode cL_sums 365 = .ok (.iadd, 1) := by decide +kernel
theorem dL_sums_366 : decode cL_sums 366 = .ok (.istore 7, 2) := by decide +kernel
theorem dL_sums_368 : decode cL_sums 368 = .ok (.iload 6, 2) := by decide +kernel
theorem dL_sums_370 : decode cL_sums 370 = .ok (.iload 10, 2) := by decide +kernel
theorem dL_sums_372 : decode cL_sums 372 = .ok (.ifCond .lt 12, 3) := by decide +kernel
theorem dL_sums_375 : decode cL_sums 375 = .ok (.iload 13, 2) := by decide +kernel
theorem dL_sums_377 : decode cL_sums 377 = .ok (.ifCond .ne 7, 3) := by decide +kernel
theorem dL_sums_380 : decode cL_sums 380 = .ok (.iconst 1, 1) := by decide +kernel
theorem dL_sums_381 : decode cL_sums 381 = .ok (.goto 4, 3) := by decide +kernel
theorem dL_sums_384 : decode cL_sums 384 = .ok (.iconst 0, 1) := by decide +kernel
theorem dL_sums_385 : decode cL_sums 385 = .ok (.iadd, 1) := by decide +kernel
theorem dL_sums_386 : decode cL_sums 386 = .ok (.istore 6, 2) := by decide +kernel
theorem dL_sums_388 : decode cL_sums 388 = .ok (.iload 8, 2) := by decide +kernel
theorem dL_sums_390 : decode cL_sums 390 = .ok (.iload 11, 2) := by decide +kernel
theorem dL_sums_392 : decode cL_sums 392 = .ok (.iadd, 1) := by decide +kernel
theorem dL_sums_393 : decode cL_sums 393 = .ok (.istore 8, 2) := by decide +kernel
theorem dL_sums_395 : decode cL_sums 395 = .ok (.iload 4, 2) := by decide +kernel
theorem dL_sums_397 : decode cL_sums 397 = .ok (.iload 12, 2) := by decide +kernel
theorem dL_sums_399 : decode cL_sums 399 = .ok (.iadd, 1) := by decide +kernel
theorem dL_sums_400 : decode cL_sums 400 = .ok (.istore 4, 2) := by decide +kernel
theorem dL_sums_402 : decode cL_sums 402 = .ok (.aload_n 0, 1) := by decide +kernel
theorem dL_sums_403 : decode cL_sums 403 = .ok (.iload 9, 2) := by decide +kernel
theorem dL_sums_405 : decode cL_sums 405 = .ok (.iconst 3, 1) := by decide +kernel
theorem dL_sums_406 : decode cL_sums 406 = .ok (.invokestatic 224, 3) := by decide +kernel
theorem dL_sums_409 : decode cL_sums 409 = .ok (.iload 11, 2) := by decide +kernel
theorem dL_sums_411 : decode cL_sums 411 = .ok (.if_icmp .ne 35, 3) := by decide +kernel
theorem dL_sums_414 : decode cL_sums 414 = .ok (.aload_n 0, 1) := by decide +kernel
theorem dL_sums_415 : decode cL_sums 415 = .ok (.iload 9, 2) := by decide +kernel
theorem dL_sums_417 : decode cL_sums 417 = .ok (.iconst 4, 1) := by decide +kernel
theorem dL_sums_418 : decode cL_sums 418 = .ok (.invokestatic 224, 3) := by decide +kernel
theorem dL_sums_421 : decode cL_sums 421 = .ok (.iload 12, 2) := by decide +kernel
theorem dL_sums_423 : decode cL_sums 423 = .ok (.if_icmp .ne 23, 3) := by decide +kernel
theorem dL_sums_426 : decode cL_sums 426 = .ok (.aload_n 0, 1) := by decide +kernel
theorem dL_sums_427 : decode cL_sums 427 = .ok (.iload 9, 2) := by decide +kernel
theorem dL_sums_429 : decode cL_sums 429 = .ok (.iconst 5, 1) := by decide +kernel
theorem dL_sums_430 : decode cL_sums 430 = .ok (.invokestatic 224, 3) := by decide +kernel
theorem dL_sums_433 : decode cL_sums 433 = .ok (.iload 13, 2) := by decide +kernel
theorem dL_sums_435 : decode cL_sums 435 = .ok (.ifCond .eq 7, 3) := by decide +kernel
theorem dL_sums_438 : decode cL_sums 438 = .ok (.iconst 1, 1) := by decide +kernel
theorem dL_sums_439 : decode cL_sums 439 = .ok (.goto 4, 3) := by decide +kernel
theorem dL_sums_442 : decode cL_sums 442 = .ok (.iconst 0, 1) := by decide +kernel
theorem dL_sums_443 : decode cL_sums 443 = .ok (.if_icmp .eq 5, 3) := by decide +kernel
theorem dL_sums_446 : decode cL_sums 446 = .ok (.iconst 0, 1) := by decide +kernel
theorem dL_sums_447 : decode cL_sums 447 = .ok (.ireturn, 1) := by decide +kernel
theorem dL_sums_448 : decode cL_sums 448 = .ok (.iinc 9 1, 3) := by decide +kernel
theorem dL_sums_451 : decode cL_sums 451 = .ok (.goto (-371), 3) := by decide +kernel
theorem dL_sums_454 : decode cL_sums 454 = .ok (.iconst 0, 1) := by decide +kernel
theorem dL_sums_455 : decode cL_sums 455 = .ok (.istore 9, 2) := by decide +kernel
theorem dL_sums_457 : decode cL_sums 457 = .ok (.iload 9, 2) := by decide +kernel
theorem dL_sums_459 : decode cL_sums 459 = .ok (.bipush 12, 2) := by decide +kernel
theorem dL_sums_461 : decode cL_sums 461 = .ok (.if_icmp .ge 50, 3) := by decide +kernel
theorem dL_sums_464 : decode cL_sums 464 = .ok (.aload_n 1, 1) := by decide +kernel
theorem dL_sums_465 : decode cL_sums 465 = .ok (.iload 9, 2) := by decide +kernel
theorem dL_sums_467 : decode cL_sums 467 = .ok (.iaload, 1) := by decide +kernel
theorem dL_sums_468 : decode cL_sums 468 = .ok (.sipush 1999, 3) := by decide +kernel
theorem dL_sums_471 : decode cL_sums 471 = .ok (.if_icmp .gt 32, 3) := by decide +kernel
theorem dL_sums_474 : decode cL_sums 474 = .ok (.aload_n 0, 1) := by decide +kernel
theorem dL_sums_475 : decode cL_sums 475 = .ok (.iload 9, 2) := by decide +kernel
theorem dL_sums_477 : decode cL_sums 477 = .ok (.invokestatic 193, 3) := by decide +kernel
theorem dL_sums_480 : decode cL_sums 480 = .ok (.aload_n 1, 1) := by decide +kernel
theorem dL_sums_481 : decode cL_sums 481 = .ok (.iload 9, 2) := by decide +kernel
theorem dL_sums_483 : decode cL_sums 483 = .ok (.iaload, 1) := by decide +kernel
theorem dL_sums_484 : decode cL_sums 484 = .ok (.ifCond .ne 8, 3) := by decide +kernel
theorem dL_sums_487 : decode cL_sums 487 = .ok (.bipush (-13), 2) := by decide +kernel
theorem dL_sums_489 : decode cL_sums 489 = .ok (.goto 11, 3) := by decide +kernel
theorem dL_sums_492 : decode cL_sums 492 = .ok (.aload_n 1, 1) := by decide +kernel
theorem dL_sums_493 : decode cL_sums 493 = .ok (.iload 9, 2) := by decide +kernel
theorem dL_sums_495 : decode cL_sums 495 = .ok (.iaload, 1) := by decide +kernel
theorem dL_sums_496 : decode cL_sums 496 = .ok (.sipush 1000, 3) := by decide +kernel
theorem dL_sums_499 : decode cL_sums 499 = .ok (.isub, 1) := by decide +kernel
theorem dL_sums_500 : decode cL_sums 500 = .ok (.if_icmp .eq 5, 3) := by decide +kernel
theorem dL_sums_503 : decode cL_sums 503 = .ok (.iconst 0, 1) := by decide +kernel
theorem dL_sums_504 : decode cL_sums 504 = .ok (.ireturn, 1) := by decide +kernel
theorem dL_sums_505 : decode cL_sums 505 = .ok (.iinc 9 1, 3) := by decide +kernel
theorem dL_sums_508 : decode cL_sums 508 = .ok (.goto (-51), 3) := by decide +kernel
theorem dL_sums_511 : decode cL_sums 511 = .ok (.aload_n 0, 1) := by decide +kernel
theorem dL_sums_512 : decode cL_sums 512 = .ok (.bipush 12, 2) := by decide +kernel
theorem dL_sums_514 : decode cL_sums 514 = .ok (.invokevirtual 182, 3) := by decide +kernel
theorem dL_sums_517 : decode cL_sums 517 = .ok (.ifCond .eq 22, 3) := by decide +kernel
theorem dL_sums_520 : decode cL_sums 520 = .ok (.aload_n 0, 1) := by decide +kernel
theorem dL_sums_521 : decode cL_sums 521 = .ok (.invokevirtual 233, 3) := by decide +kernel
theorem dL_sums_524 : decode cL_sums 524 = .ok (.iload 5, 2) := by decide +kernel
theorem dL_sums_526 : decode cL_sums 526 = .ok (.i2f, 1) := by decide +kernel
theorem dL_sums_527 : decode cL_sums 527 = .ok (.aload_n 0, 1) := by decide +kernel
theorem dL_sums_528 : decode cL_sums 528 = .ok (.bipush 12, 2) := by decide +kernel
theorem dL_sums_530 : decode cL_sums 530 = .ok (.invokevirtual 182, 3) := by decide +kernel
theorem dL_sums_533 : decode cL_sums 533 = .ok (.i2f, 1) := by decide +kernel
theorem dL_sums_534 : decode cL_sums 534 = .ok (.fdiv, 1) := by decide +kernel
theorem dL_sums_535 : decode cL_sums 535 = .ok (.fcmp .l, 1) := by decide +kernel
theorem dL_sums_536 : decode cL_sums 536 = .ok (.ifCond .ne 7, 3) := by decide +kernel
theorem dL_sums_539 : decode cL_sums 539 = .ok (.iconst 1, 1) := by decide +kernel
theorem dL_sums_540 : decode cL_sums 540 = .ok (.goto 4, 3) := by decide +kernel
theorem dL_sums_543 : decode cL_sums 543 = .ok (.iconst 0, 1) := by decide +kernel
theorem dL_sums_544 : decode cL_sums 544 = .ok (.istore 9, 2) := by decide +kernel
theorem dL_sums_546 : decode cL_sums 546 = .ok (.aload_n 0, 1) := by decide +kernel
theorem dL_sums_547 : decode cL_sums 547 = .ok (.invokevirtual 237, 3) := by decide +kernel
theorem dL_sums_550 : decode cL_sums 550 = .ok (.ifCond .eq 96, 3) := by decide +kernel
theorem dL_sums_553 : decode cL_sums 553 = .ok (.aload_n 0, 1) := by decide +kernel
theorem dL_sums_554 : decode cL_sums 554 = .ok (.iconst 1, 1) := by decide +kernel
theorem dL_sums_555 : decode cL_sums 555 = .ok (.invokevirtual 182, 3) := by decide +kernel
theorem dL_sums_558 : decode cL_sums 558 = .ok (.iload_n 2, 1) := by decide +kernel
theorem dL_sums_559 : decode cL_sums 559 = .ok (.if_icmp .ne 87, 3) := by decide +kernel
theorem dL_sums_562 : decode cL_sums 562 = .ok (.aload_n 0, 1) := by decide +kernel
theorem dL_sums_563 : decode cL_sums 563 = .ok (.iconst 3, 1) := by decide +kernel
theorem dL_sums_564 : decode cL_sums 564 = .ok (.invokevirtual 182, 3) := by decide +kernel
theorem dL_sums_567 : decode cL_sums 567 = .ok (.iload 6, 2) := by decide +kernel
theorem dL_sums_569 : decode cL_sums 569 = .ok (.if_icmp .ne 77, 3) := by decide +kernel
theorem dL_sums_572 : decode cL_sums 572 = .ok (.aload_n 0, 1) := by decide +kernel
theorem dL_sums_573 : decode cL_sums 573 = .ok (.iconst 4, 1) := by decide +kernel
theorem dL_sums_574 : decode cL_sums 574 = .ok (.invokevirtual 182, 3) := by decide +kernel
theorem dL_sums_577 : decode cL_sums 577 = .ok (.iload 7, 2) := by decide +kernel
theorem dL_sums_579 : decode cL_sums 579 = .ok (.if_icmp .ne 67, 3) := by decide +kernel
theorem dL_sums_582 : decode cL_sums 582 = .ok (.aload_n 0, 1) := by decide +kernel
theorem dL_sums_583 : decode cL_sums 583 = .ok (.iconst 5, 1) := by decide +kernel
theorem dL_sums_584 : decode cL_sums 584 = .ok (.invokevirtual 182, 3) := by decide +kernel
theorem dL_sums_587 : decode cL_sums 587 = .ok (.iload 8, 2) := by decide +kernel
theorem dL_sums_589 : decode cL_sums 589 = .ok (.if_icmp .ne 57, 3) := by decide +kernel
theorem dL_sums_592 : decode cL_sums 592 = .ok (.aload_n 0, 1) := by decide +kernel
theorem dL_sums_593 : decode cL_sums 593 = .ok (.bipush 6, 2) := by decide +kernel
theorem dL_sums_595 : decode cL_sums 595 = .ok (.invokevirtual 182, 3) := by decide +kernel
theorem dL_sums_598 : decode cL_sums 598 = .ok (.iload 4, 2) := by decide +kernel
theorem dL_sums_600 : decode cL_sums 600 = .ok (.if_icmp .ne 46, 3) := by decide +kernel
theorem dL_sums_603 : decode cL_sums 603 = .ok (.aload_n 0, 1) := by decide +kernel
theorem dL_sums_604 : decode cL_sums 604 = .ok (.bipush 7, 2) := by decide +kernel
theorem dL_sums_606 : decode cL_sums 606 = .ok (.invokevirtual 182, 3) := by decide +kernel
theorem dL_sums_609 : decode cL_sums 609 = .ok (.iload 5, 2) := by decide +kernel
theorem dL_sums_611 : decode cL_sums 611 = .ok (.if_icmp .ne 35, 3) := by decide +kernel
theorem dL_sums_614 : decode cL_sums 614 = .ok (.aload_n 0, 1) := by decide +kernel
theorem dL_sums_615 : decode cL_sums 615 = .ok (.bipush 8, 2) := by decide +kernel
theorem dL_sums_617 : decode cL_sums 617 = .ok (.invokevirtual 182, 3) := by decide +kernel
theorem dL_sums_620 : decode cL_sums 620 = .ok (.iload_n 3, 1) := by decide +kernel
theorem dL_sums_621 : decode cL_sums 621 = .ok (.if_icmp .ne 25, 3) := by decide +kernel
theorem dL_sums_624 : decode cL_sums 624 = .ok (.aload_n 0, 1) := by decide +kernel
theorem dL_sums_625 : decode cL_sums 625 = .ok (.bipush 12, 2) := by decide +kernel
theorem dL_sums_627 : decode cL_sums 627 = .ok (.invokevirtual 182, 3) := by decide +kernel
theorem dL_sums_630 : decode cL_sums 630 = .ok (.iload_n 3, 1) := by decide +kernel
theorem dL_sums_631 : decode cL_sums 631 = .ok (.iload 5, 2) := by decide +kernel
theorem dL_sums_633 : decode cL_sums 633 = .ok (.iadd, 1) := by decide +kernel
theorem dL_sums_634 : decode cL_sums 634 = .ok (.if_icmp .ne 12, 3) := by decide +kernel
theorem dL_sums_637 : decode cL_sums 637 = .ok (.iload 9, 2) := by decide +kernel
theorem dL_sums_639 : decode cL_sums 639 = .ok (.ifCond .eq 7, 3) := by decide +kernel
theorem dL_sums_642 : decode cL_sums 642 = .ok (.iconst 1, 1) := by decide +kernel
theorem dL_sums_643 : decode cL_sums 643 = .ok (.goto 4, 3) := by decide +kernel
theorem dL_sums_646 : decode cL_sums 646 = .ok (.iconst 0, 1) := by decide +kernel
theorem dL_sums_647 : decode cL_sums 647 = .ok (.ireturn, 1) := by decide +kernel
theorem dL_expected_0 : decode cL_expected 0 = .ok (.iconst 0, 1) := by decide +kernel
theorem dL_expected_1 : decode cL_expected 1 = .ok (.istore_n 3, 1) := by decide +kernel
theorem dL_expected_2 : decode cL_expected 2 = .ok (.iconst 0, 1) := by decide +kernel
theorem dL_expected_3 : decode cL_expected 3 = .ok (.istore 4, 2) := by decide +kernel
theorem dL_expected_5 : decode cL_expected 5 = .ok (.iload 4, 2) := by decide +kernel
theorem dL_expected_7 : decode cL_expected 7 = .ok (.aload_n 0, 1) := by decide +kernel
theorem dL_expected_8 : decode cL_expected 8 = .ok (.iload_n 1, 1) := by decide +kernel
theorem dL_expected_9 : decode cL_expected 9 = .ok (.iconst 1, 1) := by decide +kernel
theorem dL_expected_10 : decode cL_expected 10 = .ok (.invokestatic 224, 3) := by decide +kernel
theorem dL_expected_13 : decode cL_expected 13 = .ok (.if_icmp .ge 114, 3) := by decide +kernel
theorem dL_expected_16 : decode cL_expected 16 = .ok (.iload_n 2, 1) := by decide +kernel
theorem dL_expected_17 : decode cL_expected 17 = .ok (.iload 4, 2) := by decide +kernel
theorem dL_expected_19 : decode cL_expected 19 = .ok (.iconst 1, 1) := by decide +kernel
theorem dL_expected_20 : decode cL_expected 20 = .ok (.aload_n 0, 1) := by decide +kernel
theorem dL_expected_21 : decode cL_expected 21 = .ok (.iload_n 1, 1) := by decide +kernel
theorem dL_expected_22 : decode cL_expected 22 = .ok (.iconst 0, 1) := by decide +kernel
theorem dL_expected_23 : decode cL_expected 23 = .ok (.invokestatic 224, 3) := by decide +kernel
theorem dL_expected_26 : decode cL_expected 26 = .ok (.iadd, 1) := by decide +kernel
theorem dL_expected_27 : decode cL_expected 27 = .ok (.imul, 1) := by decide +kernel
theorem dL_expected_28 : decode cL_expected 28 = .ok (.isub, 1) := by decide +kernel
theorem dL_expected_29 : decode cL_expected 29 = .ok (.istore 5, 2) := by decide +kernel
theorem dL_expected_31 : decode cL_expected 31 = .ok (.iload 5, 2) := by decide +kernel
theorem dL_expected_33 : decode cL_expected 33 = .ok (.ifCond .lt 14, 3) := by decide +kernel
theorem dL_expected_36 : decode cL_expected 36 = .ok (.iload 5, 2) := by decide +kernel
theorem dL_expected_38 : decode cL_expected 38 = .ok (.bipush 12, 2) := by decide +kernel
theorem dL_expected_40 : decode cL_expected 40 = .ok (.if_icmp .ge 7, 3) := by decide +kernel
theorem dL_expected_43 : decode cL_expected 43 = .ok (.iconst 1, 1) := by decide +kernel
theorem dL_expected_44 : decode cL_expected 44 = .ok (.goto 4, 3) := by decide +kernel
theorem dL_expected_47 : decode cL_expected 47 = .ok (.iconst 0, 1) := by decide +kernel
theorem dL_expected_48 : decode cL_expected 48 = .ok (.istore 6, 2) := by decide +kernel
theorem dL_expected_50 : decode cL_expected 50 = .ok (.iload 6, 2) := by decide +kernel
theorem dL_expected_52 : decode cL_expected 52 = .ok (.ifCond .eq 32, 3) := by decide +kernel
theorem dL_expected_55 : decode cL_expected 55 = .ok (.aload_n 0, 1) := by decide +kernel
theorem dL_expected_56 : decode cL_expected 56 = .ok (.iload 5, 2) := by decide +kernel
theorem dL_expected_58 : decode cL_expected 58 = .ok (.invokestatic 193, 3) := by decide +kernel
theorem dL_expected_61 : decode cL_expected 61 = .ok (.ifCond .lt 23, 3) := by decide +kernel
theorem dL_expected_64 : decode cL_expected 64 = .ok (.aload_n 0, 1) := by decide +kernel
theorem dL_expected_65 : decode cL_expected 65 = .ok (.iload 5, 2) := by decide +kernel
theorem dL_expected_67 : decode cL_expected 67 = .ok (.invokestatic 193, 3) := by decide +kernel
theorem dL_expected_70 : decode cL_expected 70 = .ok (.bipush 10, 2) := by decide +kernel
theorem dL_expected_72 : decode cL_expected 72 = .ok (.idiv, 1) := by decide +kernel
theorem dL_expected_73 : decode cL_expected 73 = .ok (.iload_n 1, 1) := by decide +kernel
theorem dL_expected_74 : decode cL_expected 74 = .ok (.if_icmp .eq 10, 3) := by decide +kernel
theorem dL_expected_77 : decode cL_expected 77 = .ok (.sipush 700, 3) := by decide +kernel
theorem dL_expected_80 : decode cL_expected 80 = .ok (.iload 5, 2) := by decide +kernel
theorem dL_expected_82 : decode cL_expected 82 = .ok (.iadd, 1) := by decide +kernel
theorem dL_expected_83 : decode cL_expected 83 = .ok (.ireturn, 1) := by decide +kernel
theorem dL_expected_84 : decode cL_expected 84 = .ok (.iload 6, 2) := by decide +kernel
theorem dL_expected_86 : decode cL_expected 86 = .ok (.ifCond .eq 33, 3) := by decide +kernel
theorem dL_expected_89 : decode cL_expected 89 = .ok (.iload_n 3, 1) := by decide +kernel
theorem dL_expected_90 : decode cL_expected 90 = .ok (.ifCond .ne 29, 3) := by decide +kernel
theorem dL_expected_93 : decode cL_expected 93 = .ok (.aload_n 0, 1) := by decide +kernel
theorem dL_expected_94 : decode cL_expected 94 = .ok (.iload 5, 2) := by decide +kernel
theorem dL_expected_96 : decode cL_expected 96 = .ok (.invokestatic 195, 3) := by decide +kernel
theorem dL_expected_99 : decode cL_expected 99 = .ok (.aload_n 0, 1) := by decide +kernel
theorem dL_expected_100 : decode cL_expected 100 = .ok (.iload_n 1, 1) := by decide +kernel
theorem dL_expected_101 : decode cL_expected 101 = .ok (.iload 4, 2) := by decide +kernel
theorem dL_expected_103 : decode cL_expected 103 = .ok (.invokevirtual 229, 3) := by decide +kernel
theorem dL_expected_106 : decode cL_expected 106 = .ok (.fcmp .g, 1) := by decide +kernel
theorem dL_expected_107 : decode cL_expected 107 = .ok (.ifCond .ge 12, 3) := by decide +kernel
theorem dL_expected_110 : decode cL_expected 110 = .ok (.sipush 800, 3) := by decide +kernel
theorem dL_expected_113 : decode cL_expected 113 = .ok (.iload 5, 2) := by decide +kernel
theorem dL_expected_115 : decode cL_expected 115 = .ok (.iadd, 1) := by decide +kernel
theorem dL_expected_116 : decode cL_expected 116 = .ok (.goto 4, 3) := by decide +kernel
theorem dL_expected_119 : decode cL_expected 119 = .ok (.iload_n 3, 1) := by decide +kernel
theorem dL_expected_120 : decode cL_expected 120 = .ok (.istore_n 3, 1) := by decide +kernel
theorem dL_expected_121 : decode cL_expected 121 = .ok (.iinc 4 1, 3) := by decide +kernel
theorem dL_expected_124 : decode cL_expected 124 = .ok (.goto (-119), 3) := by decide +kernel
theorem dL_expected_127 : decode cL_expected 127 = .ok (.iload_n 3, 1) := by decide +kernel
theorem dL_expected_128 : decode cL_expected 128 = .ok (.ireturn, 1) := by decide +kernel
theorem dL_reasons_0 : decode cL_reasons 0 = .ok (.iconst 0, 1) := by decide +kernel
theorem dL_reasons_1 : decode cL_reasons 1 = .ok (.istore_n 1, 1) := by decide +kernel
theorem dL_reasons_2 : decode cL_reasons 2 = .ok (.iload_n 1, 1) := by decide +kernel
theorem dL_reasons_3 : decode cL_reasons 3 = .ok (.aload_n 0, 1) := by decide +kernel
theorem dL_reasons_4 : decode cL_reasons 4 = .ok (.iconst 2, 1) := by decide +kernel
theorem dL_reasons_5 : decode cL_reasons 5 = .ok (.invokevirtual 182, 3) := by decide +kernel
theorem dL_reasons_8 : decode cL_reasons 8 = .ok (.if_icmp .ge 351, 3) := by decide +kernel
theorem dL_reasons_11 : decode cL_reasons 11 = .ok (.aload_n 0, 1) := by decide +kernel
theorem dL_reasons_12 : decode cL_reasons 12 = .ok (.iload_n 1, 1) := by decide +kernel
theorem dL_reasons_13 : decode cL_reasons 13 = .ok (.iconst 2, 1) := by decide +kernel
theorem dL_reasons_14 : decode cL_reasons 14 = .ok (.invokestatic 224, 3) := by decide +kernel
theorem dL_reasons_17 : decode cL_reasons 17 = .ok (.istore_n 2, 1) := by decide +kernel
theorem dL_reasons_18 : decode cL_reasons 18 = .ok (.iload_n 2, 1) := by decide +kernel
theorem dL_reasons_19 : decode cL_reasons 19 = .ok (.ifCond .ge 11, 3) := by decide +kernel
theorem dL_reasons_22 : decode cL_reasons 22 = .ok (.sipush 400, 3) := by decide +kernel
theorem dL_reasons_25 : decode cL_reasons 25 = .ok (.iload_n 1, 1) := by decide +kernel
theorem dL_reasons_26 : decode cL_reasons 26 = .ok (.iadd, 1) := by decide +kernel
theorem dL_reasons_27 : decode cL_reasons 27 = .ok (.goto 29, 3) := by decide +kernel
theorem dL_reasons_30 : decode cL_reasons 30 = .ok (.aload_n 0, 1) := by decide +kernel
theorem dL_reasons_31 : decode cL_reasons 31 = .ok (.iload_n 1, 1) := by decide +kernel
theorem dL_reasons_32 : decode cL_reasons 32 = .ok (.iconst 5, 1) := by decide +kernel
theorem dL_reasons_33 : decode cL_reasons 33 = .ok (.invokestatic 224, 3) := by decide +kernel
theorem dL_reasons_36 : decode cL_reasons 36 = .ok (.iconst 1, 1) := by decide +kernel
theorem dL_reasons_37 : decode cL_reasons 37 = .ok (.if_icmp .ne 11, 3) := by decide +kernel
theorem dL_reasons_40 : decode cL_reasons 40 = .ok (.sipush 600, 3) := by decide +kernel
theorem dL_reasons_43 : decode cL_reasons 43 = .ok (.iload_n 1, 1) := by decide +kernel
theorem dL_reasons_44 : decode cL_reasons 44 = .ok (.iadd, 1) := by decide +kernel
theorem dL_reasons_45 : decode cL_reasons 45 = .ok (.goto 11, 3) := by decide +kernel
theorem dL_reasons_48 : decode cL_reasons 48 = .ok (.aload_n 0, 1) := by decide +kernel
theorem dL_reasons_49 : decode cL_reasons 49 = .ok (.iload_n 1, 1) := by decide +kernel
theorem dL_reasons_50 : decode cL_reasons 50 = .ok (.iload_n 2, 1) := by decide +kernel
theorem dL_reasons_51 : decode cL_reasons 51 = .ok (.iconst 1, 1) := by decide +kernel
theorem dL_reasons_52 : decode cL_reasons 52 = .ok (.iadd, 1) := by decide +kernel
theorem dL_reasons_53 : decode cL_reasons 53 = .ok (.invokestatic 241, 3) := by decide +kernel
theorem dL_reasons_56 : decode cL_reasons 56 = .ok (.istore_n 3, 1) := by decide +kernel
theorem dL_reasons_57 : decode cL_reasons 57 = .ok (.iconst 0, 1) := by decide +kernel
theorem dL_reasons_58 : decode cL_reasons 58 = .ok (.istore 4, 2) := by decide +kernel
theorem dL_reasons_60 : decode cL_reasons 60 = .ok (.iconst 0, 1) := by decide +kernel
theorem dL_reasons_61 : decode cL_reasons 61 = .ok (.istore 5, 2) := by decide +kernel
theorem dL_reasons_63 : decode cL_reasons 63 = .ok (.iload 5, 2) := by decide +kernel
theorem dL_reasons_65 : decode cL_reasons 65 = .ok (.aload_n 0, 1) := by decide +kernel
theorem dL_reasons_66 : decode cL_reasons 66 = .ok (.iload_n 1, 1) := by decide +kernel
theorem dL_reasons_67 : decode cL_reasons 67 = .ok (.iconst 1, 1) := by decide +kernel
theorem dL_reasons_68 : decode cL_reasons 68 = .ok (.invokestatic 224, 3) := by decide +kernel
theorem dL_reasons_71 : decode cL_reasons 71 = .ok (.if_icmp .ge 48, 3) := by decide +kernel
theorem dL_reasons_74 : decode cL_reasons 74 = .ok (.iload_n 2, 1) := by decide +kernel
theorem dL_reasons_75 : decode cL_reasons 75 = .ok (.iconst 1, 1) := by decide +kernel
theorem dL_reasons_76 : decode cL_reasons 76 = .ok (.iadd, 1) := by decide +kernel
theorem dL_reasons_77 : decode cL_reasons 77 = .ok (.iload 5, 2) := by decide +kernel
theorem dL_reasons_79 : decode cL_reasons 79 = .ok (.iconst 1, 1) := by decide +kernel
theorem dL_reasons_80 : decode cL_reasons 80 = .ok (.aload_n 0, 1) := by decide +kernel
theorem dL_reasons_81 : decode cL_reasons 81 = .ok (.iload_n 1, 1) := by decide +kernel
theorem dL_reasons_82 : decode cL_reasons 82 = .ok (.iconst 0, 1) := by decide +kernel
theorem dL_reasons_83 : decode cL_reasons 83 = .ok (.invokestatic 224, 3) := by decide +kernel
theorem dL_reasons_86 : decode cL_reasons 86 = .ok (.iadd, 1) := by decide +kernel
theorem dL_reasons_87 : decode cL_reasons 87 = .ok (.imul, 1) := by decide +kernel
theorem dL_reasons_88 : decode cL_reasons 88 = .ok (.isub, 1) := by decide +kernel
theorem dL_reasons_89 : decode cL_reasons 89 = .ok (.istore 6, 2) := by decide +kernel
theorem dL_reasons_91 : decode cL_reasons 91 = .ok (.iload 4, 2) := by decide +kernel
theorem dL_reasons_93 : decode cL_reasons 93 = .ok (.iload 6, 2) := by decide +kernel
theorem dL_reasons_95 : decode cL_reasons 95 = .ok (.ifCond .lt 14, 3) := by decide +kernel
theorem dL_reasons_98 : decode cL_reasons 98 = .ok (.iload 6, 2) := by decide +kernel
theorem dL_reasons_100 : decode cL_reasons 100 = .ok (.bipush 12, 2) := by decide +kernel
theorem dL_reasons_102 : decode cL_reasons 102 = .ok (.if_icmp .ge 7, 3) := by decide +kernel
theorem dL_reasons_105 : decode cL_reasons 105 = .ok (.iconst 1, 1) := by decide +kernel
theorem dL_reasons_106 : decode cL_reasons 106 = .ok (.goto 4, 3) := by decide +kernel
theorem dL_reasons_109 : decode cL_reasons 109 = .ok (.iconst 0, 1) := by decide +kernel
theorem dL_reasons_110 : decode cL_reasons 110 = .ok (.iadd, 1) := by decide +kernel
theorem dL_reasons_111 : decode cL_reasons 111 = .ok (.istore 4, 2) := by decide +kernel
theorem dL_reasons_113 : decode cL_reasons 113 = .ok (.iinc 5 1, 3) := by decide +kernel
theorem dL_reasons_116 : decode cL_reasons 116 = .ok (.goto (-53), 3) := by decide +kernel
theorem dL_reasons_119 : decode cL_reasons 119 = .ok (.aload_n 0, 1) := by decide +kernel
theorem dL_reasons_120 : decode cL_reasons 120 = .ok (.iload_n 1, 1) := by decide +kernel
theorem dL_reasons_121 : decode cL_reasons 121 = .ok (.iconst 0, 1) := by decide +kernel
theorem dL_reasons_122 : decode cL_reasons 122 = .ok (.invokestatic 244, 3) := by decide +kernel
theorem dL_reasons_125 : decode cL_reasons 125 = .ok (.iload_n 3, 1) := by decide +kernel
theorem dL_reasons_126 : decode cL_reasons 126 = .ok (.bipush 100, 2) := by decide +kernel
theorem dL_reasons_128 : decode cL_reasons 128 = .ok (.idiv, 1) := by decide +kernel
theorem dL_reasons_129 : decode cL_reasons 129 = .ok (.if_icmp .ne 16, 3) := by decide +kernel
theorem dL_reasons_132 : decode cL_reasons 132 = .ok (.aload_n 0, 1) := by decide +kernel
theorem dL_reasons_133 : decode cL_reasons 133 = .ok (.iload_n 1, 1) := by decide +kernel
theorem dL_reasons_134 : decode cL_reasons 134 = .ok (.iconst 1, 1) := by decide +kernel
theorem dL_reasons_135 : decode cL_reasons 135 = .ok (.invokestatic 244, 3) := by decide +kernel
theorem dL_reasons_138 : decode cL_reasons 138 = .ok (.iload_n 3, 1) := by decide +kernel
theorem dL_reasons_139 : decode cL_reasons 139 = .ok (.bipush 100, 2) := by decide +kernel
theorem dL_reasons_141 : decode cL_reasons 141 = .ok (.irem, 1) := by decide +kernel
theorem dL_reasons_142 : decode cL_reasons 142 = .ok (.if_icmp .eq 5, 3) := by decide +kernel
theorem dL_reasons_145 : decode cL_reasons 145 = .ok (.iconst 0, 1) := by decide +kernel
theorem dL_reasons_146 : decode cL_reasons 146 = .ok (.ireturn, 1) := by decide +kernel
theorem dL_reasons_147 : decode cL_reasons 147 = .ok (.aload_n 0, 1) := by decide +kernel
theorem dL_reasons_148 : decode cL_reasons 148 = .ok (.iload_n 1, 1) := by decide +kernel
theorem dL_reasons_149 : decode cL_reasons 149 = .ok (.invokestatic 154, 3) := by decide +kernel
theorem dL_reasons_152 : decode cL_reasons 152 = .ok (.istore 5, 2) := by decide +kernel
theorem dL_reasons_154 : decode cL_reasons 154 = .ok (.iload_n 3, 1) := by decide +kernel
theorem dL_reasons_155 : decode cL_reasons 155 = .ok (.ifCond .le 37, 3) := by decide +kernel
theorem dL_reasons_158 : decode cL_reasons 158 = .ok (.iload 5, 2) := by decide +kernel
theorem dL_reasons_160 : decode cL_reasons 160 = .ok (.bipush (-2), 2) := by decide +kernel
theorem dL_reasons_162 : decode cL_reasons 162 = .ok (.if_icmp .ne 63, 3) := by decide +kernel
theorem dL_reasons_165 : decode cL_reasons 165 = .ok (.aload_n 0, 1) := by decide +kernel
theorem dL_reasons_166 : decode cL_reasons 166 = .ok (.iconst 0, 1) := by decide +kernel
theorem dL_reasons_167 : decode cL_reasons 167 = .ok (.invokestatic 156, 3) := by decide +kernel
theorem dL_reasons_170 : decode cL_reasons 170 = .ok (.iload_n 3, 1) := by decide +kernel
theorem dL_reasons_171 : decode cL_reasons 171 = .ok (.bipush 100, 2) := by decide +kernel
theorem dL_reasons_173 : decode cL_reasons 173 = .ok (.idiv, 1) := by decide +kernel
theorem dL_reasons_174 : decode cL_reasons 174 = .ok (.if_icmp .ne 51, 3) := by decide +kernel
theorem dL_reasons_177 : decode cL_reasons 177 = .ok (.aload_n 0, 1) := by decide +kernel
theorem dL_reasons_178 : decode cL_reasons 178 = .ok (.iconst 1, 1) := by decide +kernel
theorem dL_reasons_179 : decode cL_reasons 179 = .ok (.invokestatic 156, 3) := by decide +kernel
theorem dL_reasons_182 : decode cL_reasons 182 = .ok (.iload_n 3, 1) := by decide +kernel
theorem dL_reasons_183 : decode cL_reasons 183 = .ok (.bipush 100, 2) := by decide +kernel
theorem dL_reasons_185 : decode cL_reasons 185 = .ok (.irem, 1) := by decide +kernel
theorem dL_reasons_186 : decode cL_reasons 186 = .ok (.if_icmp .eq 41, 3) := by decide +kernel
theorem dL_reasons_189 : decode cL_reasons 189 = .ok (.goto 36, 3) := by decide +kernel
theorem dL_reasons_192 : decode cL_reasons 192 = .ok (.iload 5, 2) := by decide +kernel
theorem dL_reasons_194 : decode cL_reasons 194 = .ok (.iload 4, 2) := by decide +kernel
theorem dL_reasons_196 : decode cL_reasons 196 = .ok (.if_icmp .ne 29, 3) := by decide +kernel
theorem dL_reasons_199 : decode cL_reasons 199 = .ok (.aload_n 0, 1) := by decide +kernel
theorem dL_reasons_200 : decode cL_reasons 200 = .ok (.iload_n 1, 1) := by decide +kernel
theorem dL_reasons_201 : decode cL_reasons 201 = .ok (.iconst 2, 1) := by decide +kernel
theorem dL_reasons_202 : decode cL_reasons 202 = .ok (.invokestatic 224, 3) := by decide +kernel
theorem dL_reasons_205 : decode cL_reasons 205 = .ok (.iload_n 2, 1) := by decide +kernel
theorem dL_reasons_206 : decode cL_reasons 206 = .ok (.iconst 1, 1) := by decide +kernel
theorem dL_reasons_207 : decode cL_reasons 207 = .ok (.iadd, 1) := by decide +kernel
theorem dL_reasons_208 : decode cL_reasons 208 = .ok (.if_icmp .ne 17, 3) := by decide +kernel
theorem dL_reasons_211 : decode cL_reasons 211 = .ok (.aload_n 0, 1) := by decide +kernel
theorem dL_reasons_212 : decode cL_reasons 212 = .ok (.invokestatic 167, 3) := by decide +kernel
theorem dL_reasons_215 : decode cL_reasons 215 = .ok (.ifCond .eq 10, 3) := by decide +kernel
theorem dL_reasons_218 : decode cL_reasons 218 = .ok (.aload_n 0, 1) := by decide +kernel
theorem dL_reasons_219 : decode cL_reasons 219 = .ok (.invokestatic 247, 3) := by decide +kernel
theorem dL_reasons_222 : decode cL_reasons 222 = .ok (.ifCond .ge 5, 3) := by decide +kernel
theorem dL_reasons_225 : decode cL_reasons 225 = .ok (.iconst 0, 1) := by decide +kernel
theorem dL_reasons_226 : decode cL_reasons 226 = .ok (.ireturn, 1) := by decide +kernel
theorem dL_reasons_227 : decode cL_reasons 227 = .ok (.iload_n 2, 1) := by decide +kernel
theorem dL_reasons_228 : decode cL_reasons 228 = .ok (.ifCond .lt 11, 3) := by decide +kernel
theorem dL_reasons_231 : decode cL_reasons 231 = .ok (.sipush 400, 3) := by decide +kernel
theorem dL_reasons_234 : decode cL_reasons 234 = .ok (.iload_n 1, 1) := by decide +kernel
theorem dL_reasons_235 : decode cL_reasons 235 = .ok (.iadd, 1) := by decide +kernel
theorem dL_reasons_236 : decode cL_reasons 236 = .ok (.goto 26, 3) := by decide +kernel
theorem dL_reasons_239 : decode cL_reasons 239 = .ok (.aload_n 0, 1) := by decide +kernel
theorem dL_reasons_240 : decode cL_reasons 240 = .ok (.iload_n 1, 1) := by decide +kernel
theorem dL_reasons_241 : decode cL_reasons 241 = .ok (.iconst 1, 1) := by decide +kernel
theorem dL_reasons_242 : decode cL_reasons 242 = .ok (.invokestatic 224, 3) := by decide +kernel
theorem dL_reasons_245 : decode cL_reasons 245 = .ok (.ifCond .ne 11, 3) := by decide +kernel
theorem dL_reasons_248 : decode cL_reasons 248 = .ok (.sipush 500, 3) := by decide +kernel
theorem dL_reasons_251 : decode cL_reasons 251 = .ok (.iload_n 1, 1) := by decide +kernel
theorem dL_reasons_252 : decode cL_reasons 252 = .ok (.iadd, 1) := by decide +kernel
theorem dL_reasons_253 : decode cL_reasons 253 = .ok (.goto 9, 3) := by decide +kernel
theorem dL_reasons_256 : decode cL_reasons 256 = .ok (.aload_n 0, 1) := by decide +kernel
theorem dL_reasons_257 : decode cL_reasons 257 = .ok (.iload_n 1, 1) := by decide +kernel
theorem dL_reasons_258 : decode cL_reasons 258 = .ok (.iconst 0, 1) := by decide +kernel
theorem dL_reasons_259 : decode cL_reasons 259 = .ok (.invokestatic 241, 3) := by decide +kernel
theorem dL_reasons_262 : decode cL_reasons 262 = .ok (.istore 6, 2) := by decide +kernel
theorem dL_reasons_264 : decode cL_reasons 264 = .ok (.aload_n 0, 1) := by decide +kernel
theorem dL_reasons_265 : decode cL_reasons 265 = .ok (.iload_n 1, 1) := by decide +kernel
theorem dL_reasons_266 : decode cL_reasons 266 = .ok (.invokestatic 152, 3) := by decide +kernel
theorem dL_reasons_269 : decode cL_reasons 269 = .ok (.istore 7, 2) := by decide +kernel
theorem dL_reasons_271 : decode cL_reasons 271 = .ok (.iload 6, 2) := by decide +kernel
theorem dL_reasons_273 : decode cL_reasons 273 = .ok (.ifCond .le 39, 3) := by decide +kernel
theorem dL_reasons_276 : decode cL_reasons 276 = .ok (.iload 7, 2) := by decide +kernel
theorem dL_reasons_278 : decode cL_reasons 278 = .ok (.bipush (-2), 2) := by decide +kernel
theorem dL_reasons_280 : decode cL_reasons 280 = .ok (.if_icmp .ne 71, 3) := by decide +kernel
theorem dL_reasons_283 : decode cL_reasons 283 = .ok (.aload_n 0, 1) := by decide +kernel
theorem dL_reasons_284 : decode cL_reasons 284 = .ok (.iconst 0, 1) := by decide +kernel
theorem dL_reasons_285 : decode cL_reasons 285 = .ok (.invokestatic 156, 3) := by decide +kernel
theorem dL_reasons_288 : decode cL_reasons 288 = .ok (.iload 6, 2) := by decide +kernel
theorem dL_reasons_290 : decode cL_reasons 290 = .ok (.bipush 100, 2) := by decide +kernel
theorem dL_reasons_292 : decode cL_reasons 292 = .ok (.idiv, 1) := by decide +kernel
theorem dL_reasons_293 : decode cL_reasons 293 = .ok (.if_icmp .ne 58, 3) := by decide +kernel
theorem dL_reasons_296 : decode cL_reasons 296 = .ok (.aload_n 0, 1) := by decide +kernel
theorem dL_reasons_297 : decode cL_reasons 297 = .ok (.iconst 1, 1) := by decide +kernel
theorem dL_reasons_298 : decode cL_reasons 298 = .ok (.invokestatic 156, 3) := by decide +kernel
theorem dL_reasons_301 : decode cL_reasons 301 = .ok (.iload 6, 2) := by decide +kernel
theorem dL_reasons_303 : decode cL_reasons 303 = .ok (.bipush 100, 2) := by decide +kernel
theorem dL_reasons_305 : decode cL_reasons 305 = .ok (.irem, 1) := by decide +kernel
theorem dL_reasons_306 : decode cL_reasons 306 = .ok (.if_icmp .eq 47, 3) := by decide +kernel
theorem dL_reasons_309 : decode cL_reasons 309 = .ok (.goto 42, 3) := by decide +kernel
theorem dL_reasons_312 : decode cL_reasons 312 = .ok (.iload 7, 2) := by decide +kernel
theorem dL_reasons_314 : decode cL_reasons 314 = .ok (.aload_n 0, 1) := by decide +kernel
theorem dL_reasons_315 : decode cL_reasons 315 = .ok (.iload_n 1, 1) := by decide +kernel
theorem dL_reasons_316 : decode cL_reasons 316 = .ok (.iconst 1, 1) := by decide +kernel
theorem dL_reasons_317 : decode cL_reasons 317 = .ok (.invokestatic 224, 3) := by decide +kernel
theorem dL_reasons_320 : decode cL_reasons 320 = .ok (.if_icmp .ne 31, 3) := by decide +kernel
theorem dL_reasons_323 : decode cL_reasons 323 = .ok (.aload_n 0, 1) := by decide +kernel
theorem dL_reasons_324 : decode cL_reasons 324 = .ok (.iload_n 1, 1) := by decide +kernel
theorem dL_reasons_325 : decode cL_reasons 325 = .ok (.iconst 2, 1) := by decide +kernel
theorem dL_reasons_326 : decode cL_reasons 326 = .ok (.invokestatic 224, 3) := by decide +kernel
theorem dL_reasons_329 : decode cL_reasons 329 = .ok (.ifCond .ne 22, 3) := by decide +kernel
theorem dL_reasons_332 : decode cL_reasons 332 = .ok (.aload_n 0, 1) := by decide +kernel
theorem dL_reasons_333 : decode cL_reasons 333 = .ok (.iconst 0, 1) := by decide +kernel
theorem dL_reasons_334 : decode cL_reasons 334 = .ok (.invokestatic 193, 3) := by decide +kernel
theorem dL_reasons_337 : decode cL_reasons 337 = .ok (.bipush 10, 2) := by decide +kernel
theorem dL_reasons_339 : decode cL_reasons 339 = .ok (.iload_n 1, 1) := by decide +kernel
theorem dL_reasons_340 : decode cL_reasons 340 = .ok (.imul, 1) := by decide +kernel
theorem dL_reasons_341 : decode cL_reasons 341 = .ok (.if_icmp .ne 10, 3) := by decide +kernel
theorem dL_reasons_344 : decode cL_reasons 344 = .ok (.aload_n 0, 1) := by decide +kernel
theorem dL_reasons_345 : decode cL_reasons 345 = .ok (.invokestatic 247, 3) := by decide +kernel
theorem dL_reasons_348 : decode cL_reasons 348 = .ok (.ifCond .ge 5, 3) := by decide +kernel
theorem dL_reasons_351 : decode cL_reasons 351 = .ok (.iconst 0, 1) := by decide +kernel
theorem dL_reasons_352 : decode cL_reasons 352 = .ok (.ireturn, 1) := by decide +kernel
theorem dL_reasons_353 : decode cL_reasons 353 = .ok (.iinc 1 1, 3) := by decide +kernel
theorem dL_reasons_356 : decode cL_reasons 356 = .ok (.goto (-354), 3) := by decide +kernel
theorem dL_reasons_359 : decode cL_reasons 359 = .ok (.iconst 1, 1) := by decide +kernel
theorem dL_reasons_360 : decode cL_reasons 360 = .ok (.ireturn, 1) := by decide +kernel
theorem dL_ahead_0 : decode cL_ahead 0 = .ok (.iconst 0, 1) := by decide +kernel
theorem dL_ahead_1 : decode cL_ahead 1 = .ok (.istore_n 2, 1) := by decide +kernel
theorem dL_ahead_2 : decode cL_ahead 2 = .ok (.iload_n 2, 1) := by decide +kernel
theorem dL_ahead_3 : decode cL_ahead 3 = .ok (.aload_n 1, 1) := by decide +kernel
theorem dL_ahead_4 : decode cL_ahead 4 = .ok (.iconst 2, 1) := by decide +kernel
theorem dL_ahead_5 : decode cL_ahead 5 = .ok (.invokevirtual 182, 3) := by decide +kernel
theorem dL_ahead_8 : decode cL_ahead 8 = .ok (.if_icmp .ge 159, 3) := by decide +kernel
theorem dL_ahead_11 : decode cL_ahead 11 = .ok (.aload_n 1, 1) := by decide +kernel
theorem dL_ahead_12 : decode cL_ahead 12 = .ok (.iload_n 2, 1) := by decide +kernel
theorem dL_ahead_13 : decode cL_ahead 13 = .ok (.iconst 0, 1) := by decide +kernel
theorem dL_ahead_14 : decode cL_ahead 14 = .ok (.invokestatic 249, 3) := by decide +kernel
theorem dL_ahead_17 : decode cL_ahead 17 = .ok (.istore_n 3, 1) := by decide +kernel
theorem dL_ahead_18 : decode cL_ahead 18 = .ok (.aload_n 1, 1) := by decide +kernel
theorem dL_ahead_19 : decode cL_ahead 19 = .ok (.iload_n 2, 1) := by decide +kernel
theorem dL_ahead_20 : decode cL_ahead 20 = .ok (.iconst 1, 1) := by decide +kernel
theorem dL_ahead_21 : decode cL_ahead 21 = .ok (.invokestatic 249, 3) := by decide +kernel
theorem dL_ahead_24 : decode cL_ahead 24 = .ok (.iload_n 3, 1) := by decide +kernel
theorem dL_ahead_25 : decode cL_ahead 25 = .ok (.if_icmp .ne 29, 3) := by decide +kernel
theorem dL_ahead_28 : decode cL_ahead 28 = .ok (.iload_n 3, 1) := by decide +kernel
theorem dL_ahead_29 : decode cL_ahead 29 = .ok (.ifCond .ne 7, 3) := by decide +kernel
theorem dL_ahead_32 : decode cL_ahead 32 = .ok (.iconst 1, 1) := by decide +kernel
theorem dL_ahead_33 : decode cL_ahead 33 = .ok (.goto 4, 3) := by decide +kernel
theorem dL_ahead_36 : decode cL_ahead 36 = .ok (.iconst 0, 1) := by decide +kernel
theorem dL_ahead_37 : decode cL_ahead 37 = .ok (.aload_n 1, 1) := by decide +kernel
theorem dL_ahead_38 : decode cL_ahead 38 = .ok (.iload_n 2, 1) := by decide +kernel
theorem dL_ahead_39 : decode cL_ahead 39 = .ok (.iconst 0, 1) := by decide +kernel
theorem dL_ahead_40 : decode cL_ahead 40 = .ok (.invokestatic 244, 3) := by decide +kernel
theorem dL_ahead_43 : decode cL_ahead 43 = .ok (.ifCond .eq 7, 3) := by decide +kernel
theorem dL_ahead_46 : decode cL_ahead 46 = .ok (.iconst 1, 1) := by decide +kernel
theorem dL_ahead_47 : decode cL_ahead 47 = .ok (.goto 4, 3) := by decide +kernel
theorem dL_ahead_50 : decode cL_ahead 50 = .ok (.iconst 0, 1) := by decide +kernel
theorem dL_ahead_51 : decode cL_ahead 51 = .ok (.if_icmp .eq 5, 3) := by decide +kernel
theorem dL_ahead_54 : decode cL_ahead 54 = .ok (.iconst 0, 1) := by decide +kernel
theorem dL_ahead_55 : decode cL_ahead 55 = .ok (.ireturn, 1) := by decide +kernel
theorem dL_ahead_56 : decode cL_ahead 56 = .ok (.aload_n 1, 1) := by decide +kernel
theorem dL_ahead_57 : decode cL_ahead 57 = .ok (.iload_n 2, 1) := by decide +kernel
theorem dL_ahead_58 : decode cL_ahead 58 = .ok (.iconst 2, 1) := by decide +kernel
theorem dL_ahead_59 : decode cL_ahead 59 = .ok (.invokestatic 224, 3) := by decide +kernel
theorem dL_ahead_62 : decode cL_ahead 62 = .ok (.istore 4, 2) := by decide +kernel
theorem dL_ahead_64 : decode cL_ahead 64 = .ok (.iload_n 3, 1) := by decide +kernel
theorem dL_ahead_65 : decode cL_ahead 65 = .ok (.bipush 8, 2) := by decide +kernel
theorem dL_ahead_67 : decode cL_ahead 67 = .ok (.invokestatic 251, 3) := by decide +kernel
theorem dL_ahead_70 : decode cL_ahead 70 = .ok (.istore 5, 2) := by decide +kernel
theorem dL_ahead_72 : decode cL_ahead 72 = .ok (.iconst 0, 1) := by decide +kernel
theorem dL_ahead_73 : decode cL_ahead 73 = .ok (.istore 6, 2) := by decide +kernel
theorem dL_ahead_75 : decode cL_ahead 75 = .ok (.iload 6, 2) := by decide +kernel
theorem dL_ahead_77 : decode cL_ahead 77 = .ok (.iload 5, 2) := by decide +kernel
theorem dL_ahead_79 : decode cL_ahead 79 = .ok (.if_icmp .ge 34, 3) := by decide +kernel
theorem dL_ahead_82 : decode cL_ahead 82 = .ok (.aload_n 1, 1) := by decide +kernel
theorem dL_ahead_83 : decode cL_ahead 83 = .ok (.iload_n 2, 1) := by decide +kernel
theorem dL_ahead_84 : decode cL_ahead 84 = .ok (.invokestatic 154, 3) := by decide +kernel
theorem dL_ahead_87 : decode cL_ahead 87 = .ok (.ifCond .lt 18, 3) := by decide +kernel
theorem dL_ahead_90 : decode cL_ahead 90 = .ok (.aload_n 1, 1) := by decide +kernel
theorem dL_ahead_91 : decode cL_ahead 91 = .ok (.iload_n 2, 1) := by decide +kernel
theorem dL_ahead_92 : decode cL_ahead 92 = .ok (.iconst 0, 1) := by decide +kernel
theorem dL_ahead_93 : decode cL_ahead 93 = .ok (.invokestatic 249, 3) := by decide +kernel
theorem dL_ahead_96 : decode cL_ahead 96 = .ok (.iload_n 3, 1) := by decide +kernel
theorem dL_ahead_97 : decode cL_ahead 97 = .ok (.iload 6, 2) := by decide +kernel
theorem dL_ahead_99 : decode cL_ahead 99 = .ok (.isub, 1) := by decide +kernel
theorem dL_ahead_100 : decode cL_ahead 100 = .ok (.iconst 1, 1) := by decide +kernel
theorem dL_ahead_101 : decode cL_ahead 101 = .ok (.isub, 1) := by decide +kernel
theorem dL_ahead_102 : decode cL_ahead 102 = .ok (.if_icmp .eq 5, 3) := by decide +kernel
theorem dL_ahead_105 : decode cL_ahead 105 = .ok (.iconst 0, 1) := by decide +kernel
theorem dL_ahead_106 : decode cL_ahead 106 = .ok (.ireturn, 1) := by decide +kernel
theorem dL_ahead_107 : decode cL_ahead 107 = .ok (.iinc 6 1, 3) := by decide +kernel
theorem dL_ahead_110 : decode cL_ahead 110 = .ok (.goto (-35), 3) := by decide +kernel
theorem dL_ahead_113 : decode cL_ahead 113 = .ok (.iconst 0, 1) := by decide +kernel
theorem dL_ahead_114 : decode cL_ahead 114 = .ok (.istore 6, 2) := by decide +kernel
theorem dL_ahead_116 : decode cL_ahead 116 = .ok (.iload 6, 2) := by decide +kernel
theorem dL_ahead_118 : decode cL_ahead 118 = .ok (.iload 5, 2) := by decide +kernel
theorem dL_ahead_120 : decode cL_ahead 120 = .ok (.if_icmp .ge 18, 3) := by decide +kernel
theorem dL_ahead_123 : decode cL_ahead 123 = .ok (.aload_n 1, 1) := by decide +kernel
theorem dL_ahead_124 : decode cL_ahead 124 = .ok (.invokestatic 247, 3) := by decide +kernel
theorem dL_ahead_127 : decode cL_ahead 127 = .ok (.ifCond .ge 5, 3) := by decide +kernel
theorem dL_ahead_130 : decode cL_ahead 130 = .ok (.iconst 0, 1) := by decide +kernel
theorem dL_ahead_131 : decode cL_ahead 131 = .ok (.ireturn, 1) := by decide +kernel
theorem dL_ahead_132 : decode cL_ahead 132 = .ok (.iinc 6 1, 3) := by decide +kernel
theorem dL_ahead_135 : decode cL_ahead 135 = .ok (.goto (-19), 3) := by decide +kernel
theorem dL_ahead_138 : decode cL_ahead 138 = .ok (.aload_n 1, 1) := by decide +kernel
theorem dL_ahead_139 : decode cL_ahead 139 = .ok (.iload_n 2, 1) := by decide +kernel
theorem dL_ahead_140 : decode cL_ahead 140 = .ok (.iconst 2, 1) := by decide +kernel
theorem dL_ahead_141 : decode cL_ahead 141 = .ok (.invokestatic 224, 3) := by decide +kernel
theorem dL_ahead_144 : decode cL_ahead 144 = .ok (.iload 4, 2) := by decide +kernel
theorem dL_ahead_146 : decode cL_ahead 146 = .ok (.if_icmp .ne 13, 3) := by decide +kernel
theorem dL_ahead_149 : decode cL_ahead 149 = .ok (.aload_n 1, 1) := by decide +kernel
theorem dL_ahead_150 : decode cL_ahead 150 = .ok (.iload_n 2, 1) := by decide +kernel
theorem dL_ahead_151 : decode cL_ahead 151 = .ok (.iconst 0, 1) := by decide +kernel
theorem dL_ahead_152 : decode cL_ahead 152 = .ok (.invokestatic 249, 3) := by decide +kernel
theorem dL_ahead_155 : decode cL_ahead 155 = .ok (.iload_n 3, 1) := by decide +kernel
theorem dL_ahead_156 : decode cL_ahead 156 = .ok (.if_icmp .eq 5, 3) := by decide +kernel
theorem dL_ahead_159 : decode cL_ahead 159 = .ok (.iconst 0, 1) := by decide +kernel
theorem dL_ahead_160 : decode cL_ahead 160 = .ok (.ireturn, 1) := by decide +kernel
theorem dL_ahead_161 : decode cL_ahead 161 = .ok (.iinc 2 1, 3) := by decide +kernel
theorem dL_ahead_164 : decode cL_ahead 164 = .ok (.goto (-162), 3) := by decide +kernel
theorem dL_ahead_167 : decode cL_ahead 167 = .ok (.aload_n 0, 1) := by decide +kernel
theorem dL_ahead_168 : decode cL_ahead 168 = .ok (.bipush 45, 2) := by decide +kernel
theorem dL_ahead_170 : decode cL_ahead 170 = .ok (.invokestatic 125, 3) := by decide +kernel
theorem dL_ahead_173 : decode cL_ahead 173 = .ok (.iconst 1, 1) := by decide +kernel
theorem dL_ahead_174 : decode cL_ahead 174 = .ok (.iushr, 1) := by decide +kernel
theorem dL_ahead_175 : decode cL_ahead 175 = .ok (.bipush 12, 2) := by decide +kernel
theorem dL_ahead_177 : decode cL_ahead 177 = .ok (.irem, 1) := by decide +kernel
theorem dL_ahead_178 : decode cL_ahead 178 = .ok (.istore_n 2, 1) := by decide +kernel
theorem dL_ahead_179 : decode cL_ahead 179 = .ok (.iconst 1, 1) := by decide +kernel
theorem dL_ahead_180 : decode cL_ahead 180 = .ok (.aload_n 0, 1) := by decide +kernel
theorem dL_ahead_181 : decode cL_ahead 181 = .ok (.bipush 46, 2) := by decide +kernel
theorem dL_ahead_183 : decode cL_ahead 183 = .ok (.invokestatic 125, 3) := by decide +kernel
theorem dL_ahead_186 : decode cL_ahead 186 = .ok (.iconst 1, 1) := by decide +kernel
theorem dL_ahead_187 : decode cL_ahead 187 = .ok (.iushr, 1) := by decide +kernel
theorem dL_ahead_188 : decode cL_ahead 188 = .ok (.bipush 99, 2) := by decide +kernel
theorem dL_ahead_190 : decode cL_ahead 190 = .ok (.irem, 1) := by decide +kernel
theorem dL_ahead_191 : decode cL_ahead 191 = .ok (.iadd, 1) := by decide +kernel
theorem dL_ahead_192 : decode cL_ahead 192 = .ok (.istore_n 3, 1) := by decide +kernel
theorem dL_ahead_193 : decode cL_ahead 193 = .ok (.aload_n 1, 1) := by decide +kernel
theorem dL_ahead_194 : decode cL_ahead 194 = .ok (.iload_n 2, 1) := by decide +kernel
theorem dL_ahead_195 : decode cL_ahead 195 = .ok (.iload_n 3, 1) := by decide +kernel
theorem dL_ahead_196 : decode cL_ahead 196 = .ok (.invokestatic 254, 3) := by decide +kernel
theorem dL_ahead_199 : decode cL_ahead 199 = .ok (.istore 4, 2) := by decide +kernel
theorem dL_ahead_201 : decode cL_ahead 201 = .ok (.iconst 1, 1) := by decide +kernel
theorem dL_ahead_202 : decode cL_ahead 202 = .ok (.istore 5, 2) := by decide +kernel
theorem dL_ahead_204 : decode cL_ahead 204 = .ok (.iload 5, 2) := by decide +kernel
theorem dL_ahead_206 : decode cL_ahead 206 = .ok (.bipush 10, 2) := by decide +kernel
theorem dL_ahead_208 : decode cL_ahead 208 = .ok (.if_icmp .ge 189, 3) := by decide +kernel
theorem dL_ahead_211 : decode cL_ahead 211 = .ok (.bipush 12, 2) := by decide +kernel
theorem dL_ahead_213 : decode cL_ahead 213 = .ok (.newarray .int, 2) := by decide +kernel
theorem dL_ahead_215 : decode cL_ahead 215 = .ok (.astore 6, 2) := by decide +kernel
theorem dL_ahead_217 : decode cL_ahead 217 = .ok (.aload_n 1, 1) := by decide +kernel
theorem dL_ahead_218 : decode cL_ahead 218 = .ok (.bipush 10, 2) := by decide +kernel
theorem dL_ahead_220 : decode cL_ahead 220 = .ok (.invokevirtual 182, 3) := by decide +kernel
theorem dL_ahead_223 : decode cL_ahead 223 = .ok (.istore 7, 2) := by decide +kernel
theorem dL_ahead_225 : decode cL_ahead 225 = .ok (.iconst 0, 1) := by decide +kernel
theorem dL_ahead_226 : decode cL_ahead 226 = .ok (.istore 8, 2) := by decide +kernel
theorem dL_ahead_228 : decode cL_ahead 228 = .ok (.iload 8, 2) := by decide +kernel
theorem dL_ahead_230 : decode cL_ahead 230 = .ok (.bipush 12, 2) := by decide +kernel
theorem dL_ahead_232 : decode cL_ahead 232 = .ok (.if_icmp .ge 22, 3) := by decide +kernel
theorem dL_ahead_235 : decode cL_ahead 235 = .ok (.aload 6, 2) := by decide +kernel
theorem dL_ahead_237 : decode cL_ahead 237 = .ok (.iload 8, 2) := by decide +kernel
theorem dL_ahead_239 : decode cL_ahead 239 = .ok (.aload_n 1, 1) := by decide +kernel
theorem dL_ahead_240 : decode cL_ahead 240 = .ok (.iload 8, 2) := by decide +kernel
theorem dL_ahead_242 : decode cL_ahead 242 = .ok (.iload 5, 2) := by decide +kernel
theorem dL_ahead_244 : decode cL_ahead 244 = .ok (.invokestatic 256, 3) := by decide +kernel
theorem dL_ahead_247 : decode cL_ahead 247 = .ok (.iastore, 1) := by decide +kernel
theorem dL_ahead_248 : decode cL_ahead 248 = .ok (.iinc 8 1, 3) := by decide +kernel
theorem dL_ahead_251 : decode cL_ahead 251 = .ok (.goto (-23), 3) := by decide +kernel
theorem dL_ahead_254 : decode cL_ahead 254 = .ok (.aload_n 1, 1) := by decide +kernel
theorem dL_ahead_255 : decode cL_ahead 255 = .ok (.iload 5, 2) := by decide +kernel
theorem dL_ahead_257 : decode cL_ahead 257 = .ok (.invokestatic 132, 3) := by decide +kernel
theorem dL_ahead_260 : decode cL_ahead 260 = .ok (.istore 8, 2) := by decide +kernel
theorem dL_ahead_262 : decode cL_ahead 262 = .ok (.aload_n 1, 1) := by decide +kernel
theorem dL_ahead_263 : decode cL_ahead 263 = .ok (.iload_n 2, 1) := by decide +kernel
theorem dL_ahead_264 : decode cL_ahead 264 = .ok (.invokevirtual 145, 3) := by decide +kernel
theorem dL_ahead_267 : decode cL_ahead 267 = .ok (.fstore 9, 2) := by decide +kernel
theorem dL_ahead_269 : decode cL_ahead 269 = .ok (.fload 9, 2) := by decide +kernel
theorem dL_ahead_271 : decode cL_ahead 271 = .ok (.fload 9, 2) := by decide +kernel
theorem dL_ahead_273 : decode cL_ahead 273 = .ok (.fmul, 1) := by decide +kernel
theorem dL_ahead_274 : decode cL_ahead 274 = .ok (.ldc 190, 2) := by decide +kernel
theorem dL_ahead_276 : decode cL_ahead 276 = .ok (.fmul, 1) := by decide +kernel
theorem dL_ahead_277 : decode cL_ahead 277 = .ok (.iload_n 3, 1) := by decide +kernel
theorem dL_ahead_278 : decode cL_ahead 278 = .ok (.i2f, 1) := by decide +kernel
theorem dL_ahead_279 : decode cL_ahead 279 = .ok (.fcmp .l, 1) := by decide +kernel
theorem dL_ahead_280 : decode cL_ahead 280 = .ok (.ifCond .lt 7, 3) := by decide +kernel
theorem dL_ahead_283 : decode cL_ahead 283 = .ok (.iconst 1, 1) := by decide +kernel
theorem dL_ahead_284 : decode cL_ahead 284 = .ok (.goto 4, 3) := by decide +kernel
theorem dL_ahead_287 : decode cL_ahead 287 = .ok (.iconst 0, 1) := by decide +kernel
theorem dL_ahead_288 : decode cL_ahead 288 = .ok (.istore 10, 2) := by decide +kernel
theorem dL_ahead_290 : decode cL_ahead 290 = .ok (.iload 8, 2) := by decide +kernel
theorem dL_ahead_292 : decode cL_ahead 292 = .ok (.ifCond .lt 53, 3) := by decide +kernel
theorem dL_ahead_295 : decode cL_ahead 295 = .ok (.aload_n 1, 1) := by decide +kernel
theorem dL_ahead_296 : decode cL_ahead 296 = .ok (.bipush 10, 2) := by decide +kernel
theorem dL_ahead_298 : decode cL_ahead 298 = .ok (.invokevirtual 182, 3) := by decide +kernel
theorem dL_ahead_301 : decode cL_ahead 301 = .ok (.iload 7, 2) := by decide +kernel
theorem dL_ahead_303 : decode cL_ahead 303 = .ok (.iload 8, 2) := by decide +kernel
theorem dL_ahead_305 : decode cL_ahead 305 = .ok (.isub, 1) := by decide +kernel
theorem dL_ahead_306 : decode cL_ahead 306 = .ok (.if_icmp .ne 39, 3) := by decide +kernel
theorem dL_ahead_309 : decode cL_ahead 309 = .ok (.iload 4, 2) := by decide +kernel
theorem dL_ahead_311 : decode cL_ahead 311 = .ok (.iload 5, 2) := by decide +kernel
theorem dL_ahead_313 : decode cL_ahead 313 = .ok (.if_icmp .ne 8, 3) := by decide +kernel
theorem dL_ahead_316 : decode cL_ahead 316 = .ok (.iload 10, 2) := by decide +kernel
theorem dL_ahead_318 : decode cL_ahead 318 = .ok (.ifCond .eq 27, 3) := by decide +kernel
theorem dL_ahead_321 : decode cL_ahead 321 = .ok (.iload 4, 2) := by decide +kernel
theorem dL_ahead_323 : decode cL_ahead 323 = .ok (.ifCond .lt 10, 3) := by decide +kernel
theorem dL_ahead_326 : decode cL_ahead 326 = .ok (.iload 4, 2) := by decide +kernel
theorem dL_ahead_328 : decode cL_ahead 328 = .ok (.iload 5, 2) := by decide +kernel
theorem dL_ahead_330 : decode cL_ahead 330 = .ok (.if_icmp .le 8, 3) := by decide +kernel
theorem dL_ahead_333 : decode cL_ahead 333 = .ok (.iload 10, 2) := by decide +kernel
theorem dL_ahead_335 : decode cL_ahead 335 = .ok (.ifCond .ne 10, 3) := by decide +kernel
theorem dL_ahead_338 : decode cL_ahead 338 = .ok (.aload_n 1, 1) := by decide +kernel
theorem dL_ahead_339 : decode cL_ahead 339 = .ok (.invokestatic 163, 3) := by decide +kernel
theorem dL_ahead_342 : decode cL_ahead 342 = .ok (.ifCond .ne 5, 3) := by decide +kernel
theorem dL_ahead_345 : decode cL_ahead 345 = .ok (.iconst 0, 1) := by decide +kernel
theorem dL_ahead_346 : decode cL_ahead 346 = .ok (.ireturn, 1) := by decide +kernel
theorem dL_ahead_347 : decode cL_ahead 347 = .ok (.iconst 0, 1) := by decide +kernel
theorem dL_ahead_348 : decode cL_ahead 348 = .ok (.istore 11, 2) := by decide +kernel
theorem dL_ahead_350 : decode cL_ahead 350 = .ok (.iload 11, 2) := by decide +kernel
theorem dL_ahead_352 : decode cL_ahead 352 = .ok (.bipush 12, 2) := by decide +kernel
theorem dL_ahead_354 : decode cL_ahead 354 = .ok (.if_icmp .ge 28, 3) := by decide +kernel
theorem dL_ahead_357 : decode cL_ahead 357 = .ok (.aload_n 1, 1) := by decide +kernel
theorem dL_ahead_358 : decode cL_ahead 358 = .ok (.iload 11, 2) := by decide +kernel
theorem dL_ahead_360 : decode cL_ahead 360 = .ok (.invokevirtual 145, 3) := by decide +kernel
theorem dL_ahead_363 : decode cL_ahead 363 = .ok (.invokestatic 148, 3) := by decide +kernel
theorem dL_ahead_366 : decode cL_ahead 366 = .ok (.aload 6, 2) := by decide +kernel
theorem dL_ahead_368 : decode cL_ahead 368 = .ok (.iload 11, 2) := by decide +kernel
theorem dL_ahead_370 : decode cL_ahead 370 = .ok (.iaload, 1) := by decide +kernel
theorem dL_ahead_371 : decode cL_ahead 371 = .ok (.if_icmp .eq 5, 3) := by decide +kernel
theorem dL_ahead_374 : decode cL_ahead 374 = .ok (.iconst 0, 1) := by decide +kernel
theorem dL_ahead_375 : decode cL_ahead 375 = .ok (.ireturn, 1) := by decide +kernel
theorem dL_ahead_376 : decode cL_ahead 376 = .ok (.iinc 11 1, 3) := by decide +kernel
theorem dL_ahead_379 : decode cL_ahead 379 = .ok (.goto (-29), 3) := by decide +kernel
theorem dL_ahead_382 : decode cL_ahead 382 = .ok (.aload_n 1, 1) := by decide +kernel
theorem dL_ahead_383 : decode cL_ahead 383 = .ok (.invokestatic 247, 3) := by decide +kernel
theorem dL_ahead_386 : decode cL_ahead 386 = .ok (.ifCond .ge 5, 3) := by decide +kernel
theorem dL_ahead_389 : decode cL_ahead 389 = .ok (.iconst 0, 1) := by decide +kernel
theorem dL_ahead_390 : decode cL_ahead 390 = .ok (.ireturn, 1) := by decide +kernel
theorem dL_ahead_391 : decode cL_ahead 391 = .ok (.iinc 5 1, 3) := by decide +kernel
theorem dL_ahead_394 : decode cL_ahead 394 = .ok (.goto (-190), 3) := by decide +kernel
theorem dL_ahead_397 : decode cL_ahead 397 = .ok (.iload 4, 2) := by decide +kernel
theorem dL_ahead_399 : decode cL_ahead 399 = .ok (.ifCond .ne 7, 3) := by decide +kernel
theorem dL_ahead_402 : decode cL_ahead 402 = .ok (.iconst 1, 1) := by decide +kernel
theorem dL_ahead_403 : decode cL_ahead 403 = .ok (.goto 4, 3) := by decide +kernel
theorem dL_ahead_406 : decode cL_ahead 406 = .ok (.iconst 0, 1) := by decide +kernel
theorem dL_ahead_407 : decode cL_ahead 407 = .ok (.aload_n 1, 1) := by decide +kernel
theorem dL_ahead_408 : decode cL_ahead 408 = .ok (.iload_n 2, 1) := by decide +kernel
theorem dL_ahead_409 : decode cL_ahead 409 = .ok (.invokevirtual 145, 3) := by decide +kernel
theorem dL_ahead_412 : decode cL_ahead 412 = .ok (.aload_n 1, 1) := by decide +kernel
theorem dL_ahead_413 : decode cL_ahead 413 = .ok (.iload_n 2, 1) := by decide +kernel
theorem dL_ahead_414 : decode cL_ahead 414 = .ok (.invokevirtual 145, 3) := by decide +kernel
theorem dL_ahead_417 : decode cL_ahead 417 = .ok (.fmul, 1) := by decide +kernel
theorem dL_ahead_418 : decode cL_ahead 418 = .ok (.ldc 190, 2) := by decide +kernel
theorem dL_ahead_420 : decode cL_ahead 420 = .ok (.fmul, 1) := by decide +kernel
theorem dL_ahead_421 : decode cL_ahead 421 = .ok (.iload_n 3, 1) := by decide +kernel
theorem dL_ahead_422 : decode cL_ahead 422 = .ok (.i2f, 1) := by decide +kernel
theorem dL_ahead_423 : decode cL_ahead 423 = .ok (.fcmp .l, 1) := by decide +kernel
theorem dL_ahead_424 : decode cL_ahead 424 = .ok (.ifCond .lt 7, 3) := by decide +kernel
theorem dL_ahead_427 : decode cL_ahead 427 = .ok (.iconst 1, 1) := by decide +kernel
theorem dL_ahead_428 : decode cL_ahead 428 = .ok (.goto 4, 3) := by decide +kernel
theorem dL_ahead_431 : decode cL_ahead 431 = .ok (.iconst 0, 1) := by decide +kernel
theorem dL_ahead_432 : decode cL_ahead 432 = .ok (.if_icmp .ne 7, 3) := by decide +kernel
theorem dL_ahead_435 : decode cL_ahead 435 = .ok (.iconst 1, 1) := by decide +kernel
theorem dL_ahead_436 : decode cL_ahead 436 = .ok (.goto 4, 3) := by decide +kernel
theorem dL_ahead_439 : decode cL_ahead 439 = .ok (.iconst 0, 1) := by decide +kernel
theorem dL_ahead_440 : decode cL_ahead 440 = .ok (.ireturn, 1) := by decide +kernel
theorem dL_sum_0 : decode cL_sum 0 = .ok (.ldc2_w 258, 3) := by decide +kernel
theorem dL_sum_3 : decode cL_sum 3 = .ok (.lstore_n 1, 1) := by decide +kernel
theorem dL_sum_4 : decode cL_sum 4 = .ok (.iconst 0, 1) := by decide +kernel
theorem dL_sum_5 : decode cL_sum 5 = .ok (.istore_n 3, 1) := by decide +kernel
theorem dL_sum_6 : decode cL_sum 6 = .ok (.iload_n 3, 1) := by decide +kernel
theorem dL_sum_7 : decode cL_sum 7 = .ok (.bipush 13, 2) := by decide +kernel
theorem dL_sum_9 : decode cL_sum 9 = .ok (.if_icmp .ge 22, 3) := by decide +kernel
theorem dL_sum_12 : decode cL_sum 12 = .ok (.ldc2_w 260, 3) := by decide +kernel
theorem dL_sum_15 : decode cL_sum 15 = .ok (.lload_n 1, 1) := by decide +kernel
theorem dL_sum_16 : decode cL_sum 16 = .ok (.lmul, 1) := by decide +kernel
theorem dL_sum_17 : decode cL_sum 17 = .ok (.aload_n 0, 1) := by decide +kernel
theorem dL_sum_18 : decode cL_sum 18 = .ok (.iload_n 3, 1) := by decide +kernel
theorem dL_sum_19 : decode cL_sum 19 = .ok (.invokevirtual 182, 3) := by decide +kernel
theorem dL_sum_22 : decode cL_sum 22 = .ok (.i2l, 1) := by decide +kernel
theorem dL_sum_23 : decode cL_sum 23 = .ok (.ladd, 1) := by decide +kernel
theorem dL_sum_24 : decode cL_sum 24 = .ok (.lstore_n 1, 1) := by decide +kernel
theorem dL_sum_25 : decode cL_sum 25 = .ok (.iinc 3 1, 3) := by decide +kernel
theorem dL_sum_28 : decode cL_sum 28 = .ok (.goto (-22), 3) := by decide +kernel
theorem dL_sum_31 : decode cL_sum 31 = .ok (.iconst 0, 1) := by decide +kernel
theorem dL_sum_32 : decode cL_sum 32 = .ok (.istore_n 3, 1) := by decide +kernel
theorem dL_sum_33 : decode cL_sum 33 = .ok (.iload_n 3, 1) := by decide +kernel
theorem dL_sum_34 : decode cL_sum 34 = .ok (.bipush 12, 2) := by decide +kernel
theorem dL_sum_36 : decode cL_sum 36 = .ok (.if_icmp .ge 68, 3) := by decide +kernel
theorem dL_sum_39 : decode cL_sum 39 = .ok (.ldc2_w 262, 3) := by decide +kernel
theorem dL_sum_42 : decode cL_sum 42 = .ok (.lload_n 1, 1) := by decide +kernel
theorem dL_sum_43 : decode cL_sum 43 = .ok (.lmul, 1) := by decide +kernel
theorem dL_sum_44 : decode cL_sum 44 = .ok (.aload_n 0, 1) := by decide +kernel
theorem dL_sum_45 : decode cL_sum 45 = .ok (.iload_n 3, 1) := by decide +kernel
theorem dL_sum_46 : decode cL_sum 46 = .ok (.invokevirtual 145, 3) := by decide +kernel
theorem dL_sum_49 : decode cL_sum 49 = .ok (.invokestatic 148, 3) := by decide +kernel
theorem dL_sum_52 : decode cL_sum 52 = .ok (.i2l, 1) := by decide +kernel
theorem dL_sum_53 : decode cL_sum 53 = .ok (.ladd, 1) := by decide +kernel
theorem dL_sum_54 : decode cL_sum 54 = .ok (.lstore_n 1, 1) := by decide +kernel
theorem dL_sum_55 : decode cL_sum 55 = .ok (.ldc2_w 262, 3) := by decide +kernel
theorem dL_sum_58 : decode cL_sum 58 = .ok (.lload_n 1, 1) := by decide +kernel
theorem dL_sum_59 : decode cL_sum 59 = .ok (.lmul, 1) := by decide +kernel
theorem dL_sum_60 : decode cL_sum 60 = .ok (.aload_n 0, 1) := by decide +kernel
theorem dL_sum_61 : decode cL_sum 61 = .ok (.iload_n 3, 1) := by decide +kernel
theorem dL_sum_62 : decode cL_sum 62 = .ok (.invokestatic 188, 3) := by decide +kernel
theorem dL_sum_65 : decode cL_sum 65 = .ok (.i2l, 1) := by decide +kernel
theorem dL_sum_66 : decode cL_sum 66 = .ok (.ladd, 1) := by decide +kernel
theorem dL_sum_67 : decode cL_sum 67 = .ok (.lstore_n 1, 1) := by decide +kernel
theorem dL_sum_68 : decode cL_sum 68 = .ok (.iconst 0, 1) := by decide +kernel
theorem dL_sum_69 : decode cL_sum 69 = .ok (.istore 4, 2) := by decide +kernel
theorem dL_sum_71 : decode cL_sum 71 = .ok (.iload 4, 2) := by decide +kernel
theorem dL_sum_73 : decode cL_sum 73 = .ok (.iconst 5, 1) := by decide +kernel
theorem dL_sum_74 : decode cL_sum 74 = .ok (.if_icmp .ge 24, 3) := by decide +kernel
theorem dL_sum_77 : decode cL_sum 77 = .ok (.ldc2_w 264, 3) := by decide +kernel
theorem dL_sum_80 : decode cL_sum 80 = .ok (.lload_n 1, 1) := by decide +kernel
theorem dL_sum_81 : decode cL_sum 81 = .ok (.lmul, 1) := by decide +kernel
theorem dL_sum_82 : decode cL_sum 82 = .ok (.aload_n 0, 1) := by decide +kernel
theorem dL_sum_83 : decode cL_sum 83 = .ok (.iload_n 3, 1) := by decide +kernel
theorem dL_sum_84 : decode cL_sum 84 = .ok (.iload 4, 2) := by decide +kernel
theorem dL_sum_86 : decode cL_sum 86 = .ok (.invokestatic 180, 3) := by decide +kernel
theorem dL_sum_89 : decode cL_sum 89 = .ok (.i2l, 1) := by decide +kernel
theorem dL_sum_90 : decode cL_sum 90 = .ok (.ladd, 1) := by decide +kernel
theorem dL_sum_91 : decode cL_sum 91 = .ok (.lstore_n 1, 1) := by decide +kernel
theorem dL_sum_92 : decode cL_sum 92 = .ok (.iinc 4 1, 3) := by decide +kernel
theorem dL_sum_95 : decode cL_sum 95 = .ok (.goto (-24), 3) := by decide +kernel
theorem dL_sum_98 : decode cL_sum 98 = .ok (.iinc 3 1, 3) := by decide +kernel
theorem dL_sum_101 : decode cL_sum 101 = .ok (.goto (-68), 3) := by decide +kernel
theorem dL_sum_104 : decode cL_sum 104 = .ok (.iconst 0, 1) := by decide +kernel
theorem dL_sum_105 : decode cL_sum 105 = .ok (.istore_n 3, 1) := by decide +kernel
theorem dL_sum_106 : decode cL_sum 106 = .ok (.iload_n 3, 1) := by decide +kernel
theorem dL_sum_107 : decode cL_sum 107 = .ok (.bipush 10, 2) := by decide +kernel
theorem dL_sum_109 : decode cL_sum 109 = .ok (.if_icmp .ge 44, 3) := by decide +kernel
theorem dL_sum_112 : decode cL_sum 112 = .ok (.ldc2_w 266, 3) := by decide +kernel
theorem dL_sum_115 : decode cL_sum 115 = .ok (.lload_n 1, 1) := by decide +kernel
theorem dL_sum_116 : decode cL_sum 116 = .ok (.lmul, 1) := by decide +kernel
theorem dL_sum_117 : decode cL_sum 117 = .ok (.aload_n 0, 1) := by decide +kernel
theorem dL_sum_118 : decode cL_sum 118 = .ok (.iload_n 3, 1) := by decide +kernel
theorem dL_sum_119 : decode cL_sum 119 = .ok (.iconst 5, 1) := by decide +kernel
theorem dL_sum_120 : decode cL_sum 120 = .ok (.idiv, 1) := by decide +kernel
theorem dL_sum_121 : decode cL_sum 121 = .ok (.iload_n 3, 1) := by decide +kernel
theorem dL_sum_122 : decode cL_sum 122 = .ok (.iconst 5, 1) := by decide +kernel
theorem dL_sum_123 : decode cL_sum 123 = .ok (.irem, 1) := by decide +kernel
theorem dL_sum_124 : decode cL_sum 124 = .ok (.iconst 0, 1) := by decide +kernel
theorem dL_sum_125 : decode cL_sum 125 = .ok (.invokestatic 217, 3) := by decide +kernel
theorem dL_sum_128 : decode cL_sum 128 = .ok (.i2l, 1) := by decide +kernel
theorem dL_sum_129 : decode cL_sum 129 = .ok (.ladd, 1) := by decide +kernel
theorem dL_sum_130 : decode cL_sum 130 = .ok (.bipush 64, 2) := by decide +kernel
theorem dL_sum_132 : decode cL_sum 132 = .ok (.aload_n 0, 1) := by decide +kernel
theorem dL_sum_133 : decode cL_sum 133 = .ok (.iload_n 3, 1) := by decide +kernel
theorem dL_sum_134 : decode cL_sum 134 = .ok (.iconst 5, 1) := by decide +kernel
theorem dL_sum_135 : decode cL_sum 135 = .ok (.idiv, 1) := by decide +kernel
theorem dL_sum_136 : decode cL_sum 136 = .ok (.iload_n 3, 1) := by decide +kernel
theorem dL_sum_137 : decode cL_sum 137 = .ok (.iconst 5, 1) := by decide +kernel
theorem dL_sum_138 : decode cL_sum 138 = .ok (.irem, 1) := by decide +kernel
theorem dL_sum_139 : decode cL_sum 139 = .ok (.iconst 1, 1) := by decide +kernel
theorem dL_sum_140 : decode cL_sum 140 = .ok (.invokestatic 217, 3) := by decide +kernel
theorem dL_sum_143 : decode cL_sum 143 = .ok (.imul, 1) := by decide +kernel
theorem dL_sum_144 : decode cL_sum 144 = .ok (.i2l, 1) := by decide +kernel
theorem dL_sum_145 : decode cL_sum 145 = .ok (.ladd, 1) := by decide +kernel
theorem dL_sum_146 : decode cL_sum 146 = .ok (.lstore_n 1, 1) := by decide +kernel
theorem dL_sum_147 : decode cL_sum 147 = .ok (.iinc 3 1, 3) := by decide +kernel
theorem dL_sum_150 : decode cL_sum 150 = .ok (.goto (-44), 3) := by decide +kernel
theorem dL_sum_153 : decode cL_sum 153 = .ok (.iconst 0, 1) := by decide +kernel
theorem dL_sum_154 : decode cL_sum 154 = .ok (.istore_n 3, 1) := by decide +kernel
theorem dL_sum_155 : decode cL_sum 155 = .ok (.iload_n 3, 1) := by decide +kernel
theorem dL_sum_156 : decode cL_sum 156 = .ok (.aload_n 0, 1) := by decide +kernel
theorem dL_sum_157 : decode cL_sum 157 = .ok (.iconst 2, 1) := by decide +kernel
theorem dL_sum_158 : decode cL_sum 158 = .ok (.invokevirtual 182, 3) := by decide +kernel
theorem dL_sum_161 : decode cL_sum 161 = .ok (.if_icmp .ge 102, 3) := by decide +kernel
theorem dL_sum_164 : decode cL_sum 164 = .ok (.iconst 0, 1) := by decide +kernel
theorem dL_sum_165 : decode cL_sum 165 = .ok (.istore 4, 2) := by decide +kernel
theorem dL_sum_167 : decode cL_sum 167 = .ok (.iload 4, 2) := by decide +kernel
theorem dL_sum_169 : decode cL_sum 169 = .ok (.bipush 6, 2) := by decide +kernel
theorem dL_sum_171 : decode cL_sum 171 = .ok (.if_icmp .ge 24, 3) := by decide +kernel
theorem dL_sum_174 : decode cL_sum 174 = .ok (.ldc2_w 268, 3) := by decide +kernel
theorem dL_sum_177 : decode cL_sum 177 = .ok (.lload_n 1, 1) := by decide +kernel
theorem dL_sum_178 : decode cL_sum 178 = .ok (.lmul, 1) := by decide +kernel
theorem dL_sum_179 : decode cL_sum 179 = .ok (.aload_n 0, 1) := by decide +kernel
theorem dL_sum_180 : decode cL_sum 180 = .ok (.iload_n 3, 1) := by decide +kernel
theorem dL_sum_181 : decode cL_sum 181 = .ok (.iload 4, 2) := by decide +kernel
theorem dL_sum_183 : decode cL_sum 183 = .ok (.invokestatic 224, 3) := by decide +kernel
theorem dL_sum_186 : decode cL_sum 186 = .ok (.i2l, 1) := by decide +kernel
theorem dL_sum_187 : decode cL_sum 187 = .ok (.ladd, 1) := by decide +kernel
theorem dL_sum_188 : decode cL_sum 188 = .ok (.lstore_n 1, 1) := by decide +kernel
theorem dL_sum_189 : decode cL_sum 189 = .ok (.iinc 4 1, 3) := by decide +kernel
theorem dL_sum_192 : decode cL_sum 192 = .ok (.goto (-25), 3) := by decide +kernel
theorem dL_sum_195 : decode cL_sum 195 = .ok (.iconst 0, 1) := by decide +kernel
theorem dL_sum_196 : decode cL_sum 196 = .ok (.istore 4, 2) := by decide +kernel
theorem dL_sum_198 : decode cL_sum 198 = .ok (.iload 4, 2) := by decide +kernel
theorem dL_sum_200 : decode cL_sum 200 = .ok (.aload_n 0, 1) := by decide +kernel
theorem dL_sum_201 : decode cL_sum 201 = .ok (.iload_n 3, 1) := by decide +kernel
theorem dL_sum_202 : decode cL_sum 202 = .ok (.iconst 1, 1) := by decide +kernel
theorem dL_sum_203 : decode cL_sum 203 = .ok (.invokestatic 224, 3) := by decide +kernel
theorem dL_sum_206 : decode cL_sum 206 = .ok (.if_icmp .ge 51, 3) := by decide +kernel
theorem dL_sum_209 : decode cL_sum 209 = .ok (.ldc2_w 270, 3) := by decide +kernel
theorem dL_sum_212 : decode cL_sum 212 = .ok (.lload_n 1, 1) := by decide +kernel
theorem dL_sum_213 : decode cL_sum 213 = .ok (.lmul, 1) := by decide +kernel
theorem dL_sum_214 : decode cL_sum 214 = .ok (.aload_n 0, 1) := by decide +kernel
theorem dL_sum_215 : decode cL_sum 215 = .ok (.iload_n 3, 1) := by decide +kernel
theorem dL_sum_216 : decode cL_sum 216 = .ok (.iload 4, 2) := by decide +kernel
theorem dL_sum_218 : decode cL_sum 218 = .ok (.iconst 0, 1) := by decide +kernel
theorem dL_sum_219 : decode cL_sum 219 = .ok (.invokestatic 226, 3) := by decide +kernel
theorem dL_sum_222 : decode cL_sum 222 = .ok (.i2l, 1) := by decide +kernel
theorem dL_sum_223 : decode cL_sum 223 = .ok (.ladd, 1) := by decide +kernel
theorem dL_sum_224 : decode cL_sum 224 = .ok (.iconst 2, 1) := by decide +kernel
theorem dL_sum_225 : decode cL_sum 225 = .ok (.aload_n 0, 1) := by decide +kernel
theorem dL_sum_226 : decode cL_sum 226 = .ok (.iload_n 3, 1) := by decide +kernel
theorem dL_sum_227 : decode cL_sum 227 = .ok (.iload 4, 2) := by decide +kernel
theorem dL_sum_229 : decode cL_sum 229 = .ok (.iconst 1, 1) := by decide +kernel
theorem dL_sum_230 : decode cL_sum 230 = .ok (.invokestatic 226, 3) := by decide +kernel
theorem dL_sum_233 : decode cL_sum 233 = .ok (.imul, 1) := by decide +kernel
theorem dL_sum_234 : decode cL_sum 234 = .ok (.i2l, 1) := by decide +kernel
theorem dL_sum_235 : decode cL_sum 235 = .ok (.ladd, 1) := by decide +kernel
theorem dL_sum_236 : decode cL_sum 236 = .ok (.sipush 256, 3) := by decide +kernel
theorem dL_sum_239 : decode cL_sum 239 = .ok (.aload_n 0, 1) := by decide +kernel
theorem dL_sum_240 : decode cL_sum 240 = .ok (.iload_n 3, 1) := by decide +kernel
theorem dL_sum_241 : decode cL_sum 241 = .ok (.iload 4, 2) := by decide +kernel
theorem dL_sum_243 : decode cL_sum 243 = .ok (.iconst 2, 1) := by decide +kernel
theorem dL_sum_244 : decode cL_sum 244 = .ok (.invokestatic 226, 3) := by decide +kernel
theorem dL_sum_247 : decode cL_sum 247 = .ok (.imul, 1) := by decide +kernel
theorem dL_sum_248 : decode cL_sum 248 = .ok (.i2l, 1) := by decide +kernel
theorem dL_sum_249 : decode cL_sum 249 = .ok (.ladd, 1) := by decide +kernel
theorem dL_sum_250 : decode cL_sum 250 = .ok (.lstore_n 1, 1) := by decide +kernel
theorem dL_sum_251 : decode cL_sum 251 = .ok (.iinc 4 1, 3) := by decide +kernel
theorem dL_sum_254 : decode cL_sum 254 = .ok (.goto (-56), 3) := by decide +kernel
theorem dL_sum_257 : decode cL_sum 257 = .ok (.iinc 3 1, 3) := by decide +kernel
theorem dL_sum_260 : decode cL_sum 260 = .ok (.goto (-105), 3) := by decide +kernel
theorem dL_sum_263 : decode cL_sum 263 = .ok (.ldc2_w 272, 3) := by decide +kernel
theorem dL_sum_266 : decode cL_sum 266 = .ok (.lload_n 1, 1) := by decide +kernel
theorem dL_sum_267 : decode cL_sum 267 = .ok (.lmul, 1) := by decide +kernel
theorem dL_sum_268 : decode cL_sum 268 = .ok (.aload_n 0, 1) := by decide +kernel
theorem dL_sum_269 : decode cL_sum 269 = .ok (.iconst 0, 1) := by decide +kernel
theorem dL_sum_270 : decode cL_sum 270 = .ok (.invokevirtual 185, 3) := by decide +kernel
theorem dL_sum_273 : decode cL_sum 273 = .ok (.i2l, 1) := by decide +kernel
theorem dL_sum_274 : decode cL_sum 274 = .ok (.ladd, 1) := by decide +kernel
theorem dL_sum_275 : decode cL_sum 275 = .ok (.bipush 64, 2) := by decide +kernel
theorem dL_sum_277 : decode cL_sum 277 = .ok (.aload_n 0, 1) := by decide +kernel
theorem dL_sum_278 : decode cL_sum 278 = .ok (.iconst 1, 1) := by decide +kernel
theorem dL_sum_279 : decode cL_sum 279 = .ok (.invokevirtual 185, 3) := by decide +kernel
theorem dL_sum_282 : decode cL_sum 282 = .ok (.imul, 1) := by decide +kernel
theorem dL_sum_283 : decode cL_sum 283 = .ok (.i2l, 1) := by decide +kernel
theorem dL_sum_284 : decode cL_sum 284 = .ok (.ladd, 1) := by decide +kernel
theorem dL_sum_285 : decode cL_sum 285 = .ok (.sipush 8192, 3) := by decide +kernel
theorem dL_sum_288 : decode cL_sum 288 = .ok (.aload_n 0, 1) := by decide +kernel
theorem dL_sum_289 : decode cL_sum 289 = .ok (.iconst 2, 1) := by decide +kernel
theorem dL_sum_290 : decode cL_sum 290 = .ok (.invokevirtual 185, 3) := by decide +kernel
theorem dL_sum_293 : decode cL_sum 293 = .ok (.imul, 1) := by decide +kernel
theorem dL_sum_294 : decode cL_sum 294 = .ok (.i2l, 1) := by decide +kernel
theorem dL_sum_295 : decode cL_sum 295 = .ok (.ladd, 1) := by decide +kernel
theorem dL_sum_296 : decode cL_sum 296 = .ok (.lreturn, 1) := by decide +kernel
theorem dL_undone_0 : decode cL_undone 0 = .ok (.bipush 9, 2) := by decide +kernel
theorem dL_undone_2 : decode cL_undone 2 = .ok (.newarray .long, 2) := by decide +kernel
theorem dL_undone_4 : decode cL_undone 4 = .ok (.astore_n 2, 1) := by decide +kernel
theorem dL_undone_5 : decode cL_undone 5 = .ok (.iconst 0, 1) := by decide +kernel
theorem dL_undone_6 : decode cL_undone 6 = .ok (.istore_n 3, 1) := by decide +kernel
theorem dL_undone_7 : decode cL_undone 7 = .ok (.iconst 0, 1) := by decide +kernel
theorem dL_undone_8 : decode cL_undone 8 = .ok (.istore 4, 2) := by decide +kernel
theorem dL_undone_10 : decode cL_undone 10 = .ok (.iload 4, 2) := by decide +kernel
theorem dL_undone_12 : decode cL_undone 12 = .ok (.bipush 7, 2) := by decide +kernel
theorem dL_undone_14 : decode cL_undone 14 = .ok (.if_icmp .ge 471, 3) := by decide +kernel
theorem dL_undone_17 : decode cL_undone 17 = .ok (.aload_n 0, 1) := by decide +kernel
theorem dL_undone_18 : decode cL_undone 18 = .ok (.bipush 47, 2) := by decide +kernel
theorem dL_undone_20 : decode cL_undone 20 = .ok (.iload 4, 2) := by decide +kernel
theorem dL_undone_22 : decode cL_undone 22 = .ok (.iadd, 1) := by decide +kernel
theorem dL_undone_23 : decode cL_undone 23 = .ok (.invokestatic 125, 3) := by decide +kernel
theorem dL_undone_26 : decode cL_undone 26 = .ok (.iconst 1, 1) := by decide +kernel
theorem dL_undone_27 : decode cL_undone 27 = .ok (.iushr, 1) := by decide +kernel
theorem dL_undone_28 : decode cL_undone 28 = .ok (.istore 5, 2) := by decide +kernel
theorem dL_undone_30 : decode cL_undone 30 = .ok (.aload_n 2, 1) := by decide +kernel
theorem dL_undone_31 : decode cL_undone 31 = .ok (.iload_n 3, 1) := by decide +kernel
theorem dL_undone_32 : decode cL_undone 32 = .ok (.aload_n 1, 1) := by decide +kernel
theorem dL_undone_33 : decode cL_undone 33 = .ok (.invokestatic 274, 3) := by decide +kernel
theorem dL_undone_36 : decode cL_undone 36 = .ok (.lastore, 1) := by decide +kernel
theorem dL_undone_37 : decode cL_undone 37 = .ok (.iload 5, 2) := by decide +kernel
theorem dL_undone_39 : decode cL_undone 39 = .ok (.bipush 10, 2) := by decide +kernel
theorem dL_undone_41 : decode cL_undone 41 = .ok (.irem, 1) := by decide +kernel
theorem dL_undone_42 : decode cL_undone 42 = .ok (.tableswitch 287 0 8 #[50, 86, 111, 157, 180, 217, 240, 240, 263], 50) := by decide +kernel
theorem dL_undone_92 : decode cL_undone 92 = .ok (.aload_n 1, 1) := by decide +kernel
theorem dL_undone_93 : decode cL_undone 93 = .ok (.iload 5, 2) := by decide +kernel
theorem dL_undone_95 : decode cL_undone 95 = .ok (.iconst 4, 1) := by decide +kernel
theorem dL_undone_96 : decode cL_undone 96 = .ok (.iushr, 1) := by decide +kernel
theorem dL_undone_97 : decode cL_undone 97 = .ok (.iconst 4, 1) := by decide +kernel
theorem dL_undone_98 : decode cL_undone 98 = .ok (.irem, 1) := by decide +kernel
theorem dL_undone_99 : decode cL_undone 99 = .ok (.iload 5, 2) := by decide +kernel
theorem dL_undone_101 : decode cL_undone 101 = .ok (.bipush 8, 2) := by decide +kernel
theorem dL_undone_103 : decode cL_undone 103 = .ok (.iushr, 1) := by decide +kernel
theorem dL_undone_104 : decode cL_undone 104 = .ok (.bipush 60, 2) := by decide +kernel
theorem dL_undone_106 : decode cL_undone 106 = .ok (.irem, 1) := by decide +kernel
theorem dL_undone_107 : decode cL_undone 107 = .ok (.bipush 42, 2) := by decide +kernel
theorem dL_undone_109 : decode cL_undone 109 = .ok (.isub, 1) := by decide +kernel
theorem dL_undone_110 : decode cL_undone 110 = .ok (.invokestatic 129, 3) := by decide +kernel
theorem dL_undone_113 : decode cL_undone 113 = .ok (.bipush (-101), 2) := by decide +kernel
theorem dL_undone_115 : decode cL_undone 115 = .ok (.if_icmp .le 7, 3) := by decide +kernel
theorem dL_undone_118 : decode cL_undone 118 = .ok (.iconst 1, 1) := by decide +kernel
theorem dL_undone_119 : decode cL_undone 119 = .ok (.goto 4, 3) := by decide +kernel
theorem dL_undone_122 : decode cL_undone 122 = .ok (.iconst 0, 1) := by decide +kernel
theorem dL_undone_123 : decode cL_undone 123 = .ok (.istore 6, 2) := by decide +kernel
theorem dL_undone_125 : decode cL_undone 125 = .ok (.goto 323, 3) := by decide +kernel
theorem dL_undone_128 : decode cL_undone 128 = .ok (.aload_n 1, 1) := by decide +kernel
theorem dL_undone_129 : decode cL_undone 129 = .ok (.iload 5, 2) := by decide +kernel
theorem dL_undone_131 : decode cL_undone 131 = .ok (.iconst 4, 1) := by decide +kernel
theorem dL_undone_132 : decode cL_undone 132 = .ok (.iushr, 1) := by decide +kernel
theorem dL_undone_133 : decode cL_undone 133 = .ok (.bipush 13, 2) := by decide +kernel
theorem dL_undone_135 : decode cL_undone 135 = .ok (.irem, 1) := by decide +kernel
theorem dL_undone_136 : decode cL_undone 136 = .ok (.invokestatic 143, 3) := by decide +kernel
theorem dL_undone_139 : decode cL_undone 139 = .ok (.iconst (-1), 1) := by decide +kernel
theorem dL_undone_140 : decode cL_undone 140 = .ok (.if_icmp .eq 7, 3) := by decide +kernel
theorem dL_undone_143 : decode cL_undone 143 = .ok (.iconst 1, 1) := by decide +kernel
theorem dL_undone_144 : decode cL_undone 144 = .ok (.goto 4, 3) := by decide +kernel
theorem dL_undone_147 : decode cL_undone 147 = .ok (.iconst 0, 1) := by decide +kernel
theorem dL_undone_148 : decode cL_undone 148 = .ok (.istore 6, 2) := by decide +kernel
theorem dL_undone_150 : decode cL_undone 150 = .ok (.goto 298, 3) := by decide +kernel
theorem dL_undone_153 : decode cL_undone 153 = .ok (.aload_n 1, 1) := by decide +kernel
theorem dL_undone_154 : decode cL_undone 154 = .ok (.iload 5, 2) := by decide +kernel
theorem dL_undone_156 : decode cL_undone 156 = .ok (.iconst 4, 1) := by decide +kernel
theorem dL_undone_157 : decode cL_undone 157 = .ok (.iushr, 1) := by decide +kernel
theorem dL_undone_158 : decode cL_undone 158 = .ok (.iconst 2, 1) := by decide +kernel
theorem dL_undone_159 : decode cL_undone 159 = .ok (.irem, 1) := by decide +kernel
theorem dL_undone_160 : decode cL_undone 160 = .ok (.iload 5, 2) := by decide +kernel
theorem dL_undone_162 : decode cL_undone 162 = .ok (.bipush 8, 2) := by decide +kernel
theorem dL_undone_164 : decode cL_undone 164 = .ok (.iushr, 1) := by decide +kernel
theorem dL_undone_165 : decode cL_undone 165 = .ok (.bipush 64, 2) := by decide +kernel
theorem dL_undone_167 : decode cL_undone 167 = .ok (.irem, 1) := by decide +kernel
theorem dL_undone_168 : decode cL_undone 168 = .ok (.iload 5, 2) := by decide +kernel
theorem dL_undone_170 : decode cL_undone 170 = .ok (.bipush 14, 2) := by decide +kernel
theorem dL_undone_172 : decode cL_undone 172 = .ok (.iushr, 1) := by decide +kernel
theorem dL_undone_173 : decode cL_undone 173 = .ok (.bipush 8, 2) := by decide +kernel
theorem dL_undone_175 : decode cL_undone 175 = .ok (.irem, 1) := by decide +kernel
theorem dL_undone_176 : decode cL_undone 176 = .ok (.iload 5, 2) := by decide +kernel
theorem dL_undone_178 : decode cL_undone 178 = .ok (.bipush 17, 2) := by decide +kernel
theorem dL_undone_180 : decode cL_undone 180 = .ok (.iushr, 1) := by decide +kernel
theorem dL_undone_181 : decode cL_undone 181 = .ok (.iconst 3, 1) := by decide +kernel
theorem dL_undone_182 : decode cL_undone 182 = .ok (.irem, 1) := by decide +kernel
theorem dL_undone_183 : decode cL_undone 183 = .ok (.invokestatic 137, 3) := by decide +kernel
theorem dL_undone_186 : decode cL_undone 186 = .ok (.ifCond .lt 7, 3) := by decide +kernel
theorem dL_undone_189 : decode cL_undone 189 = .ok (.iconst 1, 1) := by decide +kernel
theorem dL_undone_190 : decode cL_undone 190 = .ok (.goto 4, 3) := by decide +kernel
theorem dL_undone_193 : decode cL_undone 193 = .ok (.iconst 0, 1) := by decide +kernel
theorem dL_undone_194 : decode cL_undone 194 = .ok (.istore 6, 2) := by decide +kernel
theorem dL_undone_196 : decode cL_undone 196 = .ok (.goto 252, 3) := by decide +kernel
theorem dL_undone_199 : decode cL_undone 199 = .ok (.aload_n 1, 1) := by decide +kernel
theorem dL_undone_200 : decode cL_undone 200 = .ok (.iload 5, 2) := by decide +kernel
theorem dL_undone_202 : decode cL_undone 202 = .ok (.iconst 4, 1) := by decide +kernel
theorem dL_undone_203 : decode cL_undone 203 = .ok (.iushr, 1) := by decide +kernel
theorem dL_undone_204 : decode cL_undone 204 = .ok (.iconst 5, 1) := by decide +kernel
theorem dL_undone_205 : decode cL_undone 205 = .ok (.irem, 1) := by decide +kernel
theorem dL_undone_206 : decode cL_undone 206 = .ok (.invokestatic 135, 3) := by decide +kernel
theorem dL_undone_209 : decode cL_undone 209 = .ok (.ifCond .lt 7, 3) := by decide +kernel
theorem dL_undone_212 : decode cL_undone 212 = .ok (.iconst 1, 1) := by decide +kernel
theorem dL_undone_213 : decode cL_undone 213 = .ok (.goto 4, 3) := by decide +kernel
theorem dL_undone_216 : decode cL_undone 216 = .ok (.iconst 0, 1) := by decide +kernel
theorem dL_undone_217 : decode cL_undone 217 = .ok (.istore 6, 2) := by decide +kernel
theorem dL_undone_219 : decode cL_undone 219 = .ok (.goto 229, 3) := by decide +kernel
theorem dL_undone_222 : decode cL_undone 222 = .ok (.aload_n 1, 1) := by decide +kernel
theorem dL_undone_223 : decode cL_undone 223 = .ok (.iload 5, 2) := by decide +kernel
theorem dL_undone_225 : decode cL_undone 225 = .ok (.iconst 4, 1) := by decide +kernel
theorem dL_undone_226 : decode cL_undone 226 = .ok (.iushr, 1) := by decide +kernel
theorem dL_undone_227 : decode cL_undone 227 = .ok (.iconst 4, 1) := by decide +kernel
theorem dL_undone_228 : decode cL_undone 228 = .ok (.irem, 1) := by decide +kernel
theorem dL_undone_229 : decode cL_undone 229 = .ok (.iload 5, 2) := by decide +kernel
theorem dL_undone_231 : decode cL_undone 231 = .ok (.bipush 8, 2) := by decide +kernel
theorem dL_undone_233 : decode cL_undone 233 = .ok (.iushr, 1) := by decide +kernel
theorem dL_undone_234 : decode cL_undone 234 = .ok (.iconst 2, 1) := by decide +kernel
theorem dL_undone_235 : decode cL_undone 235 = .ok (.irem, 1) := by decide +kernel
theorem dL_undone_236 : decode cL_undone 236 = .ok (.iload 5, 2) := by decide +kernel
theorem dL_undone_238 : decode cL_undone 238 = .ok (.bipush 12, 2) := by decide +kernel
theorem dL_undone_240 : decode cL_undone 240 = .ok (.iushr, 1) := by decide +kernel
theorem dL_undone_241 : decode cL_undone 241 = .ok (.iconst 2, 1) := by decide +kernel
theorem dL_undone_242 : decode cL_undone 242 = .ok (.irem, 1) := by decide +kernel
theorem dL_undone_243 : decode cL_undone 243 = .ok (.invokestatic 140, 3) := by decide +kernel
theorem dL_undone_246 : decode cL_undone 246 = .ok (.ifCond .lt 7, 3) := by decide +kernel
theorem dL_undone_249 : decode cL_undone 249 = .ok (.iconst 1, 1) := by decide +kernel
theorem dL_undone_250 : decode cL_undone 250 = .ok (.goto 4, 3) := by decide +kernel
theorem dL_undone_253 : decode cL_undone 253 = .ok (.iconst 0, 1) := by decide +kernel
theorem dL_undone_254 : decode cL_undone 254 = .ok (.istore 6, 2) := by decide +kernel
theorem dL_undone_256 : decode cL_undone 256 = .ok (.goto 192, 3) := by decide +kernel
theorem dL_undone_259 : decode cL_undone 259 = .ok (.aload_n 1, 1) := by decide +kernel
theorem dL_undone_260 : decode cL_undone 260 = .ok (.iload 5, 2) := by decide +kernel
theorem dL_undone_262 : decode cL_undone 262 = .ok (.iconst 4, 1) := by decide +kernel
theorem dL_undone_263 : decode cL_undone 263 = .ok (.iushr, 1) := by decide +kernel
theorem dL_undone_264 : decode cL_undone 264 = .ok (.iconst 4, 1) := by decide +kernel
theorem dL_undone_265 : decode cL_undone 265 = .ok (.irem, 1) := by decide +kernel
theorem dL_undone_266 : decode cL_undone 266 = .ok (.invokestatic 152, 3) := by decide +kernel
theorem dL_undone_269 : decode cL_undone 269 = .ok (.ifCond .lt 7, 3) := by decide +kernel
theorem dL_undone_272 : decode cL_undone 272 = .ok (.iconst 1, 1) := by decide +kernel
theorem dL_undone_273 : decode cL_undone 273 = .ok (.goto 4, 3) := by decide +kernel
theorem dL_undone_276 : decode cL_undone 276 = .ok (.iconst 0, 1) := by decide +kernel
theorem dL_undone_277 : decode cL_undone 277 = .ok (.istore 6, 2) := by decide +kernel
theorem dL_undone_279 : decode cL_undone 279 = .ok (.goto 169, 3) := by decide +kernel
theorem dL_undone_282 : decode cL_undone 282 = .ok (.aload_n 1, 1) := by decide +kernel
theorem dL_undone_283 : decode cL_undone 283 = .ok (.iload 5, 2) := by decide +kernel
theorem dL_undone_285 : decode cL_undone 285 = .ok (.iconst 4, 1) := by decide +kernel
theorem dL_undone_286 : decode cL_undone 286 = .ok (.iushr, 1) := by decide +kernel
theorem dL_undone_287 : decode cL_undone 287 = .ok (.iconst 4, 1) := by decide +kernel
theorem dL_undone_288 : decode cL_undone 288 = .ok (.irem, 1) := by decide +kernel
theorem dL_undone_289 : decode cL_undone 289 = .ok (.invokestatic 154, 3) := by decide +kernel
theorem dL_undone_292 : decode cL_undone 292 = .ok (.ifCond .lt 7, 3) := by decide +kernel
theorem dL_undone_295 : decode cL_undone 295 = .ok (.iconst 1, 1) := by decide +kernel
theorem dL_undone_296 : decode cL_undone 296 = .ok (.goto 4, 3) := by decide +kernel
theorem dL_undone_299 : decode cL_undone 299 = .ok (.iconst 0, 1) := by decide +kernel
theorem dL_undone_300 : decode cL_undone 300 = .ok (.istore 6, 2) := by decide +kernel
theorem dL_undone_302 : decode cL_undone 302 = .ok (.goto 146, 3) := by decide +kernel
theorem dL_undone_305 : decode cL_undone 305 = .ok (.aload_n 1, 1) := by decide +kernel
theorem dL_undone_306 : decode cL_undone 306 = .ok (.iload 5, 2) := by decide +kernel
theorem dL_undone_308 : decode cL_undone 308 = .ok (.iconst 4, 1) := by decide +kernel
theorem dL_undone_309 : decode cL_undone 309 = .ok (.iushr, 1) := by decide +kernel
theorem dL_undone_310 : decode cL_undone 310 = .ok (.bipush 32, 2) := by decide +kernel
theorem dL_undone_312 : decode cL_undone 312 = .ok (.irem, 1) := by decide +kernel
theorem dL_undone_313 : decode cL_undone 313 = .ok (.invokestatic 132, 3) := by decide +kernel
theorem dL_undone_316 : decode cL_undone 316 = .ok (.ifCond .lt 7, 3) := by decide +kernel
theorem dL_undone_319 : decode cL_undone 319 = .ok (.iconst 1, 1) := by decide +kernel
theorem dL_undone_320 : decode cL_undone 320 = .ok (.goto 4, 3) := by decide +kernel
theorem dL_undone_323 : decode cL_undone 323 = .ok (.iconst 0, 1) := by decide +kernel
theorem dL_undone_324 : decode cL_undone 324 = .ok (.istore 6, 2) := by decide +kernel
theorem dL_undone_326 : decode cL_undone 326 = .ok (.goto 122, 3) := by decide +kernel
theorem dL_undone_329 : decode cL_undone 329 = .ok (.aload_n 1, 1) := by decide +kernel
theorem dL_undone_330 : decode cL_undone 330 = .ok (.new 278, 3) := by decide +kernel
theorem dL_undone_333 : decode cL_undone 333 = .ok (.dup, 1) := by decide +kernel
theorem dL_undone_334 : decode cL_undone 334 = .ok (.invokespecial 280, 3) := by decide +kernel
theorem dL_undone_337 : decode cL_undone 337 = .ok (.ldc_w 281, 3) := by decide +kernel
theorem dL_undone_340 : decode cL_undone 340 = .ok (.invokevirtual 283, 3) := by decide +kernel
theorem dL_undone_343 : decode cL_undone 343 = .ok (.iload 5, 2) := by decide +kernel
theorem dL_undone_345 : decode cL_undone 345 = .ok (.iconst 4, 1) := by decide +kernel
theorem dL_undone_346 : decode cL_undone 346 = .ok (.iushr, 1) := by decide +kernel
theorem dL_undone_347 : decode cL_undone 347 = .ok (.bipush 40, 2) := by decide +kernel
theorem dL_undone_349 : decode cL_undone 349 = .ok (.irem, 1) := by decide +kernel
theorem dL_undone_350 : decode cL_undone 350 = .ok (.invokevirtual 286, 3) := by decide +kernel
theorem dL_undone_353 : decode cL_undone 353 = .ok (.ldc_w 289, 3) := by decide +kernel
theorem dL_undone_356 : decode cL_undone 356 = .ok (.invokevirtual 283, 3) := by decide +kernel
theorem dL_undone_359 : decode cL_undone 359 = .ok (.iconst 1, 1) := by decide +kernel
theorem dL_undone_360 : decode cL_undone 360 = .ok (.iload 5, 2) := by decide +kernel
theorem dL_undone_362 : decode cL_undone 362 = .ok (.bipush 10, 2) := by decide +kernel
theorem dL_undone_364 : decode cL_undone 364 = .ok (.iushr, 1) := by decide +kernel
theorem dL_undone_365 : decode cL_undone 365 = .ok (.bipush 6, 2) := by decide +kernel
theorem dL_undone_367 : decode cL_undone 367 = .ok (.irem, 1) := by decide +kernel
theorem dL_undone_368 : decode cL_undone 368 = .ok (.iadd, 1) := by decide +kernel
theorem dL_undone_369 : decode cL_undone 369 = .ok (.invokevirtual 286, 3) := by decide +kernel
theorem dL_undone_372 : decode cL_undone 372 = .ok (.ldc_w 291, 3) := by decide +kernel
theorem dL_undone_375 : decode cL_undone 375 = .ok (.invokevirtual 283, 3) := by decide +kernel
theorem dL_undone_378 : decode cL_undone 378 = .ok (.iload 5, 2) := by decide +kernel
theorem dL_undone_380 : decode cL_undone 380 = .ok (.bipush 14, 2) := by decide +kernel
theorem dL_undone_382 : decode cL_undone 382 = .ok (.iushr, 1) := by decide +kernel
theorem dL_undone_383 : decode cL_undone 383 = .ok (.bipush 12, 2) := by decide +kernel
theorem dL_undone_385 : decode cL_undone 385 = .ok (.irem, 1) := by decide +kernel
theorem dL_undone_386 : decode cL_undone 386 = .ok (.invokevirtual 286, 3) := by decide +kernel
theorem dL_undone_389 : decode cL_undone 389 = .ok (.iload 5, 2) := by decide +kernel
theorem dL_undone_391 : decode cL_undone 391 = .ok (.iconst 3, 1) := by decide +kernel
theorem dL_undone_392 : decode cL_undone 392 = .ok (.irem, 1) := by decide +kernel
theorem dL_undone_393 : decode cL_undone 393 = .ok (.ifCond .ne 9, 3) := by decide +kernel
theorem dL_undone_396 : decode cL_undone 396 = .ok (.ldc_w 293, 3) := by decide +kernel
theorem dL_undone_399 : decode cL_undone 399 = .ok (.goto 30, 3) := by decide +kernel
theorem dL_undone_402 : decode cL_undone 402 = .ok (.new 278, 3) := by decide +kernel
theorem dL_undone_405 : decode cL_undone 405 = .ok (.dup, 1) := by decide +kernel
theorem dL_undone_406 : decode cL_undone 406 = .ok (.invokespecial 280, 3) := by decide +kernel
theorem dL_undone_409 : decode cL_undone 409 = .ok (.ldc_w 291, 3) := by decide +kernel
theorem dL_undone_412 : decode cL_undone 412 = .ok (.invokevirtual 283, 3) := by decide +kernel
theorem dL_undone_415 : decode cL_undone 415 = .ok (.iload 5, 2) := by decide +kernel
theorem dL_undone_417 : decode cL_undone 417 = .ok (.bipush 18, 2) := by decide +kernel
theorem dL_undone_419 : decode cL_undone 419 = .ok (.iushr, 1) := by decide +kernel
theorem dL_undone_420 : decode cL_undone 420 = .ok (.bipush 14, 2) := by decide +kernel
theorem dL_undone_422 : decode cL_undone 422 = .ok (.irem, 1) := by decide +kernel
theorem dL_undone_423 : decode cL_undone 423 = .ok (.invokevirtual 286, 3) := by decide +kernel
theorem dL_undone_426 : decode cL_undone 426 = .ok (.invokevirtual 295, 3) := by decide +kernel
theorem dL_undone_429 : decode cL_undone 429 = .ok (.invokevirtual 283, 3) := by decide +kernel
theorem dL_undone_432 : decode cL_undone 432 = .ok (.invokevirtual 295, 3) := by decide +kernel
theorem dL_undone_435 : decode cL_undone 435 = .ok (.invokestatic 299, 3) := by decide +kernel
theorem dL_undone_438 : decode cL_undone 438 = .ok (.ifCond .lt 7, 3) := by decide +kernel
theorem dL_undone_441 : decode cL_undone 441 = .ok (.iconst 1, 1) := by decide +kernel
theorem dL_undone_442 : decode cL_undone 442 = .ok (.goto 4, 3) := by decide +kernel
theorem dL_undone_445 : decode cL_undone 445 = .ok (.iconst 0, 1) := by decide +kernel
theorem dL_undone_446 : decode cL_undone 446 = .ok (.istore 6, 2) := by decide +kernel
theorem dL_undone_448 : decode cL_undone 448 = .ok (.iload 6, 2) := by decide +kernel
theorem dL_undone_450 : decode cL_undone 450 = .ok (.ifCond .ne 16, 3) := by decide +kernel
theorem dL_undone_453 : decode cL_undone 453 = .ok (.aload_n 1, 1) := by decide +kernel
theorem dL_undone_454 : decode cL_undone 454 = .ok (.invokestatic 274, 3) := by decide +kernel
theorem dL_undone_457 : decode cL_undone 457 = .ok (.aload_n 2, 1) := by decide +kernel
theorem dL_undone_458 : decode cL_undone 458 = .ok (.iload_n 3, 1) := by decide +kernel
theorem dL_undone_459 : decode cL_undone 459 = .ok (.laload, 1) := by decide +kernel
theorem dL_undone_460 : decode cL_undone 460 = .ok (.lcmp, 1) := by decide +kernel
theorem dL_undone_461 : decode cL_undone 461 = .ok (.ifCond .eq 5, 3) := by decide +kernel
theorem dL_undone_464 : decode cL_undone 464 = .ok (.iconst 0, 1) := by decide +kernel
theorem dL_undone_465 : decode cL_undone 465 = .ok (.ireturn, 1) := by decide +kernel
theorem dL_undone_466 : decode cL_undone 466 = .ok (.iload_n 3, 1) := by decide +kernel
theorem dL_undone_467 : decode cL_undone 467 = .ok (.iload 6, 2) := by decide +kernel
theorem dL_undone_469 : decode cL_undone 469 = .ok (.ifCond .eq 7, 3) := by decide +kernel
theorem dL_undone_472 : decode cL_undone 472 = .ok (.iconst 1, 1) := by decide +kernel
theorem dL_undone_473 : decode cL_undone 473 = .ok (.goto 4, 3) := by decide +kernel
theorem dL_undone_476 : decode cL_undone 476 = .ok (.iconst 0, 1) := by decide +kernel
theorem dL_undone_477 : decode cL_undone 477 = .ok (.iadd, 1) := by decide +kernel
theorem dL_undone_478 : decode cL_undone 478 = .ok (.istore_n 3, 1) := by decide +kernel
theorem dL_undone_479 : decode cL_undone 479 = .ok (.iinc 4 1, 3) := by decide +kernel
theorem dL_undone_482 : decode cL_undone 482 = .ok (.goto (-472), 3) := by decide +kernel
theorem dL_undone_485 : decode cL_undone 485 = .ok (.iload_n 3, 1) := by decide +kernel
theorem dL_undone_486 : decode cL_undone 486 = .ok (.iconst 1, 1) := by decide +kernel
theorem dL_undone_487 : decode cL_undone 487 = .ok (.isub, 1) := by decide +kernel
theorem dL_undone_488 : decode cL_undone 488 = .ok (.istore 4, 2) := by decide +kernel
theorem dL_undone_490 : decode cL_undone 490 = .ok (.iload 4, 2) := by decide +kernel
theorem dL_undone_492 : decode cL_undone 492 = .ok (.ifCond .lt 30, 3) := by decide +kernel
theorem dL_undone_495 : decode cL_undone 495 = .ok (.aload_n 1, 1) := by decide +kernel
theorem dL_undone_496 : decode cL_undone 496 = .ok (.invokestatic 247, 3) := by decide +kernel
theorem dL_undone_499 : decode cL_undone 499 = .ok (.ifCond .lt 15, 3) := by decide +kernel
theorem dL_undone_502 : decode cL_undone 502 = .ok (.aload_n 1, 1) := by decide +kernel
theorem dL_undone_503 : decode cL_undone 503 = .ok (.invokestatic 274, 3) := by decide +kernel
theorem dL_undone_506 : decode cL_undone 506 = .ok (.aload_n 2, 1) := by decide +kernel
theorem dL_undone_507 : decode cL_undone 507 = .ok (.iload 4, 2) := by decide +kernel
theorem dL_undone_509 : decode cL_undone 509 = .ok (.laload, 1) := by decide +kernel
theorem dL_undone_510 : decode cL_undone 510 = .ok (.lcmp, 1) := by decide +kernel
theorem dL_undone_511 : decode cL_undone 511 = .ok (.ifCond .eq 5, 3) := by decide +kernel
theorem dL_undone_514 : decode cL_undone 514 = .ok (.iconst 0, 1) := by decide +kernel
theorem dL_undone_515 : decode cL_undone 515 = .ok (.ireturn, 1) := by decide +kernel
theorem dL_undone_516 : decode cL_undone 516 = .ok (.iinc 4 (-1), 3) := by decide +kernel
theorem dL_undone_519 : decode cL_undone 519 = .ok (.goto (-29), 3) := by decide +kernel
theorem dL_undone_522 : decode cL_undone 522 = .ok (.iconst 1, 1) := by decide +kernel
theorem dL_undone_523 : decode cL_undone 523 = .ok (.ireturn, 1) := by decide +kernel
abbrev vwCl : List vw_C := [(RJ0, TJ0, 4), (RJx00060, TJx00060, 6), (RX0, TX0, 4), (RX1, TX1, 3), (RX2, TX2, 6), (RX3, TX3, 8), (RX4, TX4, 9), (RX5, TX5, 3), (RX6, TX6, 8), (RJ4, TJ4, 4)]
end
section
/-! THE HEAP AS TWO TABLES (of my own): sh says of each address its kind and its length, V what lies in it by place. G: a frame over such a heap comes to an end that P allows. MC: a method's contract. -/
/-- (launch, first address of the claim's own, the heap at the start, classes and slots, array classes, the script: where, how long, what) -/
abbrev gE : Type := Launch × Nat × Heap × va_G × (Nat → ClassId) × (Nat × Nat × (Nat → Int32))
/-- (bytes, locals, own class, answer, table of handlers, name, room) -/
abbrev gM : Type := ByteArray × Nat × String × Option FieldType × List ExceptionTableEntry × String × Room
/-- (name, bytes, locals, answer, room) -/
abbrev gY : Type := MethodName × ByteArray × Nat × Option FieldType × Room
abbrev Sh : Type := Nat → Nat × Nat
abbrev Vl : Type := Nat → Nat → Value
abbrev gP : Type := (Option Value ⊕ String) → Sh → Nat → Vl → Prop
def gN (E : gE) : Nat → Prop := fun q => E.2.1 ≤ q
def gty : Nat → FieldType
  | 20 => .int
  | 21 => .char
  | 22 => .long
  | 23 => .byte
  | 24 => .object RX5
  | 25 => .object RX2
  | 26 => .object RX0
  | _ => .object RX4
def gW : List Cond := lw_tbl.filter goodWord
def gk (w : Cond) : Bool := match w with
  | .methodLinkNest .. => true
  | .castable .. => true
  | .declares .. => true
  | _ => false
def gNw : List Cond := lw_tbl.filter gk
theorem gW_at {w : Cond} (k : Nat) (h : lw_tbl[k]? = some w) (hg : goodWord w = true) : w ∈ gW := List.mem_filter.mpr ⟨List.mem_of_getElem? h, hg⟩
theorem gNw_at {w : Cond} (k : Nat) (h : lw_tbl[k]? = some w) (hg : gk w = true) : w ∈ gNw := List.mem_filter.mpr ⟨List.mem_of_getElem? h, hg⟩
theorem gW_good {w : Cond} (h : w ∈ gW) : (w.onTables && w.keeps) = true ∨ ∃ ty, w = .arrayClass ty := good_of_word (List.mem_filter.mp h).2
theorem gIn_nil : GoodIn gW [] := fun _ h => nomatch h
theorem gIn_cons {w : Cond} {ws : List Cond} (h : w ∈ gW) (t : GoodIn gW ws) : GoodIn gW (w :: ws) := fun x hx => by
  rcases List.mem_cons.mp hx with rfl | hx
  · exact ⟨h, gW_good h⟩
  · exact t x hx
theorem gIn_self : GoodIn gW gW := fun _ h => ⟨h, gW_good h⟩
theorem gIn_V {own C : String} {idx n : Nat} {y : MethodName} {cc : ByteArray} {ret : Option FieldType} (h1 : Cond.methodLink own idx y ∈ gW) (h2 : Cond.instanceMethod y ∈ gW) (h3 : Cond.selects C y y ∈ gW) (h4 : Cond.initialized C ∈ gW) (h5 : Cond.code y cc n ret ∈ gW) : GoodIn gW (wsV own idx C y (Cond.code y cc n ret :: gW)) :=
  gIn_cons h1 (gIn_cons h2 (gIn_cons h3 (gIn_cons h4 (gIn_cons h5 gIn_self))))
theorem gIn_S {own : String} {idx n : Nat} {y : MethodName} {cc : ByteArray} {ret : Option FieldType} (h1 : Cond.methodLink own idx y ∈ gW) (h2 : Cond.static y ∈ gW) (h4 : Cond.initialized y.cls ∈ gW) (h5 : Cond.code y cc n ret ∈ gW) : GoodIn gW (va_wsS own idx y (Cond.code y cc n ret :: gW)) :=
  gIn_cons h1 (gIn_cons h2 (gIn_cons h4 (gIn_cons h5 gIn_self)))
theorem gIn_I {n : Nat} {y : MethodName} {cc : ByteArray} {ret : Option FieldType} (h5 : Cond.code y cc n ret ∈ gW) : GoodIn gW (Cond.code y cc n ret :: gW) := gIn_cons h5 gIn_self
/-- the String constants of the throws: class, place, text -/
def gstr : List (String × Nat × String) := [(RX6, 53, "no such setting, or its value is out of range"), (RX6, 273, "the number of days is out of range"), (RX6, 180, "the gap is out of range"), (RX6, 185, "there are 4 convoys"), (RX6, 135, "no such row"), (RX6, 137, "the kind, the weight or the axles are out of range"), (RX6, 148, "the row is full"), (RX6, 151, "the row is for the other kind"), (RX6, 200, "no such convoy, row or place"), (RX6, 170, "no truck is at the place"), (RX6, 202, "the truck may not join"), (RX6, 77, "no such mile"), (RX6, 214, "no such convoy"), (RX6, 216, "the convoy may not start"), (RX6, 225, "the convoy may not roll"), (RX6, 322, "nothing was refused"), (RX6, 119, "no such number of a mile"), (RX6, 348, "no such account"), (RX6, 70, "no such setting"), (RX6, 103, "the mile was never drilled"), (RX6, 262, "no truck is at the mile"), (RX6, 168, "no such row or place"), (RX6, 172, "no such number of a truck"), (RX6, 244, "no such number of a convoy"), (RX6, 250, "no such convoy or place"), (RX6, 370, "no tonnes came"), (RX6, 373, "no change can be undone"), (RX6, 279, "the number of tonnes is out of range"), (RX6, 282, "the ice would not bear that within 90 days"), (RX6, 299, "the input contains 60 characters"), (RX6, 309, "the text has an error"), (RX6, 318, "an order of the text cannot be carried out"), (RX6, 320, "an order of the text is refused")]
/-- .. and of the law's orders -/
def gsl : List (Nat × String) := [(281, "t-"), (289, ";p"), (291, ";d"), (293, ";r0")]
/-- the exceptions of the class, and of them those that are no kind of another -/
def gEx : List String := ["java/lang/IllegalArgumentException", "java/lang/IndexOutOfBoundsException", "java/util/NoSuchElementException", "java/lang/UnsupportedOperationException", "java/lang/IllegalStateException", "java/lang/ArithmeticException"]
/-- what the tables and the heap below the claim's own say, wherever a method begins -/
def KI (E : gE) (U : State) : Prop :=
  (∀ (c : Nat) (q : vw_C), vwCl[c]? = some q → u_Kn U q.1 q.2.1 q.2.2 (E.2.2.2.1.1 c) (E.2.2.2.1.2 c)) ∧
  (∀ k : Nat, 20 ≤ k → k < 28 → ArrOfT U (E.2.2.2.2.1 k) (gty k) ∧ va_RA U (E.2.2.2.2.1 k) (gty k)) ∧
  (va_AO RX5 U ∧ va_AO RX2 U ∧ va_AO RX0 U ∧ va_AO RX4 U) ∧
  ((∃ t : Nat, va_Z "IceConvoys" "LOWEST_SETTING" "[I" (.ref t) (gN E) U E.2.2.1 ∧ va_T .int t 3 (fun j => .int (([-40, 0, 1] : List Int32).getD j 0)) (gN E) U E.2.2.1) ∧
   (∃ t : Nat, va_Z "IceConvoys" "HIGHEST_SETTING" "[I" (.ref t) (gN E) U E.2.2.1 ∧ va_T .int t 3 (fun j => .int (([10, 100, 14] : List Int32).getD j 0)) (gN E) U E.2.2.1)) ∧
  (vx_Zq Bundle.tN "UNASSIGNED_STACK" Bundle.steD (gN E) U E.2.2.1 ∧ vx_Zq Bundle.tN "SUPPRESSED_SENTINEL" Bundle.listD (gN E) U E.2.2.1) ∧
  (∀ q ∈ gstr, ∃ sa : Nat, vk_R q.1 q.2.1 q.2.2 sa U) ∧
  (∀ w ∈ gNw, va_Nw w U) ∧
  ((∃ (adK adV : Nat → Nat), (∀ i, i < 4 → vk_R RL (gsl.getD i (0, "")).1 (gsl.getD i (0, "")).2 (adK i) U) ∧ vk_S 4 [2, 2, 2, 3] [[116, 45], [59, 112], [59, 100], [59, 114, 48]] adK adV (gN E) U E.2.2.1 ∧ va_Z "java/lang/String" "COMPACT_STRINGS" "Z" (.int 1) (gN E) U E.2.2.1 ∧
     (∃ t : Nat, va_Z "java/lang/Integer" "DigitOnes" "[B" (.ref t) (gN E) U E.2.2.1 ∧ va_T .byte t 100 (fun j => .int (nI (48 + j % 10))) (gN E) U E.2.2.1) ∧
     (∃ t : Nat, va_Z "java/lang/Integer" "DigitTens" "[B" (.ref t) (gN E) U E.2.2.1 ∧ va_T .byte t 100 (fun j => .int (nI (48 + j / 10))) (gN E) U E.2.2.1)) ∧
   (va_X E.2.2.2.2.2.1 E.2.2.2.2.2.2.1 E.2.2.2.2.2.2.2 U E.2.2.1 ∧ E.2.2.2.2.2.1 < E.2.1) ∧ ∀ a ∈ gEx, ∀ b ∈ gEx, a ≠ b → va_Nc a b U) ∧
  E.1.stackTraces = false
theorem gk_cases {w : Cond} (h : gk w = true) : (∃ a i x h, w = .methodLinkNest a i x h) ∨ (∃ C T, w = .castable C T) ∨ ∃ x, w = .declares x := by
  cases w <;> first | exact Or.inl ⟨_, _, _, _, rfl⟩ | exact Or.inr (Or.inl ⟨_, _, rfl⟩) | exact Or.inr (Or.inr ⟨_, rfl⟩) | cases h
theorem KI.of {E : gE} {s U : State} (hal : s.vm.Alike U.vm) (hR : ∀ q : String × Nat × String, ∀ sa : Nat, vk_R q.1 q.2.1 q.2.2 sa s → vk_R q.1 q.2.1 q.2.2 sa U) (hN : ∀ w ∈ gNw, va_Nw w s → va_Nw w U) (h : KI E s) : KI E U := by
  obtain ⟨h1, h2, ⟨a1, a2, a3, a4⟩, ⟨⟨t1, z1, y1⟩, ⟨t2, z2, y2⟩⟩, ⟨u1, u2⟩, h6, h7, ⟨⟨adK, adV, b1, b2, b3, ⟨t3, z3, y3⟩, t4, z4, y4⟩, ⟨b4, b5⟩, b6⟩, h9⟩ := h
  exact ⟨fun c q hq => u_Kn_moved hal (h1 c q hq), fun k hk hk2 => ⟨arrOfT_moved hal (h2 k hk hk2).1, (h2 k hk hk2).2.moved hal⟩, ⟨a1.moved hal, a2.moved hal, a3.moved hal, a4.moved hal⟩,
    ⟨⟨t1, z1.moved hal, y1.moved hal⟩, ⟨t2, z2.moved hal, y2.moved hal⟩⟩, ⟨u1.moved hal, u2.moved hal⟩, fun q hq => by obtain ⟨sa, e⟩ := h6 q hq; exact ⟨sa, hR q sa e⟩, fun w hw => hN w hw (h7 w hw),
    ⟨⟨adK, adV, fun i hi => hR (RL, (gsl.getD i (0, "")).1, (gsl.getD i (0, "")).2) _ (b1 i hi), b2.moved hal, b3.moved hal, ⟨t3, z3.moved hal, y3.moved hal⟩, t4, z4.moved hal, y4.moved hal⟩, ⟨b4.moved hal, b5⟩, fun a ha b hb hab => (b6 a ha b hb hab).moved hal⟩, h9⟩
theorem KI.warm {E : gE} {s U : State} (hW : s.WarmedH U.vm) (h : KI E s) : KI E U := KI.of hW.alike (fun _ _ e => vk_R.warm hW e) (fun w hw e => by
  rcases gk_cases (List.mem_filter.mp hw).2 with ⟨a, i, x, h, rfl⟩ | ⟨C, T, rfl⟩ | ⟨x, rfl⟩
  · exact va_Nw.warmM hW e
  · exact va_Nw.warmC hW e
  · exact va_Nw.warmD hW e) h
theorem KI.same {E : gE} {s U : State} (hv : U.vm = s.vm) (h : KI E s) : KI E U := KI.of (by rw [hv]; exact Vm.Alike.refl _) (fun _ _ e => vk_R.same hv e) (fun w hw e => by
  rcases gk_cases (List.mem_filter.mp hw).2 with ⟨a, i, x, h, rfl⟩ | ⟨C, T, rfl⟩ | ⟨x, rfl⟩
  · exact va_Nw.same rfl hv.symm e
  · exact va_Nw.same rfl hv.symm e
  · exact va_Nw.same rfl hv.symm e) h
def hu (V : Vl) (a k : Nat) (v : Value) : Vl := fun a' => if a' = a then updV (V a) k v else V a'
def hn (V : Vl) (a : Nat) (F : Nat → Value) : Vl := fun a' => if a' = a then F else V a'
def hs (sh : Sh) (a : Nat) (t : Nat × Nat) : Sh := fun a' => if a' = a then t else sh a'
def cellAt (E : gE) (t : Nat × Nat) (a : Nat) (F : Nat → Value) (H : Heap) : Prop :=
  (t.1 < 20 → ∃ r : vw_C, vwCl[t.1 - 1]? = some r ∧ t_OB a (E.2.2.2.1.1 (t.1 - 1)) r.2.2 (E.2.2.2.1.2 (t.1 - 1)) H F) ∧ (20 ≤ t.1 → H[a]? = some (arrV (E.2.2.2.2.1 t.1) t.2 F))
def HR (E : gE) (sh : Sh) (sz : Nat) (V : Vl) (H : Heap) : Prop :=
  H.size = sz ∧ E.2.1 ≤ sz ∧ (∀ q : Nat, q < E.2.1 → H[q]? = E.2.2.1[q]?) ∧ ∀ a : Nat, (sh a).1 ≠ 0 → E.2.1 ≤ a ∧ a < sz ∧ cellAt E (sh a) a (V a) H
theorem cellAt.kept {E : gE} {t : Nat × Nat} {a : Nat} {F : Nat → Value} {H H1 : Heap} (h : cellAt E t a F H) (hq : H1[a]? = H[a]?) : cellAt E t a F H1 :=
  ⟨fun ht => by obtain ⟨r, h1, h2⟩ := h.1 ht; exact ⟨r, h1, h2.kept hq⟩, fun ht => hq.trans (h.2 ht)⟩
theorem HR.upd {E : gE} {sh : Sh} {sz : Nat} {V : Vl} {H H1 : Heap} {a k : Nat} {v : Value} (h : HR E sh sz V H) (hz : H1.size = H.size) (oq : ∀ q : Nat, q ≠ a → H1[q]? = H[q]?) (ha : E.2.1 ≤ a) (hc : cellAt E (sh a) a (updV (V a) k v) H1) : HR E sh sz (hu V a k v) H1 := by
  obtain ⟨h1, h2, h3, h4⟩ := h
  refine ⟨hz.trans h1, h2, fun q hq => (oq q (by omega)).trans (h3 q hq), fun b hb => ?_⟩
  obtain ⟨g1, g2, g3⟩ := h4 b hb
  refine ⟨g1, g2, ?_⟩
  by_cases e : b = a
  · subst e
    show cellAt E (sh b) b (if b = b then _ else _) H1
    rw [if_pos rfl]
    exact hc
  · show cellAt E (sh b) b (if b = a then _ else _) H1
    rw [if_neg e]
    exact g3.kept (oq b e)
theorem HR.new {E : gE} {sh : Sh} {sz : Nat} {V : Vl} {H H1 : Heap} {t : Nat × Nat} {F : Nat → Value} (h : HR E sh sz V H) (hz : H1.size = sz + 1) (oq : ∀ q : Nat, q < sz → H1[q]? = H[q]?) (hc : cellAt E t sz F H1) : HR E (hs sh sz t) (sz + 1) (hn V sz F) H1 := by
  obtain ⟨h1, h2, h3, h4⟩ := h
  refine ⟨hz, by omega, fun q hq => (oq q (by omega)).trans (h3 q hq), fun b hb => ?_⟩
  unfold hs at hb ⊢
  unfold hn
  by_cases e : b = sz
  · subst e
    rw [if_pos rfl, if_pos rfl]
    exact ⟨h2, by omega, hc⟩
  · rw [if_neg e] at hb
    rw [if_neg e, if_neg e]
    obtain ⟨g1, g2, g3⟩ := h4 b hb
    exact ⟨g1, by omega, g3.kept (oq b g2)⟩
theorem HR.grow {E : gE} {sh : Sh} {sz : Nat} {V : Vl} {H H1 : Heap} (h : HR E sh sz V H) (hz : sz ≤ H1.size) (oq : ∀ q : Nat, q < sz → H1[q]? = H[q]?) : HR E sh H1.size V H1 := by
  obtain ⟨h1, h2, h3, h4⟩ := h
  refine ⟨rfl, by omega, fun q hq => (oq q (by omega)).trans (h3 q hq), fun b hb => ?_⟩
  obtain ⟨g1, g2, g3⟩ := h4 b hb
  exact ⟨g1, by omega, g3.kept (oq b g2)⟩
/-! locals -/
def asc : List (Option Value) → Nat → List (Nat × Value)
  | [], _ => []
  | none :: t, i => asc t (i + 1)
  | some v :: t, i => (i, v) :: asc t (i + 1)
def lg : List (Option Value) → Nat → Option Value
  | [], _ => none
  | a :: _, 0 => a
  | _ :: t, i + 1 => lg t i
def lst : List (Option Value) → Nat → Value → List (Option Value)
  | [], _, _ => []
  | _ :: t, 0, v => some v :: t
  | a :: t, i + 1, v => a :: lst t i v
theorem asc_mem : ∀ (L : List (Option Value)) (i j : Nat) (v : Value), (j, v) ∈ asc L i ↔ ∃ k, j = i + k ∧ lg L k = some v
  | [], i, j, v => by simp [asc, lg]
  | none :: t, i, j, v => by
    rw [asc, asc_mem t (i + 1) j v]
    constructor
    · rintro ⟨k, h1, h2⟩
      exact ⟨k + 1, by omega, h2⟩
    · rintro ⟨k, h1, h2⟩
      cases k with
      | zero => cases h2
      | succ k => exact ⟨k, by omega, h2⟩
  | some w :: t, i, j, v => by
    rw [asc, List.mem_cons, asc_mem t (i + 1) j v]
    constructor
    · rintro (h | ⟨k, h1, h2⟩)
      · cases h
        exact ⟨0, rfl, rfl⟩
      · exact ⟨k + 1, by omega, h2⟩
    · rintro ⟨k, h1, h2⟩
      cases k with
      | zero =>
        left
        have : w = v := Option.some.inj h2
        rw [this, h1]
        rfl
      | succ k => exact Or.inr ⟨k, by omega, h2⟩
theorem lg_has {ls : Array Slot} {n : Nat} {L : List (Option Value)} (h : lv_has ls n (asc L 0)) {i : Nat} {v : Value} (hv : lg L i = some v) : ls[i]? = some (.val v) :=
  h.2.2 (i, v) ((asc_mem L 0 i v).mpr ⟨i, by omega, hv⟩)
theorem lg_lst_ne : ∀ (L : List (Option Value)) (i j : Nat) (v : Value), j ≠ i → lg (lst L i v) j = lg L j
  | [], _, _, _, _ => rfl
  | _ :: _, 0, 0, _, h => absurd rfl h
  | _ :: _, 0, _ + 1, _, _ => rfl
  | _ :: _, _ + 1, 0, _, _ => rfl
  | _ :: t, i + 1, j + 1, v, h => lg_lst_ne t i j v (fun e => h (by rw [e]))
theorem lg_lst_eq : ∀ (L : List (Option Value)) (i : Nat) (v w : Value), lg (lst L i v) i = some w → w = v
  | [], _, _, _, h => nomatch h
  | _ :: _, 0, _, _, h => (Option.some.inj h).symm
  | _ :: t, i + 1, v, w, h => lg_lst_eq t i v w h
/-- no long or double lies just ahead -/
def lc1 (L : List (Option Value)) : Nat → Bool
  | 0 => true
  | i + 1 => match lg L i with
    | some w => w.category != 2
    | none => true
theorem lv_mono {ls : Array Slot} {n : Nat} {l l' : List (Nat × Value)} (h : lv_has ls n l) (hs : ∀ q ∈ l', q ∈ l) : lv_has ls n l' := ⟨h.1, h.2.1, fun q hq => h.2.2 q (hs q hq)⟩
theorem lst_sub {L : List (Option Value)} {i : Nat} {v : Value} (hc : lc1 L i = true) : ∀ q ∈ asc (lst L i v) 0, q ∈ (i, v) :: (asc L 0).filter (fun q => !(q.1 == i) && !(q.1 + 1 == i && q.2.category == 2)) := by
  rintro ⟨j, w⟩ hq
  obtain ⟨k, h1, h2⟩ := (asc_mem _ 0 j w).mp hq
  have e : k = j := by omega
  subst e
  by_cases hj : k = i
  · subst hj
    rw [lg_lst_eq L k v w h2]
    exact List.mem_cons_self
  · rw [lg_lst_ne L i k v hj] at h2
    refine List.mem_cons_of_mem _ (List.mem_filter.mpr ⟨(asc_mem L 0 k w).mpr ⟨k, by omega, h2⟩, ?_⟩)
    have h3 : ¬ (k + 1 = i ∧ w.category = 2) := by
      rintro ⟨e1, e2⟩
      subst e1
      simp only [lc1, h2, e2] at hc
      simp at hc
    by_cases h4 : k + 1 = i
    · have h5 : ¬ w.category = 2 := fun z => h3 ⟨h4, z⟩
      simp [hj, h5]
    · simp [hj, h4]
theorem lst_sub2 {L : List (Option Value)} {i : Nat} {v : Value} (hc : lc1 L i = true) (hc2 : lg L (i + 1) = none) : ∀ q ∈ asc (lst L i v) 0, q ∈ (i, v) :: (asc L 0).filter (fun q => !(q.1 == i) && (!(q.1 == i + 1) && !(q.1 + 1 == i && q.2.category == 2))) := by
  rintro ⟨j, w⟩ hq
  have h0 := lst_sub hc _ hq
  rcases List.mem_cons.mp h0 with h0 | h0
  · rw [h0]; exact List.mem_cons_self
  · obtain ⟨h1, h2⟩ := List.mem_filter.mp h0
    refine List.mem_cons_of_mem _ (List.mem_filter.mpr ⟨h1, ?_⟩)
    obtain ⟨k, h3, h4⟩ := (asc_mem L 0 j w).mp h1
    have e : k = j := by omega
    subst e
    have h5 : ¬ k = i + 1 := fun z => by rw [z, hc2] at h4; cases h4
    simp only [Bool.and_eq_true] at h2 ⊢
    exact ⟨h2.1, by simp [h5], h2.2⟩
end
section

section GR
def Ctx (E : gE) (M : gM) (p : Program) (e : Env) (s : State) (m : MethodId) (args : Array Value) (below : List Frame) (meth : Method) (c : Code) : Prop :=
  p.tables.exec = Jvm.exec ∧ c.code = M.1 ∧ c.maxLocals = M.2.1 ∧ s.vm.findClass M.2.2.1 = some m.cls ∧ (∀ w ∈ gW, w.before args s = true) ∧ meth.sig.returnType = M.2.2.2.1 ∧ meth.locks = false ∧ c.exceptionTable.toList = M.2.2.2.2.1 ∧ meth.name = M.2.2.2.2.2.1 ∧ KI E s ∧ E.2.1 ≤ s.heap.size ∧ (∀ q : Nat, q < E.2.1 → s.heap[q]? = E.2.2.1[q]?)
def Dyn (E : gE) (M : gM) (sh : Sh) (sz : Nat) (V : Vl) (L : List (Option Value)) (s : State) (H : Heap) (locs : List Loc) (ls : Array Slot) : Prop :=
  lv_has ls M.2.1 (asc L 0) ∧ HR E sh sz V H ∧ (∀ z ∈ locs, E.2.1 ≤ z.base) ∧ s.heap.size ≤ sz
def gQ (E : gE) (P : gP) : Array Value → State → Outcome → State → Prop := fun _ _ o t => ∃ (v : Option Value) (sh : Sh) (sz : Nat) (V : Vl), o = .returned v ∧ HR E sh sz V t.heap ∧ P (.inl v) sh sz V
def gX (E : gE) (P : gP) : String → State → State → Prop := fun C _ t => ∃ (sh : Sh) (sz : Nat) (V : Vl), HR E sh sz V t.heap ∧ P (.inr C) sh sz V
def gPc (E : gE) (as : List Value) (sh : Sh) (sz : Nat) (V : Vl) : Array Value → State → Prop := fun a U => a = as.toArray ∧ KI E U ∧ HR E sh sz V U.heap
/-- a method's contract: from the heap (sh, sz, V) with these arguments it ends as P says -/
def MC (E : gE) (Y : gY) (as : List Value) (sh : Sh) (sz : Nat) (V : Vl) (P : gP) : Prop :=
  vx_Met E.1 Y.1 (Cond.code Y.1 Y.2.1 Y.2.2.1 Y.2.2.2.1 :: gW) Y.2.2.2.2 (gPc E as sh sz V) (gQ E P) (gX E P) Y.2.2.2.2.cells Y.2.2.2.2.slots (gN E)
def G (E : gE) (M : gM) (P : gP) (sh : Sh) (sz : Nat) (V : Vl) (cu su pc : Nat) (L : List (Option Value)) (S : List Value) : Prop :=
  ∀ p e s m args below meth c, Ctx E M p e s m args below meth c → ∀ H locs ls, Dyn E M sh sz V L s H locs ls →
    W p E.1 e M.2.2.2.2.2.2 s m args below meth c H locs cu su (vx_MQ below (gQ E P) (gX E P) args s M.2.2.2.2.2.2.cells M.2.2.2.2.2.2.slots (gN E)) (F0 m pc ls S)
/-- an exception of the class C thrown at pc -/
def Gt (E : gE) (M : gM) (P : gP) (sh : Sh) (sz : Nat) (V : Vl) (cu su pc : Nat) (L : List (Option Value)) (C : String) : Prop :=
  ∀ p e s m args below meth c, Ctx E M p e s m args below meth c → ∀ H locs ls, Dyn E M sh sz V L s H locs ls → ∀ (q : Addr) (ce : Cell) (rest : List Value), H[q]? = some ce → ce.vm = .none → s.vm.findClass C = some ce.cls →
    vx_W p E.1 e M.2.2.2.2.2.2 s m args below meth c H locs cu su (vx_MQ below (gQ E P) (gX E P) args s M.2.2.2.2.2.2.cells M.2.2.2.2.2.2.slots (gN E)) (F0 m pc ls rest) q
theorem gPc_blind {E : gE} {as : List Value} {sh : Sh} {sz : Nat} {V : Vl} : FrameBlind (gPc E as sh sz V) := fun a U g mk h => ⟨h.1, KI.same (s := U) (U := U.calling g mk a) rfl h.2.1, h.2.2⟩
def lin : List Value → List (Option Value)
  | [] => []
  | v :: t => some v :: (if v.category = 2 then none :: lin t else lin t)
theorem asc_lin : ∀ (as : List Value) (k i : Nat), asc (lin as ++ List.replicate k none) i = lv_args i as
  | [], 0, _ => rfl
  | [], k + 1, i => by
    show asc (none :: List.replicate k none) i = _
    rw [asc]
    exact asc_lin [] k (i + 1)
  | v :: t, k, i => by
    by_cases h : v.category = 2
    · simp only [lin, lv_args, h, if_true, List.cons_append, asc]
      rw [asc_lin t k (i + 2)]
    · simp only [lin, lv_args, h, if_false, List.cons_append, asc]
      rw [asc_lin t k (i + 1)]
theorem MC.of {E : gE} {Y : gY} {as : List Value} {sh : Sh} {sz : Nat} {V : Vl} {P : gP} (own nm : String) (hcls : Y.1.cls = own) (hy : plainName Y.1.cls = true) (hnm : Y.1.name = nm) (k : Nat) (L : List (Option Value)) (hL : lin as ++ List.replicate k none = L) (hlen : (lg_sl as).length ≤ Y.2.2.1)
    (kk : G E (Y.2.1, Y.2.2.1, own, Y.2.2.2.1, [], nm, Y.2.2.2.2) P sh sz V 0 0 0 L []) : MC E Y as sh sz V P := by
  refine vx_ofW hy rfl ?_
  intro p e s m args below meth c s₁ B hml ht hv
  obtain ⟨rfl, hK, hR⟩ := hv
  have hl := lv_entry as (n := Y.2.2.1) hlen
  rw [← asc_lin as k 0, hL] at hl
  rw [lg_entry_eq]
  obtain ⟨n1, n2⟩ := name_of_methodNamed B.named B.method
  refine kk p e s m as.toArray below meth c ⟨B.exec, B.bytes, hml, hcls ▸ findClass_of_methodNamed B.named, fun w hw => atoms_spec B.pre w (List.mem_cons_of_mem _ hw), B.returns, B.notSynchronized, List.eq_nil_iff_forall_not_mem.mpr (fun x hx => ht x hx), by rw [n1]; exact hnm, hK, by rw [hR.1]; exact hR.2.1, hR.2.2.1⟩ s.heap [] _ ⟨hl, hR, fun _ h => (nomatch h), by rw [hR.1]; exact Nat.le_refl _⟩
theorem MC.met {E : gE} {Y : gY} {as : List Value} {sh : Sh} {sz : Nat} {V : Vl} {P : gP} (h : MC E Y as sh sz V P) (hx : ∀ C sh sz V, ¬ P (.inr C) sh sz V) : Met E.1 Y.1 (Cond.code Y.1 Y.2.1 Y.2.2.1 Y.2.2.2.1 :: gW) Y.2.2.2.2 (gPc E as sh sz V) (gQ E P) Y.2.2.2.2.cells Y.2.2.2.2.slots (gN E) :=
  MetFree.mono h (fun _ _ h => h) (fun _ _ _ _ _ h => h) (fun a s o t _ hq => by
    rcases hq with hq | ⟨q, -, E1, ce, L, ⟨sh, sz, V, -, h2⟩, -⟩
    · exact hq
    · exact absurd h2 (hx _ _ _ _))
theorem MC.mono {E : gE} {Y : gY} {as : List Value} {sh : Sh} {sz : Nat} {V : Vl} {P P' : gP} (h : MC E Y as sh sz V P) (hp : ∀ o sh sz V, P o sh sz V → P' o sh sz V) : MC E Y as sh sz V P' :=
  MetFree.mono h (fun _ _ h => h) (fun _ _ _ _ _ h => h) (fun a s o t _ hq => by
    rcases hq with ⟨⟨v, sh, sz, V, h1, h2, h3⟩, hq⟩ | ⟨q, h0, E1, ce, L, ⟨sh, sz, V, h1, h2⟩, hq⟩
    · exact Or.inl ⟨⟨v, sh, sz, V, h1, h2, hp _ _ _ _ h3⟩, hq⟩
    · exact Or.inr ⟨q, h0, E1, ce, L, ⟨sh, sz, V, h1, hp _ _ _ _ h2⟩, hq⟩)
variable {E : gE} {M : gM} {P : gP} {sh : Sh} {sz : Nat} {V : Vl} {cu su pc : Nat} {L : List (Option Value)} {rest : List Value}
theorem g_widen (k n : Nat) (h1 : cu ≤ k) (h2 : su ≤ n) {S : List Value} (kk : G E M P sh sz V k n pc L S) : G E M P sh sz V cu su pc L S :=
  fun p e s m args below meth c C H locs ls D => W.widen h1 h2 (kk p e s m args below meth c C H locs ls D)
theorem g_loc {L' : List (Option Value)} {S : List Value} (h : ∀ i v, lg L' i = some v → lg L i = some v) (kk : G E M P sh sz V cu su pc L' S) : G E M P sh sz V cu su pc L S :=
  fun p e s m args below meth c C H locs ls D => kk p e s m args below meth c C H locs ls ⟨lv_mono D.1 (fun q hq => by
    obtain ⟨j, w⟩ := q
    obtain ⟨k, h1, h2⟩ := (asc_mem L' 0 j w).mp hq
    exact (asc_mem L 0 j w).mpr ⟨k, h1, h _ _ h2⟩), D.2⟩

theorem g_iconst {n : Int} {v : Int32} (hdg : decode M.1 pc = .ok (.iconst n, 1)) (hv : Int32.ofInt n = v) (k : G E M P sh sz V cu su (pc + 1) L (.int v :: rest)) : G E M P sh sz V cu su pc L (rest) :=
  fun p e s m args below meth c C H locs ls D => lv_iconst C.1 C.2.1 hdg hv (k p e s m args below meth c C H locs ls D)

theorem g_bipush {n : Int} {v : Int32} (hdg : decode M.1 pc = .ok (.bipush n, 2)) (hv : (Int8.ofInt n).toInt32 = v) (k : G E M P sh sz V cu su (pc + 2) L (.int v :: rest)) : G E M P sh sz V cu su pc L (rest) :=
  fun p e s m args below meth c C H locs ls D => lv_bipush C.1 C.2.1 hdg hv (k p e s m args below meth c C H locs ls D)

theorem g_sipush {n : Int} {v : Int32} (hdg : decode M.1 pc = .ok (.sipush n, 3)) (hv : (Int16.ofInt n).toInt32 = v) (k : G E M P sh sz V cu su (pc + 3) L (.int v :: rest)) : G E M P sh sz V cu su pc L (rest) :=
  fun p e s m args below meth c C H locs ls D => lv_sipush C.1 C.2.1 hdg hv (k p e s m args below meth c C H locs ls D)

theorem g_lconst {n : Fin 2} {v : Int64} (hdg : decode M.1 pc = .ok (.lconst n, 1)) (hv : Int64.ofNat (n : Nat) = v) (k : G E M P sh sz V cu su (pc + 1) L (.long v :: rest)) : G E M P sh sz V cu su pc L (rest) :=
  fun p e s m args below meth c C H locs ls D => lv_lconst C.1 C.2.1 hdg hv (k p e s m args below meth c C H locs ls D)

theorem g_fconst0 (hdg : decode M.1 pc = .ok (.fconst 0, 1)) (k : G E M P sh sz V cu su (pc + 1) L (.float FP.fconst0 :: rest)) : G E M P sh sz V cu su pc L (rest) :=
  fun p e s m args below meth c C H locs ls D => lv_fconst0 C.1 C.2.1 hdg (k p e s m args below meth c C H locs ls D)

theorem g_fconst1 (hdg : decode M.1 pc = .ok (.fconst 1, 1)) (k : G E M P sh sz V cu su (pc + 1) L (.float FP.fconst1 :: rest)) : G E M P sh sz V cu su pc L (rest) :=
  fun p e s m args below meth c C H locs ls D => lv_fconst1 C.1 C.2.1 hdg (k p e s m args below meth c C H locs ls D)

theorem g_fconst2 (hdg : decode M.1 pc = .ok (.fconst 2, 1)) (k : G E M P sh sz V cu su (pc + 1) L (.float FP.fconst2 :: rest)) : G E M P sh sz V cu su pc L (rest) :=
  fun p e s m args below meth c C H locs ls D => lv_fconst2 C.1 C.2.1 hdg (k p e s m args below meth c C H locs ls D)

theorem g_dconst0 (hdg : decode M.1 pc = .ok (.dconst 0, 1)) (k : G E M P sh sz V cu su (pc + 1) L (.double FP.dconst0 :: rest)) : G E M P sh sz V cu su pc L (rest) :=
  fun p e s m args below meth c C H locs ls D => lv_dconst0 C.1 C.2.1 hdg (k p e s m args below meth c C H locs ls D)

theorem g_dconst1 (hdg : decode M.1 pc = .ok (.dconst 1, 1)) (k : G E M P sh sz V cu su (pc + 1) L (.double FP.dconst1 :: rest)) : G E M P sh sz V cu su pc L (rest) :=
  fun p e s m args below meth c C H locs ls D => lv_dconst1 C.1 C.2.1 hdg (k p e s m args below meth c C H locs ls D)

theorem g_iadd {x y : Int32} (hdg : decode M.1 pc = .ok (.iadd, 1)) (k : G E M P sh sz V cu su (pc + 1) L (.int (x + y) :: rest)) : G E M P sh sz V cu su pc L (.int y :: .int x :: rest) :=
  fun p e s m args below meth c C H locs ls D => lv_iadd C.1 C.2.1 hdg (k p e s m args below meth c C H locs ls D)

theorem g_isub {x y : Int32} (hdg : decode M.1 pc = .ok (.isub, 1)) (k : G E M P sh sz V cu su (pc + 1) L (.int (x - y) :: rest)) : G E M P sh sz V cu su pc L (.int y :: .int x :: rest) :=
  fun p e s m args below meth c C H locs ls D => lv_isub C.1 C.2.1 hdg (k p e s m args below meth c C H locs ls D)

theorem g_imul {x y : Int32} (hdg : decode M.1 pc = .ok (.imul, 1)) (k : G E M P sh sz V cu su (pc + 1) L (.int (x * y) :: rest)) : G E M P sh sz V cu su pc L (.int y :: .int x :: rest) :=
  fun p e s m args below meth c C H locs ls D => lv_imul C.1 C.2.1 hdg (k p e s m args below meth c C H locs ls D)

theorem g_iand {x y : Int32} (hdg : decode M.1 pc = .ok (.iand, 1)) (k : G E M P sh sz V cu su (pc + 1) L (.int (x &&& y) :: rest)) : G E M P sh sz V cu su pc L (.int y :: .int x :: rest) :=
  fun p e s m args below meth c C H locs ls D => lv_iand C.1 C.2.1 hdg (k p e s m args below meth c C H locs ls D)

theorem g_ior {x y : Int32} (hdg : decode M.1 pc = .ok (.ior, 1)) (k : G E M P sh sz V cu su (pc + 1) L (.int (x ||| y) :: rest)) : G E M P sh sz V cu su pc L (.int y :: .int x :: rest) :=
  fun p e s m args below meth c C H locs ls D => lv_ior C.1 C.2.1 hdg (k p e s m args below meth c C H locs ls D)

theorem g_ishl {x y : Int32} (hdg : decode M.1 pc = .ok (.ishl, 1)) (k : G E M P sh sz V cu su (pc + 1) L (.int (x <<< (y &&& 31)) :: rest)) : G E M P sh sz V cu su pc L (.int y :: .int x :: rest) :=
  fun p e s m args below meth c C H locs ls D => lv_ishl C.1 C.2.1 hdg (k p e s m args below meth c C H locs ls D)

theorem g_idiv {x y : Int32} (hdg : decode M.1 pc = .ok (.idiv, 1)) (hne : ¬ y = 0) (k : G E M P sh sz V cu su (pc + 1) L (.int (x / y) :: rest)) : G E M P sh sz V cu su pc L (.int y :: .int x :: rest) :=
  fun p e s m args below meth c C H locs ls D => lv_idiv C.1 C.2.1 hdg hne (k p e s m args below meth c C H locs ls D)

theorem g_irem {x y : Int32} (hdg : decode M.1 pc = .ok (.irem, 1)) (hne : ¬ y = 0) (k : G E M P sh sz V cu su (pc + 1) L (.int (x - x / y * y) :: rest)) : G E M P sh sz V cu su pc L (.int y :: .int x :: rest) :=
  fun p e s m args below meth c C H locs ls D => lv_irem C.1 C.2.1 hdg hne (k p e s m args below meth c C H locs ls D)

theorem g_ineg {x : Int32} (hdg : decode M.1 pc = .ok (.ineg, 1)) (k : G E M P sh sz V cu su (pc + 1) L (.int (-x) :: rest)) : G E M P sh sz V cu su pc L (.int x :: rest) :=
  fun p e s m args below meth c C H locs ls D => lv_ineg C.1 C.2.1 hdg (k p e s m args below meth c C H locs ls D)

theorem g_ladd {x y : Int64} (hdg : decode M.1 pc = .ok (.ladd, 1)) (k : G E M P sh sz V cu su (pc + 1) L (.long (x + y) :: rest)) : G E M P sh sz V cu su pc L (.long y :: .long x :: rest) :=
  fun p e s m args below meth c C H locs ls D => lv_ladd C.1 C.2.1 hdg (k p e s m args below meth c C H locs ls D)

theorem g_lshl {x v : Int64} {y : Int32} (hdg : decode M.1 pc = .ok (.lshl, 1)) (hv : x <<< (y.toInt64 &&& 63) = v) (k : G E M P sh sz V cu su (pc + 1) L (.long v :: rest)) : G E M P sh sz V cu su pc L (.int y :: .long x :: rest) :=
  fun p e s m args below meth c C H locs ls D => lv_lshl C.1 C.2.1 hdg hv (k p e s m args below meth c C H locs ls D)

theorem g_i2c {x v : Int32} (hdg : decode M.1 pc = .ok (.i2c, 1)) (hv : (x.toUInt32 % 65536).toInt32 = v) (k : G E M P sh sz V cu su (pc + 1) L (.int v :: rest)) : G E M P sh sz V cu su pc L (.int x :: rest) :=
  fun p e s m args below meth c C H locs ls D => lv_i2c C.1 C.2.1 hdg hv (k p e s m args below meth c C H locs ls D)

theorem g_i2l {x : Int32} {v : Int64} (hdg : decode M.1 pc = .ok (.i2l, 1)) (hv : x.toInt64 = v) (k : G E M P sh sz V cu su (pc + 1) L (.long v :: rest)) : G E M P sh sz V cu su pc L (.int x :: rest) :=
  fun p e s m args below meth c C H locs ls D => lv_i2l C.1 C.2.1 hdg hv (k p e s m args below meth c C H locs ls D)

theorem g_fadd {x y : UInt32} (hdg : decode M.1 pc = .ok (.fadd, 1)) (hne : vf_n32 (FP.fadd x y)) (k : G E M P sh sz V cu su (pc + 1) L (.float (FP.fadd x y) :: rest)) : G E M P sh sz V cu su pc L (.float y :: .float x :: rest) :=
  fun p e s m args below meth c C H locs ls D => lv_fadd C.1 C.2.1 hdg hne (k p e s m args below meth c C H locs ls D)

theorem g_fsub {x y : UInt32} (hdg : decode M.1 pc = .ok (.fsub, 1)) (hne : vf_n32 (FP.fsub x y)) (k : G E M P sh sz V cu su (pc + 1) L (.float (FP.fsub x y) :: rest)) : G E M P sh sz V cu su pc L (.float y :: .float x :: rest) :=
  fun p e s m args below meth c C H locs ls D => lv_fsub C.1 C.2.1 hdg hne (k p e s m args below meth c C H locs ls D)

theorem g_fmul {x y : UInt32} (hdg : decode M.1 pc = .ok (.fmul, 1)) (hne : vf_n32 (FP.fmul x y)) (k : G E M P sh sz V cu su (pc + 1) L (.float (FP.fmul x y) :: rest)) : G E M P sh sz V cu su pc L (.float y :: .float x :: rest) :=
  fun p e s m args below meth c C H locs ls D => lv_fmul C.1 C.2.1 hdg hne (k p e s m args below meth c C H locs ls D)

theorem g_fdiv {x y : UInt32} (hdg : decode M.1 pc = .ok (.fdiv, 1)) (hne : vf_n32 (FP.fdiv x y)) (k : G E M P sh sz V cu su (pc + 1) L (.float (FP.fdiv x y) :: rest)) : G E M P sh sz V cu su pc L (.float y :: .float x :: rest) :=
  fun p e s m args below meth c C H locs ls D => lv_fdiv C.1 C.2.1 hdg hne (k p e s m args below meth c C H locs ls D)

theorem g_dadd {x y : UInt64} (hdg : decode M.1 pc = .ok (.dadd, 1)) (hne : vf_n64 (FP.dadd x y)) (k : G E M P sh sz V cu su (pc + 1) L (.double (FP.dadd x y) :: rest)) : G E M P sh sz V cu su pc L (.double y :: .double x :: rest) :=
  fun p e s m args below meth c C H locs ls D => lv_dadd C.1 C.2.1 hdg hne (k p e s m args below meth c C H locs ls D)

theorem g_dmul {x y : UInt64} (hdg : decode M.1 pc = .ok (.dmul, 1)) (hne : vf_n64 (FP.dmul x y)) (k : G E M P sh sz V cu su (pc + 1) L (.double (FP.dmul x y) :: rest)) : G E M P sh sz V cu su pc L (.double y :: .double x :: rest) :=
  fun p e s m args below meth c C H locs ls D => lv_dmul C.1 C.2.1 hdg hne (k p e s m args below meth c C H locs ls D)

theorem g_ddiv {x y : UInt64} (hdg : decode M.1 pc = .ok (.ddiv, 1)) (hne : vf_n64 (FP.ddiv x y)) (k : G E M P sh sz V cu su (pc + 1) L (.double (FP.ddiv x y) :: rest)) : G E M P sh sz V cu su pc L (.double y :: .double x :: rest) :=
  fun p e s m args below meth c C H locs ls D => lv_ddiv C.1 C.2.1 hdg hne (k p e s m args below meth c C H locs ls D)

theorem g_fcmp {x y : UInt32} {op : CmpOp} (hdg : decode M.1 pc = .ok (.fcmp op, 1)) (k : G E M P sh sz V cu su (pc + 1) L (.int (Op.cmpValue (FP.fcmp x y) op) :: rest)) : G E M P sh sz V cu su pc L (.float y :: .float x :: rest) :=
  fun p e s m args below meth c C H locs ls D => lv_fcmp C.1 C.2.1 hdg (k p e s m args below meth c C H locs ls D)

theorem g_dcmp {x y : UInt64} {op : CmpOp} (hdg : decode M.1 pc = .ok (.dcmp op, 1)) (k : G E M P sh sz V cu su (pc + 1) L (.int (Op.cmpValue (FP.dcmp x y) op) :: rest)) : G E M P sh sz V cu su pc L (.double y :: .double x :: rest) :=
  fun p e s m args below meth c C H locs ls D => lv_dcmp C.1 C.2.1 hdg (k p e s m args below meth c C H locs ls D)

theorem g_i2f {x : Int32} (hdg : decode M.1 pc = .ok (.i2f, 1)) (k : G E M P sh sz V cu su (pc + 1) L (.float (FP.i2f x) :: rest)) : G E M P sh sz V cu su pc L (.int x :: rest) :=
  fun p e s m args below meth c C H locs ls D => lv_i2f C.1 C.2.1 hdg (k p e s m args below meth c C H locs ls D)

theorem g_f2i {x : UInt32} (hdg : decode M.1 pc = .ok (.f2i, 1)) (k : G E M P sh sz V cu su (pc + 1) L (.int (FP.f2i x) :: rest)) : G E M P sh sz V cu su pc L (.float x :: rest) :=
  fun p e s m args below meth c C H locs ls D => lv_f2i C.1 C.2.1 hdg (k p e s m args below meth c C H locs ls D)

theorem g_d2l {x : UInt64} (hdg : decode M.1 pc = .ok (.d2l, 1)) (k : G E M P sh sz V cu su (pc + 1) L (.long (FP.d2l x) :: rest)) : G E M P sh sz V cu su pc L (.double x :: rest) :=
  fun p e s m args below meth c C H locs ls D => lv_d2l C.1 C.2.1 hdg (k p e s m args below meth c C H locs ls D)

theorem g_f2d {x : UInt32} (hdg : decode M.1 pc = .ok (.f2d, 1)) (hne : vf_n64 (FP.f2d x)) (k : G E M P sh sz V cu su (pc + 1) L (.double (FP.f2d x) :: rest)) : G E M P sh sz V cu su pc L (.float x :: rest) :=
  fun p e s m args below meth c C H locs ls D => lv_f2d C.1 C.2.1 hdg hne (k p e s m args below meth c C H locs ls D)

theorem g_dup {va : Value} (hdg : decode M.1 pc = .ok (.dup, 1)) (hva : va.category = 1) (k : G E M P sh sz V cu su (pc + 1) L (va :: va :: rest)) : G E M P sh sz V cu su pc L (va :: rest) :=
  fun p e s m args below meth c C H locs ls D => lv_dup C.1 C.2.1 hdg hva (k p e s m args below meth c C H locs ls D)

theorem g_pop {va : Value} (hdg : decode M.1 pc = .ok (.pop, 1)) (hva : va.category = 1) (k : G E M P sh sz V cu su (pc + 1) L (rest)) : G E M P sh sz V cu su pc L (va :: rest) :=
  fun p e s m args below meth c C H locs ls D => lv_pop C.1 C.2.1 hdg hva (k p e s m args below meth c C H locs ls D)

theorem g_dup2 {va vb : Value} (hdg : decode M.1 pc = .ok (.dup2, 1)) (hva : va.category = 1) (hvb : vb.category = 1) (k : G E M P sh sz V cu su (pc + 1) L (va :: vb :: va :: vb :: rest)) : G E M P sh sz V cu su pc L (va :: vb :: rest) :=
  fun p e s m args below meth c C H locs ls D => lv_dup2_11 C.1 C.2.1 hdg hva hvb (k p e s m args below meth c C H locs ls D)

theorem g_dup_x1 {va vb : Value} (hdg : decode M.1 pc = .ok (.dup_x1, 1)) (hva : va.category = 1) (hvb : vb.category = 1) (k : G E M P sh sz V cu su (pc + 1) L (va :: vb :: va :: rest)) : G E M P sh sz V cu su pc L (va :: vb :: rest) :=
  fun p e s m args below meth c C H locs ls D => lv_dup_x1 C.1 C.2.1 hdg hva hvb (k p e s m args below meth c C H locs ls D)

theorem g_dup_x2 {va vb vd : Value} (hdg : decode M.1 pc = .ok (.dup_x2, 1)) (hva : va.category = 1) (hvb : vb.category = 1) (hvd : vd.category = 1) (k : G E M P sh sz V cu su (pc + 1) L (va :: vb :: vd :: va :: rest)) : G E M P sh sz V cu su pc L (va :: vb :: vd :: rest) :=
  fun p e s m args below meth c C H locs ls D => lv_dup_x2 C.1 C.2.1 hdg hva hvb hvd (k p e s m args below meth c C H locs ls D)

theorem g_null (hdg : decode M.1 pc = .ok (.aconst_null, 1)) (k : G E M P sh sz V cu su (pc + 1) L (.null :: rest)) : G E M P sh sz V cu su pc L (rest) :=
  fun p e s m args below meth c C H locs ls D => lv_null C.1 C.2.1 hdg (k p e s m args below meth c C H locs ls D)

theorem g_lcmp {x y : Int64} (hdg : decode M.1 pc = .ok (.lcmp, 1)) (k : G E M P sh sz V cu su (pc + 1) L (.int (lg_cmp x y) :: rest)) : G E M P sh sz V cu su pc L (.long y :: .long x :: rest) :=
  fun p e s m args below meth c C H locs ls D => W.lcmp C.1 C.2.1 hdg (k p e s m args below meth c C H locs ls D)

theorem g_ldcf {index : Nat} {v : UInt32} (hc : Cond.constantFloat M.2.2.1 index v ∈ gW) (hdg : decode M.1 pc = .ok (.ldc index, 2)) (k : G E M P sh sz V cu su (pc + 2) L (.float v :: rest)) : G E M P sh sz V cu su pc L rest :=
  fun p e s m args below meth c C H locs ls D => lv_ldcf C.1 C.2.1 C.2.2.2.1 (C.2.2.2.2.1 _ hc) hdg (k p e s m args below meth c C H locs ls D)
theorem g_ldc2d {index : Nat} {v : UInt64} (hc : Cond.constantDouble M.2.2.1 index v ∈ gW) (hdg : decode M.1 pc = .ok (.ldc2_w index, 3)) (k : G E M P sh sz V cu su (pc + 3) L (.double v :: rest)) : G E M P sh sz V cu su pc L rest :=
  fun p e s m args below meth c C H locs ls D => lv_ldc2d C.1 C.2.1 C.2.2.2.1 (C.2.2.2.2.1 _ hc) hdg (k p e s m args below meth c C H locs ls D)
theorem g_ldc {index : Nat} {v : Int32} (hc : Cond.constant M.2.2.1 index v ∈ gW) (hdg : decode M.1 pc = .ok (.ldc index, 2)) (k : G E M P sh sz V cu su (pc + 2) L (.int v :: rest)) : G E M P sh sz V cu su pc L rest :=
  fun p e s m args below meth c C H locs ls D => lv_ldc C.1 C.2.1 C.2.2.2.1 (C.2.2.2.2.1 _ hc) hdg (k p e s m args below meth c C H locs ls D)
theorem g_ldc2 {index : Nat} {v : Int64} (hc : Cond.constantLong M.2.2.1 index v ∈ gW) (hdg : decode M.1 pc = .ok (.ldc2_w index, 3)) (k : G E M P sh sz V cu su (pc + 3) L (.long v :: rest)) : G E M P sh sz V cu su pc L rest :=
  fun p e s m args below meth c C H locs ls D => lv_ldc2 C.1 C.2.1 C.2.2.2.1 (C.2.2.2.2.1 _ hc) hdg (k p e s m args below meth c C H locs ls D)

theorem g_iload_n {k : Fin 4} {x : Int32} (hdg : decode M.1 pc = .ok (.iload_n k, 1)) (hl : lg L (k : Nat) = some (.int x)) (kk : G E M P sh sz V cu su (pc + 1) L (.int x :: rest)) : G E M P sh sz V cu su pc L rest :=
  fun p e s m args below meth c C H locs ls D => lv_iload_n C.1 C.2.1 hdg rfl (lg_has D.1 hl) (kk p e s m args below meth c C H locs ls D)
theorem g_iload {i : Nat} {x : Int32} (hdg : decode M.1 pc = .ok (.iload i, 2)) (hl : lg L i = some (.int x)) (kk : G E M P sh sz V cu su (pc + 2) L (.int x :: rest)) : G E M P sh sz V cu su pc L rest :=
  fun p e s m args below meth c C H locs ls D => lv_iload C.1 C.2.1 hdg (lg_has D.1 hl) (kk p e s m args below meth c C H locs ls D)

theorem g_aload_n {k : Fin 4} {x : Nat} (hdg : decode M.1 pc = .ok (.aload_n k, 1)) (hl : lg L (k : Nat) = some (.ref x)) (kk : G E M P sh sz V cu su (pc + 1) L (.ref x :: rest)) : G E M P sh sz V cu su pc L rest :=
  fun p e s m args below meth c C H locs ls D => lv_aload_n C.1 C.2.1 hdg rfl (lg_has D.1 hl) (kk p e s m args below meth c C H locs ls D)
theorem g_aload {i : Nat} {x : Nat} (hdg : decode M.1 pc = .ok (.aload i, 2)) (hl : lg L i = some (.ref x)) (kk : G E M P sh sz V cu su (pc + 2) L (.ref x :: rest)) : G E M P sh sz V cu su pc L rest :=
  fun p e s m args below meth c C H locs ls D => lv_aload C.1 C.2.1 hdg (lg_has D.1 hl) (kk p e s m args below meth c C H locs ls D)

theorem g_fload_n {k : Fin 4} {x : UInt32} (hdg : decode M.1 pc = .ok (.fload_n k, 1)) (hl : lg L (k : Nat) = some (.float x)) (kk : G E M P sh sz V cu su (pc + 1) L (.float x :: rest)) : G E M P sh sz V cu su pc L rest :=
  fun p e s m args below meth c C H locs ls D => lv_fload_n C.1 C.2.1 hdg rfl (lg_has D.1 hl) (kk p e s m args below meth c C H locs ls D)
theorem g_fload {i : Nat} {x : UInt32} (hdg : decode M.1 pc = .ok (.fload i, 2)) (hl : lg L i = some (.float x)) (kk : G E M P sh sz V cu su (pc + 2) L (.float x :: rest)) : G E M P sh sz V cu su pc L rest :=
  fun p e s m args below meth c C H locs ls D => lv_fload C.1 C.2.1 hdg (lg_has D.1 hl) (kk p e s m args below meth c C H locs ls D)

theorem g_dload_n {k : Fin 4} {x : UInt64} (hdg : decode M.1 pc = .ok (.dload_n k, 1)) (hl : lg L (k : Nat) = some (.double x)) (kk : G E M P sh sz V cu su (pc + 1) L (.double x :: rest)) : G E M P sh sz V cu su pc L rest :=
  fun p e s m args below meth c C H locs ls D => lv_dload_n C.1 C.2.1 hdg rfl (lg_has D.1 hl) (kk p e s m args below meth c C H locs ls D)
theorem g_dload {i : Nat} {x : UInt64} (hdg : decode M.1 pc = .ok (.dload i, 2)) (hl : lg L i = some (.double x)) (kk : G E M P sh sz V cu su (pc + 2) L (.double x :: rest)) : G E M P sh sz V cu su pc L rest :=
  fun p e s m args below meth c C H locs ls D => lv_dload C.1 C.2.1 hdg (lg_has D.1 hl) (kk p e s m args below meth c C H locs ls D)

theorem g_aload_nN {k : Fin 4} (hdg : decode M.1 pc = .ok (.aload_n k, 1)) (hl : lg L (k : Nat) = some .null) (kk : G E M P sh sz V cu su (pc + 1) L (.null :: rest)) : G E M P sh sz V cu su pc L rest :=
  fun p e s m args below meth c C H locs ls D => lv_aload_nN C.1 C.2.1 hdg rfl (lg_has D.1 hl) (kk p e s m args below meth c C H locs ls D)
theorem g_aloadN {i : Nat} (hdg : decode M.1 pc = .ok (.aload i, 2)) (hl : lg L i = some .null) (kk : G E M P sh sz V cu su (pc + 2) L (.null :: rest)) : G E M P sh sz V cu su pc L rest :=
  fun p e s m args below meth c C H locs ls D => lv_aloadN C.1 C.2.1 hdg (lg_has D.1 hl) (kk p e s m args below meth c C H locs ls D)

theorem g_istore_n {k : Fin 4} {x : Int32} (hdg : decode M.1 pc = .ok (.istore_n k, 1)) (hi : (k : Nat) < M.2.1) (hc : lc1 L (k : Nat) = true) (kk : G E M P sh sz V cu su (pc + 1) (lst L (k : Nat) (.int x)) rest) : G E M P sh sz V cu su pc L (.int x :: rest) :=
  fun p e s m args below meth c C H locs ls D => lv_istore_n C.1 C.2.1 hdg rfl D.1 hi rfl (fun ls' h => kk p e s m args below meth c C H locs ls' ⟨lv_mono h (lst_sub hc), D.2⟩)
theorem g_istore {i : Nat} {x : Int32} (hdg : decode M.1 pc = .ok (.istore i, 2)) (hi : i < M.2.1) (hc : lc1 L i = true) (kk : G E M P sh sz V cu su (pc + 2) (lst L i (.int x)) rest) : G E M P sh sz V cu su pc L (.int x :: rest) :=
  fun p e s m args below meth c C H locs ls D => lv_istore C.1 C.2.1 hdg D.1 hi rfl (fun ls' h => kk p e s m args below meth c C H locs ls' ⟨lv_mono h (lst_sub hc), D.2⟩)

theorem g_astore_n {k : Fin 4} {x : Nat} (hdg : decode M.1 pc = .ok (.astore_n k, 1)) (hi : (k : Nat) < M.2.1) (hc : lc1 L (k : Nat) = true) (kk : G E M P sh sz V cu su (pc + 1) (lst L (k : Nat) (.ref x)) rest) : G E M P sh sz V cu su pc L (.ref x :: rest) :=
  fun p e s m args below meth c C H locs ls D => lv_astore_n C.1 C.2.1 hdg rfl D.1 hi rfl (fun ls' h => kk p e s m args below meth c C H locs ls' ⟨lv_mono h (lst_sub hc), D.2⟩)
theorem g_astore {i : Nat} {x : Nat} (hdg : decode M.1 pc = .ok (.astore i, 2)) (hi : i < M.2.1) (hc : lc1 L i = true) (kk : G E M P sh sz V cu su (pc + 2) (lst L i (.ref x)) rest) : G E M P sh sz V cu su pc L (.ref x :: rest) :=
  fun p e s m args below meth c C H locs ls D => lv_astore C.1 C.2.1 hdg D.1 hi rfl (fun ls' h => kk p e s m args below meth c C H locs ls' ⟨lv_mono h (lst_sub hc), D.2⟩)

theorem g_fstore_n {k : Fin 4} {x : UInt32} (hdg : decode M.1 pc = .ok (.fstore_n k, 1)) (hi : (k : Nat) < M.2.1) (hc : lc1 L (k : Nat) = true) (kk : G E M P sh sz V cu su (pc + 1) (lst L (k : Nat) (.float x)) rest) : G E M P sh sz V cu su pc L (.float x :: rest) :=
  fun p e s m args below meth c C H locs ls D => lv_fstore_n C.1 C.2.1 hdg rfl D.1 hi rfl (fun ls' h => kk p e s m args below meth c C H locs ls' ⟨lv_mono h (lst_sub hc), D.2⟩)
theorem g_fstore {i : Nat} {x : UInt32} (hdg : decode M.1 pc = .ok (.fstore i, 2)) (hi : i < M.2.1) (hc : lc1 L i = true) (kk : G E M P sh sz V cu su (pc + 2) (lst L i (.float x)) rest) : G E M P sh sz V cu su pc L (.float x :: rest) :=
  fun p e s m args below meth c C H locs ls D => lv_fstore C.1 C.2.1 hdg D.1 hi rfl (fun ls' h => kk p e s m args below meth c C H locs ls' ⟨lv_mono h (lst_sub hc), D.2⟩)

theorem g_dstore_n {k : Fin 4} {x : UInt64} (hdg : decode M.1 pc = .ok (.dstore_n k, 1)) (hi : (k : Nat) + 1 < M.2.1) (hc : lc1 L (k : Nat) = true) (hc2 : lg L ((k : Nat) + 1) = none) (kk : G E M P sh sz V cu su (pc + 1) (lst L (k : Nat) (.double x)) rest) : G E M P sh sz V cu su pc L (.double x :: rest) :=
  fun p e s m args below meth c C H locs ls D => lv_dstore_n C.1 C.2.1 hdg rfl D.1 hi rfl (fun ls' h => kk p e s m args below meth c C H locs ls' ⟨lv_mono h (lst_sub2 hc hc2), D.2⟩)
theorem g_astore_nN {k : Fin 4} (hdg : decode M.1 pc = .ok (.astore_n k, 1)) (hi : (k : Nat) < M.2.1) (hc : lc1 L (k : Nat) = true) (kk : G E M P sh sz V cu su (pc + 1) (lst L (k : Nat) .null) rest) : G E M P sh sz V cu su pc L (.null :: rest) :=
  fun p e s m args below meth c C H locs ls D => lv_astore_nN C.1 C.2.1 hdg rfl D.1 hi rfl (fun ls' h => kk p e s m args below meth c C H locs ls' ⟨lv_mono h (lst_sub hc), D.2⟩)
theorem g_astoreN {i : Nat} (hdg : decode M.1 pc = .ok (.astore i, 2)) (hi : i < M.2.1) (hc : lc1 L i = true) (kk : G E M P sh sz V cu su (pc + 2) (lst L i .null) rest) : G E M P sh sz V cu su pc L (.null :: rest) :=
  fun p e s m args below meth c C H locs ls D => lv_astoreN C.1 C.2.1 hdg D.1 hi rfl (fun ls' h => kk p e s m args below meth c C H locs ls' ⟨lv_mono h (lst_sub hc), D.2⟩)
theorem g_iinc {i : Nat} {n : Int} {x v : Int32} (hdg : decode M.1 pc = .ok (.iinc i n, 3)) (hl : lg L i = some (.int x)) (hv : x + Int32.ofInt n = v) (hi : i < M.2.1) (hc : lc1 L i = true) (kk : G E M P sh sz V cu su (pc + 3) (lst L i (.int v)) rest) : G E M P sh sz V cu su pc L rest :=
  fun p e s m args below meth c C H locs ls D => by
    obtain ⟨k, hk⟩ := List.getElem?_of_mem ((asc_mem L 0 i (.int x)).mpr ⟨i, by omega, hl⟩)
    exact lv_iinc C.1 C.2.1 hdg D.1 hk hv hi rfl (fun ls' h => kk p e s m args below meth c C H locs ls' ⟨lv_mono h (lst_sub hc), D.2⟩)

theorem g_if_eq {x : Int32} {off : Int} {tgt : Nat} (hdg : decode M.1 pc = .ok (.ifCond .eq off, 3)) (ht : (pc : Int) + off = (tgt : Int)) (kt : x = 0 → G E M P sh sz V cu su tgt L rest) (kf : ¬ x = 0 → G E M P sh sz V cu su (pc + 3) L rest) : G E M P sh sz V cu su pc L (.int x :: rest) :=
  fun p e s m args below meth c C H locs ls D => lv_if_eq C.1 C.2.1 hdg ht (fun h => kt h p e s m args below meth c C H locs ls D) (fun h => kf h p e s m args below meth c C H locs ls D)

theorem g_if_ne {x : Int32} {off : Int} {tgt : Nat} (hdg : decode M.1 pc = .ok (.ifCond .ne off, 3)) (ht : (pc : Int) + off = (tgt : Int)) (kt : ¬ x = 0 → G E M P sh sz V cu su tgt L rest) (kf : x = 0 → G E M P sh sz V cu su (pc + 3) L rest) : G E M P sh sz V cu su pc L (.int x :: rest) :=
  fun p e s m args below meth c C H locs ls D => lv_if_ne C.1 C.2.1 hdg ht (fun h => kt h p e s m args below meth c C H locs ls D) (fun h => kf h p e s m args below meth c C H locs ls D)

theorem g_if_lt {x : Int32} {off : Int} {tgt : Nat} (hdg : decode M.1 pc = .ok (.ifCond .lt off, 3)) (ht : (pc : Int) + off = (tgt : Int)) (kt : x < 0 → G E M P sh sz V cu su tgt L rest) (kf : ¬ x < 0 → G E M P sh sz V cu su (pc + 3) L rest) : G E M P sh sz V cu su pc L (.int x :: rest) :=
  fun p e s m args below meth c C H locs ls D => lv_if_lt C.1 C.2.1 hdg ht (fun h => kt h p e s m args below meth c C H locs ls D) (fun h => kf h p e s m args below meth c C H locs ls D)

theorem g_if_ge {x : Int32} {off : Int} {tgt : Nat} (hdg : decode M.1 pc = .ok (.ifCond .ge off, 3)) (ht : (pc : Int) + off = (tgt : Int)) (kt : 0 ≤ x → G E M P sh sz V cu su tgt L rest) (kf : ¬ 0 ≤ x → G E M P sh sz V cu su (pc + 3) L rest) : G E M P sh sz V cu su pc L (.int x :: rest) :=
  fun p e s m args below meth c C H locs ls D => lv_if_ge C.1 C.2.1 hdg ht (fun h => kt h p e s m args below meth c C H locs ls D) (fun h => kf h p e s m args below meth c C H locs ls D)

theorem g_if_gt {x : Int32} {off : Int} {tgt : Nat} (hdg : decode M.1 pc = .ok (.ifCond .gt off, 3)) (ht : (pc : Int) + off = (tgt : Int)) (kt : 0 < x → G E M P sh sz V cu su tgt L rest) (kf : ¬ 0 < x → G E M P sh sz V cu su (pc + 3) L rest) : G E M P sh sz V cu su pc L (.int x :: rest) :=
  fun p e s m args below meth c C H locs ls D => lv_if_gt C.1 C.2.1 hdg ht (fun h => kt h p e s m args below meth c C H locs ls D) (fun h => kf h p e s m args below meth c C H locs ls D)

theorem g_if_le {x : Int32} {off : Int} {tgt : Nat} (hdg : decode M.1 pc = .ok (.ifCond .le off, 3)) (ht : (pc : Int) + off = (tgt : Int)) (kt : x ≤ 0 → G E M P sh sz V cu su tgt L rest) (kf : ¬ x ≤ 0 → G E M P sh sz V cu su (pc + 3) L rest) : G E M P sh sz V cu su pc L (.int x :: rest) :=
  fun p e s m args below meth c C H locs ls D => lv_if_le C.1 C.2.1 hdg ht (fun h => kt h p e s m args below meth c C H locs ls D) (fun h => kf h p e s m args below meth c C H locs ls D)

theorem g_icmp_eq {x y : Int32} {off : Int} {tgt : Nat} (hdg : decode M.1 pc = .ok (.if_icmp .eq off, 3)) (ht : (pc : Int) + off = (tgt : Int)) (kt : x = y → G E M P sh sz V cu su tgt L rest) (kf : ¬ x = y → G E M P sh sz V cu su (pc + 3) L rest) : G E M P sh sz V cu su pc L (.int y :: .int x :: rest) :=
  fun p e s m args below meth c C H locs ls D => lv_icmp_eq C.1 C.2.1 hdg ht (fun h => kt h p e s m args below meth c C H locs ls D) (fun h => kf h p e s m args below meth c C H locs ls D)

theorem g_icmp_ne {x y : Int32} {off : Int} {tgt : Nat} (hdg : decode M.1 pc = .ok (.if_icmp .ne off, 3)) (ht : (pc : Int) + off = (tgt : Int)) (kt : ¬ x = y → G E M P sh sz V cu su tgt L rest) (kf : x = y → G E M P sh sz V cu su (pc + 3) L rest) : G E M P sh sz V cu su pc L (.int y :: .int x :: rest) :=
  fun p e s m args below meth c C H locs ls D => lv_icmp_ne C.1 C.2.1 hdg ht (fun h => kt h p e s m args below meth c C H locs ls D) (fun h => kf h p e s m args below meth c C H locs ls D)

theorem g_icmp_lt {x y : Int32} {off : Int} {tgt : Nat} (hdg : decode M.1 pc = .ok (.if_icmp .lt off, 3)) (ht : (pc : Int) + off = (tgt : Int)) (kt : x < y → G E M P sh sz V cu su tgt L rest) (kf : ¬ x < y → G E M P sh sz V cu su (pc + 3) L rest) : G E M P sh sz V cu su pc L (.int y :: .int x :: rest) :=
  fun p e s m args below meth c C H locs ls D => lv_icmp_lt C.1 C.2.1 hdg ht (fun h => kt h p e s m args below meth c C H locs ls D) (fun h => kf h p e s m args below meth c C H locs ls D)

theorem g_icmp_ge {x y : Int32} {off : Int} {tgt : Nat} (hdg : decode M.1 pc = .ok (.if_icmp .ge off, 3)) (ht : (pc : Int) + off = (tgt : Int)) (kt : y ≤ x → G E M P sh sz V cu su tgt L rest) (kf : ¬ y ≤ x → G E M P sh sz V cu su (pc + 3) L rest) : G E M P sh sz V cu su pc L (.int y :: .int x :: rest) :=
  fun p e s m args below meth c C H locs ls D => lv_icmp_ge C.1 C.2.1 hdg ht (fun h => kt h p e s m args below meth c C H locs ls D) (fun h => kf h p e s m args below meth c C H locs ls D)

theorem g_icmp_gt {x y : Int32} {off : Int} {tgt : Nat} (hdg : decode M.1 pc = .ok (.if_icmp .gt off, 3)) (ht : (pc : Int) + off = (tgt : Int)) (kt : y < x → G E M P sh sz V cu su tgt L rest) (kf : ¬ y < x → G E M P sh sz V cu su (pc + 3) L rest) : G E M P sh sz V cu su pc L (.int y :: .int x :: rest) :=
  fun p e s m args below meth c C H locs ls D => lv_icmp_gt C.1 C.2.1 hdg ht (fun h => kt h p e s m args below meth c C H locs ls D) (fun h => kf h p e s m args below meth c C H locs ls D)

theorem g_icmp_le {x y : Int32} {off : Int} {tgt : Nat} (hdg : decode M.1 pc = .ok (.if_icmp .le off, 3)) (ht : (pc : Int) + off = (tgt : Int)) (kt : x ≤ y → G E M P sh sz V cu su tgt L rest) (kf : ¬ x ≤ y → G E M P sh sz V cu su (pc + 3) L rest) : G E M P sh sz V cu su pc L (.int y :: .int x :: rest) :=
  fun p e s m args below meth c C H locs ls D => lv_icmp_le C.1 C.2.1 hdg ht (fun h => kt h p e s m args below meth c C H locs ls D) (fun h => kf h p e s m args below meth c C H locs ls D)

theorem g_goto {off : Int} {tgt : Nat} (hdg : decode M.1 pc = .ok (.goto off, 3)) (ht : (pc : Int) + off = (tgt : Int)) {S : List Value} (k : G E M P sh sz V cu su tgt L S) : G E M P sh sz V cu su pc L S :=
  fun p e s m args below meth c C H locs ls D => lv_goto C.1 C.2.1 hdg ht (k p e s m args below meth c C H locs ls D)
theorem g_ifnonnull {x : Nat} {off : Int} {tgt : Nat} (hdg : decode M.1 pc = .ok (.ifnonnull off, 3)) (ht : (pc : Int) + off = (tgt : Int)) (k : G E M P sh sz V cu su tgt L rest) : G E M P sh sz V cu su pc L (.ref x :: rest) :=
  fun p e s m args below meth c C H locs ls D => lv_ifnonnull C.1 C.2.1 hdg ht (k p e s m args below meth c C H locs ls D)
theorem g_ifnonnullN {off : Int} (hdg : decode M.1 pc = .ok (.ifnonnull off, 3)) (k : G E M P sh sz V cu su (pc + 3) L rest) : G E M P sh sz V cu su pc L (.null :: rest) :=
  fun p e s m args below meth c C H locs ls D => lv_ifnonnullN C.1 C.2.1 hdg (k p e s m args below meth c C H locs ls D)
theorem g_ifnull {x : Nat} {off : Int} (hdg : decode M.1 pc = .ok (.ifnull off, 3)) (k : G E M P sh sz V cu su (pc + 3) L rest) : G E M P sh sz V cu su pc L (.ref x :: rest) :=
  fun p e s m args below meth c C H locs ls D => lv_ifnull C.1 C.2.1 hdg (k p e s m args below meth c C H locs ls D)
theorem g_ifnullN {off : Int} {tgt : Nat} (hdg : decode M.1 pc = .ok (.ifnull off, 3)) (ht : (pc : Int) + off = (tgt : Int)) (k : G E M P sh sz V cu su tgt L rest) : G E M P sh sz V cu su pc L (.null :: rest) :=
  fun p e s m args below meth c C H locs ls D => lv_ifnullN C.1 C.2.1 hdg ht (k p e s m args below meth c C H locs ls D)
theorem g_tableIn {dflt lo hi : Int} {offs : Array Int} {len : Nat} {x : Int32} {off : Int} {tgt : Nat} (hdg : decode M.1 pc = .ok (.tableswitch dflt lo hi offs, len)) (h1 : ¬ x.toInt < lo) (h2 : ¬ hi < x.toInt) (ho : offs[(x.toInt - lo).toNat]? = some off) (ht : (pc : Int) + off = (tgt : Int)) (k : G E M P sh sz V cu su tgt L rest) : G E M P sh sz V cu su pc L (.int x :: rest) :=
  fun p e s m args below meth c C H locs ls D => lv_tableIn C.1 C.2.1 hdg h1 h2 ho ht (k p e s m args below meth c C H locs ls D)
theorem g_tableOut {dflt lo hi : Int} {offs : Array Int} {len : Nat} {x : Int32} {tgt : Nat} (hdg : decode M.1 pc = .ok (.tableswitch dflt lo hi offs, len)) (h : x.toInt < lo ∨ hi < x.toInt) (ht : (pc : Int) + dflt = (tgt : Int)) (k : G E M P sh sz V cu su tgt L rest) : G E M P sh sz V cu su pc L (.int x :: rest) :=
  fun p e s m args below meth c C H locs ls D => lv_tableOut C.1 C.2.1 hdg h ht (k p e s m args below meth c C H locs ls D)
theorem g_lookup {dflt : Int} {ps : Array (Int × Int)} {len : Nat} {x : Int32} {off : Int} {tgt : Nat} (hdg : decode M.1 pc = .ok (.lookupswitch dflt ps, len)) (hp : (ps.toList.zip (ps.toList.drop 1)).all (fun (a, next) => a.1 < next.1) = true) (ho : Op.lookupswitch.offset ps.toList dflt x.toInt = off) (ht : (pc : Int) + off = (tgt : Int)) (k : G E M P sh sz V cu su tgt L rest) : G E M P sh sz V cu su pc L (.int x :: rest) :=
  fun p e s m args below meth c C H locs ls D => lv_lookup C.1 C.2.1 hdg hp ho ht (k p e s m args below meth c C H locs ls D)
/-! the heap -/
theorem HR.obj {H : Heap} {a ci : Nat} {r : vw_C} (h : HR E sh sz V H) (hs : (sh a).1 = ci + 1) (hc : vwCl[ci]? = some r) (hci : ci < 19) : t_OB a (E.2.2.2.1.1 ci) r.2.2 (E.2.2.2.1.2 ci) H (V a) := by
  obtain ⟨-, -, -, h4⟩ := h
  obtain ⟨-, -, h1, -⟩ := h4 a (by omega)
  obtain ⟨r', e1, e2⟩ := h1 (by omega)
  rw [hs] at e1 e2
  cases Option.some.inj (e1.symm.trans hc)
  exact e2
theorem HR.arr {H : Heap} {a k n : Nat} (h : HR E sh sz V H) (hs : sh a = (k, n)) (hk : 20 ≤ k) : H[a]? = some (arrV (E.2.2.2.2.1 k) n (V a)) := by
  obtain ⟨-, -, -, h4⟩ := h
  obtain ⟨-, -, -, h2⟩ := h4 a (by rw [hs]; show k ≠ 0; omega)
  have h3 := h2 (by rw [hs]; exact hk)
  rw [hs] at h3
  exact h3
theorem HR.at {H : Heap} {a : Nat} (h : HR E sh sz V H) (hs : (sh a).1 ≠ 0) : E.2.1 ≤ a ∧ a < sz := ⟨(h.2.2.2 a hs).1, (h.2.2.2 a hs).2.1⟩
theorem cell_obj {H : Heap} {t : Nat × Nat} {a ci : Nat} {r : vw_C} {F : Nat → Value} (ht : t.1 = ci + 1) (hci : ci < 19) (hc : vwCl[ci]? = some r) (h : t_OB a (E.2.2.2.1.1 ci) r.2.2 (E.2.2.2.1.2 ci) H F) : cellAt E t a F H :=
  ⟨fun _ => ⟨r, by rw [ht]; exact hc, by rw [ht]; exact h⟩, fun h2 => by omega⟩
theorem cell_arr {H : Heap} {a k n : Nat} {F : Nat → Value} (hk : 20 ≤ k) (h : H[a]? = some (arrV (E.2.2.2.2.1 k) n F)) : cellAt E (k, n) a F H :=
  ⟨fun h2 => absurd h2 (by show ¬ k < 20; omega), fun _ => h⟩
theorem KI.kn {s : State} (h : KI E s) {ci : Nat} {r : vw_C} (hc : vwCl[ci]? = some r) : u_Kn s r.1 r.2.1 r.2.2 (E.2.2.2.1.1 ci) (E.2.2.2.1.2 ci) := h.1 ci r hc
theorem g_get (ci : Nat) {T : u_T} {C : String} {N : Nat} (hc : vwCl[ci]? = some (C, T, N)) (hci : ci < 19) (hin : ∀ w ∈ u_ws C T N, w ∈ gW) (k : Nat) (hk : k < N) {index : Nat} (hlink : Cond.fieldLink M.2.2.1 index (T k).1 (T k).2.1 (T k).2.2.1 ∈ gW) {a : Nat} {v : Value}
    (hdg : decode M.1 pc = .ok (.getfield index, 3)) (hs : (sh a).1 = ci + 1) (hv : V a k = v) (kk : G E M P sh sz V cu su (pc + 3) L (v :: rest)) : G E M P sh sz V cu su pc L (.ref a :: rest) := by
  intro p e s m args below meth c C0 H locs ls D
  obtain ⟨cell, q1, q2, q3, q4⟩ := D.2.1.obj hs hc hci
  obtain ⟨hS, hfc, kC, hkC, hkind⟩ := C0.2.2.2.2.2.2.2.2.2.1.kn hc
  obtain ⟨cf, kf, fi, f, hi, hsl⟩ := hS k hk
  refine W.getf C0.1 C0.2.1 C0.2.2.2.1 (C0.2.2.2.2.1 _ hlink) hi (u_facts hfc hkC (u_lays (ws := gW) C0.2.2.2.2.1 hin hk) hi).1 q1 (by rw [q3]; exact fun h => by cases h) (v := v) ?_ rfl rfl hdg (kk p e s m args below meth c C0 H locs ls D)
  rw [hsl, q4 k hk, hv]
theorem g_apart {s : State} {args : Array Value} {C : String} {T : u_T} {N ci : Nat} (hts : ∀ w ∈ gW, w.before args s = true) (hin : ∀ w ∈ u_ws C T N, w ∈ gW) (ty : Nat → FieldType) (hty : ∀ k, k < N → parseFieldDescriptor (T k).2.2.1 = some (ty k)) (hnm : ∀ a, a < N → ∀ b, b < N → a ≠ b → (T a).2.1 ≠ (T b).2.1) (hK : KI E s) (hc : vwCl[ci]? = some (C, T, N)) : ∀ x y, x < N → y < N → x ≠ y → (E.2.2.2.1.2 ci) x ≠ (E.2.2.2.1.2 ci) y := by
  intro x y hx hy hne
  obtain ⟨hS, -⟩ := hK.kn hc
  obtain ⟨_, _, _, fa, hia, ea⟩ := hS x hx
  obtain ⟨_, _, _, fb, hib, eb⟩ := hS y hy
  rw [← ea, ← eb]
  refine u_apart (u_lays hts hin hx) (u_lays hts hin hy) hia hib ?_
  rw [(State.fieldFound?_type hia (hty x hx)).1, (State.fieldFound?_type hib (hty y hy)).1]
  exact hnm x hx y hy hne
theorem Dyn.put {s : State} {H H1 : Heap} {locs : List Loc} {ls : Array Slot} {a k i : Nat} {v : Value} (D : Dyn E M sh sz V L s H locs ls) (z : H1.size = H.size) (oq : ∀ q : Nat, q ≠ a → H1[q]? = H[q]?) (ha : (sh a).1 ≠ 0) (hc : cellAt E (sh a) a (updV (V a) k v) H1) : Dyn E M sh sz (hu V a k v) L s H1 (locs ++ [⟨a, i⟩]) ls :=
  ⟨D.1, D.2.1.upd z oq (D.2.1.at ha).1 hc, fun q hq => by
    rcases List.mem_append.mp hq with h1 | h1
    · exact D.2.2.1 q h1
    · rw [List.mem_singleton.mp h1]
      exact (D.2.1.at ha).1, D.2.2.2⟩
theorem g_put (ci : Nat) {T : u_T} {C : String} {N : Nat} (hc : vwCl[ci]? = some (C, T, N)) (hci : ci < 19) (hin : ∀ w ∈ u_ws C T N, w ∈ gW) (ty0 : Nat → FieldType) (hty : ∀ k, k < N → parseFieldDescriptor (T k).2.2.1 = some (ty0 k)) (hnm : ∀ a, a < N → ∀ b, b < N → a ≠ b → (T a).2.1 ≠ (T b).2.1) (k : Nat) (hk : k < N) {index : Nat} (hlink : Cond.fieldLink M.2.2.1 index (T k).1 (T k).2.1 (T k).2.2.1 ∈ gW) (hfin : (T k).2.2.2 = false) {a : Nat} {v : Value}
    (hdg : decode M.1 pc = .ok (.putfield index, 3)) (hs : (sh a).1 = ci + 1) (hn : narrow (ty0 k) v = v) (hfit : fits (ty0 k) v = true) (kk : G E M P sh sz (hu V a k v) cu su (pc + 3) L rest) : G E M P sh sz V cu su pc L (v :: .ref a :: rest) := by
  intro p e s m args below meth c C0 H locs ls D
  have hap := g_apart C0.2.2.2.2.1 hin ty0 hty hnm C0.2.2.2.2.2.2.2.2.2.1 hc
  obtain ⟨cell, q1, q2, q3, q4⟩ := D.2.1.obj hs hc hci
  obtain ⟨hS, hfc, kC, hkC, hkind⟩ := C0.2.2.2.2.2.2.2.2.2.1.kn hc
  obtain ⟨cf, kf, fi, f, hi, hsl⟩ := hS k hk
  have hlay := C0.2.2.2.2.1 _ (hin _ (u_in_lay hk))
  unfold u_lay at hlay
  rw [if_neg (by rw [hfin]; decide)] at hlay
  have hst := (u_facts hfc hkC (u_lays (ws := gW) C0.2.2.2.2.1 hin hk) hi).1
  have h6 := u_store hfc hkC hkind hlay hi (hty k hk) hn hfit
  refine W.putK C0.1 C0.2.1 (f := f) ⟨C0.2.2.2.1, C0.2.2.2.2.1 _ hlink, ⟨_, _, _, hi⟩, hst⟩ (by rw [q2]; exact h6) q1 q3 (by rw [hsl]; exact k2_hasslot (q4 k hk)) rfl rfl hdg fun H' e1 e2 e3 => ?_
  rw [hsl] at e1 ⊢
  exact kk p e s m args below meth c C0 H' _ ls (D.put e2 e3 (by omega) (cell_obj hs hci hc ⟨_, e1, q2, q3, t_set q4 hap hk v⟩))
theorem g_putF (ci : Nat) {T : u_T} {C : String} {N : Nat} (hc : vwCl[ci]? = some (C, T, N)) (hci : ci < 19) (hin : ∀ w ∈ u_ws C T N, w ∈ gW) (ty0 : Nat → FieldType) (hty : ∀ k, k < N → parseFieldDescriptor (T k).2.2.1 = some (ty0 k)) (hnm : ∀ a, a < N → ∀ b, b < N → a ≠ b → (T a).2.1 ≠ (T b).2.1) (k : Nat) (hk : k < N) {index : Nat} (hlink : Cond.fieldLink M.2.2.1 index (T k).1 (T k).2.1 (T k).2.2.1 ∈ gW) (hfin : (T k).2.2.2 = true) (hm : M.2.2.2.2.2.1 = "<init>") (hdecl : (T k).1 = M.2.2.1) {a : Nat} {v : Value}
    (hdg : decode M.1 pc = .ok (.putfield index, 3)) (hs : (sh a).1 = ci + 1) (hn : narrow (ty0 k) v = v) (hfit : fits (ty0 k) v = true) (kk : G E M P sh sz (hu V a k v) cu su (pc + 3) L rest) : G E M P sh sz V cu su pc L (v :: .ref a :: rest) := by
  intro p e s m args below meth c C0 H locs ls D
  have hap := g_apart C0.2.2.2.2.1 hin ty0 hty hnm C0.2.2.2.2.2.2.2.2.2.1 hc
  obtain ⟨cell, q1, q2, q3, q4⟩ := D.2.1.obj hs hc hci
  obtain ⟨hS, hfc, kC, hkC, hkind⟩ := C0.2.2.2.2.2.2.2.2.2.1.kn hc
  obtain ⟨cf, kf, fi, f, hi, hsl⟩ := hS k hk
  have hlay := C0.2.2.2.2.1 _ (hin _ (u_in_lay hk))
  unfold u_lay at hlay
  rw [if_pos hfin] at hlay
  have hst := (u_facts hfc hkC (u_lays (ws := gW) C0.2.2.2.2.1 hin hk) hi).1
  have hown := C0.2.2.2.1
  have hcf : m.cls = cf := by
    obtain ⟨_, _, c', _, _, _, -, -, hf', -, -, -, hown2, -⟩ := Cond.laysFinal_spec hlay
    have e1 : c' = cf := by have := hi.symm.trans hf'; simp at this; exact this.1.symm
    rw [hdecl] at hown2
    rw [← e1]; exact Option.some.inj (hown.symm.trans hown2)
  have h6 := u_fits hfc hkC hkind (Or.inr hlay) hi (hty k hk) hn hfit
  refine W.putFinK C0.1 C0.2.1 hown (C0.2.2.2.2.1 _ hlink) hi hst hcf (C0.2.2.2.2.2.2.2.2.1.trans hm) (by rw [q2]; exact h6) q1 q3 (by rw [hsl]; exact k2_hasslot (q4 k hk)) rfl rfl hdg fun H' e1 e2 e3 => ?_
  rw [hsl] at e1 ⊢
  exact kk p e s m args below meth c C0 H' _ ls (D.put e2 e3 (by omega) (cell_obj hs hci hc ⟨_, e1, q2, q3, t_set q4 hap hk v⟩))
/-- the index of an array, in range -/
theorem arr_in {cA : ClassId} {n : Nat} {F : Nat → Value} {i : Int32} (hin : vp_in i n) : ¬ (i < 0 ∨ (arrV cA n F).slots.size ≤ i.toNatClampNeg) := by rw [arrV_size]; exact hin
theorem in_lt {i : Int32} {n : Nat} (hin : vp_in i n) : i.toNatClampNeg < n := Nat.not_le.mp fun q => hin (Or.inr q)
theorem g_iaload {n a : Nat} {i : Int32} {v : Value} (hdg : decode M.1 pc = .ok (.iaload, 1)) (hs : sh a = (20, n)) (hin : vp_in i n) (hv : V a i.toNatClampNeg = v) (kk : G E M P sh sz V cu su (pc + 1) L (v :: rest)) : G E M P sh sz V cu su pc L (.int i :: .ref a :: rest) := by
  intro p e s m args below meth c C0 H locs ls D
  exact W.iald (v := v) C0.1 C0.2.1 (D.2.1.arr hs (by decide)) ((C0.2.2.2.2.2.2.2.2.2.1.2.1 20 (by decide) (by decide)).1 n _) (fun q => by cases q) (arr_in hin) (by rw [arrV_read _ _ (in_lt hin), hv]) rfl rfl hdg (kk p e s m args below meth c C0 H locs ls D)
theorem g_caload {n a : Nat} {i : Int32} {v : Value} (hdg : decode M.1 pc = .ok (.caload, 1)) (hs : sh a = (21, n)) (hin : vp_in i n) (hv : V a i.toNatClampNeg = v) (kk : G E M P sh sz V cu su (pc + 1) L (v :: rest)) : G E M P sh sz V cu su pc L (.int i :: .ref a :: rest) := by
  intro p e s m args below meth c C0 H locs ls D
  exact W.cald (v := v) C0.1 C0.2.1 (D.2.1.arr hs (by decide)) ((C0.2.2.2.2.2.2.2.2.2.1.2.1 21 (by decide) (by decide)).1 n _) (fun q => by cases q) (arr_in hin) (by rw [arrV_read _ _ (in_lt hin), hv]) rfl rfl hdg (kk p e s m args below meth c C0 H locs ls D)
theorem g_laload {n a : Nat} {i : Int32} {v : Value} (hdg : decode M.1 pc = .ok (.laload, 1)) (hs : sh a = (22, n)) (hin : vp_in i n) (hv : V a i.toNatClampNeg = v) (kk : G E M P sh sz V cu su (pc + 1) L (v :: rest)) : G E M P sh sz V cu su pc L (.int i :: .ref a :: rest) := by
  intro p e s m args below meth c C0 H locs ls D
  exact W.lald (v := v) C0.1 C0.2.1 (D.2.1.arr hs (by decide)) ((C0.2.2.2.2.2.2.2.2.2.1.2.1 22 (by decide) (by decide)).1 n _) (fun q => by cases q) (arr_in hin) (by rw [arrV_read _ _ (in_lt hin), hv]) rfl rfl hdg (kk p e s m args below meth c C0 H locs ls D)
theorem g_baload {n a : Nat} {i : Int32} {v : Value} (hdg : decode M.1 pc = .ok (.baload, 1)) (hs : sh a = (23, n)) (hin : vp_in i n) (hv : V a i.toNatClampNeg = v) (kk : G E M P sh sz V cu su (pc + 1) L (v :: rest)) : G E M P sh sz V cu su pc L (.int i :: .ref a :: rest) := by
  intro p e s m args below meth c C0 H locs ls D
  exact W.bald (v := v) C0.1 C0.2.1 (D.2.1.arr hs (by decide)) ((C0.2.2.2.2.2.2.2.2.2.1.2.1 23 (by decide) (by decide)).1 n _) (fun q => by cases q) (arr_in hin) (by rw [arrV_read _ _ (in_lt hin), hv]) rfl rfl hdg (kk p e s m args below meth c C0 H locs ls D)
theorem g_iastore {n a : Nat} {i : Int32} {x : Int32} (hdg : decode M.1 pc = .ok (.iastore, 1)) (hs : sh a = (20, n)) (hin : vp_in i n) (kk : G E M P sh sz (hu V a i.toNatClampNeg (.int x)) cu su (pc + 1) L rest) : G E M P sh sz V cu su pc L (.int x :: .int i :: .ref a :: rest) := by
  intro p e s m args below meth c C0 H locs ls D
  refine W.iast C0.1 C0.2.1 (D.2.1.arr hs (by decide)) ((C0.2.2.2.2.2.2.2.2.2.1.2.1 20 (by decide) (by decide)).1 n _) (fun q => by cases q) (arr_in hin) rfl rfl hdg fun H1 e1 z oq => ?_
  refine kk p e s m args below meth c C0 H1 _ ls (D.put z oq (by rw [hs]; show 20 ≠ 0; omega) ?_)
  rw [hs]
  exact cell_arr (by decide) (by rw [e1, arrV_store] <;> rfl)
theorem g_castore {n a : Nat} {i : Int32} {x : Int32} (hdg : decode M.1 pc = .ok (.castore, 1)) (hs : sh a = (21, n)) (hin : vp_in i n) (kk : G E M P sh sz (hu V a i.toNatClampNeg (.int (vp_nar .char x))) cu su (pc + 1) L rest) : G E M P sh sz V cu su pc L (.int x :: .int i :: .ref a :: rest) := by
  intro p e s m args below meth c C0 H locs ls D
  refine W.cast C0.1 C0.2.1 (D.2.1.arr hs (by decide)) ((C0.2.2.2.2.2.2.2.2.2.1.2.1 21 (by decide) (by decide)).1 n _) (fun q => by cases q) (arr_in hin) rfl rfl hdg fun H1 e1 z oq => ?_
  refine kk p e s m args below meth c C0 H1 _ ls (D.put z oq (by rw [hs]; show 21 ≠ 0; omega) ?_)
  rw [hs]
  exact cell_arr (by decide) (by rw [e1, arrV_store] <;> rfl)
theorem g_lastore {n a : Nat} {i : Int32} {x : Int64} (hdg : decode M.1 pc = .ok (.lastore, 1)) (hs : sh a = (22, n)) (hin : vp_in i n) (kk : G E M P sh sz (hu V a i.toNatClampNeg (.long x)) cu su (pc + 1) L rest) : G E M P sh sz V cu su pc L (.long x :: .int i :: .ref a :: rest) := by
  intro p e s m args below meth c C0 H locs ls D
  refine W.last C0.1 C0.2.1 (D.2.1.arr hs (by decide)) ((C0.2.2.2.2.2.2.2.2.2.1.2.1 22 (by decide) (by decide)).1 n _) (fun q => by cases q) (arr_in hin) rfl rfl hdg fun H1 e1 z oq => ?_
  refine kk p e s m args below meth c C0 H1 _ ls (D.put z oq (by rw [hs]; show 22 ≠ 0; omega) ?_)
  rw [hs]
  exact cell_arr (by decide) (by rw [e1, arrV_store] <;> rfl)
theorem g_bastore {n a : Nat} {i : Int32} {x : Int32} (hdg : decode M.1 pc = .ok (.bastore, 1)) (hs : sh a = (23, n)) (hin : vp_in i n) (kk : G E M P sh sz (hu V a i.toNatClampNeg (.int (vp_nar .byte x))) cu su (pc + 1) L rest) : G E M P sh sz V cu su pc L (.int x :: .int i :: .ref a :: rest) := by
  intro p e s m args below meth c C0 H locs ls D
  refine W.bast C0.1 C0.2.1 (D.2.1.arr hs (by decide)) ((C0.2.2.2.2.2.2.2.2.2.1.2.1 23 (by decide) (by decide)).1 n _) (fun q => by cases q) (arr_in hin) rfl rfl hdg fun H1 e1 z oq => ?_
  refine kk p e s m args below meth c C0 H1 _ ls (D.put z oq (by rw [hs]; show 23 ≠ 0; omega) ?_)
  rw [hs]
  exact cell_arr (by decide) (by rw [e1, arrV_store] <;> rfl)

theorem g_alen {k n a : Nat} {v : Int32} (hdg : decode M.1 pc = .ok (.arraylength, 1)) (hs : sh a = (k, n)) (hk : 20 ≤ k) (hk2 : k < 28) (hv : Int32.ofNat n = v) (kk : G E M P sh sz V cu su (pc + 1) L (.int v :: rest)) : G E M P sh sz V cu su pc L (.ref a :: rest) := by
  intro p e s m args below meth c C0 H locs ls D
  exact W.alen (n := v) C0.1 C0.2.1 (D.2.1.arr hs hk) ((C0.2.2.2.2.2.2.2.2.2.1.2.1 k hk hk2).1 n _) (by rw [arrV_size]; exact hv) rfl rfl hdg (kk p e s m args below meth c C0 H locs ls D)
/-- a reference or null out of an array of references -/
theorem g_aaload (k : Nat) {n a : Nat} {i : Int32} {v : Value} (hdg : decode M.1 pc = .ok (.aaload, 1)) (hs : sh a = (k, n)) (hk : 24 ≤ k) (hk2 : k < 28) (hin : vp_in i n) (hv : V a i.toNatClampNeg = v) (kk : G E M P sh sz V cu su (pc + 1) L (v :: rest)) : G E M P sh sz V cu su pc L (.int i :: .ref a :: rest) := by
  intro p e s m args below meth c C0 H locs ls D
  have h1 := (C0.2.2.2.2.2.2.2.2.2.1.2.1 k (by omega) hk2).1 n (V a)
  have ht : (gty k).isReference = true := by
    rcases (show k = 24 ∨ k = 25 ∨ k = 26 ∨ k = 27 by omega) with rfl | rfl | rfl | rfl <;> rfl
  exact W.aald (v := v) (ty := gty k) C0.1 C0.2.1 (D.2.1.arr hs (by omega)) h1 ht (fun q => by cases q) (arr_in hin) (by rw [arrV_read _ _ (in_lt hin), hv]) rfl rfl hdg (kk p e s m args below meth c C0 H locs ls D)
theorem g_aastore (k ci : Nat) {n a b : Nat} {i : Int32} {r : vw_C} (hc : vwCl[ci]? = some r) (hci : ci < 19) (hg : gty k = .object r.1) (hk : 24 ≤ k) (hk2 : k < 28) (hdg : decode M.1 pc = .ok (.aastore, 1)) (hs : sh a = (k, n)) (hsb : (sh b).1 = ci + 1) (hin : vp_in i n) (kk : G E M P sh sz (hu V a i.toNatClampNeg (.ref b)) cu su (pc + 1) L rest) : G E M P sh sz V cu su pc L (.ref b :: .int i :: .ref a :: rest) := by
  intro p e s m args below meth c C0 H locs ls D
  obtain ⟨cellV, g1, g2, g3, -⟩ := D.2.1.obj hsb hc hci
  have hcls := (C0.2.2.2.2.2.2.2.2.2.1.kn hc).2
  have h2 := (C0.2.2.2.2.2.2.2.2.2.1.2.1 k (by omega) hk2).2
  rw [hg] at h2
  obtain ⟨kA, comp, k1, k2, k3, -⟩ := h2
  have hcomp : comp = E.2.2.2.1.1 ci := Option.some.inj (k3.symm.trans hcls.1)
  subst hcomp
  obtain ⟨kC, hkC, -⟩ := hcls.2
  refine W.aast C0.1 C0.2.1 (D.2.1.arr hs (by omega)) (fun q h => by cases h) (fun h => by cases h) k1 k2 rfl hkC ⟨fun q => hin (Or.inl q), by rw [arrV_size]; exact in_lt hin⟩ g1 (fun q h => by rw [g3] at h; cases h) (by rw [g2]; exact hkC) (by rw [g2]; exact va_assign hcls) rfl rfl hdg fun H1 e1 z oq => ?_
  refine kk p e s m args below meth c C0 H1 _ ls (D.put z oq (by rw [hs]; show k ≠ 0; omega) ?_)
  rw [hs]
  exact cell_arr (by omega) (by rw [e1, arrV_store])
theorem g_aastoreN (k : Nat) {n a : Nat} {i : Int32} {C : String} (hg : gty k = .object C) (hk : 24 ≤ k) (hk2 : k < 28) (hdg : decode M.1 pc = .ok (.aastore, 1)) (hs : sh a = (k, n)) (hin : vp_in i n) (kk : G E M P sh sz (hu V a i.toNatClampNeg .null) cu su (pc + 1) L rest) : G E M P sh sz V cu su pc L (.null :: .int i :: .ref a :: rest) := by
  intro p e s m args below meth c C0 H locs ls D
  have h1 := (C0.2.2.2.2.2.2.2.2.2.1.2.1 k (by omega) hk2).1 n (V a)
  rw [hg] at h1
  refine va_WaastN (C := C) C0.1 C0.2.1 (D.2.1.arr hs (by omega)) h1 (fun h => by cases h) (arr_in hin) rfl rfl hdg fun H1 e1 z oq => ?_
  refine kk p e s m args below meth c C0 H1 _ ls (D.put z oq (by rw [hs]; show k ≠ 0; omega) ?_)
  rw [hs]
  exact cell_arr (by omega) (by rw [e1, arrV_store])
theorem Dyn.made {s : State} {H H1 : Heap} {locs : List Loc} {ls : Array Slot} {t : Nat × Nat} {F : Nat → Value} (D : Dyn E M sh sz V L s H locs ls) (z : H1.size = sz + 1) (oq : ∀ q : Nat, q < sz → H1[q]? = H[q]?) (hc : cellAt E t sz F H1) : Dyn E M (hs sh sz t) (sz + 1) (hn V sz F) L s H1 locs ls :=
  ⟨D.1, D.2.1.new z oq hc, D.2.2.1, Nat.le_succ_of_le D.2.2.2⟩
theorem g_new (ci : Nat) {T : u_T} {C : String} {N : Nat} (hc : vwCl[ci]? = some (C, T, N)) (hci : ci < 19) (hin : ∀ w ∈ u_ws C T N, w ∈ gW) (ty0 : Nat → FieldType) (hty : ∀ k, k < N → parseFieldDescriptor (T k).2.2.1 = some (ty0 k)) {index : Nat} (hcl : Cond.classLink M.2.2.1 index C ∈ gW) (hinst : Cond.instantiable C N ∈ gW) (hini : Cond.initialized C ∈ gW)
    (hdg : decode M.1 pc = .ok (.new index, 3)) (hm : cu + 1 ≤ M.2.2.2.2.2.2.cells ∧ su + N ≤ M.2.2.2.2.2.2.slots) (kk : G E M P (hs sh sz (ci + 1, N)) (sz + 1) (hn V sz (fun k => defaultValue (ty0 k))) (cu + 1) (su + N) (pc + 3) L (.ref sz :: rest)) : G E M P sh sz V cu su pc L rest := by
  intro p e s m args below meth c C0 H locs ls D
  have hKn := C0.2.2.2.2.2.2.2.2.2.1.kn hc
  refine W.newcK C0.1 C0.2.1 C0.2.2.2.1 (C0.2.2.2.2.1 _ hcl) (C0.2.2.2.2.1 _ hinst) (C0.2.2.2.2.1 _ hini) rfl hdg hm.1 hm.2 hKn.2.1 D.2.1.1 fun H1 kC hkC e1 z1 o1 => ?_
  exact kk p e s m args below meth c C0 H1 locs ls (D.made z1 o1 (cell_obj rfl hci hc (u_born ty0 (ws := gW) C0.2.2.2.2.1 hin hKn hkC e1 hty)))
/-- an array of ints, chars, longs, doubles -/
theorem g_newa (k : Nat) {atype : ArrayType} (hty : newarray.typeOf atype = gty k) (hk : 20 ≤ k) (hk2 : k < 24) (harr : Cond.arrayClass (newarray.typeOf atype) ∈ gW) {n : Int32} (N : Nat) (hn0 : ¬ n < 0) (hN : n.toNatClampNeg = N) (hbytes : N * componentBytes (newarray.typeOf atype) ≤ 536870912)
    (hdg : decode M.1 pc = .ok (.newarray atype, 2)) (hm : cu + 1 ≤ M.2.2.2.2.2.2.cells ∧ su + N ≤ M.2.2.2.2.2.2.slots) (kk : G E M P (hs sh sz (k, N)) (sz + 1) (hn V sz (fun _ => defaultValue (gty k))) (cu + 1) (su + N) (pc + 2) L (.ref sz :: rest)) : G E M P sh sz V cu su pc L (.int n :: rest) := by
  intro p e s m args below meth c C0 H locs ls D
  refine va_newaK C0.1 C0.2.1 (C0.2.2.2.2.1 _ harr) rfl hdg rfl hn0 hN hbytes hm.1 hm.2 D.2.1.1 fun H1 cA e1 z1 o1 hAr hNm => ?_
  have h2 := (C0.2.2.2.2.2.2.2.2.2.1.2.1 k hk (by omega)).2
  rw [hty] at hNm e1
  have hcA : cA = E.2.2.2.2.1 k := by
    rcases (show k = 20 ∨ k = 21 ∨ k = 22 ∨ k = 23 by omega) with rfl | rfl | rfl | rfl <;> exact Option.some.inj (hNm.symm.trans h2)
  rw [hcA] at e1
  exact kk p e s m args below meth c C0 H1 locs ls (D.made z1 o1 (cell_arr hk e1))
/-- an array of references -/
theorem g_anew (k : Nat) {C : String} (hg : gty k = .object C) (hk : 24 ≤ k) (hk2 : k < 28) (hao : ∀ s, KI E s → va_AO C s) {index : Nat} (hcl : Cond.classLink M.2.2.1 index C ∈ gW) {n : Int32} (N : Nat) (hn0 : ¬ n < 0) (hN : n.toNatClampNeg = N) (hbytes : N * 4 ≤ 536870912)
    (hdg : decode M.1 pc = .ok (.anewarray index, 3)) (hm : cu + 1 ≤ M.2.2.2.2.2.2.cells ∧ su + N ≤ M.2.2.2.2.2.2.slots) (kk : G E M P (hs sh sz (k, N)) (sz + 1) (hn V sz (fun _ => .null)) (cu + 1) (su + N) (pc + 3) L (.ref sz :: rest)) : G E M P sh sz V cu su pc L (.int n :: rest) := by
  subst hN
  intro p e s m args below meth c C0 H locs ls D
  refine W.anew C0.1 C0.2.1 C0.2.2.2.1 (C0.2.2.2.2.1 _ hcl) (va_AO.use (hao s C0.2.2.2.2.2.2.2.2.2.1)) rfl hdg rfl hn0 hbytes hm.1 hm.2 fun cA kA comp f1 f2 f3 f4 => ?_
  have h2 := (C0.2.2.2.2.2.2.2.2.2.1.2.1 k (by omega) hk2).2
  rw [hg] at h2
  obtain ⟨kA', comp', k1, k2, k3, k4⟩ := h2
  have hcA : cA = E.2.2.2.2.1 k := Option.some.inj (f1.symm.trans k4)
  subst hcA
  have hz := D.2.1.1
  subst hz
  refine kk p e s m args below meth c C0 _ locs ls (D.made (by rw [Array.size_push]) (fun q hq => by rw [Array.getElem?_push, if_neg (Nat.ne_of_lt hq)]) (cell_arr (by omega) ?_))
  rw [Array.getElem?_push_size, ← arrV_new]
/-- Object's constructor -/
theorem g_objInit {index : Nat} (hl : Cond.methodLink M.2.2.1 index Lib.objectInit ∈ gW) (h2 : Cond.instanceMethod Lib.objectInit ∈ gW) (h3 : Cond.code Lib.objectInit ⟨#[0xb1]⟩ 1 none ∈ gW) {a : Nat} (hdg : decode M.1 pc = .ok (.invokespecial index, 3)) (hf : 1 ≤ M.2.2.2.2.2.2.frames) (hlo : (rest.map fun v => v.category).sum + 12 ≤ M.2.2.2.2.2.2.locals) (kk : G E M P sh sz V cu su (pc + 3) L rest) : G E M P sh sz V cu su pc L (.ref a :: rest) := by
  intro p e s m args below meth c C0 H locs ls D
  exact W.objInit C0.1 C0.2.1 C0.2.2.2.1 (C0.2.2.2.2.1 _ hl) (C0.2.2.2.2.1 _ h2) (C0.2.2.2.2.1 _ h3) rfl (by rw [C0.2.2.1]; exact D.1.1) rfl hdg hf (by show 2 * 0 + _ + _ ≤ _; omega) (kk p e s m args below meth c C0 H locs ls D)
/-! calls -/
theorem vx_any {p : Program} {l : Launch} {e : Env} {R : Room} {s : State} {m : MethodId} {args : Array Value} {below : List Frame} {meth : Method} {c : Code} {H : Heap} {locs : List Loc} {cells slots mc ms : Nat} {Q : State → Prop} {ls : Array Slot} {st0 rest : List Value} {Qa : State → Outcome → State → Prop} {XC : String → State → State → Prop} {free : Addr → Prop}
    (hr : vx_Run p l e R s m args below meth c H locs cells slots mc ms (F0 m pc ls st0) rest Qa XC free)
    (kk : ∀ (v : Option Value) (st t : State) (L : List Loc), (∀ q ∈ L, free q.base) → Qa st (.returned v) t → W p l e R s m args below meth c t.heap (locs ++ L) (cells + mc) (slots + ms) Q (F0 m (pc + 3) ls (v.toList ++ rest)))
    (kx : ∀ (C : String) (ce : Cell) (q : Addr) (st t : State) (L : List Loc), (∀ q ∈ L, free q.base) → XC C st t → t.heap[q]? = some ce → ce.vm = .none → s.vm.findClass C = some ce.cls → vx_W p l e R s m args below meth c t.heap (locs ++ L) (cells + mc) (slots + ms) Q (F0 m pc ls rest) q) :
    W p l e R s m args below meth c H locs cells slots Q (F0 m pc ls st0) := by
  intro T hT X
  rcases hr T hT X with ⟨v, st₀, t, T', L, h0, X', hL, e1, e2, hq, st⟩ | ⟨q, st₀, t, T', L, C, ce, h0, X', hL, e1, e2, hx, hce, hcv, hcl, st⟩
  · obtain ⟨t2, a1, b1⟩ := kk v st₀ t L hL hq T' e1 X'
    exact ⟨t2, st t2 a1, b1⟩
  · obtain ⟨t2, a1, b1⟩ := kx C ce q st₀ t L hL hx hce hcv hcl T' e1 X'
    exact ⟨t2, st.trans a1, b1⟩
theorem va_any2 {p : Program} {l : Launch} {e : Env} {R : Room} {s : State} {m : MethodId} {args : Array Value} {below : List Frame} {meth : Method} {c : Code} {H : Heap} {locs : List Loc} {cells slots mc ms : Nat} {Q : State → Prop} {ls : Array Slot} {st0 rest : List Value} {Qa : State → Outcome → State → Prop} {free : Addr → Prop}
    (hr : va_Run p l e R s m args below meth c H locs cells slots mc ms (F0 m pc ls st0) rest Qa free)
    (kk : ∀ (v : Option Value) (st t : State) (L : List Loc), (∀ q ∈ L, free q.base) → Qa st (.returned v) t → W p l e R s m args below meth c t.heap (locs ++ L) (cells + mc) (slots + ms) Q (F0 m (pc + 3) ls (v.toList ++ rest))) :
    W p l e R s m args below meth c H locs cells slots Q (F0 m pc ls st0) := by
  intro T hT X
  obtain ⟨v, st₀, t, T', L, h0, X', hL, e1, e2, hq, st⟩ := hr T hT X
  obtain ⟨t2, a1, b1⟩ := kk v st₀ t L hL hq T' e1 X'
  exact ⟨t2, st t2 a1, b1⟩
theorem HR.mono_sz {s : State} {H H1 : Heap} {locs L2 : List Loc} {ls : Array Slot} {sh' : Sh} {sz' : Nat} {V' : Vl} (D : Dyn E M sh sz V L s H locs ls) (h : HR E sh' sz' V' H1) (hz : sz ≤ sz') (hL : ∀ q ∈ L2, gN E q.base) : Dyn E M sh' sz' V' L s H1 (locs ++ L2) ls :=
  ⟨D.1, h, fun q hq => by
    rcases List.mem_append.mp hq with h1 | h1
    · exact D.2.2.1 q h1
    · exact hL q h1, Nat.le_trans D.2.2.2 hz⟩
/-- room for a call -/
def gRoom (Y : gY) (M : gM) (cu su : Nat) : Prop := Y.2.2.2.2.frames + 1 ≤ M.2.2.2.2.2.2.frames ∧ 8 + (Y.2.2.1 + 11) + Y.2.2.2.2.locals ≤ M.2.2.2.2.2.2.locals ∧ cu + Y.2.2.2.2.cells ≤ M.2.2.2.2.2.2.cells ∧ su + Y.2.2.2.2.slots ≤ M.2.2.2.2.2.2.slots
/-- what a method's name says of its arguments -/
def gName (y : MethodName) (n : Nat) : Prop := y.cls ≠ "java/lang/invoke/MethodHandle" ∧ y.cls ≠ "java/lang/invoke/VarHandle" ∧ (parseMethodDescriptor y.desc).map (fun d => d.parameters.length) = some n
theorem g_callV {Y : gY} {idx n : Nat} {C : String} (hs : GoodIn gW (wsV M.2.2.1 idx C Y.1 (Cond.code Y.1 Y.2.1 Y.2.2.1 Y.2.2.2.1 :: gW))) (hC : Y.1.cls = C) (hy : gName Y.1 n) (ci : Nat) {r : vw_C} (hci : ci < 19) (hcl : vwCl[ci]? = some r) (hrC : r.1 = C) (hdg : decode M.1 pc = .ok (.invokevirtual idx, 3))
    {b : Nat} {As S : List Value} {P2 : gP} (hc : MC E Y (.ref b :: As) sh sz V P2) (hb : (sh b).1 = ci + 1) (hn : As.length = n) (hS : S = As.reverse ++ .ref b :: rest) (hroom : gRoom Y M cu su) (hcat : (rest.map fun v => v.category).sum ≤ 8)
    (hz : ∀ o sh' sz' V', P2 o sh' sz' V' → sz ≤ sz')
    (kk : ∀ v sh' sz' V', P2 (.inl v) sh' sz' V' → G E M P sh' sz' V' (cu + Y.2.2.2.2.cells) (su + Y.2.2.2.2.slots) (pc + 3) L (v.toList ++ rest))
    (kx : ∀ C sh' sz' V', P2 (.inr C) sh' sz' V' → Gt E M P sh' sz' V' (cu + Y.2.2.2.2.cells) (su + Y.2.2.2.2.slots) pc L C) : G E M P sh sz V cu su pc L S := by
  subst hS
  intro p e s m args below meth c C0 H locs ls D
  obtain ⟨cell, q1, q2, q3, q4⟩ := D.2.1.obj hb hcl hci
  have hfc := (C0.2.2.2.2.2.2.2.2.2.1.kn hcl).2.1
  rw [hrC] at hfc
  refine vx_any (vx_runV (rest := rest) ⟨C0.1, C0.2.1, C0.2.2.1, C0.2.2.2.1, C0.2.2.2.2.1⟩ hc (cwV n C0.2.2.2.2.1 hs rfl rfl rfl ⟨hC, hy⟩ ⟨hroom.1, hroom.2.1⟩) ⟨gPc_blind, ⟨cell, q1, by rw [q3]; rfl, by rw [q2]; exact hfc⟩, fun U hU hW => ⟨rfl, C0.2.2.2.2.2.2.2.2.2.1.warm hW, by rw [hU]; exact D.2.1⟩⟩ rfl hn D.1.1 rfl (lv_room hcat) hdg ⟨hroom.2.2.1, hroom.2.2.2⟩) ?_ ?_
  · rintro v st t L2 hL ⟨v', sh', sz', V', hv, hR, hP⟩
    cases hv
    exact kk v sh' sz' V' hP p e s m args below meth c C0 t.heap _ ls (HR.mono_sz D hR (hz _ _ _ _ hP) hL)
  · rintro C9 ce q st t L2 hL ⟨sh', sz', V', hR, hP⟩ h1 h2 h3
    exact kx C9 sh' sz' V' hP p e s m args below meth c C0 t.heap _ ls (HR.mono_sz D hR (hz _ _ _ _ hP) hL) q ce _ h1 h2 h3
theorem g_callS {Y : gY} {idx n : Nat} (hs : GoodIn gW (va_wsS M.2.2.1 idx Y.1 (Cond.code Y.1 Y.2.1 Y.2.2.1 Y.2.2.2.1 :: gW))) (hy : gName Y.1 n) (hdg : decode M.1 pc = .ok (.invokestatic idx, 3))
    {As S : List Value} {P2 : gP} (hc : MC E Y As sh sz V P2) (hn : As.length = n) (hS : S = As.reverse ++ rest) (hroom : gRoom Y M cu su) (hcat : (rest.map fun v => v.category).sum ≤ 8)
    (hz : ∀ o sh' sz' V', P2 o sh' sz' V' → sz ≤ sz')
    (kk : ∀ v sh' sz' V', P2 (.inl v) sh' sz' V' → G E M P sh' sz' V' (cu + Y.2.2.2.2.cells) (su + Y.2.2.2.2.slots) (pc + 3) L (v.toList ++ rest))
    (kx : ∀ C sh' sz' V', P2 (.inr C) sh' sz' V' → Gt E M P sh' sz' V' (cu + Y.2.2.2.2.cells) (su + Y.2.2.2.2.slots) pc L C) : G E M P sh sz V cu su pc L S := by
  subst hS
  intro p e s m args below meth c C0 H locs ls D
  refine vx_any (vx_runS (rest := rest) ⟨C0.1, C0.2.1, C0.2.2.1, C0.2.2.2.1, C0.2.2.2.2.1⟩ hc (va_cwS n C0.2.2.2.2.1 hs rfl rfl rfl hy ⟨hroom.1, hroom.2.1⟩) ⟨gPc_blind, fun U hU hW => ⟨rfl, C0.2.2.2.2.2.2.2.2.2.1.warm hW, by rw [hU]; exact D.2.1⟩⟩ rfl hn D.1.1 rfl (lv_room hcat) hdg ⟨hroom.2.2.1, hroom.2.2.2⟩) ?_ ?_
  · rintro v st t L2 hL ⟨v', sh', sz', V', hv, hR, hP⟩
    cases hv
    exact kk v sh' sz' V' hP p e s m args below meth c C0 t.heap _ ls (HR.mono_sz D hR (hz _ _ _ _ hP) hL)
  · rintro C9 ce q st t L2 hL ⟨sh', sz', V', hR, hP⟩ h1 h2 h3
    exact kx C9 sh' sz' V' hP p e s m args below meth c C0 t.heap _ ls (HR.mono_sz D hR (hz _ _ _ _ hP) hL) q ce _ h1 h2 h3
/-- a constructor of the claim's own, never throwing -/
theorem g_callI {Y : gY} {idx n : Nat} (hr0 : Y.2.2.2.1 = none) (h5 : Cond.code Y.1 Y.2.1 Y.2.2.1 none ∈ gW) (hl : Cond.methodLink M.2.2.1 idx Y.1 ∈ gW) (h2 : Cond.instanceMethod Y.1 ∈ gW) (hini : Cond.initialized Y.1.cls ∈ gW) (hnm : Y.1.name = "<init>") (hy : gName Y.1 n) (hdg : decode M.1 pc = .ok (.invokespecial idx, 3))
    {b : Nat} {As S : List Value} {P2 : gP} (hc : MC E Y (.ref b :: As) sh sz V P2) (hn : As.length = n) (hS : S = As.reverse ++ .ref b :: rest) (hroom : gRoom Y M cu su) (hcat : (rest.map fun v => v.category).sum ≤ 8)
    (hz : ∀ o sh' sz' V', P2 o sh' sz' V' → sz ≤ sz') (hx : ∀ C sh' sz' V', ¬ P2 (.inr C) sh' sz' V')
    (kk : ∀ v sh' sz' V', P2 (.inl v) sh' sz' V' → G E M P sh' sz' V' (cu + Y.2.2.2.2.cells) (su + Y.2.2.2.2.slots) (pc + 3) L (v.toList ++ rest)) : G E M P sh sz V cu su pc L S := by
  subst hS
  obtain ⟨y, cc, nl, ret, rm⟩ := Y
  have hr0 : ret = none := hr0
  subst hr0
  intro p e s m args below meth c C0 H locs ls D
  refine va_any2 (va_runI (rest := rest) ⟨C0.1, C0.2.1, C0.2.2.1, C0.2.2.2.1, C0.2.2.2.2.1⟩ (hc.met hx) (cwI n C0.2.2.2.2.1 (gIn_I h5) rfl rfl rfl (C0.2.2.2.2.1 _ hini) (C0.2.2.2.2.1 _ hl) (C0.2.2.2.2.1 _ h2) hnm hy ⟨hroom.1, hroom.2.1⟩) ⟨gPc_blind, fun U hU hW => ⟨rfl, C0.2.2.2.2.2.2.2.2.2.1.warm hW, by rw [hU]; exact D.2.1⟩⟩ rfl hn D.1.1 rfl (lv_room hcat) hdg ⟨hroom.2.2.1, hroom.2.2.2⟩) ?_
  rintro v st t L2 hL ⟨v', sh', sz', V', hv, hR, hP⟩
  cases hv
  exact kk v sh' sz' V' hP p e s m args below meth c C0 t.heap _ ls (HR.mono_sz D hR (hz _ _ _ _ hP) hL)
/-- .. a private one of a nest mate -/
theorem g_callIN {Y : gY} {idx n : Nat} {host : String} (hr0 : Y.2.2.2.1 = none) (h5 : Cond.code Y.1 Y.2.1 Y.2.2.1 none ∈ gW) (hl : Cond.methodLinkNest M.2.2.1 idx Y.1 host ∈ gNw) (h2 : Cond.instanceMethod Y.1 ∈ gW) (hini : Cond.initialized Y.1.cls ∈ gW) (hnm : Y.1.name = "<init>") (hy : gName Y.1 n) (hdg : decode M.1 pc = .ok (.invokespecial idx, 3))
    {b : Nat} {As S : List Value} {P2 : gP} (hc : MC E Y (.ref b :: As) sh sz V P2) (hn : As.length = n) (hS : S = As.reverse ++ .ref b :: rest) (hroom : gRoom Y M cu su) (hcat : (rest.map fun v => v.category).sum ≤ 8)
    (hz : ∀ o sh' sz' V', P2 o sh' sz' V' → sz ≤ sz') (hx : ∀ C sh' sz' V', ¬ P2 (.inr C) sh' sz' V')
    (kk : ∀ v sh' sz' V', P2 (.inl v) sh' sz' V' → G E M P sh' sz' V' (cu + Y.2.2.2.2.cells) (su + Y.2.2.2.2.slots) (pc + 3) L (v.toList ++ rest)) : G E M P sh sz V cu su pc L S := by
  subst hS
  obtain ⟨y, cc, nl, ret, rm⟩ := Y
  have hr0 : ret = none := hr0
  subst hr0
  intro p e s m args below meth c C0 H locs ls D
  refine va_any2 (va_runIN (rest := rest) ⟨C0.1, C0.2.1, C0.2.2.1, C0.2.2.2.1, C0.2.2.2.2.1⟩ (hc.met hx) ⟨va_cnB n C0.2.2.2.2.1 (gIn_I h5) rfl rfl rfl (C0.2.2.2.2.2.2.2.2.2.1.2.2.2.2.2.2.1 _ hl) (C0.2.2.2.2.1 _ hini) hy ⟨hroom.1, hroom.2.1⟩, hnm, C0.2.2.2.2.1 _ h2⟩ ⟨gPc_blind, fun U hU hW => ⟨rfl, C0.2.2.2.2.2.2.2.2.2.1.warm hW, by rw [hU]; exact D.2.1⟩⟩ rfl hn D.1.1 rfl (lv_room hcat) hdg ⟨hroom.2.2.1, hroom.2.2.2⟩) ?_
  rintro v st t L2 hL ⟨v', sh', sz', V', hv, hR, hP⟩
  cases hv
  exact kk v sh' sz' V' hP p e s m args below meth c C0 t.heap _ ls (HR.mono_sz D hR (hz _ _ _ _ hP) hL)
/-- a private static method of a nest mate, never throwing -/
theorem g_callSN {Y : gY} {idx n : Nat} {host : String} (h5 : Cond.code Y.1 Y.2.1 Y.2.2.1 Y.2.2.2.1 ∈ gW) (hl : Cond.methodLinkNest M.2.2.1 idx Y.1 host ∈ gNw) (h2 : Cond.static Y.1 ∈ gW) (hini : Cond.initialized Y.1.cls ∈ gW) (hy : gName Y.1 n) (hdg : decode M.1 pc = .ok (.invokestatic idx, 3))
    {As S : List Value} {P2 : gP} (hc : MC E Y As sh sz V P2) (hn : As.length = n) (hS : S = As.reverse ++ rest) (hroom : gRoom Y M cu su) (hcat : (rest.map fun v => v.category).sum ≤ 8)
    (hz : ∀ o sh' sz' V', P2 o sh' sz' V' → sz ≤ sz') (hx : ∀ C sh' sz' V', ¬ P2 (.inr C) sh' sz' V')
    (kk : ∀ v sh' sz' V', P2 (.inl v) sh' sz' V' → G E M P sh' sz' V' (cu + Y.2.2.2.2.cells) (su + Y.2.2.2.2.slots) (pc + 3) L (v.toList ++ rest)) : G E M P sh sz V cu su pc L S := by
  subst hS
  intro p e s m args below meth c C0 H locs ls D
  refine va_any2 (va_runSN (rest := rest) ⟨C0.1, C0.2.1, C0.2.2.1, C0.2.2.2.1, C0.2.2.2.2.1⟩ (hc.met hx) ⟨va_cnB n C0.2.2.2.2.1 (gIn_I h5) rfl rfl rfl (C0.2.2.2.2.2.2.2.2.2.1.2.2.2.2.2.2.1 _ hl) (C0.2.2.2.2.1 _ hini) hy ⟨hroom.1, hroom.2.1⟩, C0.2.2.2.2.1 _ h2, trivial⟩ ⟨gPc_blind, fun U hU hW => ⟨rfl, C0.2.2.2.2.2.2.2.2.2.1.warm hW, by rw [hU]; exact D.2.1⟩⟩ rfl hn D.1.1 rfl (lv_room hcat) hdg ⟨hroom.2.2.1, hroom.2.2.2⟩) ?_
  rintro v st t L2 hL ⟨v', sh', sz', V', hv, hR, hP⟩
  cases hv
  exact kk v sh' sz' V' hP p e s m args below meth c C0 t.heap _ ls (HR.mono_sz D hR (hz _ _ _ _ hP) hL)
/-! ends -/
theorem g_vret (hr : M.2.2.2.1 = none) (hdg : decode M.1 pc = .ok (.return_, 1)) (hm : cu ≤ M.2.2.2.2.2.2.cells ∧ su ≤ M.2.2.2.2.2.2.slots) (h : P (.inl none) sh sz V) : G E M P sh sz V cu su pc L [] := by
  intro p e s m args below meth c C0 H locs ls D
  have hlocks := C0.2.2.2.2.2.2.1
  refine W.widen hm.1 hm.2 (vx_ret (W.vret C0.1 C0.2.1 (C0.2.2.2.2.2.1.trans hr) (fun t ht _ => ⟨none, sh, sz, V, rfl, by rw [ht]; exact D.2.1, h⟩) D.2.2.1 hdg hlocks))
theorem g_iret {v : Int32} {ty : FieldType} (hr : M.2.2.2.1 = some ty) (hn : narrow ty (.int v) = .int v) (hdg : decode M.1 pc = .ok (.ireturn, 1)) (hm : cu ≤ M.2.2.2.2.2.2.cells ∧ su ≤ M.2.2.2.2.2.2.slots) (h : P (.inl (some (.int v))) sh sz V) : G E M P sh sz V cu su pc L [.int v] := by
  intro p e s m args below meth c C0 H locs ls D
  have hlocks := C0.2.2.2.2.2.2.1
  refine W.widen hm.1 hm.2 (vx_ret (W.zret C0.1 C0.2.1 (C0.2.2.2.2.2.1.trans hr) hn (fun t ht _ => ⟨_, sh, sz, V, rfl, by rw [ht]; exact D.2.1, h⟩) D.2.2.1 hdg hlocks))
theorem g_lret {v : Int64} (hr : M.2.2.2.1 = some .long) (hdg : decode M.1 pc = .ok (.lreturn, 1)) (hm : cu ≤ M.2.2.2.2.2.2.cells ∧ su ≤ M.2.2.2.2.2.2.slots) (h : P (.inl (some (.long v))) sh sz V) : G E M P sh sz V cu su pc L [.long v] := by
  intro p e s m args below meth c C0 H locs ls D
  have hlocks := C0.2.2.2.2.2.2.1
  refine W.widen hm.1 hm.2 (vx_ret (W.lret C0.1 C0.2.1 (C0.2.2.2.2.2.1.trans hr) (fun t ht _ => ⟨_, sh, sz, V, rfl, by rw [ht]; exact D.2.1, h⟩) D.2.2.1 hdg hlocks))
theorem g_fret {v : UInt32} (hr : M.2.2.2.1 = some .float) (hdg : decode M.1 pc = .ok (.freturn, 1)) (hm : cu ≤ M.2.2.2.2.2.2.cells ∧ su ≤ M.2.2.2.2.2.2.slots) (h : P (.inl (some (.float v))) sh sz V) : G E M P sh sz V cu su pc L [.float v] := by
  intro p e s m args below meth c C0 H locs ls D
  have hlocks := C0.2.2.2.2.2.2.1
  refine W.widen hm.1 hm.2 (vx_ret (W.fret C0.1 C0.2.1 (C0.2.2.2.2.2.1.trans hr) (fun t ht _ => ⟨_, sh, sz, V, rfl, by rw [ht]; exact D.2.1, h⟩) D.2.2.1 hdg hlocks))
theorem g_aret {v : Value} {rt : FieldType} (hr : M.2.2.2.1 = some rt) (hrt : (∃ n, rt = .object n) ∨ ∃ t, rt = .array t) (hv : v = .null ∨ ∃ a, v = .ref a) (hdg : decode M.1 pc = .ok (.areturn, 1)) (hm : cu ≤ M.2.2.2.2.2.2.cells ∧ su ≤ M.2.2.2.2.2.2.slots) (h : P (.inl (some v)) sh sz V) : G E M P sh sz V cu su pc L [v] := by
  intro p e s m args below meth c C0 H locs ls D
  have hlocks := C0.2.2.2.2.2.2.1
  refine W.widen hm.1 hm.2 (vx_ret (W.aret C0.1 C0.2.1 (C0.2.2.2.2.2.1.trans hr) hrt hv (fun t ht _ => ⟨_, sh, sz, V, rfl, by rw [ht]; exact D.2.1, h⟩) D.2.2.1 hdg hlocks))
/-- thrown on to the caller -/
theorem gt_out {C : String} (ht : M.2.2.2.2.1 = []) (hm : cu ≤ M.2.2.2.2.2.2.cells ∧ su ≤ M.2.2.2.2.2.2.slots) (h : P (.inr C) sh sz V) : Gt E M P sh sz V cu su pc L C := by
  intro p e s m args below meth c C0 H locs ls D q ce rest h1 h2 h3
  exact vx_out (fun x hx => by rw [C0.2.2.2.2.2.2.2.1, ht] at hx; cases hx) C0.2.2.2.2.2.2.1 h1 h2 h3 (fun t ht _ => ⟨sh, sz, V, by rw [ht]; exact D.2.1, h⟩) D.2.2.1 hm.1 hm.2
end GR
end
section
/-! further rows: longs in locals, shifts to the right -/
section ROWSB
variable {E : gE} {M : gM} {P : gP} {sh : Sh} {sz : Nat} {V : Vl} {cu su pc : Nat} {L : List (Option Value)} {rest : List Value}
theorem g_ishr {x y : Int32} (hdg : decode M.1 pc = .ok (.ishr, 1)) (k : G E M P sh sz V cu su (pc + 1) L (.int (x >>> (y &&& 31)) :: rest)) : G E M P sh sz V cu su pc L (.int y :: .int x :: rest) :=
  fun p e s m args below meth c C H locs ls D => lv_ishr C.1 C.2.1 hdg (k p e s m args below meth c C H locs ls D)
theorem g_iushr {x y v : Int32} (hdg : decode M.1 pc = .ok (.iushr, 1)) (hv : (x.toUInt32 >>> (y.toUInt32 &&& Int32.toUInt32 31)).toInt32 = v) (k : G E M P sh sz V cu su (pc + 1) L (.int v :: rest)) : G E M P sh sz V cu su pc L (.int y :: .int x :: rest) :=
  fun p e s m args below meth c C H locs ls D => lv_iushr C.1 C.2.1 hdg hv (k p e s m args below meth c C H locs ls D)
theorem g_i2b {x v : Int32} (hdg : decode M.1 pc = .ok (.i2b, 1)) (hv : x.toInt8.toInt32 = v) (k : G E M P sh sz V cu su (pc + 1) L (.int v :: rest)) : G E M P sh sz V cu su pc L (.int x :: rest) :=
  fun p e s m args below meth c C H locs ls D => lv_i2b C.1 C.2.1 hdg hv (k p e s m args below meth c C H locs ls D)
theorem g_lmul {x y : Int64} (hdg : decode M.1 pc = .ok (.lmul, 1)) (k : G E M P sh sz V cu su (pc + 1) L (.long (x * y) :: rest)) : G E M P sh sz V cu su pc L (.long y :: .long x :: rest) :=
  fun p e s m args below meth c C H locs ls D => lv_lmul C.1 C.2.1 hdg (k p e s m args below meth c C H locs ls D)
theorem g_lload_n {k : Fin 4} {x : Int64} (hdg : decode M.1 pc = .ok (.lload_n k, 1)) (hl : lg L (k : Nat) = some (.long x)) (kk : G E M P sh sz V cu su (pc + 1) L (.long x :: rest)) : G E M P sh sz V cu su pc L rest :=
  fun p e s m args below meth c C H locs ls D => lv_lload_n C.1 C.2.1 hdg rfl (lg_has D.1 hl) (kk p e s m args below meth c C H locs ls D)
theorem g_lload {i : Nat} {x : Int64} (hdg : decode M.1 pc = .ok (.lload i, 2)) (hl : lg L i = some (.long x)) (kk : G E M P sh sz V cu su (pc + 2) L (.long x :: rest)) : G E M P sh sz V cu su pc L rest :=
  fun p e s m args below meth c C H locs ls D => lv_lload C.1 C.2.1 hdg (lg_has D.1 hl) (kk p e s m args below meth c C H locs ls D)
theorem g_lstore_n {k : Fin 4} {x : Int64} (hdg : decode M.1 pc = .ok (.lstore_n k, 1)) (hi : (k : Nat) + 1 < M.2.1) (hc : lc1 L (k : Nat) = true) (hc2 : lg L ((k : Nat) + 1) = none) (kk : G E M P sh sz V cu su (pc + 1) (lst L (k : Nat) (.long x)) rest) : G E M P sh sz V cu su pc L (.long x :: rest) :=
  fun p e s m args below meth c C H locs ls D => lv_lstore_n C.1 C.2.1 hdg rfl D.1 hi rfl (fun ls' h => kk p e s m args below meth c C H locs ls' ⟨lv_mono h (lst_sub2 hc hc2), D.2⟩)
theorem g_lstore {i : Nat} {x : Int64} (hdg : decode M.1 pc = .ok (.lstore i, 2)) (hi : i + 1 < M.2.1) (hc : lc1 L i = true) (hc2 : lg L (i + 1) = none) (kk : G E M P sh sz V cu su (pc + 2) (lst L i (.long x)) rest) : G E M P sh sz V cu su pc L (.long x :: rest) :=
  fun p e s m args below meth c C H locs ls D => lv_lstore C.1 C.2.1 hdg D.1 hi rfl (fun ls' h => kk p e s m args below meth c C H locs ls' ⟨lv_mono h (lst_sub2 hc hc2), D.2⟩)
theorem g_dstore {i : Nat} {x : UInt64} (hdg : decode M.1 pc = .ok (.dstore i, 2)) (hi : i + 1 < M.2.1) (hc : lc1 L i = true) (hc2 : lg L (i + 1) = none) (kk : G E M P sh sz V cu su (pc + 2) (lst L i (.double x)) rest) : G E M P sh sz V cu su pc L (.double x :: rest) :=
  fun p e s m args below meth c C H locs ls D => lv_dstore C.1 C.2.1 hdg D.1 hi rfl (fun ls' h => kk p e s m args below meth c C H locs ls' ⟨lv_mono h (lst_sub2 hc hc2), D.2⟩)
end ROWSB
end
section
/-! posts, and calls by them -/
section GP
/-- answers v, changes nothing -/
def pR (v : Option Value) (sh : Sh) (sz : Nat) (V : Vl) : gP := fun o sh' sz' V' => o = .inl v ∧ sh' = sh ∧ sz' = sz ∧ V' = V
/-- answers nothing; the heap's contents as Q says -/
def pV (Q : Vl → Prop) (sh : Sh) (sz : Nat) : gP := fun o sh' sz' V' => o = .inl none ∧ sh' = sh ∧ sz' = sz ∧ Q V'
/-- answers a value; the heap's contents as Q says -/
def pW (Q : Value → Vl → Prop) (sh : Sh) (sz : Nat) : gP := fun o sh' sz' V' => ∃ v, o = .inl (some v) ∧ sh' = sh ∧ sz' = sz ∧ Q v V'
variable {E : gE} {M : gM} {P : gP} {sh : Sh} {sz : Nat} {V : Vl} {cu su pc : Nat} {L : List (Option Value)} {rest : List Value}
theorem g_callVp {Y : gY} {idx n : Nat} {C : String} {b : Nat} {As S : List Value} {v : Value} (hs : GoodIn gW (wsV M.2.2.1 idx C Y.1 (Cond.code Y.1 Y.2.1 Y.2.2.1 Y.2.2.2.1 :: gW))) (hC : Y.1.cls = C) (hy : gName Y.1 n) (ci : Nat) {r : vw_C} (hci : ci < 19) (hcl : vwCl[ci]? = some r) (hrC : r.1 = C) (hdg : decode M.1 pc = .ok (.invokevirtual idx, 3))
    (hc : MC E Y (.ref b :: As) sh sz V (pR (some v) sh sz V)) (hb : (sh b).1 = ci + 1) (hn : As.length = n) (hS : S = As.reverse ++ .ref b :: rest) (hroom : gRoomB Y M cu su = true) (hcat : (rest.map fun v => v.category).sum ≤ 8) (h0 : Y.2.2.2.2.cells = 0 ∧ Y.2.2.2.2.slots = 0)
    (kk : G E M P sh sz V cu su (pc + 3) L (v :: rest)) : G E M P sh sz V cu su pc L S :=
  g_callV hs hC hy ci hci hcl hrC hdg hc hb hn hS (gRoom_of hroom) hcat (fun _ _ _ _ h => Nat.le_of_eq h.2.2.1.symm) (fun v' sh' sz' V' h => by obtain ⟨h1, rfl, rfl, rfl⟩ := h; cases h1; rw [h0.1, h0.2]; exact kk) (fun _ _ _ _ h => nomatch h.1)
theorem g_callVv {Y : gY} {idx n : Nat} {C : String} {b : Nat} {As S : List Value} {Q : Vl → Prop} (hs : GoodIn gW (wsV M.2.2.1 idx C Y.1 (Cond.code Y.1 Y.2.1 Y.2.2.1 Y.2.2.2.1 :: gW))) (hC : Y.1.cls = C) (hy : gName Y.1 n) (ci : Nat) {r : vw_C} (hci : ci < 19) (hcl : vwCl[ci]? = some r) (hrC : r.1 = C) (hdg : decode M.1 pc = .ok (.invokevirtual idx, 3))
    (hc : MC E Y (.ref b :: As) sh sz V (pV Q sh sz)) (hb : (sh b).1 = ci + 1) (hn : As.length = n) (hS : S = As.reverse ++ .ref b :: rest) (hroom : gRoomB Y M cu su = true) (hcat : (rest.map fun v => v.category).sum ≤ 8) (h0 : Y.2.2.2.2.cells = 0 ∧ Y.2.2.2.2.slots = 0)
    (kk : ∀ V', Q V' → G E M P sh sz V' cu su (pc + 3) L rest) : G E M P sh sz V cu su pc L S :=
  g_callV hs hC hy ci hci hcl hrC hdg hc hb hn hS (gRoom_of hroom) hcat (fun _ _ _ _ h => Nat.le_of_eq h.2.2.1.symm) (fun v' sh' sz' V' h => by obtain ⟨h1, rfl, rfl, h2⟩ := h; cases h1; rw [h0.1, h0.2]; exact kk V' h2) (fun _ _ _ _ h => nomatch h.1)
theorem g_callVw {Y : gY} {idx n : Nat} {C : String} {b : Nat} {As S : List Value} {Q : Value → Vl → Prop} (hs : GoodIn gW (wsV M.2.2.1 idx C Y.1 (Cond.code Y.1 Y.2.1 Y.2.2.1 Y.2.2.2.1 :: gW))) (hC : Y.1.cls = C) (hy : gName Y.1 n) (ci : Nat) {r : vw_C} (hci : ci < 19) (hcl : vwCl[ci]? = some r) (hrC : r.1 = C) (hdg : decode M.1 pc = .ok (.invokevirtual idx, 3))
    (hc : MC E Y (.ref b :: As) sh sz V (pW Q sh sz)) (hb : (sh b).1 = ci + 1) (hn : As.length = n) (hS : S = As.reverse ++ .ref b :: rest) (hroom : gRoomB Y M cu su = true) (hcat : (rest.map fun v => v.category).sum ≤ 8) (h0 : Y.2.2.2.2.cells = 0 ∧ Y.2.2.2.2.slots = 0)
    (kk : ∀ v V', Q v V' → G E M P sh sz V' cu su (pc + 3) L (v :: rest)) : G E M P sh sz V cu su pc L S :=
  g_callV hs hC hy ci hci hcl hrC hdg hc hb hn hS (gRoom_of hroom) hcat (fun _ _ _ _ h => by obtain ⟨v, -, -, h, -⟩ := h; exact Nat.le_of_eq h.symm) (fun v' sh' sz' V' h => by obtain ⟨v, h1, rfl, rfl, h2⟩ := h; cases h1; rw [h0.1, h0.2]; exact kk v V' h2) (fun _ _ _ _ h => by obtain ⟨v, h, -⟩ := h; exact nomatch h)
theorem g_callSp {Y : gY} {idx n : Nat} {As S : List Value} {v : Value} (hs : GoodIn gW (va_wsS M.2.2.1 idx Y.1 (Cond.code Y.1 Y.2.1 Y.2.2.1 Y.2.2.2.1 :: gW))) (hy : gName Y.1 n) (hdg : decode M.1 pc = .ok (.invokestatic idx, 3))
    (hc : MC E Y As sh sz V (pR (some v) sh sz V)) (hn : As.length = n) (hS : S = As.reverse ++ rest) (hroom : gRoomB Y M cu su = true) (hcat : (rest.map fun v => v.category).sum ≤ 8) (h0 : Y.2.2.2.2.cells = 0 ∧ Y.2.2.2.2.slots = 0)
    (kk : G E M P sh sz V cu su (pc + 3) L (v :: rest)) : G E M P sh sz V cu su pc L S :=
  g_callS hs hy hdg hc hn hS (gRoom_of hroom) hcat (fun _ _ _ _ h => Nat.le_of_eq h.2.2.1.symm) (fun v' sh' sz' V' h => by obtain ⟨h1, rfl, rfl, rfl⟩ := h; cases h1; rw [h0.1, h0.2]; exact kk) (fun _ _ _ _ h => nomatch h.1)
theorem g_callSv {Y : gY} {idx n : Nat} {As S : List Value} {Q : Vl → Prop} (hs : GoodIn gW (va_wsS M.2.2.1 idx Y.1 (Cond.code Y.1 Y.2.1 Y.2.2.1 Y.2.2.2.1 :: gW))) (hy : gName Y.1 n) (hdg : decode M.1 pc = .ok (.invokestatic idx, 3))
    (hc : MC E Y As sh sz V (pV Q sh sz)) (hn : As.length = n) (hS : S = As.reverse ++ rest) (hroom : gRoomB Y M cu su = true) (hcat : (rest.map fun v => v.category).sum ≤ 8) (h0 : Y.2.2.2.2.cells = 0 ∧ Y.2.2.2.2.slots = 0)
    (kk : ∀ V', Q V' → G E M P sh sz V' cu su (pc + 3) L rest) : G E M P sh sz V cu su pc L S :=
  g_callS hs hy hdg hc hn hS (gRoom_of hroom) hcat (fun _ _ _ _ h => Nat.le_of_eq h.2.2.1.symm) (fun v' sh' sz' V' h => by obtain ⟨h1, rfl, rfl, h2⟩ := h; cases h1; rw [h0.1, h0.2]; exact kk V' h2) (fun _ _ _ _ h => nomatch h.1)
theorem g_callSw {Y : gY} {idx n : Nat} {As S : List Value} {Q : Value → Vl → Prop} (hs : GoodIn gW (va_wsS M.2.2.1 idx Y.1 (Cond.code Y.1 Y.2.1 Y.2.2.1 Y.2.2.2.1 :: gW))) (hy : gName Y.1 n) (hdg : decode M.1 pc = .ok (.invokestatic idx, 3))
    (hc : MC E Y As sh sz V (pW Q sh sz)) (hn : As.length = n) (hS : S = As.reverse ++ rest) (hroom : gRoomB Y M cu su = true) (hcat : (rest.map fun v => v.category).sum ≤ 8) (h0 : Y.2.2.2.2.cells = 0 ∧ Y.2.2.2.2.slots = 0)
    (kk : ∀ v V', Q v V' → G E M P sh sz V' cu su (pc + 3) L (v :: rest)) : G E M P sh sz V cu su pc L S :=
  g_callS hs hy hdg hc hn hS (gRoom_of hroom) hcat (fun _ _ _ _ h => by obtain ⟨v, -, -, h, -⟩ := h; exact Nat.le_of_eq h.symm) (fun v' sh' sz' V' h => by obtain ⟨v, h1, rfl, rfl, h2⟩ := h; cases h1; rw [h0.1, h0.2]; exact kk v V' h2) (fun _ _ _ _ h => by obtain ⟨v, h, -⟩ := h; exact nomatch h)
theorem g_callSNp {Y : gY} {idx n : Nat} {host : String} {As S : List Value} {v : Value} (h5 : Cond.code Y.1 Y.2.1 Y.2.2.1 Y.2.2.2.1 ∈ gW) (hl : Cond.methodLinkNest M.2.2.1 idx Y.1 host ∈ gNw) (h2 : Cond.static Y.1 ∈ gW) (hini : Cond.initialized Y.1.cls ∈ gW) (hy : gName Y.1 n) (hdg : decode M.1 pc = .ok (.invokestatic idx, 3))
    (hc : MC E Y As sh sz V (pR (some v) sh sz V)) (hn : As.length = n) (hS : S = As.reverse ++ rest) (hroom : gRoomB Y M cu su = true) (hcat : (rest.map fun v => v.category).sum ≤ 8) (h0 : Y.2.2.2.2.cells = 0 ∧ Y.2.2.2.2.slots = 0)
    (kk : G E M P sh sz V cu su (pc + 3) L (v :: rest)) : G E M P sh sz V cu su pc L S :=
  g_callSN h5 hl h2 hini hy hdg hc hn hS (gRoom_of hroom) hcat (fun _ _ _ _ h => Nat.le_of_eq h.2.2.1.symm) (fun _ _ _ _ h => nomatch h.1) (fun v' sh' sz' V' h => by obtain ⟨h1, rfl, rfl, rfl⟩ := h; cases h1; rw [h0.1, h0.2]; exact kk)
/-! members of the library by rows of their own -/
theorem g_mmin {index : Nat} {x y : Int32} (hl : Cond.methodLink M.2.2.1 index Lib.Math.min.name ∈ gW) (h1 : Cond.static Lib.Math.min.name ∈ gW) (h2 : Cond.initialized "java/lang/Math" ∈ gW) (h3 : Cond.code Lib.Math.min.name Lib.Math.min.code 2 (some .int) ∈ gW) (hdg : decode M.1 pc = .ok (.invokestatic index, 3)) (hf : 1 ≤ M.2.2.2.2.2.2.frames) (hlo : (rest.map fun v => v.category).sum + 13 ≤ M.2.2.2.2.2.2.locals) (hm : cu ≤ M.2.2.2.2.2.2.cells ∧ su ≤ M.2.2.2.2.2.2.slots) (kk : G E M P sh sz V cu su (pc + 3) L (.int (if y < x then y else x) :: rest)) : G E M P sh sz V cu su pc L (.int y :: .int x :: rest) :=
  fun p e s m args below meth c C0 H locs ls D => va_mmin C0.1 C0.2.1 (by rw [C0.2.2.1]; exact D.1.1.symm) C0.2.2.2.1 (C0.2.2.2.2.1 _ hl) (C0.2.2.2.2.1 _ h1) (C0.2.2.2.2.1 _ h2) (C0.2.2.2.2.1 _ h3) hf hlo hm.1 hm.2 hdg (kk p e s m args below meth c C0 H locs ls D)
theorem g_mmax {index : Nat} {x y : Int32} (hl : Cond.methodLink M.2.2.1 index Lib.Math.max.name ∈ gW) (h1 : Cond.static Lib.Math.max.name ∈ gW) (h2 : Cond.initialized "java/lang/Math" ∈ gW) (h3 : Cond.code Lib.Math.max.name Lib.Math.max.code 2 (some .int) ∈ gW) (hdg : decode M.1 pc = .ok (.invokestatic index, 3)) (hf : 1 ≤ M.2.2.2.2.2.2.frames) (hlo : (rest.map fun v => v.category).sum + 13 ≤ M.2.2.2.2.2.2.locals) (hm : cu ≤ M.2.2.2.2.2.2.cells ∧ su ≤ M.2.2.2.2.2.2.slots) (kk : G E M P sh sz V cu su (pc + 3) L (.int (if x < y then y else x) :: rest)) : G E M P sh sz V cu su pc L (.int y :: .int x :: rest) :=
  fun p e s m args below meth c C0 H locs ls D => va_mmax C0.1 C0.2.1 (by rw [C0.2.2.1]; exact D.1.1.symm) C0.2.2.2.1 (C0.2.2.2.2.1 _ hl) (C0.2.2.2.2.1 _ h1) (C0.2.2.2.2.1 _ h2) (C0.2.2.2.2.1 _ h3) hf hlo hm.1 hm.2 hdg (kk p e s m args below meth c C0 H locs ls D)
theorem g_mabs {index : Nat} {x : Int32} (hl : Cond.methodLink M.2.2.1 index Lib.Math.abs.name ∈ gW) (h1 : Cond.static Lib.Math.abs.name ∈ gW) (h2 : Cond.initialized "java/lang/Math" ∈ gW) (h3 : Cond.code Lib.Math.abs.name Lib.Math.abs.code 1 (some .int) ∈ gW) (hdg : decode M.1 pc = .ok (.invokestatic index, 3)) (hf : 1 ≤ M.2.2.2.2.2.2.frames) (hlo : (rest.map fun v => v.category).sum + 13 ≤ M.2.2.2.2.2.2.locals) (hm : cu ≤ M.2.2.2.2.2.2.cells ∧ su ≤ M.2.2.2.2.2.2.slots) (kk : G E M P sh sz V cu su (pc + 3) L (.int (if 0 ≤ x then x else 0 - x) :: rest)) : G E M P sh sz V cu su pc L (.int x :: rest) :=
  fun p e s m args below meth c C0 H locs ls D => va_mabs C0.1 C0.2.1 (by rw [C0.2.2.1]; exact D.1.1.symm) C0.2.2.2.1 (C0.2.2.2.2.1 _ hl) (C0.2.2.2.2.1 _ h1) (C0.2.2.2.2.1 _ h2) (C0.2.2.2.2.1 _ h3) hf hlo hm.1 hm.2 hdg (kk p e s m args below meth c C0 H locs ls D)
/-! static arrays: getstatic, the index, iaload -/
theorem va_S_of {s : State} {H : Heap} (hH : ∀ q : Nat, q < E.2.1 → s.heap[q]? = E.2.2.1[q]?) (hR : HR E sh sz V H) : ∀ q : Nat, ¬ gN E q → H[q]? = E.2.2.1[q]? := fun q hq => hR.2.2.1 q (Nat.lt_of_not_le hq)
theorem g_gets {C n d : String} {index : Nat} (hlink : Cond.fieldLink M.2.2.1 index C n d ∈ gW) (hdg : decode M.1 pc = .ok (.getstatic index, 3)) {X : Nat → State → Prop} (hK : ∀ s, KI E s → ∃ t : Nat, va_Z C n d (.ref t) (gN E) s E.2.2.1 ∧ X t s)
    (kk : ∀ t : Nat, ∀ p e s m args below meth c, Ctx E M p e s m args below meth c → X t s → ∀ H locs ls, Dyn E M sh sz V L s H locs ls → W p E.1 e M.2.2.2.2.2.2 s m args below meth c H locs cu su (vx_MQ below (gQ E P) (gX E P) args s M.2.2.2.2.2.2.cells M.2.2.2.2.2.2.slots (gN E)) (F0 m (pc + 3) ls (.ref t :: rest))) : G E M P sh sz V cu su pc L rest := by
  intro p e s m args below meth c C0 H locs ls D
  obtain ⟨t, hZ, hX⟩ := hK s C0.2.2.2.2.2.2.2.2.2.1
  obtain ⟨cf, kf, fi, f, a, cell, h1, h2, h3, h4, h5, h6, h7, h8⟩ := hZ
  exact W.gets C0.1 C0.2.1 C0.2.2.2.1 (C0.2.2.2.2.1 _ hlink) h1 h2 h3 h4 (by rw [va_S_of C0.2.2.2.2.2.2.2.2.2.2.2 D.2.1 a h8]; exact h5) (fun e9 => by rw [e9] at h6; cases h6) h7 rfl hdg (kk t p e s m args below meth c C0 hX H locs ls D)
theorem w_ti {p : Program} {e : Env} {s : State} {m : MethodId} {args : Array Value} {below : List Frame} {meth : Method} {c : Code} {H : Heap} {locs : List Loc} {ls : Array Slot} {Q : State → Prop} {t N : Nat} {f : Nat → Value} (C0 : Ctx E M p e s m args below meth c) (D : Dyn E M sh sz V L s H locs ls) (hT : va_T .int t N f (gN E) s E.2.2.1) {i : Int32} (hin : vp_in i N) {v : Value} (hv : f i.toNatClampNeg = v) (hdg : decode M.1 pc = .ok (.iaload, 1))
    (kk : W p E.1 e M.2.2.2.2.2.2 s m args below meth c H locs cu su Q (F0 m (pc + 1) ls (v :: rest))) : W p E.1 e M.2.2.2.2.2.2 s m args below meth c H locs cu su Q (F0 m pc ls (.int i :: .ref t :: rest)) := by
  obtain ⟨cell, h1, h2, h3, h4, h5, h6, h7⟩ := hT
  have hlt : i.toNatClampNeg < N := Nat.not_le.mp fun q => hin (Or.inr q)
  have hin' : ¬ (i < 0 ∨ cell.slots.size ≤ i.toNatClampNeg) := by
    intro q
    rcases q with q | q
    · exact hin (Or.inl q)
    · omega
  exact W.iald (v := v) C0.1 C0.2.1 (by rw [va_S_of C0.2.2.2.2.2.2.2.2.2.2.2 D.2.1 t h7]; exact h1) h2 h3 hin' (by rw [h6 _ hlt, hv]) rfl rfl hdg kk
/-- getstatic; iload_0; iaload over an array of three ints that never changes -/
theorem g_stat3 {C n d : String} {index : Nat} {xs : List Int32} {k : Fin 4} {i : Int32} (hlink : Cond.fieldLink M.2.2.1 index C n d ∈ gW) (hK : ∀ s, KI E s → ∃ t : Nat, va_Z C n d (.ref t) (gN E) s E.2.2.1 ∧ va_T .int t 3 (fun j => .int (xs.getD j 0)) (gN E) s E.2.2.1) (d0 : decode M.1 pc = .ok (.getstatic index, 3)) (d3 : decode M.1 (pc + 3) = .ok (.iload_n k, 1)) (hl : lg L (k : Nat) = some (.int i)) (hin : vp_in i 3) (d4 : decode M.1 (pc + 4) = .ok (.iaload, 1)) (kk : G E M P sh sz V cu su (pc + 5) L (.int (xs.getD i.toNatClampNeg 0) :: rest)) : G E M P sh sz V cu su pc L rest := by
  refine g_gets hlink d0 hK fun t p e s m args below meth c C0 hT H locs ls D => ?_
  refine lv_iload_n C0.1 C0.2.1 d3 rfl (lg_has D.1 hl) ?_
  exact w_ti C0 D hT hin rfl d4 (kk p e s m args below meth c C0 H locs ls D)
/-- getstatic; arraylength -/
theorem g_statlen {C n d : String} {index : Nat} {xs : List Int32} (hlink : Cond.fieldLink M.2.2.1 index C n d ∈ gW) (hK : ∀ s, KI E s → ∃ t : Nat, va_Z C n d (.ref t) (gN E) s E.2.2.1 ∧ va_T .int t 3 (fun j => .int (xs.getD j 0)) (gN E) s E.2.2.1) (d0 : decode M.1 pc = .ok (.getstatic index, 3)) (d3 : decode M.1 (pc + 3) = .ok (.arraylength, 1)) (kk : G E M P sh sz V cu su (pc + 4) L (.int (nI 3) :: rest)) : G E M P sh sz V cu su pc L rest := by
  refine g_gets hlink d0 hK fun t p e s m args below meth c C0 hT H locs ls D => ?_
  obtain ⟨cell, h1, h2, h3, h4, h5, h6, h7⟩ := hT
  exact W.alen (n := nI 3) C0.1 C0.2.1 (by rw [va_S_of C0.2.2.2.2.2.2.2.2.2.2.2 D.2.1 t h7]; exact h1) h2 h5 rfl rfl d3 (kk p e s m args below meth c C0 H locs ls D)
/-! throws -/
theorem g_throw {cls text : String} {names : List String} {ik is ic : Nat} (hcls : Bundle.fit cls = true) (hnames : ∀ n ∈ names, Bundle.fit n = true) (hk : Cond.classLink M.2.2.1 ik cls ∈ gW) (hini : Cond.initialized cls ∈ gW) (hstr : (M.2.2.1, is, text) ∈ gstr)
    (hat : ∀ s args, KI E s → (∀ w ∈ gW, w.before args s = true) → ∀ w ∈ vx_atS M.2.2.1 ic cls names, w.before args s = true) (hgood : ∀ w ∈ vx_atS M.2.2.1 ic cls names, vx_ot w = true)
    (d0 : decode M.1 pc = .ok (.new ik, 3)) (d3 : decode M.1 (pc + 3) = .ok (.dup, 1)) (d4 : decode M.1 (pc + 4) = .ok (.ldc is, 2)) (d6 : decode M.1 (pc + 6) = .ok (.invokespecial ic, 3)) (d9 : decode M.1 (pc + 9) = .ok (.athrow, 1))
    (ht : M.2.2.2.2.1 = []) (hf : names.length + 3 < M.2.2.2.2.2.2.frames) (hlo : (rest.map fun v => v.category).sum + (13 * (names.length + 1) + 43) ≤ M.2.2.2.2.2.2.locals) (hm : cu + 1 ≤ M.2.2.2.2.2.2.cells ∧ su + 6 ≤ M.2.2.2.2.2.2.slots)
    (h : ∀ sz', sz ≤ sz' → P (.inr cls) sh sz' V) : G E M P sh sz V cu su pc L rest := by
  intro p e s m args below meth c C0 H locs ls D
  have hKI := C0.2.2.2.2.2.2.2.2.2.1
  obtain ⟨sa, hsa⟩ := hKI.2.2.2.2.2.1 _ hstr
  obtain ⟨hU, hN⟩ := hKI.2.2.2.2.1
  have hs0 := C0.2.2.2.2.2.2.2.2.2.2
  have hsH : ∀ a : Nat, a < E.2.2.1.size → ¬ gN E a → s.heap[a]? = E.2.2.1[a]? := fun a _ h2 => hs0.2 a (Nat.lt_of_not_le h2)
  have hSS : va_S (gN E) s.heap H locs := ⟨by rw [D.2.1.1]; exact D.2.2.2, fun q _ h2 => by rw [D.2.1.2.2.1 q (Nat.lt_of_not_le h2), hs0.2 q (Nat.lt_of_not_le h2)], D.2.2.1⟩
  refine vx_throwS (A := gN E) C0.1 C0.2.1 hKI.2.2.2.2.2.2.2.2 C0.2.2.2.1 hcls hnames (C0.2.2.2.2.1 _ hk) (C0.2.2.2.2.1 _ hini) hsa (hat s args hKI C0.2.2.2.2.1) (fun w hw => ?_) (vx_Zq.kept hU hsH) (vx_Zq.kept hN hsH) hSS (by rw [C0.2.2.1]; exact D.1.1) d0 d3 d4 d6 d9 (fun x hx => by rw [C0.2.2.2.2.2.2.2.1, ht] at hx; cases hx) hf hlo hm.1 hm.2 C0.2.2.2.2.2.2.1 (fun t _ h1 h2 => ?_) D.2.2.1 hm.1 hm.2
  · rcases List.mem_cons.mp hw with rfl | hw
    · rfl
    · rcases List.mem_cons.mp hw with rfl | hw
      · rfl
      · exact hgood w hw
  · rw [D.2.1.1] at h1 h2
    exact ⟨sh, t.heap.size, V, D.2.1.grow h1 h2, h _ h1⟩
end GP
end
section
/-! plain facts on numbers and arrays, to paste: each family by itself; over the kit's rows on nI and upd -/
/-! ===== order of ints, in all its forms, and through longs ===== -/
theorem fa_lt (a b : Int32) : a < b ↔ a.toInt < b.toInt := Int32.lt_iff_toInt_lt
theorem fa_le (a b : Int32) : a ≤ b ↔ a.toInt ≤ b.toInt := Int32.le_iff_toInt_le
theorem fa_eq (a b : Int32) : a = b ↔ a.toInt = b.toInt := Int32.toInt_inj.symm
theorem fa_lt64 (a b : Int64) : a < b ↔ a.toInt < b.toInt := Int64.lt_iff_toInt_lt
theorem fa_le64 (a b : Int64) : a ≤ b ↔ a.toInt ≤ b.toInt := Int64.le_iff_toInt_le
theorem fa_eq64 (a b : Int64) : a = b ↔ a.toInt = b.toInt := Int64.toInt_inj.symm
/-- a comparison of two ints taken as longs -/
theorem fa_wide_lt (a b : Int32) : a.toInt64 < b.toInt64 ↔ a < b := by rw [fa_lt64, fa_lt, Int32.toInt_toInt64, Int32.toInt_toInt64]
theorem fa_wide_le (a b : Int32) : a.toInt64 ≤ b.toInt64 ↔ a ≤ b := by rw [fa_le64, fa_le, Int32.toInt_toInt64, Int32.toInt_toInt64]
theorem fa_wide_eq (a b : Int32) : a.toInt64 = b.toInt64 ↔ a = b := by rw [fa_eq64, fa_eq, Int32.toInt_toInt64, Int32.toInt_toInt64]
/-- one strict comparison gives all the others -/
theorem fa_of_lt {a b : Int32} (h : a < b) : a ≤ b ∧ ¬ b ≤ a ∧ ¬ b < a ∧ a ≠ b ∧ b ≠ a := by
  rw [fa_lt] at h
  refine ⟨?_, ?_, ?_, ?_, ?_⟩
  · rw [fa_le]; omega
  · rw [fa_le]; omega
  · rw [fa_lt]; omega
  · intro e; rw [fa_eq] at e; omega
  · intro e; rw [fa_eq] at e; omega
theorem fa_of_nlt {a b : Int32} (h : ¬ a < b) : b ≤ a := by
  rw [fa_lt] at h
  rw [fa_le]
  omega
theorem fa_of_nle {a b : Int32} (h : ¬ a ≤ b) : b < a := by
  rw [fa_le] at h
  rw [fa_lt]
  omega
theorem fa_le_ne {a b : Int32} (h : a ≤ b) (h2 : a ≠ b) : a < b := by
  rw [fa_le] at h
  rw [fa_lt]
  have h3 : a.toInt ≠ b.toInt := fun e => h2 ((fa_eq a b).mpr e)
  omega
theorem fa_three (a b : Int32) : a < b ∨ a = b ∨ b < a := by
  rw [fa_lt, fa_lt, fa_eq]
  omega
theorem fa_trans {a b c : Int32} (h : a < b) (h2 : b ≤ c) : a < c := by
  rw [fa_lt] at *
  rw [fa_le] at h2
  omega
/-! ===== small literals as numbers ===== -/
theorem fa_lit (n : Nat) : (OfNat.ofNat n : Int32) = nI n := rfl
theorem fa_litL (n : Nat) : (OfNat.ofNat n : Int64) = lN n := rfl
/-! ===== bits of a number: 'or', masks, one bit ===== -/
theorem fa_and (a b : Nat) : nI a &&& nI b = nI (a &&& b) := by
  apply Int32.toBitVec_inj.1
  show BitVec.ofNat 32 a &&& BitVec.ofNat 32 b = BitVec.ofNat 32 (a &&& b)
  apply BitVec.eq_of_getLsbD_eq
  intro i hi
  simp [hi]
theorem fa_or (a b : Nat) : nI a ||| nI b = nI (a ||| b) := by
  apply Int32.toBitVec_inj.1
  show BitVec.ofNat 32 a ||| BitVec.ofNat 32 b = BitVec.ofNat 32 (a ||| b)
  apply BitVec.eq_of_getLsbD_eq
  intro i hi
  simp [hi]
/-- a remainder by a power of two, as a mask -/
theorem fa_mask (n k : Nat) : nI n &&& nI (2 ^ k - 1) = nI (n % 2 ^ k) := by rw [fa_and, Nat.and_two_pow_sub_one_eq_mod]
/-- 'or' of a high part and a low one that don't meet is their sum -/
theorem fa_or_sum {a k : Nat} (b : Nat) (h : a < 2 ^ k) : nI (2 ^ k * b) ||| nI a = nI (2 ^ k * b + a) := by rw [fa_or, Nat.two_pow_add_eq_or_of_lt h]
/-- one bit, by 'and' with a power of two -/
theorem fa_bit {n j : Nat} (hj : j < 31) : nI n &&& nI (2 ^ j) = 0 ↔ n.testBit j = false := by
  have h2 : (2 : Nat) ^ j < 2 ^ 31 := Nat.pow_lt_pow_right (by decide) hj
  have hle : n &&& 2 ^ j ≤ 2 ^ j := Nat.and_le_right
  have e : n &&& 2 ^ j = 0 ↔ n.testBit j = false := by
    constructor
    · intro h
      have h1 : (n &&& 2 ^ j).testBit j = false := by rw [h]; simp
      rw [Nat.testBit_and] at h1
      first | simpa using h1 | simpa [Nat.testBit_two_pow_self] using h1 | simpa [Nat.testBit_two_pow] using h1
    · intro h
      apply Nat.eq_of_testBit_eq
      intro i
      rw [Nat.testBit_and]
      by_cases hi : j = i
      · subst hi; simp [h]
      · first | (simp [Nat.testBit_two_pow, hi]; done) | (simp [Nat.testBit_two_pow_of_ne hi]; done)
  rw [fa_and]
  constructor
  · intro h
    apply e.mp
    rcases Nat.eq_zero_or_pos (n &&& 2 ^ j) with z | z
    · exact z
    · exact absurd h (nI_ne0 z (Nat.lt_of_le_of_lt hle h2))
  · intro h
    rw [e.mpr h]; exact nI_0
/-- a remainder by a power of two of a number that isn't negative, as Java divides -/
theorem fa_rem {a k : Nat} (ha : a < 2 ^ 31) (hk : k < 31) : nI a - nI a / nI (2 ^ k) * nI (2 ^ k) = nI (a % 2 ^ k) := pk_rem ha (Nat.two_pow_pos k) (Nat.pow_lt_pow_right (by decide) hk)
/-! ===== cuts to a byte, a short ===== -/
theorem fa_byte_xor (x y : Int32) : (x ^^^ y).toInt8 = x.toInt8 ^^^ y.toInt8 := by
  apply Int8.toBitVec_inj.1
  apply BitVec.eq_of_getLsbD_eq
  intro i hi
  first | (simp [hi]; done) | (simp [hi, BitVec.getLsbD_setWidth, BitVec.getLsbD_signExtend]; done)
theorem fa_short_xor (x y : Int32) : (x ^^^ y).toInt16 = x.toInt16 ^^^ y.toInt16 := by
  apply Int16.toBitVec_inj.1
  apply BitVec.eq_of_getLsbD_eq
  intro i hi
  first | (simp [hi]; done) | (simp [hi, BitVec.getLsbD_setWidth, BitVec.getLsbD_signExtend]; done)
/-- the cut to a byte sees the low byte alone -/
theorem fa_byte_low (x : Int32) : (x &&& 255).toInt8 = x.toInt8 := by
  apply Int8.toBitVec_inj.1
  apply BitVec.eq_of_getLsbD_eq
  intro i hi
  have h2 : (255 : Int32).toBitVec.getLsbD i = true := by
    have : ∀ j : Fin 8, (255 : Int32).toBitVec.getLsbD j.val = true := by decide +kernel
    exact this ⟨i, hi⟩
  have h4 : (x &&& 255).toBitVec.getLsbD i = x.toBitVec.getLsbD i := by
    show (x.toBitVec &&& (255 : Int32).toBitVec).getLsbD i = _
    rw [BitVec.getLsbD_and, h2, Bool.and_true]
  have h3 : i < 32 := by omega
  first
    | (show (((x &&& 255).toBitVec).signExtend 8).getLsbD i = (x.toBitVec.signExtend 8).getLsbD i; rw [BitVec.getLsbD_signExtend, BitVec.getLsbD_signExtend, if_pos h3, if_pos h3, h4])
    | (show (((x &&& 255).toBitVec).setWidth 8).getLsbD i = (x.toBitVec.setWidth 8).getLsbD i; rw [BitVec.getLsbD_setWidth, BitVec.getLsbD_setWidth, h4])
    | (simp [hi, h3, h4]; done)
theorem fa_short_low (x : Int32) : (x &&& 65535).toInt16 = x.toInt16 := by
  apply Int16.toBitVec_inj.1
  apply BitVec.eq_of_getLsbD_eq
  intro i hi
  have h2 : (65535 : Int32).toBitVec.getLsbD i = true := by
    have : ∀ j : Fin 16, (65535 : Int32).toBitVec.getLsbD j.val = true := by decide +kernel
    exact this ⟨i, hi⟩
  have h4 : (x &&& 65535).toBitVec.getLsbD i = x.toBitVec.getLsbD i := by
    show (x.toBitVec &&& (65535 : Int32).toBitVec).getLsbD i = _
    rw [BitVec.getLsbD_and, h2, Bool.and_true]
  have h3 : i < 32 := by omega
  first
    | (show (((x &&& 65535).toBitVec).signExtend 16).getLsbD i = (x.toBitVec.signExtend 16).getLsbD i; rw [BitVec.getLsbD_signExtend, BitVec.getLsbD_signExtend, if_pos h3, if_pos h3, h4])
    | (show (((x &&& 65535).toBitVec).setWidth 16).getLsbD i = (x.toBitVec.setWidth 16).getLsbD i; rw [BitVec.getLsbD_setWidth, BitVec.getLsbD_setWidth, h4])
    | (simp [hi, h3, h4]; done)
/-- a small number is its own byte, its own short -/
theorem fa_byte_small {n : Nat} (h : n < 128) : (nI n).toInt8.toInt32 = nI n := by
  have : ∀ j : Fin 128, (nI j.val).toInt8.toInt32 = nI j.val := by decide +kernel
  exact this ⟨n, h⟩
/-! ===== absolute difference ===== -/
theorem fa_absdiff {a b : Nat} (ha : a < 2 ^ 31) (hb : b < 2 ^ 31) : (if nI a < nI b then nI b - nI a else nI a - nI b) = nI (if a < b then b - a else a - b) := by
  by_cases h : a < b
  · rw [if_pos (nI_lt h hb), if_pos h]
    exact pk_sub (Nat.le_of_lt h)
  · rw [if_neg (nI_nlt (Nat.le_of_not_lt h) ha), if_neg h]
    exact pk_sub (Nat.le_of_not_lt h)
/-! ===== an array behind i stores, a conditional store, a row copied ===== -/
/-- f where k < i, what stood there else -/
def fa_fill {α : Type} (f g : Nat → α) (i : Nat) : Nat → α := fun k => if k < i then f k else g k
theorem fa_fill_0 {α : Type} (f g : Nat → α) : fa_fill f g 0 = g := funext fun k => if_neg (Nat.not_lt_zero k)
theorem fa_fill_in {α : Type} {f g : Nat → α} {i k : Nat} (h : k < i) : fa_fill f g i k = f k := if_pos h
theorem fa_fill_out {α : Type} {f g : Nat → α} {i k : Nat} (h : i ≤ k) : fa_fill f g i k = g k := if_neg (Nat.not_lt.mpr h)
theorem fa_fill_succ (f g : Nat → Int32) (i : Nat) : upd (fa_fill f g i) i (f i) = fa_fill f g (i + 1) := by
  funext k
  by_cases e : k = i
  · subst e
    rw [pk_us]
    exact (if_pos (Nat.lt_succ_self k)).symm
  · rw [pk_un e]
    by_cases h : k < i
    · rw [fa_fill_in h, fa_fill_in (Nat.lt_succ_of_lt h)]
    · rw [fa_fill_out (Nat.le_of_not_lt h), fa_fill_out (by omega)]
/-- a store that changes nothing -/
theorem fa_upd_same {f : Nat → Int32} {i : Nat} {x : Int32} (h : f i = x) : upd f i x = f := by
  funext k
  by_cases e : k = i
  · subst e
    rw [pk_us, h]
  · rw [pk_un e]
/-- a store under a condition, told as one -/
theorem fa_upd_if (c : Prop) [Decidable c] (f : Nat → Int32) (i : Nat) (x : Int32) : (if c then upd f i x else f) = upd f i (if c then x else f i) := by
  by_cases h : c
  · rw [if_pos h, if_pos h]
  · rw [if_neg h, if_neg h, fa_upd_same rfl]
/-- two stores at one place, at two -/
theorem fa_upd_twice (f : Nat → Int32) (i : Nat) (x y : Int32) : upd (upd f i x) i y = upd f i y := by
  funext k
  by_cases e : k = i
  · subst e
    rw [pk_us, pk_us]
  · rw [pk_un e, pk_un e, pk_un e]
theorem fa_upd_swap (f : Nat → Int32) {i j : Nat} (h : i ≠ j) (x y : Int32) : upd (upd f i x) j y = upd (upd f j y) i x := by
  funext k
  by_cases e : k = i
  · subst e
    rw [pk_un h, pk_us, pk_us]
  · by_cases e2 : k = j
    · subst e2
      rw [pk_us, pk_un e, pk_us]
    · rw [pk_un e2, pk_un e, pk_un e, pk_un e2]
/-! ===== the first index with a property; a count ===== -/
/-- the first k < n with p k, n if there is none -/
def fa_first (p : Nat → Bool) : Nat → Nat
  | 0 => 0
  | n + 1 => if fa_first p n < n then fa_first p n else if p n then n else n + 1
theorem fa_first_le (p : Nat → Bool) : ∀ n, fa_first p n ≤ n
  | 0 => Nat.le_refl 0
  | n + 1 => by
    have ih := fa_first_le p n
    unfold fa_first
    split
    · omega
    · split
      · omega
      · omega
theorem fa_first_no (p : Nat → Bool) : ∀ n k, k < fa_first p n → p k = false
  | 0, k, h => absurd h (Nat.not_lt_zero k)
  | n + 1, k, h => by
    have ih := fa_first_no p n
    have hl := fa_first_le p n
    unfold fa_first at h
    split at h
    · exact ih k h
    · rename_i h1
      split at h
      · exact ih k (by omega)
      · rename_i h2
        by_cases e : k = n
        · subst e
          exact Bool.eq_false_iff.mpr h2
        · exact ih k (by omega)
theorem fa_first_yes (p : Nat → Bool) : ∀ n, fa_first p n < n → p (fa_first p n) = true
  | 0, h => absurd h (Nat.not_lt_zero _)
  | n + 1, h => by
    have ih := fa_first_yes p n
    have hl := fa_first_le p n
    unfold fa_first at h ⊢
    split at h
    · rename_i h1
      rw [if_pos h1]
      exact ih h1
    · rename_i h1
      rw [if_neg h1]
      split at h
      · rename_i h2
        rw [if_pos h2]
        exact h2
      · omega
/-- how many k < n have p k -/
def fa_cnt (p : Nat → Bool) : Nat → Nat
  | 0 => 0
  | n + 1 => fa_cnt p n + if p n then 1 else 0
theorem fa_cnt_le (p : Nat → Bool) : ∀ n, fa_cnt p n ≤ n
  | 0 => Nat.le_refl 0
  | n + 1 => by
    have ih := fa_cnt_le p n
    unfold fa_cnt
    split
    · omega
    · omega
theorem fa_cnt_yes {p : Nat → Bool} {n : Nat} (h : p n = true) : fa_cnt p (n + 1) = fa_cnt p n + 1 := by rw [fa_cnt, if_pos h]
theorem fa_cnt_no {p : Nat → Bool} {n : Nat} (h : p n = false) : fa_cnt p (n + 1) = fa_cnt p n := by rw [fa_cnt, if_neg (by rw [h]; decide)]; rfl
theorem fa_cnt_cong {p q : Nat → Bool} : ∀ {n : Nat}, (∀ k, k < n → p k = q k) → fa_cnt p n = fa_cnt q n
  | 0, _ => rfl
  | n + 1, h => by rw [fa_cnt, fa_cnt, fa_cnt_cong (fun k hk => h k (Nat.lt_succ_of_lt hk)), h n (Nat.lt_succ_self n)]
/-! ===== an answer carried into a post; a branch on a boolean answer ===== -/
theorem fa_post {α : Type} {P : α → Prop} {x y : α} (h : x = y) (hp : P y) : P x := h ▸ hp
theorem fa_post2 {α β : Type} {P : α → β → Prop} {x y : α} {u v : β} (h : x = y) (h2 : u = v) (hp : P y v) : P x u := h ▸ h2 ▸ hp
theorem fa_bool {r : Int32} {b : Bool} (h : r = if b then 1 else 0) : (r = 0 ↔ b = false) ∧ (¬ r = 0 ↔ b = true) := by
  subst h
  cases b
  · exact ⟨⟨fun _ => rfl, fun _ => rfl⟩, ⟨fun h => absurd rfl h, fun h => absurd h (by decide)⟩⟩
  · exact ⟨⟨fun h => absurd h (by decide), fun h => absurd h (by decide)⟩, ⟨fun _ => rfl, fun _ => by decide⟩⟩
/-- a boolean's narrowing changes nothing -/
theorem fa_bool_and {r : Int32} (h : r = 0 ∨ r = 1) : r &&& 1 = r := by
  rcases h with rfl | rfl
  · decide
  · decide
theorem fa_bool_prop {c : Prop} [Decidable c] {r : Int32} (h : r = if c then 1 else 0) : (r = 0 ↔ ¬ c) ∧ (¬ r = 0 ↔ c) := by
  subst h
  by_cases hc : c
  · rw [if_pos hc]
    exact ⟨⟨fun h => absurd h (by decide), fun h => absurd hc h⟩, ⟨fun _ => hc, fun _ => by decide⟩⟩
  · rw [if_neg hc]
    exact ⟨⟨fun _ => hc, fun _ => rfl⟩, ⟨fun h => absurd rfl h, fun h => absurd h hc⟩⟩
/-! plain facts to paste, each family by itself; over the kit's nI, lN and upd -/
/-! ===== drawers: more things than places ===== -/
theorem fb_holes : ∀ (m n : Nat) (f : Nat → Nat), (∀ i, i < n → f i < m) → (∀ i j, i < j → j < n → f i ≠ f j) → n ≤ m := by
  intro m
  induction m with
  | zero =>
    intro n f h1 _
    rcases Nat.eq_zero_or_pos n with h | h
    · omega
    · exact absurd (h1 0 h) (Nat.not_lt_zero _)
  | succ m ih =>
    intro n f h1 h2
    by_cases hx : ∃ i, i < n ∧ f i = m
    · obtain ⟨a, ha, hfa⟩ := hx
      have hg := ih (n - 1) (fun i => if i < a then f i else f (i + 1)) (by
        intro i hi
        by_cases q : i < a
        · simp only [if_pos q]
          have b1 := h1 i (by omega)
          have b2 := h2 i a q ha
          omega
        · simp only [if_neg q]
          have b1 := h1 (i + 1) (by omega)
          have b2 := h2 a (i + 1) (by omega) (by omega)
          omega) (by
        intro i j hij hj
        by_cases q : i < a
        · by_cases r : j < a
          · simp only [if_pos q, if_pos r]
            exact h2 i j hij (by omega)
          · simp only [if_pos q, if_neg r]
            exact h2 i (j + 1) (by omega) (by omega)
        · have r : ¬ j < a := by omega
          simp only [if_neg q, if_neg r]
          exact h2 (i + 1) (j + 1) (by omega) (by omega))
      omega
    · have hg := ih n f (fun i hi => by
        have b1 := h1 i hi
        have b2 : f i ≠ m := fun e => hx ⟨i, hi, e⟩
        omega) h2
      omega
/-- two of them in one place -/
theorem fb_twice {m n : Nat} {f : Nat → Nat} (h : ∀ i, i < n → f i < m) (hm : m < n) : ∃ i j, i < j ∧ j < n ∧ f i = f j := by
  refine Classical.byContradiction fun hx => ?_
  have := fb_holes m n f h (fun i j hij hj e => hx ⟨i, j, hij, hj, e⟩)
  omega
/-- as many as places, none twice: each place is taken -/
theorem fb_onto {n : Nat} {f : Nat → Nat} (h : ∀ i, i < n → f i < n) (h2 : ∀ i j, i < j → j < n → f i ≠ f j) {y : Nat} (hy : y < n) : ∃ i, i < n ∧ f i = y := by
  refine Classical.byContradiction fun hx => ?_
  have hne : ∀ i, i < n → f i ≠ y := fun i hi e => hx ⟨i, hi, e⟩
  have := fb_holes (n - 1) n (fun i => if f i < y then f i else f i - 1) (by
    intro i hi
    have b1 := h i hi
    have b2 := hne i hi
    by_cases q : f i < y
    · simp only [if_pos q]; omega
    · simp only [if_neg q]; omega) (by
    intro i j hij hj
    have b1 := hne i (by omega)
    have b2 := hne j hj
    have b3 := h2 i j hij hj
    by_cases q : f i < y
    · by_cases r : f j < y
      · simp only [if_pos q, if_pos r]; exact b3
      · simp only [if_pos q, if_neg r]; omega
    · by_cases r : f j < y
      · simp only [if_neg q, if_pos r]; omega
      · simp only [if_neg q, if_neg r]; omega)
  omega
/-! ===== how many places have a property ===== -/
def fb_ct (p : Nat → Bool) : Nat → Nat
  | 0 => 0
  | n + 1 => fb_ct p n + (if p n then 1 else 0)
theorem fb_ct_succ (p : Nat → Bool) (n : Nat) : fb_ct p (n + 1) = fb_ct p n + (if p n then 1 else 0) := rfl
theorem fb_ct_le (p : Nat → Bool) : ∀ n, fb_ct p n ≤ n
  | 0 => Nat.le_refl _
  | n + 1 => by
    have h := fb_ct_le p n
    rw [fb_ct_succ]
    split <;> omega
theorem fb_ct_step (p : Nat → Bool) (m : Nat) : ∀ n, fb_ct p m ≤ fb_ct p (m + n)
  | 0 => Nat.le_refl _
  | n + 1 => by
    have h := fb_ct_step p m n
    show fb_ct p m ≤ fb_ct p (m + n + 1)
    rw [fb_ct_succ]
    omega
theorem fb_ct_mono (p : Nat → Bool) {m n : Nat} (h : m ≤ n) : fb_ct p m ≤ fb_ct p n := by
  have := fb_ct_step p m (n - m)
  rwa [Nat.add_sub_cancel' h] at this
theorem fb_ct_cong {p q : Nat → Bool} : ∀ {n : Nat}, (∀ k, k < n → p k = q k) → fb_ct p n = fb_ct q n
  | 0, _ => rfl
  | n + 1, h => by
    rw [fb_ct_succ, fb_ct_succ, fb_ct_cong (fun k hk => h k (by omega)), h n (by omega)]
/-- one place changed -/
theorem fb_ct_out (p : Nat → Bool) (b : Bool) {i n : Nat} (h : n ≤ i) : fb_ct (fun k => if k = i then b else p k) n = fb_ct p n :=
  fb_ct_cong fun k hk => if_neg (by omega)
theorem fb_ct_upd (p : Nat → Bool) (b : Bool) {i : Nat} : ∀ {n : Nat}, i < n → fb_ct (fun k => if k = i then b else p k) n + (if p i then 1 else 0) = fb_ct p n + (if b then 1 else 0)
  | 0, h => absurd h (Nat.not_lt_zero i)
  | n + 1, h => by
    rw [fb_ct_succ, fb_ct_succ]
    rcases Nat.lt_or_ge i n with q | q
    · have := fb_ct_upd p b q
      have e : (if n = i then b else p n) = p n := if_neg (by omega)
      rw [e]
      omega
    · have e : i = n := by omega
      subst e
      rw [fb_ct_out p b (Nat.le_refl _)]
      simp only [if_true]
      omega
theorem fb_ct_sub {p q : Nat → Bool} : ∀ {n : Nat}, (∀ k, k < n → p k = true → q k = true) → fb_ct p n ≤ fb_ct q n
  | 0, _ => Nat.le_refl _
  | n + 1, h => by
    have h1 := fb_ct_sub (n := n) (p := p) (q := q) (fun k hk => h k (by omega))
    have h2 := h n (by omega)
    rw [fb_ct_succ, fb_ct_succ]
    cases hp : p n <;> cases hq : q n <;> simp_all <;> omega
theorem fb_ct_or {p q : Nat → Bool} : ∀ {n : Nat}, (∀ k, k < n → ¬ (p k = true ∧ q k = true)) → fb_ct (fun k => p k || q k) n = fb_ct p n + fb_ct q n
  | 0, _ => rfl
  | n + 1, h => by
    have h1 := fb_ct_or (n := n) (p := p) (q := q) (fun k hk => h k (by omega))
    have h2 := h n (by omega)
    rw [fb_ct_succ, fb_ct_succ, fb_ct_succ, h1]
    cases hp : p n <;> cases hq : q n <;> simp_all <;> omega
theorem fb_ct_not (p : Nat → Bool) : ∀ n, fb_ct p n + fb_ct (fun k => !p k) n = n
  | 0 => rfl
  | n + 1 => by
    have h := fb_ct_not p n
    rw [fb_ct_succ, fb_ct_succ]
    cases p n <;> simp <;> omega
theorem fb_ct_split (p : Nat → Bool) (m : Nat) : ∀ n, fb_ct p (m + n) = fb_ct p m + fb_ct (fun k => p (m + k)) n
  | 0 => rfl
  | n + 1 => by
    have h := fb_ct_split p m n
    show fb_ct p (m + n + 1) = _
    rw [fb_ct_succ, fb_ct_succ, h, Nat.add_assoc]
theorem fb_ct_zero {p : Nat → Bool} : ∀ {n : Nat}, fb_ct p n = 0 ↔ ∀ k, k < n → p k = false
  | 0 => ⟨fun _ k hk => absurd hk (Nat.not_lt_zero k), fun _ => rfl⟩
  | n + 1 => by
    have h := fb_ct_zero (p := p) (n := n)
    rw [fb_ct_succ]
    constructor
    · intro e k hk
      have e1 : fb_ct p n = 0 := by omega
      rcases Nat.lt_or_ge k n with q | q
      · exact h.mp e1 k q
      · have ek : k = n := by omega
        subst ek
        cases hp : p k
        · rfl
        · simp [hp] at e
    · intro a
      rw [h.mpr (fun k hk => a k (by omega)), a n (by omega)]
      rfl
theorem fb_ct_pos {p : Nat → Bool} {n : Nat} : 0 < fb_ct p n ↔ ∃ k, k < n ∧ p k = true := by
  constructor
  · intro h
    refine Classical.byContradiction fun hx => ?_
    have := fb_ct_zero.mpr (fun k hk => by
      cases hp : p k
      · rfl
      · exact absurd ⟨k, hk, hp⟩ hx : ∀ k, k < n → p k = false)
    omega
  · rintro ⟨k, hk, hp⟩
    rcases Nat.eq_zero_or_pos (fb_ct p n) with e | e
    · have := fb_ct_zero.mp e k hk
      rw [this] at hp
      cases hp
    · exact e
theorem fb_ct_all {p : Nat → Bool} {n : Nat} : fb_ct p n = n ↔ ∀ k, k < n → p k = true := by
  have h := fb_ct_not p n
  constructor
  · intro e k hk
    have z : fb_ct (fun k => !p k) n = 0 := by omega
    have := fb_ct_zero.mp z k hk
    cases hp : p k
    · simp [hp] at this
    · rfl
  · intro a
    have z : fb_ct (fun k => !p k) n = 0 := fb_ct_zero.mpr (fun k hk => by simp [a k hk])
    omega
/-- the k-th place with the property -/
theorem fb_ct_kth {p : Nat → Bool} {k : Nat} : ∀ {n : Nat}, k < fb_ct p n → ∃ i, i < n ∧ p i = true ∧ fb_ct p i = k
  | 0, h => absurd h (Nat.not_lt_zero k)
  | n + 1, h => by
    rcases Nat.lt_or_ge k (fb_ct p n) with q | q
    · obtain ⟨i, h1, h2⟩ := fb_ct_kth q
      exact ⟨i, by omega, h2⟩
    · rw [fb_ct_succ] at h
      cases hp : p n
      · simp [hp] at h; omega
      · simp [hp] at h
        exact ⟨n, by omega, hp, by omega⟩
theorem fb_ct_kth_one {p : Nat → Bool} {i j : Nat} (hi : p i = true) (hj : p j = true) (e : fb_ct p i = fb_ct p j) : i = j := by
  have key : ∀ a b : Nat, a < b → p a = true → fb_ct p a < fb_ct p b := by
    intro a b hab ha
    have h := fb_ct_mono p (show a + 1 ≤ b from hab)
    rw [fb_ct_succ, ha] at h
    simp at h
    omega
  rcases Nat.lt_trichotomy i j with q | q | q
  · have := key i j q hi; omega
  · exact q
  · have := key j i q hj; omega
/-! ===== sums over a range: one place changed, parts, bounds ===== -/
def fb_sm (f : Nat → Nat) : Nat → Nat
  | 0 => 0
  | n + 1 => fb_sm f n + f n
theorem fb_sm_succ (f : Nat → Nat) (n : Nat) : fb_sm f (n + 1) = fb_sm f n + f n := rfl
theorem fb_sm_cong {f g : Nat → Nat} : ∀ {n : Nat}, (∀ k, k < n → f k = g k) → fb_sm f n = fb_sm g n
  | 0, _ => rfl
  | n + 1, h => by rw [fb_sm_succ, fb_sm_succ, fb_sm_cong (fun k hk => h k (by omega)), h n (by omega)]
theorem fb_sm_out (f : Nat → Nat) (v : Nat) {i n : Nat} (h : n ≤ i) : fb_sm (fun k => if k = i then v else f k) n = fb_sm f n :=
  fb_sm_cong fun k hk => if_neg (by omega)
theorem fb_sm_upd (f : Nat → Nat) (v : Nat) {i : Nat} : ∀ {n : Nat}, i < n → fb_sm (fun k => if k = i then v else f k) n + f i = fb_sm f n + v
  | 0, h => absurd h (Nat.not_lt_zero i)
  | n + 1, h => by
    rw [fb_sm_succ, fb_sm_succ]
    rcases Nat.lt_or_ge i n with q | q
    · have := fb_sm_upd f v q
      have e : (if n = i then v else f n) = f n := if_neg (by omega)
      rw [e]
      omega
    · have e : i = n := by omega
      subst e
      rw [fb_sm_out f v (Nat.le_refl _)]
      simp only [if_true]
      omega
theorem fb_sm_add (f g : Nat → Nat) : ∀ n, fb_sm (fun k => f k + g k) n = fb_sm f n + fb_sm g n
  | 0 => rfl
  | n + 1 => by
    have h := fb_sm_add f g n
    rw [fb_sm_succ, fb_sm_succ, fb_sm_succ, h]
    omega
theorem fb_sm_le {f g : Nat → Nat} : ∀ {n : Nat}, (∀ k, k < n → f k ≤ g k) → fb_sm f n ≤ fb_sm g n
  | 0, _ => Nat.le_refl _
  | n + 1, h => by
    have h1 := fb_sm_le (n := n) (f := f) (g := g) (fun k hk => h k (by omega))
    have h2 := h n (by omega)
    rw [fb_sm_succ, fb_sm_succ]
    omega
theorem fb_sm_const (c : Nat) : ∀ n, fb_sm (fun _ => c) n = n * c
  | 0 => by rw [Nat.zero_mul]; rfl
  | n + 1 => by rw [fb_sm_succ, fb_sm_const c n, Nat.succ_mul]
theorem fb_sm_bound {f : Nat → Nat} {c n : Nat} (h : ∀ k, k < n → f k ≤ c) : fb_sm f n ≤ n * c := by
  rw [← fb_sm_const c n]
  exact fb_sm_le h
theorem fb_sm_mono (f : Nat → Nat) (m : Nat) : ∀ n, fb_sm f m ≤ fb_sm f (m + n)
  | 0 => Nat.le_refl _
  | n + 1 => by
    have h := fb_sm_mono f m n
    show fb_sm f m ≤ fb_sm f (m + n + 1)
    rw [fb_sm_succ]
    omega
theorem fb_sm_part (f : Nat → Nat) {i n : Nat} (h : i < n) : fb_sm f i + f i ≤ fb_sm f n := by
  have := fb_sm_mono f (i + 1) (n - (i + 1))
  rw [fb_sm_succ, show i + 1 + (n - (i + 1)) = n by omega] at this
  exact this
theorem fb_sm_split (f : Nat → Nat) (m : Nat) : ∀ n, fb_sm f (m + n) = fb_sm f m + fb_sm (fun k => f (m + k)) n
  | 0 => rfl
  | n + 1 => by
    have h := fb_sm_split f m n
    show fb_sm f (m + n + 1) = _
    rw [fb_sm_succ, fb_sm_succ, h, Nat.add_assoc]
theorem fb_sm_zero {f : Nat → Nat} {n : Nat} (h : fb_sm f n = 0) : ∀ k, k < n → f k = 0 := fun k hk => by
  have := fb_sm_part f hk
  omega
/-- the same over whole numbers -/
def fb_si (f : Nat → Int) : Nat → Int
  | 0 => 0
  | n + 1 => fb_si f n + f n
theorem fb_si_succ (f : Nat → Int) (n : Nat) : fb_si f (n + 1) = fb_si f n + f n := rfl
theorem fb_si_cong {f g : Nat → Int} : ∀ {n : Nat}, (∀ k, k < n → f k = g k) → fb_si f n = fb_si g n
  | 0, _ => rfl
  | n + 1, h => by rw [fb_si_succ, fb_si_succ, fb_si_cong (fun k hk => h k (by omega)), h n (by omega)]
theorem fb_si_out (f : Nat → Int) (v : Int) {i n : Nat} (h : n ≤ i) : fb_si (fun k => if k = i then v else f k) n = fb_si f n :=
  fb_si_cong fun k hk => if_neg (by omega)
theorem fb_si_upd (f : Nat → Int) (v : Int) {i : Nat} : ∀ {n : Nat}, i < n → fb_si (fun k => if k = i then v else f k) n = fb_si f n - f i + v
  | 0, h => absurd h (Nat.not_lt_zero i)
  | n + 1, h => by
    rw [fb_si_succ, fb_si_succ]
    rcases Nat.lt_or_ge i n with q | q
    · have := fb_si_upd f v q
      have e : (if n = i then v else f n) = f n := if_neg (by omega)
      rw [e]
      omega
    · have e : i = n := by omega
      subst e
      rw [fb_si_out f v (Nat.le_refl _)]
      simp only [if_true]
      omega
theorem fb_si_add (f g : Nat → Int) : ∀ n, fb_si (fun k => f k + g k) n = fb_si f n + fb_si g n
  | 0 => rfl
  | n + 1 => by
    have h := fb_si_add f g n
    rw [fb_si_succ, fb_si_succ, fb_si_succ, h]
    omega
theorem fb_si_sub (f g : Nat → Int) : ∀ n, fb_si (fun k => f k - g k) n = fb_si f n - fb_si g n
  | 0 => rfl
  | n + 1 => by
    have h := fb_si_sub f g n
    rw [fb_si_succ, fb_si_succ, fb_si_succ, h]
    omega
theorem fb_si_mul (c : Int) (f : Nat → Int) : ∀ n, fb_si (fun k => c * f k) n = c * fb_si f n
  | 0 => (Int.mul_zero c).symm
  | n + 1 => by
    have h := fb_si_mul c f n
    rw [fb_si_succ, fb_si_succ, h, Int.mul_add]
theorem fb_si_split (f : Nat → Int) (m : Nat) : ∀ n, fb_si f (m + n) = fb_si f m + fb_si (fun k => f (m + k)) n
  | 0 => (Int.add_zero _).symm
  | n + 1 => by
    have h := fb_si_split f m n
    show fb_si f (m + n + 1) = _
    rw [fb_si_succ, fb_si_succ, h, Int.add_assoc]
theorem fb_si_nat (f : Nat → Nat) : ∀ n, fb_si (fun k => (f k : Int)) n = (fb_sm f n : Int)
  | 0 => rfl
  | n + 1 => by
    have h := fb_si_nat f n
    rw [fb_si_succ, fb_sm_succ, h]
    omega
theorem fb_si_bound {f : Nat → Int} {c : Int} (hc : 0 ≤ c) : ∀ {n : Nat}, (∀ k, k < n → -c ≤ f k ∧ f k ≤ c) → -(n * c) ≤ fb_si f n ∧ fb_si f n ≤ n * c
  | 0, _ => by simp [fb_si]
  | n + 1, h => by
    have h1 := fb_si_bound (n := n) (f := f) hc (fun k hk => h k (by omega))
    have h2 := h n (by omega)
    have e : ((n + 1 : Nat) : Int) * c = n * c + c := by rw [Int.natCast_add, Int.add_mul]; simp
    rw [fb_si_succ, e]
    omega
/-! ===== bits of a long that isn't negative ===== -/
theorem fb_andL (a b : Nat) : lN a &&& lN b = lN (a &&& b) := by
  apply Int64.toBitVec_inj.1
  show BitVec.ofNat 64 a &&& BitVec.ofNat 64 b = BitVec.ofNat 64 (a &&& b)
  apply BitVec.eq_of_getLsbD_eq
  intro i hi
  simp [hi]
theorem fb_orL (a b : Nat) : lN a ||| lN b = lN (a ||| b) := by
  apply Int64.toBitVec_inj.1
  show BitVec.ofNat 64 a ||| BitVec.ofNat 64 b = BitVec.ofNat 64 (a ||| b)
  apply BitVec.eq_of_getLsbD_eq
  intro i hi
  simp [hi]
theorem fb_xorL (a b : Nat) : lN a ^^^ lN b = lN (a ^^^ b) := by
  apply Int64.toBitVec_inj.1
  show BitVec.ofNat 64 a ^^^ BitVec.ofNat 64 b = BitVec.ofNat 64 (a ^^^ b)
  apply BitVec.eq_of_getLsbD_eq
  intro i hi
  simp [hi]
theorem fb_xorI (a b : Nat) : nI a ^^^ nI b = nI (a ^^^ b) := by
  apply Int32.toBitVec_inj.1
  show BitVec.ofNat 32 a ^^^ BitVec.ofNat 32 b = BitVec.ofNat 32 (a ^^^ b)
  apply BitVec.eq_of_getLsbD_eq
  intro i hi
  simp [hi]
theorem fb_maskL (n k : Nat) : lN n &&& lN (2 ^ k - 1) = lN (n % 2 ^ k) := by rw [fb_andL, Nat.and_two_pow_sub_one_eq_mod]
theorem fb_or_sumL {a k : Nat} (b : Nat) (h : a < 2 ^ k) : lN (2 ^ k * b) ||| lN a = lN (2 ^ k * b + a) := by rw [fb_orL, Nat.two_pow_add_eq_or_of_lt h]
theorem fb_lN_inj {a b : Nat} (ha : a < 2 ^ 63) (hb : b < 2 ^ 63) : lN a = lN b ↔ a = b := by
  constructor
  · intro h
    have h1 : (BitVec.ofNat 64 a).toNat = (BitVec.ofNat 64 b).toNat := congrArg (fun x : Int64 => x.toBitVec.toNat) h
    rw [BitVec.toNat_ofNat, BitVec.toNat_ofNat, Nat.mod_eq_of_lt (by omega), Nat.mod_eq_of_lt (by omega)] at h1
    exact h1
  · rintro rfl; rfl
theorem fb_bit_nat (n j : Nat) : n &&& 2 ^ j = 0 ↔ n.testBit j = false := by
  constructor
  · intro h
    have h1 : (n &&& 2 ^ j).testBit j = false := by rw [h]; simp
    rw [Nat.testBit_and] at h1
    simpa using h1
  · intro h
    apply Nat.eq_of_testBit_eq
    intro i
    rw [Nat.testBit_and]
    by_cases hi : j = i
    · subst hi; simp [h]
    · first | (simp [Nat.testBit_two_pow, hi]; done) | (simp [Nat.testBit_two_pow_of_ne hi]; done)
/-- one bit of a long -/
theorem fb_bitL {n j : Nat} (hj : j < 63) : lN n &&& lN (2 ^ j) = 0 ↔ n.testBit j = false := by
  have h2 : (2 : Nat) ^ j < 2 ^ 63 := Nat.pow_lt_pow_right (by decide) hj
  have hle : n &&& 2 ^ j ≤ 2 ^ j := Nat.and_le_right
  rw [fb_andL, ← fb_bit_nat, show (0 : Int64) = lN 0 from rfl]
  exact fb_lN_inj (by omega) (by decide)
/-- a bit set, a bit taken off -/
theorem fb_bit_set (n j i : Nat) : (n ||| 2 ^ j).testBit i = (n.testBit i || decide (i = j)) := by
  rw [Nat.testBit_or]
  by_cases h : j = i
  · subst h; simp
  · have h2 : ¬ i = j := fun e => h e.symm
    first | (simp [Nat.testBit_two_pow, h, h2]; done) | (simp [Nat.testBit_two_pow_of_ne h, h2]; done)
theorem fb_bit_flip (n j i : Nat) : (n ^^^ 2 ^ j).testBit i = (n.testBit i ^^ decide (i = j)) := by
  rw [Nat.testBit_xor]
  by_cases h : j = i
  · subst h; simp
  · have h2 : ¬ i = j := fun e => h e.symm
    first | (simp [Nat.testBit_two_pow, h, h2]; done) | (simp [Nat.testBit_two_pow_of_ne h, h2]; done)
/-! ===== a stretch of an array written over by a function ===== -/
def fb_put {α : Type} (f g : Nat → α) (a n : Nat) : Nat → α := fun k => if a ≤ k ∧ k < a + n then g (k - a) else f k
theorem fb_put_0 {α : Type} (f g : Nat → α) (a : Nat) : fb_put f g a 0 = f := funext fun k => if_neg (by omega)
theorem fb_put_in {α : Type} {f g : Nat → α} {a n k : Nat} (h1 : a ≤ k) (h2 : k < a + n) : fb_put f g a n k = g (k - a) := if_pos ⟨h1, h2⟩
theorem fb_put_out {α : Type} {f g : Nat → α} {a n k : Nat} (h : k < a ∨ a + n ≤ k) : fb_put f g a n k = f k := if_neg (by omega)
theorem fb_put_succ (f g : Nat → Int32) (a n : Nat) : upd (fb_put f g a n) (a + n) (g n) = fb_put f g a (n + 1) := by
  funext k
  by_cases h : k = a + n
  · subst h
    simp [upd, fb_put]
  · by_cases h1 : a ≤ k ∧ k < a + n
    · have h2 : a ≤ k ∧ k < a + (n + 1) := by omega
      simp only [upd, fb_put, if_neg h, if_pos h1, if_pos h2]
    · have h2 : ¬ (a ≤ k ∧ k < a + (n + 1)) := by omega
      simp only [upd, fb_put, if_neg h, if_neg h1, if_neg h2]
/-- .. from the far end down -/
theorem fb_put_down (f g : Nat → Int32) {a n m : Nat} (h : m < n) : upd (fb_put f (fun k => g (k + (m + 1))) (a + (m + 1)) (n - (m + 1))) (a + m) (g m) = fb_put f (fun k => g (k + m)) (a + m) (n - m) := by
  funext k
  by_cases h0 : k = a + m
  · subst h0
    simp only [upd, if_true]
    rw [fb_put_in (by omega) (by omega)]
    exact congrArg g (by omega)
  · simp only [upd, if_neg h0]
    by_cases h1 : a + (m + 1) ≤ k ∧ k < a + (m + 1) + (n - (m + 1))
    · rw [fb_put_in h1.1 h1.2, fb_put_in (by omega) (by omega)]
      exact congrArg g (by omega)
    · rw [fb_put_out (by omega), fb_put_out (by omega)]
theorem fb_put_cong {α : Type} {f f2 g g2 : Nat → α} {a n : Nat} (hf : ∀ k, (k < a ∨ a + n ≤ k) → f k = f2 k) (hg : ∀ k, k < n → g k = g2 k) : fb_put f g a n = fb_put f2 g2 a n := by
  funext k
  by_cases h : a ≤ k ∧ k < a + n
  · rw [fb_put_in h.1 h.2, fb_put_in h.1 h.2, hg _ (by omega)]
  · rw [fb_put_out (by omega), fb_put_out (by omega), hf _ (by omega)]
/-! ===== the least, the first, the best so far; that there is one alone ===== -/
theorem fb_first {p : Nat → Prop} [DecidablePred p] : ∀ {n : Nat}, (∃ i, i < n ∧ p i) → ∃ i, i < n ∧ p i ∧ ∀ j, j < i → ¬ p j
  | 0, h => by obtain ⟨i, hi, -⟩ := h; exact absurd hi (Nat.not_lt_zero i)
  | n + 1, h => by
    by_cases q : ∃ i, i < n ∧ p i
    · obtain ⟨i, h1, h2⟩ := fb_first q
      exact ⟨i, by omega, h2⟩
    · obtain ⟨i, h1, h2⟩ := h
      have e : i = n := by
        rcases Nat.lt_or_ge i n with r | r
        · exact absurd ⟨i, r, h2⟩ q
        · omega
      subst e
      exact ⟨i, by omega, h2, fun j hj hp => q ⟨j, hj, hp⟩⟩
theorem fb_first_one {p : Nat → Prop} {i j : Nat} (hi : p i) (hi2 : ∀ k, k < i → ¬ p k) (hj : p j) (hj2 : ∀ k, k < j → ¬ p k) : i = j := by
  rcases Nat.lt_trichotomy i j with q | q | q
  · exact absurd hi (hj2 i q)
  · exact q
  · exact absurd hj (hi2 j q)
theorem fb_last {p : Nat → Prop} [DecidablePred p] : ∀ {n : Nat}, (∃ i, i < n ∧ p i) → ∃ i, i < n ∧ p i ∧ ∀ j, i < j → j < n → ¬ p j
  | 0, h => by obtain ⟨i, hi, -⟩ := h; exact absurd hi (Nat.not_lt_zero i)
  | n + 1, h => by
    by_cases q : p n
    · exact ⟨n, by omega, q, fun j h1 h2 => by omega⟩
    · obtain ⟨i, h1, h2⟩ := h
      have hi : i < n := by
        rcases Nat.lt_or_ge i n with r | r
        · exact r
        · have e : i = n := by omega
          subst e
          exact absurd h2 q
      obtain ⟨i2, a1, a2, a3⟩ := fb_last (n := n) ⟨i, hi, h2⟩
      refine ⟨i2, by omega, a2, fun j b1 b2 => ?_⟩
      rcases Nat.lt_or_ge j n with r | r
      · exact a3 j b1 r
      · have e : j = n := by omega
        subst e
        exact q
/-- the first greatest -/
theorem fb_best (f : Nat → Int) : ∀ {n : Nat}, 0 < n → ∃ i, i < n ∧ (∀ j, j < n → f j ≤ f i) ∧ ∀ j, j < i → f j < f i
  | 0, h => absurd h (Nat.lt_irrefl 0)
  | 1, _ => ⟨0, by omega, fun j hj => by have e : j = 0 := by omega
                                         subst e; exact Int.le_refl _, fun j hj => absurd hj (Nat.not_lt_zero j)⟩
  | n + 2, _ => by
    obtain ⟨i, h1, h2, h3⟩ := fb_best f (n := n + 1) (by omega)
    by_cases q : f i < f (n + 1)
    · refine ⟨n + 1, by omega, fun j hj => ?_, fun j hj => ?_⟩
      · rcases Nat.lt_or_ge j (n + 1) with r | r
        · have := h2 j r; omega
        · have e : j = n + 1 := by omega
          subst e; exact Int.le_refl _
      · have := h2 j hj; omega
    · refine ⟨i, by omega, fun j hj => ?_, h3⟩
      rcases Nat.lt_or_ge j (n + 1) with r | r
      · exact h2 j r
      · have e : j = n + 1 := by omega
        subst e; omega
theorem fb_best_one {f : Nat → Int} {n i j : Nat} (hi : i < n) (hi2 : ∀ k, k < n → f k ≤ f i) (hi3 : ∀ k, k < i → f k < f i) (hj : j < n) (hj2 : ∀ k, k < n → f k ≤ f j) (hj3 : ∀ k, k < j → f k < f j) : i = j := by
  rcases Nat.lt_trichotomy i j with q | q | q
  · have a := hj3 i q
    have b := hi2 j hj
    omega
  · exact q
  · have a := hi3 j q
    have b := hj2 i hi
    omega
/-- the first least -/
theorem fb_low (f : Nat → Int) {n : Nat} (h : 0 < n) : ∃ i, i < n ∧ (∀ j, j < n → f i ≤ f j) ∧ ∀ j, j < i → f i < f j := by
  obtain ⟨i, h1, h2, h3⟩ := fb_best (fun k => -f k) h
  exact ⟨i, h1, fun j hj => by have := h2 j hj; omega, fun j hj => by have := h3 j hj; omega⟩
/-! ===== signed ints as whole numbers, within bounds ===== -/
theorem fb_rng (x : Int32) : -2147483648 ≤ x.toInt ∧ x.toInt < 2147483648 := by
  have h1 := Int32.le_toInt x
  have h2 := Int32.toInt_lt x
  omega
theorem fb_bmod {z : Int} (h1 : -2147483648 ≤ z) (h2 : z < 2147483648) : z.bmod (2 ^ 32) = z := by
  rw [Int.bmod_eq_of_le (by omega) (by omega)]
theorem fb_addI {x y : Int32} (h1 : -2147483648 ≤ x.toInt + y.toInt) (h2 : x.toInt + y.toInt < 2147483648) : (x + y).toInt = x.toInt + y.toInt := by
  rw [Int32.toInt_add, fb_bmod h1 h2]
theorem fb_subI {x y : Int32} (h1 : -2147483648 ≤ x.toInt - y.toInt) (h2 : x.toInt - y.toInt < 2147483648) : (x - y).toInt = x.toInt - y.toInt := by
  rw [Int32.toInt_sub, fb_bmod h1 h2]
theorem fb_mulI {x y : Int32} (h1 : -2147483648 ≤ x.toInt * y.toInt) (h2 : x.toInt * y.toInt < 2147483648) : (x * y).toInt = x.toInt * y.toInt := by
  rw [Int32.toInt_mul, fb_bmod h1 h2]
theorem fb_negI {x : Int32} (h : x.toInt ≠ -2147483648) : (-x).toInt = -x.toInt := by
  have := fb_rng x
  rw [Int32.toInt_neg, fb_bmod (by omega) (by omega)]
theorem fb_ofI {z : Int} (h1 : -2147483648 ≤ z) (h2 : z < 2147483648) : (Int32.ofInt z).toInt = z := by
  rw [Int32.toInt_ofInt, fb_bmod h1 h2]
theorem fb_asI (x : Int32) : Int32.ofInt x.toInt = x := Int32.ofInt_toInt x
theorem fb_rngL (x : Int64) : -9223372036854775808 ≤ x.toInt ∧ x.toInt < 9223372036854775808 := by
  have h1 := Int64.le_toInt x
  have h2 := Int64.toInt_lt x
  omega
theorem fb_bmodL {z : Int} (h1 : -9223372036854775808 ≤ z) (h2 : z < 9223372036854775808) : z.bmod (2 ^ 64) = z := by
  rw [Int.bmod_eq_of_le (by omega) (by omega)]
theorem fb_addL {x y : Int64} (h1 : -9223372036854775808 ≤ x.toInt + y.toInt) (h2 : x.toInt + y.toInt < 9223372036854775808) : (x + y).toInt = x.toInt + y.toInt := by
  rw [Int64.toInt_add, fb_bmodL h1 h2]
theorem fb_subL {x y : Int64} (h1 : -9223372036854775808 ≤ x.toInt - y.toInt) (h2 : x.toInt - y.toInt < 9223372036854775808) : (x - y).toInt = x.toInt - y.toInt := by
  rw [Int64.toInt_sub, fb_bmodL h1 h2]
theorem fb_mulL {x y : Int64} (h1 : -9223372036854775808 ≤ x.toInt * y.toInt) (h2 : x.toInt * y.toInt < 9223372036854775808) : (x * y).toInt = x.toInt * y.toInt := by
  rw [Int64.toInt_mul, fb_bmodL h1 h2]
/-! ===== cuts of what is narrow already ===== -/
theorem fb_byte {x : Int32} (h1 : -128 ≤ x.toInt) (h2 : x.toInt < 128) : x.toInt8.toInt32 = x := by
  apply Int32.toInt_inj.1
  rw [Int8.toInt_toInt32, Int32.toInt_toInt8, Int.bmod_eq_of_le (by omega) (by omega)]
theorem fb_short {x : Int32} (h1 : -32768 ≤ x.toInt) (h2 : x.toInt < 32768) : x.toInt16.toInt32 = x := by
  apply Int32.toInt_inj.1
  rw [Int16.toInt_toInt32, Int32.toInt_toInt16, Int.bmod_eq_of_le (by omega) (by omega)]
theorem fb_byte_rng (x : Int32) : -128 ≤ x.toInt8.toInt32.toInt ∧ x.toInt8.toInt32.toInt < 128 := by
  rw [Int8.toInt_toInt32]
  have h1 := Int8.le_toInt x.toInt8
  have h2 := Int8.toInt_lt x.toInt8
  omega
theorem fb_short_rng (x : Int32) : -32768 ≤ x.toInt16.toInt32.toInt ∧ x.toInt16.toInt32.toInt < 32768 := by
  rw [Int16.toInt_toInt32]
  have h1 := Int16.le_toInt x.toInt16
  have h2 := Int16.toInt_lt x.toInt16
  omega
theorem fb_byte_twice (x : Int32) : x.toInt8.toInt32.toInt8.toInt32 = x.toInt8.toInt32 := fb_byte (fb_byte_rng x).1 (fb_byte_rng x).2
theorem fb_short_twice (x : Int32) : x.toInt16.toInt32.toInt16.toInt32 = x.toInt16.toInt32 := fb_short (fb_short_rng x).1 (fb_short_rng x).2
theorem fb_char {n : Nat} (h : n < 65536) : (nI n).toUInt32.toUInt16.toUInt32.toInt32 = nI n := by
  apply Int32.toBitVec_inj.1
  apply BitVec.eq_of_toNat_eq
  have e1 : (nI n).toBitVec.toNat = n := by
    show (BitVec.ofNat 32 n).toNat = n
    rw [BitVec.toNat_ofNat, Nat.mod_eq_of_lt (by omega)]
  have e2 : ((nI n).toUInt32.toUInt16.toUInt32).toNat = n := by
    rw [UInt16.toNat_toUInt32, UInt32.toNat_toUInt16]
    show (nI n).toBitVec.toNat % 2 ^ 16 = n
    rw [e1, Nat.mod_eq_of_lt (by omega)]
  rw [e1]
  exact e2
/-! numbers of my own -/
theorem nI_inc (j : Nat) : nI j + Int32.ofInt 1 = nI (j + 1) := nI_1 j
theorem updV_self (F : Nat → Value) (k : Nat) (v : Value) : updV F k v k = v := by simp [updV]
theorem updV_ne (F : Nat → Value) {k j : Nat} (v : Value) (h : j ≠ k) : updV F k v j = F j := by simp [updV, h]
theorem hu_self (V : Vl) (a k : Nat) (v : Value) : hu V a k v a = updV (V a) k v := by simp [hu]
theorem hu_ne (V : Vl) {a b : Nat} (k : Nat) (v : Value) (h : b ≠ a) : hu V a k v b = V b := by simp [hu, h]
theorem hu_at (V : Vl) (a k : Nat) (v : Value) : hu V a k v a k = v := by simp [hu, updV]
theorem hu_at_ne (V : Vl) (a : Nat) {k j : Nat} (v : Value) (h : j ≠ k) : hu V a k v a j = V a j := by simp [hu, updV, h]
/-- a truth as an int -/
def bi (p : Prop) [Decidable p] : Int32 := if p then nI 1 else nI 0
theorem bi_t {p : Prop} [Decidable p] (h : p) : bi p = nI 1 := if_pos h
theorem bi_f {p : Prop} [Decidable p] (h : ¬ p) : bi p = nI 0 := if_neg h
theorem bi_ne {p : Prop} [Decidable p] (h : ¬ bi p = 0) : p := by
  by_cases q : p
  · exact q
  · exact absurd (bi_f q) h
theorem bi_eq {p : Prop} [Decidable p] (h : bi p = 0) : ¬ p := fun q => by
  rw [bi_t q] at h
  exact absurd h (by decide)
theorem bi_iff {p q : Prop} [Decidable p] [Decidable q] (h : p ↔ q) : bi p = bi q := by
  by_cases hp : p
  · rw [bi_t hp, bi_t (h.mp hp)]
  · rw [bi_f hp, bi_f (fun z => hp (h.mpr z))]
theorem bi_nar (p : Prop) [Decidable p] : narrow .boolean (.int (bi p)) = .int (bi p) := by
  unfold bi
  split <;> rfl
theorem nlt_le {x y : Int32} (h : ¬ x < y) : y ≤ x := fa_of_nlt h
theorem nle_lt {x y : Int32} (h : ¬ x ≤ y) : y < x := fa_of_nle h
theorem in_nI {x : Int32} {n : Nat} (h0 : nI 0 ≤ x) (h1 : x < nI n) (hn : n < 2 ^ 31) : ∃ j, j < n ∧ x = nI j := by
  have h0' : ¬ x < 0 := fun q => by
    rw [fa_lt] at q; rw [fa_le] at h0
    exact absurd h0 (Int.not_le.mpr q)
  obtain ⟨j, hj, rfl⟩ := nI_of h0'
  exact ⟨j, (nI_ltI hj hn).mp h1, rfl⟩
theorem nz0 : narrow .boolean (.int (nI 0)) = .int (nI 0) := by decide +kernel
theorem nz1 : narrow .boolean (.int (nI 1)) = .int (nI 1) := by decide +kernel
theorem nr_int (x : Int32) : narrow .int (.int x) = .int x := rfl
theorem g_jump {E : gE} {M : gM} {P : gP} {sh : Sh} {sz : Nat} {V : Vl} {cu su pc : Nat} {L : List (Option Value)} {S : List Value} {off : Int} {tgt : Nat} (hdg : decode M.1 pc = .ok (.goto off, 3)) (ht : (pc : Int) + off = (tgt : Int)) (k : G E M P sh sz V cu su tgt L S) : G E M P sh sz V cu su pc L S := g_goto hdg ht k
theorem at_nI {V : Vl} {a i : Nat} {v : Value} (hi : i < 2 ^ 31) (h : V a i = v) : V a (nI i).toNatClampNeg = v := by rw [nI_clamp hi]; exact h
end
