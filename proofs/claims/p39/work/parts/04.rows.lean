
section GR
def Ctx (E : gE) (M : gM) (p : Program) (e : Env) (s : State) (m : MethodId) (args : Array Value) (below : List Frame) (meth : Method) (c : Code) : Prop :=
  p.tables.exec = Jvm.exec ∧ c.code = M.1 ∧ c.maxLocals = M.2.1 ∧ s.vm.findClass M.2.2.1 = some m.cls ∧ (∀ w ∈ gW, w.before args s = true) ∧ meth.sig.returnType = M.2.2.2.1 ∧ meth.locks = false ∧ c.exceptionTable.toList = M.2.2.2.2.1 ∧ meth.name = M.2.2.2.2.2.1 ∧ KI E s ∧ E.2.1 ≤ s.heap.size ∧ (∀ q : Nat, q < E.2.1 → s.heap[q]? = E.2.2.1[q]?)
def Dyn (E : gE) (M : gM) (sh : Sh) (sz : Nat) (V : Vl) (L : List (Option Value)) (s : State) (H : Heap) (locs : List Loc) (ls : Array Slot) : Prop :=
  lv_has ls M.2.1 (asc L 0) ∧ HR E sh sz V H ∧ (∀ z ∈ locs, E.2.1 ≤ z.base) ∧ s.heap.size ≤ sz
def gQ (E : gE) (P : gP) : Array Value → State → Outcome → State → Prop := fun _ _ o t => ∃ (v : Option Value) (sh : Sh) (sz : Nat) (V : Vl), o = .returned v ∧ HR E sh sz V t.heap ∧ P (.inl v) sh sz V
def gX (E : gE) (P : gP) : String → State → State → Prop := fun C _ t => ∃ (sh : Sh) (sz : Nat) (V : Vl), HR E sh sz V t.heap ∧ P (.inr C) sh sz V
def gPc (E : gE) (as : List Value) (sh : Sh) (sz : Nat) (V : Vl) : Array Value → State → Prop := fun a U => a = as.toArray ∧ KI E U ∧ HR E sh sz V U.heap
/-- a method's contract: from the heap (sh, sz, V) with these arguments it ends as P says -/
def MC (E : gE) (Y : gY) (as : List Value) (sh : Sh) (sz : Nat) (V : Vl) (P : gP) : Prop :=
  vx_Met E.1 Y.1 (Cond.code Y.1 Y.2.1 Y.2.2.1 Y.2.2.2.1 :: gW) Y.2.2.2.2 (gPc E as sh sz V) (gQ E P) (gX E P) Y.2.2.2.2.cells Y.2.2.2.2.slots (gN E)
def G (E : gE) (M : gM) (P : gP) (sh : Sh) (sz : Nat) (V : Vl) (cu su pc : Nat) (L : List (Option Value)) (S : List Value) : Prop :=
  ∀ p e s m args below meth c, Ctx E M p e s m args below meth c → ∀ H locs ls, Dyn E M sh sz V L s H locs ls →
    W p E.1 e M.2.2.2.2.2.2 s m args below meth c H locs cu su (vx_MQ below (gQ E P) (gX E P) args s M.2.2.2.2.2.2.cells M.2.2.2.2.2.2.slots (gN E)) (F0 m pc ls S)
/-- an exception of the class C thrown at pc -/
def Gt (E : gE) (M : gM) (P : gP) (sh : Sh) (sz : Nat) (V : Vl) (cu su pc : Nat) (L : List (Option Value)) (C : String) : Prop :=
  ∀ p e s m args below meth c, Ctx E M p e s m args below meth c → ∀ H locs ls, Dyn E M sh sz V L s H locs ls → ∀ (q : Addr) (ce : Cell) (rest : List Value), H[q]? = some ce → ce.vm = .none → s.vm.findClass C = some ce.cls →
    vx_W p E.1 e M.2.2.2.2.2.2 s m args below meth c H locs cu su (vx_MQ below (gQ E P) (gX E P) args s M.2.2.2.2.2.2.cells M.2.2.2.2.2.2.slots (gN E)) (F0 m pc ls rest) q
theorem gPc_blind {E : gE} {as : List Value} {sh : Sh} {sz : Nat} {V : Vl} : FrameBlind (gPc E as sh sz V) := fun a U g mk h => ⟨h.1, KI.same (s := U) (U := U.calling g mk a) rfl h.2.1, h.2.2⟩
def lin : List Value → List (Option Value)
  | [] => []
  | v :: t => some v :: (if v.category = 2 then none :: lin t else lin t)
theorem asc_lin : ∀ (as : List Value) (k i : Nat), asc (lin as ++ List.replicate k none) i = lv_args i as
  | [], 0, _ => rfl
  | [], k + 1, i => by
    show asc (none :: List.replicate k none) i = _
    rw [asc]
    exact asc_lin [] k (i + 1)
  | v :: t, k, i => by
    by_cases h : v.category = 2
    · simp only [lin, lv_args, h, if_true, List.cons_append, asc]
      rw [asc_lin t k (i + 2)]
    · simp only [lin, lv_args, h, if_false, List.cons_append, asc]
      rw [asc_lin t k (i + 1)]
theorem MC.of {E : gE} {Y : gY} {as : List Value} {sh : Sh} {sz : Nat} {V : Vl} {P : gP} (own nm : String) (hcls : Y.1.cls = own) (hy : plainName Y.1.cls = true) (hnm : Y.1.name = nm) (k : Nat) (L : List (Option Value)) (hL : lin as ++ List.replicate k none = L) (hlen : (lg_sl as).length ≤ Y.2.2.1)
    (kk : G E (Y.2.1, Y.2.2.1, own, Y.2.2.2.1, [], nm, Y.2.2.2.2) P sh sz V 0 0 0 L []) : MC E Y as sh sz V P := by
  refine vx_ofW hy rfl ?_
  intro p e s m args below meth c s₁ B hml ht hv
  obtain ⟨rfl, hK, hR⟩ := hv
  have hl := lv_entry as (n := Y.2.2.1) hlen
  rw [← asc_lin as k 0, hL] at hl
  rw [lg_entry_eq]
  obtain ⟨n1, n2⟩ := name_of_methodNamed B.named B.method
  refine kk p e s m as.toArray below meth c ⟨B.exec, B.bytes, hml, hcls ▸ findClass_of_methodNamed B.named, fun w hw => atoms_spec B.pre w (List.mem_cons_of_mem _ hw), B.returns, B.notSynchronized, List.eq_nil_iff_forall_not_mem.mpr (fun x hx => ht x hx), by rw [n1]; exact hnm, hK, by rw [hR.1]; exact hR.2.1, hR.2.2.1⟩ s.heap [] _ ⟨hl, hR, fun _ h => (nomatch h), by rw [hR.1]; exact Nat.le_refl _⟩
theorem MC.met {E : gE} {Y : gY} {as : List Value} {sh : Sh} {sz : Nat} {V : Vl} {P : gP} (h : MC E Y as sh sz V P) (hx : ∀ C sh sz V, ¬ P (.inr C) sh sz V) : Met E.1 Y.1 (Cond.code Y.1 Y.2.1 Y.2.2.1 Y.2.2.2.1 :: gW) Y.2.2.2.2 (gPc E as sh sz V) (gQ E P) Y.2.2.2.2.cells Y.2.2.2.2.slots (gN E) :=
  MetFree.mono h (fun _ _ h => h) (fun _ _ _ _ _ h => h) (fun a s o t _ hq => by
    rcases hq with hq | ⟨q, -, E1, ce, L, ⟨sh, sz, V, -, h2⟩, -⟩
    · exact hq
    · exact absurd h2 (hx _ _ _ _))
theorem MC.mono {E : gE} {Y : gY} {as : List Value} {sh : Sh} {sz : Nat} {V : Vl} {P P' : gP} (h : MC E Y as sh sz V P) (hp : ∀ o sh sz V, P o sh sz V → P' o sh sz V) : MC E Y as sh sz V P' :=
  MetFree.mono h (fun _ _ h => h) (fun _ _ _ _ _ h => h) (fun a s o t _ hq => by
    rcases hq with ⟨⟨v, sh, sz, V, h1, h2, h3⟩, hq⟩ | ⟨q, h0, E1, ce, L, ⟨sh, sz, V, h1, h2⟩, hq⟩
    · exact Or.inl ⟨⟨v, sh, sz, V, h1, h2, hp _ _ _ _ h3⟩, hq⟩
    · exact Or.inr ⟨q, h0, E1, ce, L, ⟨sh, sz, V, h1, hp _ _ _ _ h2⟩, hq⟩)
variable {E : gE} {M : gM} {P : gP} {sh : Sh} {sz : Nat} {V : Vl} {cu su pc : Nat} {L : List (Option Value)} {rest : List Value}
theorem g_widen (k n : Nat) (h1 : cu ≤ k) (h2 : su ≤ n) {S : List Value} (kk : G E M P sh sz V k n pc L S) : G E M P sh sz V cu su pc L S :=
  fun p e s m args below meth c C H locs ls D => W.widen h1 h2 (kk p e s m args below meth c C H locs ls D)
theorem g_loc {L' : List (Option Value)} {S : List Value} (h : ∀ i v, lg L' i = some v → lg L i = some v) (kk : G E M P sh sz V cu su pc L' S) : G E M P sh sz V cu su pc L S :=
  fun p e s m args below meth c C H locs ls D => kk p e s m args below meth c C H locs ls ⟨lv_mono D.1 (fun q hq => by
    obtain ⟨j, w⟩ := q
    obtain ⟨k, h1, h2⟩ := (asc_mem L' 0 j w).mp hq
    exact (asc_mem L 0 j w).mpr ⟨k, h1, h _ _ h2⟩), D.2⟩

theorem g_iconst {n : Int} {v : Int32} (hdg : decode M.1 pc = .ok (.iconst n, 1)) (hv : Int32.ofInt n = v) (k : G E M P sh sz V cu su (pc + 1) L (.int v :: rest)) : G E M P sh sz V cu su pc L (rest) :=
  fun p e s m args below meth c C H locs ls D => lv_iconst C.1 C.2.1 hdg hv (k p e s m args below meth c C H locs ls D)

theorem g_bipush {n : Int} {v : Int32} (hdg : decode M.1 pc = .ok (.bipush n, 2)) (hv : (Int8.ofInt n).toInt32 = v) (k : G E M P sh sz V cu su (pc + 2) L (.int v :: rest)) : G E M P sh sz V cu su pc L (rest) :=
  fun p e s m args below meth c C H locs ls D => lv_bipush C.1 C.2.1 hdg hv (k p e s m args below meth c C H locs ls D)

theorem g_sipush {n : Int} {v : Int32} (hdg : decode M.1 pc = .ok (.sipush n, 3)) (hv : (Int16.ofInt n).toInt32 = v) (k : G E M P sh sz V cu su (pc + 3) L (.int v :: rest)) : G E M P sh sz V cu su pc L (rest) :=
  fun p e s m args below meth c C H locs ls D => lv_sipush C.1 C.2.1 hdg hv (k p e s m args below meth c C H locs ls D)

theorem g_lconst {n : Fin 2} {v : Int64} (hdg : decode M.1 pc = .ok (.lconst n, 1)) (hv : Int64.ofNat (n : Nat) = v) (k : G E M P sh sz V cu su (pc + 1) L (.long v :: rest)) : G E M P sh sz V cu su pc L (rest) :=
  fun p e s m args below meth c C H locs ls D => lv_lconst C.1 C.2.1 hdg hv (k p e s m args below meth c C H locs ls D)

theorem g_fconst0 (hdg : decode M.1 pc = .ok (.fconst 0, 1)) (k : G E M P sh sz V cu su (pc + 1) L (.float FP.fconst0 :: rest)) : G E M P sh sz V cu su pc L (rest) :=
  fun p e s m args below meth c C H locs ls D => lv_fconst0 C.1 C.2.1 hdg (k p e s m args below meth c C H locs ls D)

theorem g_fconst1 (hdg : decode M.1 pc = .ok (.fconst 1, 1)) (k : G E M P sh sz V cu su (pc + 1) L (.float FP.fconst1 :: rest)) : G E M P sh sz V cu su pc L (rest) :=
  fun p e s m args below meth c C H locs ls D => lv_fconst1 C.1 C.2.1 hdg (k p e s m args below meth c C H locs ls D)

theorem g_fconst2 (hdg : decode M.1 pc = .ok (.fconst 2, 1)) (k : G E M P sh sz V cu su (pc + 1) L (.float FP.fconst2 :: rest)) : G E M P sh sz V cu su pc L (rest) :=
  fun p e s m args below meth c C H locs ls D => lv_fconst2 C.1 C.2.1 hdg (k p e s m args below meth c C H locs ls D)

theorem g_dconst0 (hdg : decode M.1 pc = .ok (.dconst 0, 1)) (k : G E M P sh sz V cu su (pc + 1) L (.double FP.dconst0 :: rest)) : G E M P sh sz V cu su pc L (rest) :=
  fun p e s m args below meth c C H locs ls D => lv_dconst0 C.1 C.2.1 hdg (k p e s m args below meth c C H locs ls D)

theorem g_dconst1 (hdg : decode M.1 pc = .ok (.dconst 1, 1)) (k : G E M P sh sz V cu su (pc + 1) L (.double FP.dconst1 :: rest)) : G E M P sh sz V cu su pc L (rest) :=
  fun p e s m args below meth c C H locs ls D => lv_dconst1 C.1 C.2.1 hdg (k p e s m args below meth c C H locs ls D)

theorem g_iadd {x y : Int32} (hdg : decode M.1 pc = .ok (.iadd, 1)) (k : G E M P sh sz V cu su (pc + 1) L (.int (x + y) :: rest)) : G E M P sh sz V cu su pc L (.int y :: .int x :: rest) :=
  fun p e s m args below meth c C H locs ls D => lv_iadd C.1 C.2.1 hdg (k p e s m args below meth c C H locs ls D)

theorem g_isub {x y : Int32} (hdg : decode M.1 pc = .ok (.isub, 1)) (k : G E M P sh sz V cu su (pc + 1) L (.int (x - y) :: rest)) : G E M P sh sz V cu su pc L (.int y :: .int x :: rest) :=
  fun p e s m args below meth c C H locs ls D => lv_isub C.1 C.2.1 hdg (k p e s m args below meth c C H locs ls D)

theorem g_imul {x y : Int32} (hdg : decode M.1 pc = .ok (.imul, 1)) (k : G E M P sh sz V cu su (pc + 1) L (.int (x * y) :: rest)) : G E M P sh sz V cu su pc L (.int y :: .int x :: rest) :=
  fun p e s m args below meth c C H locs ls D => lv_imul C.1 C.2.1 hdg (k p e s m args below meth c C H locs ls D)

theorem g_iand {x y : Int32} (hdg : decode M.1 pc = .ok (.iand, 1)) (k : G E M P sh sz V cu su (pc + 1) L (.int (x &&& y) :: rest)) : G E M P sh sz V cu su pc L (.int y :: .int x :: rest) :=
  fun p e s m args below meth c C H locs ls D => lv_iand C.1 C.2.1 hdg (k p e s m args below meth c C H locs ls D)

theorem g_ior {x y : Int32} (hdg : decode M.1 pc = .ok (.ior, 1)) (k : G E M P sh sz V cu su (pc + 1) L (.int (x ||| y) :: rest)) : G E M P sh sz V cu su pc L (.int y :: .int x :: rest) :=
  fun p e s m args below meth c C H locs ls D => lv_ior C.1 C.2.1 hdg (k p e s m args below meth c C H locs ls D)

theorem g_ishl {x y : Int32} (hdg : decode M.1 pc = .ok (.ishl, 1)) (k : G E M P sh sz V cu su (pc + 1) L (.int (x <<< (y &&& 31)) :: rest)) : G E M P sh sz V cu su pc L (.int y :: .int x :: rest) :=
  fun p e s m args below meth c C H locs ls D => lv_ishl C.1 C.2.1 hdg (k p e s m args below meth c C H locs ls D)

theorem g_idiv {x y : Int32} (hdg : decode M.1 pc = .ok (.idiv, 1)) (hne : ¬ y = 0) (k : G E M P sh sz V cu su (pc + 1) L (.int (x / y) :: rest)) : G E M P sh sz V cu su pc L (.int y :: .int x :: rest) :=
  fun p e s m args below meth c C H locs ls D => lv_idiv C.1 C.2.1 hdg hne (k p e s m args below meth c C H locs ls D)

theorem g_irem {x y : Int32} (hdg : decode M.1 pc = .ok (.irem, 1)) (hne : ¬ y = 0) (k : G E M P sh sz V cu su (pc + 1) L (.int (x - x / y * y) :: rest)) : G E M P sh sz V cu su pc L (.int y :: .int x :: rest) :=
  fun p e s m args below meth c C H locs ls D => lv_irem C.1 C.2.1 hdg hne (k p e s m args below meth c C H locs ls D)

theorem g_ineg {x : Int32} (hdg : decode M.1 pc = .ok (.ineg, 1)) (k : G E M P sh sz V cu su (pc + 1) L (.int (-x) :: rest)) : G E M P sh sz V cu su pc L (.int x :: rest) :=
  fun p e s m args below meth c C H locs ls D => lv_ineg C.1 C.2.1 hdg (k p e s m args below meth c C H locs ls D)

theorem g_ladd {x y : Int64} (hdg : decode M.1 pc = .ok (.ladd, 1)) (k : G E M P sh sz V cu su (pc + 1) L (.long (x + y) :: rest)) : G E M P sh sz V cu su pc L (.long y :: .long x :: rest) :=
  fun p e s m args below meth c C H locs ls D => lv_ladd C.1 C.2.1 hdg (k p e s m args below meth c C H locs ls D)

theorem g_lshl {x v : Int64} {y : Int32} (hdg : decode M.1 pc = .ok (.lshl, 1)) (hv : x <<< (y.toInt64 &&& 63) = v) (k : G E M P sh sz V cu su (pc + 1) L (.long v :: rest)) : G E M P sh sz V cu su pc L (.int y :: .long x :: rest) :=
  fun p e s m args below meth c C H locs ls D => lv_lshl C.1 C.2.1 hdg hv (k p e s m args below meth c C H locs ls D)

theorem g_i2c {x v : Int32} (hdg : decode M.1 pc = .ok (.i2c, 1)) (hv : (x.toUInt32 % 65536).toInt32 = v) (k : G E M P sh sz V cu su (pc + 1) L (.int v :: rest)) : G E M P sh sz V cu su pc L (.int x :: rest) :=
  fun p e s m args below meth c C H locs ls D => lv_i2c C.1 C.2.1 hdg hv (k p e s m args below meth c C H locs ls D)

theorem g_i2l {x : Int32} {v : Int64} (hdg : decode M.1 pc = .ok (.i2l, 1)) (hv : x.toInt64 = v) (k : G E M P sh sz V cu su (pc + 1) L (.long v :: rest)) : G E M P sh sz V cu su pc L (.int x :: rest) :=
  fun p e s m args below meth c C H locs ls D => lv_i2l C.1 C.2.1 hdg hv (k p e s m args below meth c C H locs ls D)

theorem g_fadd {x y : UInt32} (hdg : decode M.1 pc = .ok (.fadd, 1)) (hne : vf_n32 (FP.fadd x y)) (k : G E M P sh sz V cu su (pc + 1) L (.float (FP.fadd x y) :: rest)) : G E M P sh sz V cu su pc L (.float y :: .float x :: rest) :=
  fun p e s m args below meth c C H locs ls D => lv_fadd C.1 C.2.1 hdg hne (k p e s m args below meth c C H locs ls D)

theorem g_fsub {x y : UInt32} (hdg : decode M.1 pc = .ok (.fsub, 1)) (hne : vf_n32 (FP.fsub x y)) (k : G E M P sh sz V cu su (pc + 1) L (.float (FP.fsub x y) :: rest)) : G E M P sh sz V cu su pc L (.float y :: .float x :: rest) :=
  fun p e s m args below meth c C H locs ls D => lv_fsub C.1 C.2.1 hdg hne (k p e s m args below meth c C H locs ls D)

theorem g_fmul {x y : UInt32} (hdg : decode M.1 pc = .ok (.fmul, 1)) (hne : vf_n32 (FP.fmul x y)) (k : G E M P sh sz V cu su (pc + 1) L (.float (FP.fmul x y) :: rest)) : G E M P sh sz V cu su pc L (.float y :: .float x :: rest) :=
  fun p e s m args below meth c C H locs ls D => lv_fmul C.1 C.2.1 hdg hne (k p e s m args below meth c C H locs ls D)

theorem g_fdiv {x y : UInt32} (hdg : decode M.1 pc = .ok (.fdiv, 1)) (hne : vf_n32 (FP.fdiv x y)) (k : G E M P sh sz V cu su (pc + 1) L (.float (FP.fdiv x y) :: rest)) : G E M P sh sz V cu su pc L (.float y :: .float x :: rest) :=
  fun p e s m args below meth c C H locs ls D => lv_fdiv C.1 C.2.1 hdg hne (k p e s m args below meth c C H locs ls D)

theorem g_dadd {x y : UInt64} (hdg : decode M.1 pc = .ok (.dadd, 1)) (hne : vf_n64 (FP.dadd x y)) (k : G E M P sh sz V cu su (pc + 1) L (.double (FP.dadd x y) :: rest)) : G E M P sh sz V cu su pc L (.double y :: .double x :: rest) :=
  fun p e s m args below meth c C H locs ls D => lv_dadd C.1 C.2.1 hdg hne (k p e s m args below meth c C H locs ls D)

theorem g_dmul {x y : UInt64} (hdg : decode M.1 pc = .ok (.dmul, 1)) (hne : vf_n64 (FP.dmul x y)) (k : G E M P sh sz V cu su (pc + 1) L (.double (FP.dmul x y) :: rest)) : G E M P sh sz V cu su pc L (.double y :: .double x :: rest) :=
  fun p e s m args below meth c C H locs ls D => lv_dmul C.1 C.2.1 hdg hne (k p e s m args below meth c C H locs ls D)

theorem g_ddiv {x y : UInt64} (hdg : decode M.1 pc = .ok (.ddiv, 1)) (hne : vf_n64 (FP.ddiv x y)) (k : G E M P sh sz V cu su (pc + 1) L (.double (FP.ddiv x y) :: rest)) : G E M P sh sz V cu su pc L (.double y :: .double x :: rest) :=
  fun p e s m args below meth c C H locs ls D => lv_ddiv C.1 C.2.1 hdg hne (k p e s m args below meth c C H locs ls D)

theorem g_fcmp {x y : UInt32} {op : CmpOp} (hdg : decode M.1 pc = .ok (.fcmp op, 1)) (k : G E M P sh sz V cu su (pc + 1) L (.int (Op.cmpValue (FP.fcmp x y) op) :: rest)) : G E M P sh sz V cu su pc L (.float y :: .float x :: rest) :=
  fun p e s m args below meth c C H locs ls D => lv_fcmp C.1 C.2.1 hdg (k p e s m args below meth c C H locs ls D)

theorem g_dcmp {x y : UInt64} {op : CmpOp} (hdg : decode M.1 pc = .ok (.dcmp op, 1)) (k : G E M P sh sz V cu su (pc + 1) L (.int (Op.cmpValue (FP.dcmp x y) op) :: rest)) : G E M P sh sz V cu su pc L (.double y :: .double x :: rest) :=
  fun p e s m args below meth c C H locs ls D => lv_dcmp C.1 C.2.1 hdg (k p e s m args below meth c C H locs ls D)

theorem g_i2f {x : Int32} (hdg : decode M.1 pc = .ok (.i2f, 1)) (k : G E M P sh sz V cu su (pc + 1) L (.float (FP.i2f x) :: rest)) : G E M P sh sz V cu su pc L (.int x :: rest) :=
  fun p e s m args below meth c C H locs ls D => lv_i2f C.1 C.2.1 hdg (k p e s m args below meth c C H locs ls D)

theorem g_f2i {x : UInt32} (hdg : decode M.1 pc = .ok (.f2i, 1)) (k : G E M P sh sz V cu su (pc + 1) L (.int (FP.f2i x) :: rest)) : G E M P sh sz V cu su pc L (.float x :: rest) :=
  fun p e s m args below meth c C H locs ls D => lv_f2i C.1 C.2.1 hdg (k p e s m args below meth c C H locs ls D)

theorem g_d2l {x : UInt64} (hdg : decode M.1 pc = .ok (.d2l, 1)) (k : G E M P sh sz V cu su (pc + 1) L (.long (FP.d2l x) :: rest)) : G E M P sh sz V cu su pc L (.double x :: rest) :=
  fun p e s m args below meth c C H locs ls D => lv_d2l C.1 C.2.1 hdg (k p e s m args below meth c C H locs ls D)

theorem g_f2d {x : UInt32} (hdg : decode M.1 pc = .ok (.f2d, 1)) (hne : vf_n64 (FP.f2d x)) (k : G E M P sh sz V cu su (pc + 1) L (.double (FP.f2d x) :: rest)) : G E M P sh sz V cu su pc L (.float x :: rest) :=
  fun p e s m args below meth c C H locs ls D => lv_f2d C.1 C.2.1 hdg hne (k p e s m args below meth c C H locs ls D)

theorem g_dup {va : Value} (hdg : decode M.1 pc = .ok (.dup, 1)) (hva : va.category = 1) (k : G E M P sh sz V cu su (pc + 1) L (va :: va :: rest)) : G E M P sh sz V cu su pc L (va :: rest) :=
  fun p e s m args below meth c C H locs ls D => lv_dup C.1 C.2.1 hdg hva (k p e s m args below meth c C H locs ls D)

theorem g_pop {va : Value} (hdg : decode M.1 pc = .ok (.pop, 1)) (hva : va.category = 1) (k : G E M P sh sz V cu su (pc + 1) L (rest)) : G E M P sh sz V cu su pc L (va :: rest) :=
  fun p e s m args below meth c C H locs ls D => lv_pop C.1 C.2.1 hdg hva (k p e s m args below meth c C H locs ls D)

theorem g_dup2 {va vb : Value} (hdg : decode M.1 pc = .ok (.dup2, 1)) (hva : va.category = 1) (hvb : vb.category = 1) (k : G E M P sh sz V cu su (pc + 1) L (va :: vb :: va :: vb :: rest)) : G E M P sh sz V cu su pc L (va :: vb :: rest) :=
  fun p e s m args below meth c C H locs ls D => lv_dup2_11 C.1 C.2.1 hdg hva hvb (k p e s m args below meth c C H locs ls D)

theorem g_dup_x1 {va vb : Value} (hdg : decode M.1 pc = .ok (.dup_x1, 1)) (hva : va.category = 1) (hvb : vb.category = 1) (k : G E M P sh sz V cu su (pc + 1) L (va :: vb :: va :: rest)) : G E M P sh sz V cu su pc L (va :: vb :: rest) :=
  fun p e s m args below meth c C H locs ls D => lv_dup_x1 C.1 C.2.1 hdg hva hvb (k p e s m args below meth c C H locs ls D)

theorem g_dup_x2 {va vb vd : Value} (hdg : decode M.1 pc = .ok (.dup_x2, 1)) (hva : va.category = 1) (hvb : vb.category = 1) (hvd : vd.category = 1) (k : G E M P sh sz V cu su (pc + 1) L (va :: vb :: vd :: va :: rest)) : G E M P sh sz V cu su pc L (va :: vb :: vd :: rest) :=
  fun p e s m args below meth c C H locs ls D => lv_dup_x2 C.1 C.2.1 hdg hva hvb hvd (k p e s m args below meth c C H locs ls D)

theorem g_null (hdg : decode M.1 pc = .ok (.aconst_null, 1)) (k : G E M P sh sz V cu su (pc + 1) L (.null :: rest)) : G E M P sh sz V cu su pc L (rest) :=
  fun p e s m args below meth c C H locs ls D => lv_null C.1 C.2.1 hdg (k p e s m args below meth c C H locs ls D)

theorem g_lcmp {x y : Int64} (hdg : decode M.1 pc = .ok (.lcmp, 1)) (k : G E M P sh sz V cu su (pc + 1) L (.int (lg_cmp x y) :: rest)) : G E M P sh sz V cu su pc L (.long y :: .long x :: rest) :=
  fun p e s m args below meth c C H locs ls D => W.lcmp C.1 C.2.1 hdg (k p e s m args below meth c C H locs ls D)

theorem g_ldcf {index : Nat} {v : UInt32} (hc : Cond.constantFloat M.2.2.1 index v ∈ gW) (hdg : decode M.1 pc = .ok (.ldc index, 2)) (k : G E M P sh sz V cu su (pc + 2) L (.float v :: rest)) : G E M P sh sz V cu su pc L rest :=
  fun p e s m args below meth c C H locs ls D => lv_ldcf C.1 C.2.1 C.2.2.2.1 (C.2.2.2.2.1 _ hc) hdg (k p e s m args below meth c C H locs ls D)
theorem g_ldc2d {index : Nat} {v : UInt64} (hc : Cond.constantDouble M.2.2.1 index v ∈ gW) (hdg : decode M.1 pc = .ok (.ldc2_w index, 3)) (k : G E M P sh sz V cu su (pc + 3) L (.double v :: rest)) : G E M P sh sz V cu su pc L rest :=
  fun p e s m args below meth c C H locs ls D => lv_ldc2d C.1 C.2.1 C.2.2.2.1 (C.2.2.2.2.1 _ hc) hdg (k p e s m args below meth c C H locs ls D)
theorem g_ldc {index : Nat} {v : Int32} (hc : Cond.constant M.2.2.1 index v ∈ gW) (hdg : decode M.1 pc = .ok (.ldc index, 2)) (k : G E M P sh sz V cu su (pc + 2) L (.int v :: rest)) : G E M P sh sz V cu su pc L rest :=
  fun p e s m args below meth c C H locs ls D => lv_ldc C.1 C.2.1 C.2.2.2.1 (C.2.2.2.2.1 _ hc) hdg (k p e s m args below meth c C H locs ls D)
theorem g_ldc2 {index : Nat} {v : Int64} (hc : Cond.constantLong M.2.2.1 index v ∈ gW) (hdg : decode M.1 pc = .ok (.ldc2_w index, 3)) (k : G E M P sh sz V cu su (pc + 3) L (.long v :: rest)) : G E M P sh sz V cu su pc L rest :=
  fun p e s m args below meth c C H locs ls D => lv_ldc2 C.1 C.2.1 C.2.2.2.1 (C.2.2.2.2.1 _ hc) hdg (k p e s m args below meth c C H locs ls D)

theorem g_iload_n {k : Fin 4} {x : Int32} (hdg : decode M.1 pc = .ok (.iload_n k, 1)) (hl : lg L (k : Nat) = some (.int x)) (kk : G E M P sh sz V cu su (pc + 1) L (.int x :: rest)) : G E M P sh sz V cu su pc L rest :=
  fun p e s m args below meth c C H locs ls D => lv_iload_n C.1 C.2.1 hdg rfl (lg_has D.1 hl) (kk p e s m args below meth c C H locs ls D)
theorem g_iload {i : Nat} {x : Int32} (hdg : decode M.1 pc = .ok (.iload i, 2)) (hl : lg L i = some (.int x)) (kk : G E M P sh sz V cu su (pc + 2) L (.int x :: rest)) : G E M P sh sz V cu su pc L rest :=
  fun p e s m args below meth c C H locs ls D => lv_iload C.1 C.2.1 hdg (lg_has D.1 hl) (kk p e s m args below meth c C H locs ls D)

theorem g_aload_n {k : Fin 4} {x : Nat} (hdg : decode M.1 pc = .ok (.aload_n k, 1)) (hl : lg L (k : Nat) = some (.ref x)) (kk : G E M P sh sz V cu su (pc + 1) L (.ref x :: rest)) : G E M P sh sz V cu su pc L rest :=
  fun p e s m args below meth c C H locs ls D => lv_aload_n C.1 C.2.1 hdg rfl (lg_has D.1 hl) (kk p e s m args below meth c C H locs ls D)
theorem g_aload {i : Nat} {x : Nat} (hdg : decode M.1 pc = .ok (.aload i, 2)) (hl : lg L i = some (.ref x)) (kk : G E M P sh sz V cu su (pc + 2) L (.ref x :: rest)) : G E M P sh sz V cu su pc L rest :=
  fun p e s m args below meth c C H locs ls D => lv_aload C.1 C.2.1 hdg (lg_has D.1 hl) (kk p e s m args below meth c C H locs ls D)

theorem g_fload_n {k : Fin 4} {x : UInt32} (hdg : decode M.1 pc = .ok (.fload_n k, 1)) (hl : lg L (k : Nat) = some (.float x)) (kk : G E M P sh sz V cu su (pc + 1) L (.float x :: rest)) : G E M P sh sz V cu su pc L rest :=
  fun p e s m args below meth c C H locs ls D => lv_fload_n C.1 C.2.1 hdg rfl (lg_has D.1 hl) (kk p e s m args below meth c C H locs ls D)
theorem g_fload {i : Nat} {x : UInt32} (hdg : decode M.1 pc = .ok (.fload i, 2)) (hl : lg L i = some (.float x)) (kk : G E M P sh sz V cu su (pc + 2) L (.float x :: rest)) : G E M P sh sz V cu su pc L rest :=
  fun p e s m args below meth c C H locs ls D => lv_fload C.1 C.2.1 hdg (lg_has D.1 hl) (kk p e s m args below meth c C H locs ls D)

theorem g_dload_n {k : Fin 4} {x : UInt64} (hdg : decode M.1 pc = .ok (.dload_n k, 1)) (hl : lg L (k : Nat) = some (.double x)) (kk : G E M P sh sz V cu su (pc + 1) L (.double x :: rest)) : G E M P sh sz V cu su pc L rest :=
  fun p e s m args below meth c C H locs ls D => lv_dload_n C.1 C.2.1 hdg rfl (lg_has D.1 hl) (kk p e s m args below meth c C H locs ls D)
theorem g_dload {i : Nat} {x : UInt64} (hdg : decode M.1 pc = .ok (.dload i, 2)) (hl : lg L i = some (.double x)) (kk : G E M P sh sz V cu su (pc + 2) L (.double x :: rest)) : G E M P sh sz V cu su pc L rest :=
  fun p e s m args below meth c C H locs ls D => lv_dload C.1 C.2.1 hdg (lg_has D.1 hl) (kk p e s m args below meth c C H locs ls D)

theorem g_aload_nN {k : Fin 4} (hdg : decode M.1 pc = .ok (.aload_n k, 1)) (hl : lg L (k : Nat) = some .null) (kk : G E M P sh sz V cu su (pc + 1) L (.null :: rest)) : G E M P sh sz V cu su pc L rest :=
  fun p e s m args below meth c C H locs ls D => lv_aload_nN C.1 C.2.1 hdg rfl (lg_has D.1 hl) (kk p e s m args below meth c C H locs ls D)
theorem g_aloadN {i : Nat} (hdg : decode M.1 pc = .ok (.aload i, 2)) (hl : lg L i = some .null) (kk : G E M P sh sz V cu su (pc + 2) L (.null :: rest)) : G E M P sh sz V cu su pc L rest :=
  fun p e s m args below meth c C H locs ls D => lv_aloadN C.1 C.2.1 hdg (lg_has D.1 hl) (kk p e s m args below meth c C H locs ls D)

theorem g_istore_n {k : Fin 4} {x : Int32} (hdg : decode M.1 pc = .ok (.istore_n k, 1)) (hi : (k : Nat) < M.2.1) (hc : lc1 L (k : Nat) = true) (kk : G E M P sh sz V cu su (pc + 1) (lst L (k : Nat) (.int x)) rest) : G E M P sh sz V cu su pc L (.int x :: rest) :=
  fun p e s m args below meth c C H locs ls D => lv_istore_n C.1 C.2.1 hdg rfl D.1 hi rfl (fun ls' h => kk p e s m args below meth c C H locs ls' ⟨lv_mono h (lst_sub hc), D.2⟩)
theorem g_istore {i : Nat} {x : Int32} (hdg : decode M.1 pc = .ok (.istore i, 2)) (hi : i < M.2.1) (hc : lc1 L i = true) (kk : G E M P sh sz V cu su (pc + 2) (lst L i (.int x)) rest) : G E M P sh sz V cu su pc L (.int x :: rest) :=
  fun p e s m args below meth c C H locs ls D => lv_istore C.1 C.2.1 hdg D.1 hi rfl (fun ls' h => kk p e s m args below meth c C H locs ls' ⟨lv_mono h (lst_sub hc), D.2⟩)

theorem g_astore_n {k : Fin 4} {x : Nat} (hdg : decode M.1 pc = .ok (.astore_n k, 1)) (hi : (k : Nat) < M.2.1) (hc : lc1 L (k : Nat) = true) (kk : G E M P sh sz V cu su (pc + 1) (lst L (k : Nat) (.ref x)) rest) : G E M P sh sz V cu su pc L (.ref x :: rest) :=
  fun p e s m args below meth c C H locs ls D => lv_astore_n C.1 C.2.1 hdg rfl D.1 hi rfl (fun ls' h => kk p e s m args below meth c C H locs ls' ⟨lv_mono h (lst_sub hc), D.2⟩)
theorem g_astore {i : Nat} {x : Nat} (hdg : decode M.1 pc = .ok (.astore i, 2)) (hi : i < M.2.1) (hc : lc1 L i = true) (kk : G E M P sh sz V cu su (pc + 2) (lst L i (.ref x)) rest) : G E M P sh sz V cu su pc L (.ref x :: rest) :=
  fun p e s m args below meth c C H locs ls D => lv_astore C.1 C.2.1 hdg D.1 hi rfl (fun ls' h => kk p e s m args below meth c C H locs ls' ⟨lv_mono h (lst_sub hc), D.2⟩)

theorem g_fstore_n {k : Fin 4} {x : UInt32} (hdg : decode M.1 pc = .ok (.fstore_n k, 1)) (hi : (k : Nat) < M.2.1) (hc : lc1 L (k : Nat) = true) (kk : G E M P sh sz V cu su (pc + 1) (lst L (k : Nat) (.float x)) rest) : G E M P sh sz V cu su pc L (.float x :: rest) :=
  fun p e s m args below meth c C H locs ls D => lv_fstore_n C.1 C.2.1 hdg rfl D.1 hi rfl (fun ls' h => kk p e s m args below meth c C H locs ls' ⟨lv_mono h (lst_sub hc), D.2⟩)
theorem g_fstore {i : Nat} {x : UInt32} (hdg : decode M.1 pc = .ok (.fstore i, 2)) (hi : i < M.2.1) (hc : lc1 L i = true) (kk : G E M P sh sz V cu su (pc + 2) (lst L i (.float x)) rest) : G E M P sh sz V cu su pc L (.float x :: rest) :=
  fun p e s m args below meth c C H locs ls D => lv_fstore C.1 C.2.1 hdg D.1 hi rfl (fun ls' h => kk p e s m args below meth c C H locs ls' ⟨lv_mono h (lst_sub hc), D.2⟩)

theorem g_dstore_n {k : Fin 4} {x : UInt64} (hdg : decode M.1 pc = .ok (.dstore_n k, 1)) (hi : (k : Nat) + 1 < M.2.1) (hc : lc1 L (k : Nat) = true) (hc2 : lg L ((k : Nat) + 1) = none) (kk : G E M P sh sz V cu su (pc + 1) (lst L (k : Nat) (.double x)) rest) : G E M P sh sz V cu su pc L (.double x :: rest) :=
  fun p e s m args below meth c C H locs ls D => lv_dstore_n C.1 C.2.1 hdg rfl D.1 hi rfl (fun ls' h => kk p e s m args below meth c C H locs ls' ⟨lv_mono h (lst_sub2 hc hc2), D.2⟩)
theorem g_astore_nN {k : Fin 4} (hdg : decode M.1 pc = .ok (.astore_n k, 1)) (hi : (k : Nat) < M.2.1) (hc : lc1 L (k : Nat) = true) (kk : G E M P sh sz V cu su (pc + 1) (lst L (k : Nat) .null) rest) : G E M P sh sz V cu su pc L (.null :: rest) :=
  fun p e s m args below meth c C H locs ls D => lv_astore_nN C.1 C.2.1 hdg rfl D.1 hi rfl (fun ls' h => kk p e s m args below meth c C H locs ls' ⟨lv_mono h (lst_sub hc), D.2⟩)
theorem g_astoreN {i : Nat} (hdg : decode M.1 pc = .ok (.astore i, 2)) (hi : i < M.2.1) (hc : lc1 L i = true) (kk : G E M P sh sz V cu su (pc + 2) (lst L i .null) rest) : G E M P sh sz V cu su pc L (.null :: rest) :=
  fun p e s m args below meth c C H locs ls D => lv_astoreN C.1 C.2.1 hdg D.1 hi rfl (fun ls' h => kk p e s m args below meth c C H locs ls' ⟨lv_mono h (lst_sub hc), D.2⟩)
theorem g_iinc {i : Nat} {n : Int} {x v : Int32} (hdg : decode M.1 pc = .ok (.iinc i n, 3)) (hl : lg L i = some (.int x)) (hv : x + Int32.ofInt n = v) (hi : i < M.2.1) (hc : lc1 L i = true) (kk : G E M P sh sz V cu su (pc + 3) (lst L i (.int v)) rest) : G E M P sh sz V cu su pc L rest :=
  fun p e s m args below meth c C H locs ls D => by
    obtain ⟨k, hk⟩ := List.getElem?_of_mem ((asc_mem L 0 i (.int x)).mpr ⟨i, by omega, hl⟩)
    exact lv_iinc C.1 C.2.1 hdg D.1 hk hv hi rfl (fun ls' h => kk p e s m args below meth c C H locs ls' ⟨lv_mono h (lst_sub hc), D.2⟩)

theorem g_if_eq {x : Int32} {off : Int} {tgt : Nat} (hdg : decode M.1 pc = .ok (.ifCond .eq off, 3)) (ht : (pc : Int) + off = (tgt : Int)) (kt : x = 0 → G E M P sh sz V cu su tgt L rest) (kf : ¬ x = 0 → G E M P sh sz V cu su (pc + 3) L rest) : G E M P sh sz V cu su pc L (.int x :: rest) :=
  fun p e s m args below meth c C H locs ls D => lv_if_eq C.1 C.2.1 hdg ht (fun h => kt h p e s m args below meth c C H locs ls D) (fun h => kf h p e s m args below meth c C H locs ls D)

theorem g_if_ne {x : Int32} {off : Int} {tgt : Nat} (hdg : decode M.1 pc = .ok (.ifCond .ne off, 3)) (ht : (pc : Int) + off = (tgt : Int)) (kt : ¬ x = 0 → G E M P sh sz V cu su tgt L rest) (kf : x = 0 → G E M P sh sz V cu su (pc + 3) L rest) : G E M P sh sz V cu su pc L (.int x :: rest) :=
  fun p e s m args below meth c C H locs ls D => lv_if_ne C.1 C.2.1 hdg ht (fun h => kt h p e s m args below meth c C H locs ls D) (fun h => kf h p e s m args below meth c C H locs ls D)

theorem g_if_lt {x : Int32} {off : Int} {tgt : Nat} (hdg : decode M.1 pc = .ok (.ifCond .lt off, 3)) (ht : (pc : Int) + off = (tgt : Int)) (kt : x < 0 → G E M P sh sz V cu su tgt L rest) (kf : ¬ x < 0 → G E M P sh sz V cu su (pc + 3) L rest) : G E M P sh sz V cu su pc L (.int x :: rest) :=
  fun p e s m args below meth c C H locs ls D => lv_if_lt C.1 C.2.1 hdg ht (fun h => kt h p e s m args below meth c C H locs ls D) (fun h => kf h p e s m args below meth c C H locs ls D)

theorem g_if_ge {x : Int32} {off : Int} {tgt : Nat} (hdg : decode M.1 pc = .ok (.ifCond .ge off, 3)) (ht : (pc : Int) + off = (tgt : Int)) (kt : 0 ≤ x → G E M P sh sz V cu su tgt L rest) (kf : ¬ 0 ≤ x → G E M P sh sz V cu su (pc + 3) L rest) : G E M P sh sz V cu su pc L (.int x :: rest) :=
  fun p e s m args below meth c C H locs ls D => lv_if_ge C.1 C.2.1 hdg ht (fun h => kt h p e s m args below meth c C H locs ls D) (fun h => kf h p e s m args below meth c C H locs ls D)

theorem g_if_gt {x : Int32} {off : Int} {tgt : Nat} (hdg : decode M.1 pc = .ok (.ifCond .gt off, 3)) (ht : (pc : Int) + off = (tgt : Int)) (kt : 0 < x → G E M P sh sz V cu su tgt L rest) (kf : ¬ 0 < x → G E M P sh sz V cu su (pc + 3) L rest) : G E M P sh sz V cu su pc L (.int x :: rest) :=
  fun p e s m args below meth c C H locs ls D => lv_if_gt C.1 C.2.1 hdg ht (fun h => kt h p e s m args below meth c C H locs ls D) (fun h => kf h p e s m args below meth c C H locs ls D)

theorem g_if_le {x : Int32} {off : Int} {tgt : Nat} (hdg : decode M.1 pc = .ok (.ifCond .le off, 3)) (ht : (pc : Int) + off = (tgt : Int)) (kt : x ≤ 0 → G E M P sh sz V cu su tgt L rest) (kf : ¬ x ≤ 0 → G E M P sh sz V cu su (pc + 3) L rest) : G E M P sh sz V cu su pc L (.int x :: rest) :=
  fun p e s m args below meth c C H locs ls D => lv_if_le C.1 C.2.1 hdg ht (fun h => kt h p e s m args below meth c C H locs ls D) (fun h => kf h p e s m args below meth c C H locs ls D)

theorem g_icmp_eq {x y : Int32} {off : Int} {tgt : Nat} (hdg : decode M.1 pc = .ok (.if_icmp .eq off, 3)) (ht : (pc : Int) + off = (tgt : Int)) (kt : x = y → G E M P sh sz V cu su tgt L rest) (kf : ¬ x = y → G E M P sh sz V cu su (pc + 3) L rest) : G E M P sh sz V cu su pc L (.int y :: .int x :: rest) :=
  fun p e s m args below meth c C H locs ls D => lv_icmp_eq C.1 C.2.1 hdg ht (fun h => kt h p e s m args below meth c C H locs ls D) (fun h => kf h p e s m args below meth c C H locs ls D)

theorem g_icmp_ne {x y : Int32} {off : Int} {tgt : Nat} (hdg : decode M.1 pc = .ok (.if_icmp .ne off, 3)) (ht : (pc : Int) + off = (tgt : Int)) (kt : ¬ x = y → G E M P sh sz V cu su tgt L rest) (kf : x = y → G E M P sh sz V cu su (pc + 3) L rest) : G E M P sh sz V cu su pc L (.int y :: .int x :: rest) :=
  fun p e s m args below meth c C H locs ls D => lv_icmp_ne C.1 C.2.1 hdg ht (fun h => kt h p e s m args below meth c C H locs ls D) (fun h => kf h p e s m args below meth c C H locs ls D)

theorem g_icmp_lt {x y : Int32} {off : Int} {tgt : Nat} (hdg : decode M.1 pc = .ok (.if_icmp .lt off, 3)) (ht : (pc : Int) + off = (tgt : Int)) (kt : x < y → G E M P sh sz V cu su tgt L rest) (kf : ¬ x < y → G E M P sh sz V cu su (pc + 3) L rest) : G E M P sh sz V cu su pc L (.int y :: .int x :: rest) :=
  fun p e s m args below meth c C H locs ls D => lv_icmp_lt C.1 C.2.1 hdg ht (fun h => kt h p e s m args below meth c C H locs ls D) (fun h => kf h p e s m args below meth c C H locs ls D)

theorem g_icmp_ge {x y : Int32} {off : Int} {tgt : Nat} (hdg : decode M.1 pc = .ok (.if_icmp .ge off, 3)) (ht : (pc : Int) + off = (tgt : Int)) (kt : y ≤ x → G E M P sh sz V cu su tgt L rest) (kf : ¬ y ≤ x → G E M P sh sz V cu su (pc + 3) L rest) : G E M P sh sz V cu su pc L (.int y :: .int x :: rest) :=
  fun p e s m args below meth c C H locs ls D => lv_icmp_ge C.1 C.2.1 hdg ht (fun h => kt h p e s m args below meth c C H locs ls D) (fun h => kf h p e s m args below meth c C H locs ls D)

theorem g_icmp_gt {x y : Int32} {off : Int} {tgt : Nat} (hdg : decode M.1 pc = .ok (.if_icmp .gt off, 3)) (ht : (pc : Int) + off = (tgt : Int)) (kt : y < x → G E M P sh sz V cu su tgt L rest) (kf : ¬ y < x → G E M P sh sz V cu su (pc + 3) L rest) : G E M P sh sz V cu su pc L (.int y :: .int x :: rest) :=
  fun p e s m args below meth c C H locs ls D => lv_icmp_gt C.1 C.2.1 hdg ht (fun h => kt h p e s m args below meth c C H locs ls D) (fun h => kf h p e s m args below meth c C H locs ls D)

theorem g_icmp_le {x y : Int32} {off : Int} {tgt : Nat} (hdg : decode M.1 pc = .ok (.if_icmp .le off, 3)) (ht : (pc : Int) + off = (tgt : Int)) (kt : x ≤ y → G E M P sh sz V cu su tgt L rest) (kf : ¬ x ≤ y → G E M P sh sz V cu su (pc + 3) L rest) : G E M P sh sz V cu su pc L (.int y :: .int x :: rest) :=
  fun p e s m args below meth c C H locs ls D => lv_icmp_le C.1 C.2.1 hdg ht (fun h => kt h p e s m args below meth c C H locs ls D) (fun h => kf h p e s m args below meth c C H locs ls D)

theorem g_goto {off : Int} {tgt : Nat} (hdg : decode M.1 pc = .ok (.goto off, 3)) (ht : (pc : Int) + off = (tgt : Int)) {S : List Value} (k : G E M P sh sz V cu su tgt L S) : G E M P sh sz V cu su pc L S :=
  fun p e s m args below meth c C H locs ls D => lv_goto C.1 C.2.1 hdg ht (k p e s m args below meth c C H locs ls D)
theorem g_ifnonnull {x : Nat} {off : Int} {tgt : Nat} (hdg : decode M.1 pc = .ok (.ifnonnull off, 3)) (ht : (pc : Int) + off = (tgt : Int)) (k : G E M P sh sz V cu su tgt L rest) : G E M P sh sz V cu su pc L (.ref x :: rest) :=
  fun p e s m args below meth c C H locs ls D => lv_ifnonnull C.1 C.2.1 hdg ht (k p e s m args below meth c C H locs ls D)
theorem g_ifnonnullN {off : Int} (hdg : decode M.1 pc = .ok (.ifnonnull off, 3)) (k : G E M P sh sz V cu su (pc + 3) L rest) : G E M P sh sz V cu su pc L (.null :: rest) :=
  fun p e s m args below meth c C H locs ls D => lv_ifnonnullN C.1 C.2.1 hdg (k p e s m args below meth c C H locs ls D)
theorem g_ifnull {x : Nat} {off : Int} (hdg : decode M.1 pc = .ok (.ifnull off, 3)) (k : G E M P sh sz V cu su (pc + 3) L rest) : G E M P sh sz V cu su pc L (.ref x :: rest) :=
  fun p e s m args below meth c C H locs ls D => lv_ifnull C.1 C.2.1 hdg (k p e s m args below meth c C H locs ls D)
theorem g_ifnullN {off : Int} {tgt : Nat} (hdg : decode M.1 pc = .ok (.ifnull off, 3)) (ht : (pc : Int) + off = (tgt : Int)) (k : G E M P sh sz V cu su tgt L rest) : G E M P sh sz V cu su pc L (.null :: rest) :=
  fun p e s m args below meth c C H locs ls D => lv_ifnullN C.1 C.2.1 hdg ht (k p e s m args below meth c C H locs ls D)
theorem g_tableIn {dflt lo hi : Int} {offs : Array Int} {len : Nat} {x : Int32} {off : Int} {tgt : Nat} (hdg : decode M.1 pc = .ok (.tableswitch dflt lo hi offs, len)) (h1 : ¬ x.toInt < lo) (h2 : ¬ hi < x.toInt) (ho : offs[(x.toInt - lo).toNat]? = some off) (ht : (pc : Int) + off = (tgt : Int)) (k : G E M P sh sz V cu su tgt L rest) : G E M P sh sz V cu su pc L (.int x :: rest) :=
  fun p e s m args below meth c C H locs ls D => lv_tableIn C.1 C.2.1 hdg h1 h2 ho ht (k p e s m args below meth c C H locs ls D)
theorem g_tableOut {dflt lo hi : Int} {offs : Array Int} {len : Nat} {x : Int32} {tgt : Nat} (hdg : decode M.1 pc = .ok (.tableswitch dflt lo hi offs, len)) (h : x.toInt < lo ∨ hi < x.toInt) (ht : (pc : Int) + dflt = (tgt : Int)) (k : G E M P sh sz V cu su tgt L rest) : G E M P sh sz V cu su pc L (.int x :: rest) :=
  fun p e s m args below meth c C H locs ls D => lv_tableOut C.1 C.2.1 hdg h ht (k p e s m args below meth c C H locs ls D)
theorem g_lookup {dflt : Int} {ps : Array (Int × Int)} {len : Nat} {x : Int32} {off : Int} {tgt : Nat} (hdg : decode M.1 pc = .ok (.lookupswitch dflt ps, len)) (hp : (ps.toList.zip (ps.toList.drop 1)).all (fun (a, next) => a.1 < next.1) = true) (ho : Op.lookupswitch.offset ps.toList dflt x.toInt = off) (ht : (pc : Int) + off = (tgt : Int)) (k : G E M P sh sz V cu su tgt L rest) : G E M P sh sz V cu su pc L (.int x :: rest) :=
  fun p e s m args below meth c C H locs ls D => lv_lookup C.1 C.2.1 hdg hp ho ht (k p e s m args below meth c C H locs ls D)
/-! the heap -/
theorem HR.obj {H : Heap} {a ci : Nat} {r : vw_C} (h : HR E sh sz V H) (hs : (sh a).1 = ci + 1) (hc : vwCl[ci]? = some r) (hci : ci < 19) : t_OB a (E.2.2.2.1.1 ci) r.2.2 (E.2.2.2.1.2 ci) H (V a) := by
  obtain ⟨-, -, -, h4⟩ := h
  obtain ⟨-, -, h1, -⟩ := h4 a (by omega)
  obtain ⟨r', e1, e2⟩ := h1 (by omega)
  rw [hs] at e1 e2
  cases Option.some.inj (e1.symm.trans hc)
  exact e2
theorem HR.arr {H : Heap} {a k n : Nat} (h : HR E sh sz V H) (hs : sh a = (k, n)) (hk : 20 ≤ k) : H[a]? = some (arrV (E.2.2.2.2.1 k) n (V a)) := by
  obtain ⟨-, -, -, h4⟩ := h
  obtain ⟨-, -, -, h2⟩ := h4 a (by rw [hs]; show k ≠ 0; omega)
  have h3 := h2 (by rw [hs]; exact hk)
  rw [hs] at h3
  exact h3
theorem HR.at {H : Heap} {a : Nat} (h : HR E sh sz V H) (hs : (sh a).1 ≠ 0) : E.2.1 ≤ a ∧ a < sz := ⟨(h.2.2.2 a hs).1, (h.2.2.2 a hs).2.1⟩
theorem cell_obj {H : Heap} {t : Nat × Nat} {a ci : Nat} {r : vw_C} {F : Nat → Value} (ht : t.1 = ci + 1) (hci : ci < 19) (hc : vwCl[ci]? = some r) (h : t_OB a (E.2.2.2.1.1 ci) r.2.2 (E.2.2.2.1.2 ci) H F) : cellAt E t a F H :=
  ⟨fun _ => ⟨r, by rw [ht]; exact hc, by rw [ht]; exact h⟩, fun h2 => by omega⟩
theorem cell_arr {H : Heap} {a k n : Nat} {F : Nat → Value} (hk : 20 ≤ k) (h : H[a]? = some (arrV (E.2.2.2.2.1 k) n F)) : cellAt E (k, n) a F H :=
  ⟨fun h2 => absurd h2 (by show ¬ k < 20; omega), fun _ => h⟩
theorem KI.kn {s : State} (h : KI E s) {ci : Nat} {r : vw_C} (hc : vwCl[ci]? = some r) : u_Kn s r.1 r.2.1 r.2.2 (E.2.2.2.1.1 ci) (E.2.2.2.1.2 ci) := h.1 ci r hc
theorem g_get (ci : Nat) {T : u_T} {C : String} {N : Nat} (hc : vwCl[ci]? = some (C, T, N)) (hci : ci < 19) (hin : ∀ w ∈ u_ws C T N, w ∈ gW) (k : Nat) (hk : k < N) {index : Nat} (hlink : Cond.fieldLink M.2.2.1 index (T k).1 (T k).2.1 (T k).2.2.1 ∈ gW) {a : Nat} {v : Value}
    (hdg : decode M.1 pc = .ok (.getfield index, 3)) (hs : (sh a).1 = ci + 1) (hv : V a k = v) (kk : G E M P sh sz V cu su (pc + 3) L (v :: rest)) : G E M P sh sz V cu su pc L (.ref a :: rest) := by
  intro p e s m args below meth c C0 H locs ls D
  obtain ⟨cell, q1, q2, q3, q4⟩ := D.2.1.obj hs hc hci
  obtain ⟨hS, hfc, kC, hkC, hkind⟩ := C0.2.2.2.2.2.2.2.2.2.1.kn hc
  obtain ⟨cf, kf, fi, f, hi, hsl⟩ := hS k hk
  refine W.getf C0.1 C0.2.1 C0.2.2.2.1 (C0.2.2.2.2.1 _ hlink) hi (u_facts hfc hkC (u_lays (ws := gW) C0.2.2.2.2.1 hin hk) hi).1 q1 (by rw [q3]; exact fun h => by cases h) (v := v) ?_ rfl rfl hdg (kk p e s m args below meth c C0 H locs ls D)
  rw [hsl, q4 k hk, hv]
theorem g_apart {s : State} {args : Array Value} {C : String} {T : u_T} {N ci : Nat} (hts : ∀ w ∈ gW, w.before args s = true) (hin : ∀ w ∈ u_ws C T N, w ∈ gW) (ty : Nat → FieldType) (hty : ∀ k, k < N → parseFieldDescriptor (T k).2.2.1 = some (ty k)) (hnm : ∀ a, a < N → ∀ b, b < N → a ≠ b → (T a).2.1 ≠ (T b).2.1) (hK : KI E s) (hc : vwCl[ci]? = some (C, T, N)) : ∀ x y, x < N → y < N → x ≠ y → (E.2.2.2.1.2 ci) x ≠ (E.2.2.2.1.2 ci) y := by
  intro x y hx hy hne
  obtain ⟨hS, -⟩ := hK.kn hc
  obtain ⟨_, _, _, fa, hia, ea⟩ := hS x hx
  obtain ⟨_, _, _, fb, hib, eb⟩ := hS y hy
  rw [← ea, ← eb]
  refine u_apart (u_lays hts hin hx) (u_lays hts hin hy) hia hib ?_
  rw [(State.fieldFound?_type hia (hty x hx)).1, (State.fieldFound?_type hib (hty y hy)).1]
  exact hnm x hx y hy hne
theorem Dyn.put {s : State} {H H1 : Heap} {locs : List Loc} {ls : Array Slot} {a k i : Nat} {v : Value} (D : Dyn E M sh sz V L s H locs ls) (z : H1.size = H.size) (oq : ∀ q : Nat, q ≠ a → H1[q]? = H[q]?) (ha : (sh a).1 ≠ 0) (hc : cellAt E (sh a) a (updV (V a) k v) H1) : Dyn E M sh sz (hu V a k v) L s H1 (locs ++ [⟨a, i⟩]) ls :=
  ⟨D.1, D.2.1.upd z oq (D.2.1.at ha).1 hc, fun q hq => by
    rcases List.mem_append.mp hq with h1 | h1
    · exact D.2.2.1 q h1
    · rw [List.mem_singleton.mp h1]
      exact (D.2.1.at ha).1, D.2.2.2⟩
theorem g_put (ci : Nat) {T : u_T} {C : String} {N : Nat} (hc : vwCl[ci]? = some (C, T, N)) (hci : ci < 19) (hin : ∀ w ∈ u_ws C T N, w ∈ gW) (ty0 : Nat → FieldType) (hty : ∀ k, k < N → parseFieldDescriptor (T k).2.2.1 = some (ty0 k)) (hnm : ∀ a, a < N → ∀ b, b < N → a ≠ b → (T a).2.1 ≠ (T b).2.1) (k : Nat) (hk : k < N) {index : Nat} (hlink : Cond.fieldLink M.2.2.1 index (T k).1 (T k).2.1 (T k).2.2.1 ∈ gW) (hfin : (T k).2.2.2 = false) {a : Nat} {v : Value}
    (hdg : decode M.1 pc = .ok (.putfield index, 3)) (hs : (sh a).1 = ci + 1) (hn : narrow (ty0 k) v = v) (hfit : fits (ty0 k) v = true) (kk : G E M P sh sz (hu V a k v) cu su (pc + 3) L rest) : G E M P sh sz V cu su pc L (v :: .ref a :: rest) := by
  intro p e s m args below meth c C0 H locs ls D
  have hap := g_apart C0.2.2.2.2.1 hin ty0 hty hnm C0.2.2.2.2.2.2.2.2.2.1 hc
  obtain ⟨cell, q1, q2, q3, q4⟩ := D.2.1.obj hs hc hci
  obtain ⟨hS, hfc, kC, hkC, hkind⟩ := C0.2.2.2.2.2.2.2.2.2.1.kn hc
  obtain ⟨cf, kf, fi, f, hi, hsl⟩ := hS k hk
  have hlay := C0.2.2.2.2.1 _ (hin _ (u_in_lay hk))
  unfold u_lay at hlay
  rw [if_neg (by rw [hfin]; decide)] at hlay
  have hst := (u_facts hfc hkC (u_lays (ws := gW) C0.2.2.2.2.1 hin hk) hi).1
  have h6 := u_store hfc hkC hkind hlay hi (hty k hk) hn hfit
  refine W.putK C0.1 C0.2.1 (f := f) ⟨C0.2.2.2.1, C0.2.2.2.2.1 _ hlink, ⟨_, _, _, hi⟩, hst⟩ (by rw [q2]; exact h6) q1 q3 (by rw [hsl]; exact k2_hasslot (q4 k hk)) rfl rfl hdg fun H' e1 e2 e3 => ?_
  rw [hsl] at e1 ⊢
  exact kk p e s m args below meth c C0 H' _ ls (D.put e2 e3 (by omega) (cell_obj hs hci hc ⟨_, e1, q2, q3, t_set q4 hap hk v⟩))
theorem g_putF (ci : Nat) {T : u_T} {C : String} {N : Nat} (hc : vwCl[ci]? = some (C, T, N)) (hci : ci < 19) (hin : ∀ w ∈ u_ws C T N, w ∈ gW) (ty0 : Nat → FieldType) (hty : ∀ k, k < N → parseFieldDescriptor (T k).2.2.1 = some (ty0 k)) (hnm : ∀ a, a < N → ∀ b, b < N → a ≠ b → (T a).2.1 ≠ (T b).2.1) (k : Nat) (hk : k < N) {index : Nat} (hlink : Cond.fieldLink M.2.2.1 index (T k).1 (T k).2.1 (T k).2.2.1 ∈ gW) (hfin : (T k).2.2.2 = true) (hm : M.2.2.2.2.2.1 = "<init>") (hdecl : (T k).1 = M.2.2.1) {a : Nat} {v : Value}
    (hdg : decode M.1 pc = .ok (.putfield index, 3)) (hs : (sh a).1 = ci + 1) (hn : narrow (ty0 k) v = v) (hfit : fits (ty0 k) v = true) (kk : G E M P sh sz (hu V a k v) cu su (pc + 3) L rest) : G E M P sh sz V cu su pc L (v :: .ref a :: rest) := by
  intro p e s m args below meth c C0 H locs ls D
  have hap := g_apart C0.2.2.2.2.1 hin ty0 hty hnm C0.2.2.2.2.2.2.2.2.2.1 hc
  obtain ⟨cell, q1, q2, q3, q4⟩ := D.2.1.obj hs hc hci
  obtain ⟨hS, hfc, kC, hkC, hkind⟩ := C0.2.2.2.2.2.2.2.2.2.1.kn hc
  obtain ⟨cf, kf, fi, f, hi, hsl⟩ := hS k hk
  have hlay := C0.2.2.2.2.1 _ (hin _ (u_in_lay hk))
  unfold u_lay at hlay
  rw [if_pos hfin] at hlay
  have hst := (u_facts hfc hkC (u_lays (ws := gW) C0.2.2.2.2.1 hin hk) hi).1
  have hown := C0.2.2.2.1
  have hcf : m.cls = cf := by
    obtain ⟨_, _, c', _, _, _, -, -, hf', -, -, -, hown2, -⟩ := Cond.laysFinal_spec hlay
    have e1 : c' = cf := by have := hi.symm.trans hf'; simp at this; exact this.1.symm
    rw [hdecl] at hown2
    rw [← e1]; exact Option.some.inj (hown.symm.trans hown2)
  have h6 := u_fits hfc hkC hkind (Or.inr hlay) hi (hty k hk) hn hfit
  refine W.putFinK C0.1 C0.2.1 hown (C0.2.2.2.2.1 _ hlink) hi hst hcf (C0.2.2.2.2.2.2.2.2.1.trans hm) (by rw [q2]; exact h6) q1 q3 (by rw [hsl]; exact k2_hasslot (q4 k hk)) rfl rfl hdg fun H' e1 e2 e3 => ?_
  rw [hsl] at e1 ⊢
  exact kk p e s m args below meth c C0 H' _ ls (D.put e2 e3 (by omega) (cell_obj hs hci hc ⟨_, e1, q2, q3, t_set q4 hap hk v⟩))
/-- the index of an array, in range -/
theorem arr_in {cA : ClassId} {n : Nat} {F : Nat → Value} {i : Int32} (hin : vp_in i n) : ¬ (i < 0 ∨ (arrV cA n F).slots.size ≤ i.toNatClampNeg) := by rw [arrV_size]; exact hin
theorem in_lt {i : Int32} {n : Nat} (hin : vp_in i n) : i.toNatClampNeg < n := Nat.not_le.mp fun q => hin (Or.inr q)
theorem g_iaload {n a : Nat} {i : Int32} {v : Value} (hdg : decode M.1 pc = .ok (.iaload, 1)) (hs : sh a = (20, n)) (hin : vp_in i n) (hv : V a i.toNatClampNeg = v) (kk : G E M P sh sz V cu su (pc + 1) L (v :: rest)) : G E M P sh sz V cu su pc L (.int i :: .ref a :: rest) := by
  intro p e s m args below meth c C0 H locs ls D
  exact W.iald (v := v) C0.1 C0.2.1 (D.2.1.arr hs (by decide)) ((C0.2.2.2.2.2.2.2.2.2.1.2.1 20 (by decide) (by decide)).1 n _) (fun q => by cases q) (arr_in hin) (by rw [arrV_read _ _ (in_lt hin), hv]) rfl rfl hdg (kk p e s m args below meth c C0 H locs ls D)
theorem g_caload {n a : Nat} {i : Int32} {v : Value} (hdg : decode M.1 pc = .ok (.caload, 1)) (hs : sh a = (21, n)) (hin : vp_in i n) (hv : V a i.toNatClampNeg = v) (kk : G E M P sh sz V cu su (pc + 1) L (v :: rest)) : G E M P sh sz V cu su pc L (.int i :: .ref a :: rest) := by
  intro p e s m args below meth c C0 H locs ls D
  exact W.cald (v := v) C0.1 C0.2.1 (D.2.1.arr hs (by decide)) ((C0.2.2.2.2.2.2.2.2.2.1.2.1 21 (by decide) (by decide)).1 n _) (fun q => by cases q) (arr_in hin) (by rw [arrV_read _ _ (in_lt hin), hv]) rfl rfl hdg (kk p e s m args below meth c C0 H locs ls D)
theorem g_laload {n a : Nat} {i : Int32} {v : Value} (hdg : decode M.1 pc = .ok (.laload, 1)) (hs : sh a = (22, n)) (hin : vp_in i n) (hv : V a i.toNatClampNeg = v) (kk : G E M P sh sz V cu su (pc + 1) L (v :: rest)) : G E M P sh sz V cu su pc L (.int i :: .ref a :: rest) := by
  intro p e s m args below meth c C0 H locs ls D
  exact W.lald (v := v) C0.1 C0.2.1 (D.2.1.arr hs (by decide)) ((C0.2.2.2.2.2.2.2.2.2.1.2.1 22 (by decide) (by decide)).1 n _) (fun q => by cases q) (arr_in hin) (by rw [arrV_read _ _ (in_lt hin), hv]) rfl rfl hdg (kk p e s m args below meth c C0 H locs ls D)
theorem g_baload {n a : Nat} {i : Int32} {v : Value} (hdg : decode M.1 pc = .ok (.baload, 1)) (hs : sh a = (23, n)) (hin : vp_in i n) (hv : V a i.toNatClampNeg = v) (kk : G E M P sh sz V cu su (pc + 1) L (v :: rest)) : G E M P sh sz V cu su pc L (.int i :: .ref a :: rest) := by
  intro p e s m args below meth c C0 H locs ls D
  exact W.bald (v := v) C0.1 C0.2.1 (D.2.1.arr hs (by decide)) ((C0.2.2.2.2.2.2.2.2.2.1.2.1 23 (by decide) (by decide)).1 n _) (fun q => by cases q) (arr_in hin) (by rw [arrV_read _ _ (in_lt hin), hv]) rfl rfl hdg (kk p e s m args below meth c C0 H locs ls D)
theorem g_iastore {n a : Nat} {i : Int32} {x : Int32} (hdg : decode M.1 pc = .ok (.iastore, 1)) (hs : sh a = (20, n)) (hin : vp_in i n) (kk : G E M P sh sz (hu V a i.toNatClampNeg (.int x)) cu su (pc + 1) L rest) : G E M P sh sz V cu su pc L (.int x :: .int i :: .ref a :: rest) := by
  intro p e s m args below meth c C0 H locs ls D
  refine W.iast C0.1 C0.2.1 (D.2.1.arr hs (by decide)) ((C0.2.2.2.2.2.2.2.2.2.1.2.1 20 (by decide) (by decide)).1 n _) (fun q => by cases q) (arr_in hin) rfl rfl hdg fun H1 e1 z oq => ?_
  refine kk p e s m args below meth c C0 H1 _ ls (D.put z oq (by rw [hs]; show 20 ≠ 0; omega) ?_)
  rw [hs]
  exact cell_arr (by decide) (by rw [e1, arrV_store] <;> rfl)
theorem g_castore {n a : Nat} {i : Int32} {x : Int32} (hdg : decode M.1 pc = .ok (.castore, 1)) (hs : sh a = (21, n)) (hin : vp_in i n) (kk : G E M P sh sz (hu V a i.toNatClampNeg (.int (vp_nar .char x))) cu su (pc + 1) L rest) : G E M P sh sz V cu su pc L (.int x :: .int i :: .ref a :: rest) := by
  intro p e s m args below meth c C0 H locs ls D
  refine W.cast C0.1 C0.2.1 (D.2.1.arr hs (by decide)) ((C0.2.2.2.2.2.2.2.2.2.1.2.1 21 (by decide) (by decide)).1 n _) (fun q => by cases q) (arr_in hin) rfl rfl hdg fun H1 e1 z oq => ?_
  refine kk p e s m args below meth c C0 H1 _ ls (D.put z oq (by rw [hs]; show 21 ≠ 0; omega) ?_)
  rw [hs]
  exact cell_arr (by decide) (by rw [e1, arrV_store] <;> rfl)
theorem g_lastore {n a : Nat} {i : Int32} {x : Int64} (hdg : decode M.1 pc = .ok (.lastore, 1)) (hs : sh a = (22, n)) (hin : vp_in i n) (kk : G E M P sh sz (hu V a i.toNatClampNeg (.long x)) cu su (pc + 1) L rest) : G E M P sh sz V cu su pc L (.long x :: .int i :: .ref a :: rest) := by
  intro p e s m args below meth c C0 H locs ls D
  refine W.last C0.1 C0.2.1 (D.2.1.arr hs (by decide)) ((C0.2.2.2.2.2.2.2.2.2.1.2.1 22 (by decide) (by decide)).1 n _) (fun q => by cases q) (arr_in hin) rfl rfl hdg fun H1 e1 z oq => ?_
  refine kk p e s m args below meth c C0 H1 _ ls (D.put z oq (by rw [hs]; show 22 ≠ 0; omega) ?_)
  rw [hs]
  exact cell_arr (by decide) (by rw [e1, arrV_store] <;> rfl)
theorem g_bastore {n a : Nat} {i : Int32} {x : Int32} (hdg : decode M.1 pc = .ok (.bastore, 1)) (hs : sh a = (23, n)) (hin : vp_in i n) (kk : G E M P sh sz (hu V a i.toNatClampNeg (.int (vp_nar .byte x))) cu su (pc + 1) L rest) : G E M P sh sz V cu su pc L (.int x :: .int i :: .ref a :: rest) := by
  intro p e s m args below meth c C0 H locs ls D
  refine W.bast C0.1 C0.2.1 (D.2.1.arr hs (by decide)) ((C0.2.2.2.2.2.2.2.2.2.1.2.1 23 (by decide) (by decide)).1 n _) (fun q => by cases q) (arr_in hin) rfl rfl hdg fun H1 e1 z oq => ?_
  refine kk p e s m args below meth c C0 H1 _ ls (D.put z oq (by rw [hs]; show 23 ≠ 0; omega) ?_)
  rw [hs]
  exact cell_arr (by decide) (by rw [e1, arrV_store] <;> rfl)

theorem g_alen {k n a : Nat} {v : Int32} (hdg : decode M.1 pc = .ok (.arraylength, 1)) (hs : sh a = (k, n)) (hk : 20 ≤ k) (hk2 : k < 28) (hv : Int32.ofNat n = v) (kk : G E M P sh sz V cu su (pc + 1) L (.int v :: rest)) : G E M P sh sz V cu su pc L (.ref a :: rest) := by
  intro p e s m args below meth c C0 H locs ls D
  exact W.alen (n := v) C0.1 C0.2.1 (D.2.1.arr hs hk) ((C0.2.2.2.2.2.2.2.2.2.1.2.1 k hk hk2).1 n _) (by rw [arrV_size]; exact hv) rfl rfl hdg (kk p e s m args below meth c C0 H locs ls D)
/-- a reference or null out of an array of references -/
theorem g_aaload (k : Nat) {n a : Nat} {i : Int32} {v : Value} (hdg : decode M.1 pc = .ok (.aaload, 1)) (hs : sh a = (k, n)) (hk : 24 ≤ k) (hk2 : k < 28) (hin : vp_in i n) (hv : V a i.toNatClampNeg = v) (kk : G E M P sh sz V cu su (pc + 1) L (v :: rest)) : G E M P sh sz V cu su pc L (.int i :: .ref a :: rest) := by
  intro p e s m args below meth c C0 H locs ls D
  have h1 := (C0.2.2.2.2.2.2.2.2.2.1.2.1 k (by omega) hk2).1 n (V a)
  have ht : (gty k).isReference = true := by
    rcases (show k = 24 ∨ k = 25 ∨ k = 26 ∨ k = 27 by omega) with rfl | rfl | rfl | rfl <;> rfl
  exact W.aald (v := v) (ty := gty k) C0.1 C0.2.1 (D.2.1.arr hs (by omega)) h1 ht (fun q => by cases q) (arr_in hin) (by rw [arrV_read _ _ (in_lt hin), hv]) rfl rfl hdg (kk p e s m args below meth c C0 H locs ls D)
theorem g_aastore (k ci : Nat) {n a b : Nat} {i : Int32} {r : vw_C} (hc : vwCl[ci]? = some r) (hci : ci < 19) (hg : gty k = .object r.1) (hk : 24 ≤ k) (hk2 : k < 28) (hdg : decode M.1 pc = .ok (.aastore, 1)) (hs : sh a = (k, n)) (hsb : (sh b).1 = ci + 1) (hin : vp_in i n) (kk : G E M P sh sz (hu V a i.toNatClampNeg (.ref b)) cu su (pc + 1) L rest) : G E M P sh sz V cu su pc L (.ref b :: .int i :: .ref a :: rest) := by
  intro p e s m args below meth c C0 H locs ls D
  obtain ⟨cellV, g1, g2, g3, -⟩ := D.2.1.obj hsb hc hci
  have hcls := (C0.2.2.2.2.2.2.2.2.2.1.kn hc).2
  have h2 := (C0.2.2.2.2.2.2.2.2.2.1.2.1 k (by omega) hk2).2
  rw [hg] at h2
  obtain ⟨kA, comp, k1, k2, k3, -⟩ := h2
  have hcomp : comp = E.2.2.2.1.1 ci := Option.some.inj (k3.symm.trans hcls.1)
  subst hcomp
  obtain ⟨kC, hkC, -⟩ := hcls.2
  refine W.aast C0.1 C0.2.1 (D.2.1.arr hs (by omega)) (fun q h => by cases h) (fun h => by cases h) k1 k2 rfl hkC ⟨fun q => hin (Or.inl q), by rw [arrV_size]; exact in_lt hin⟩ g1 (fun q h => by rw [g3] at h; cases h) (by rw [g2]; exact hkC) (by rw [g2]; exact va_assign hcls) rfl rfl hdg fun H1 e1 z oq => ?_
  refine kk p e s m args below meth c C0 H1 _ ls (D.put z oq (by rw [hs]; show k ≠ 0; omega) ?_)
  rw [hs]
  exact cell_arr (by omega) (by rw [e1, arrV_store])
theorem g_aastoreN (k : Nat) {n a : Nat} {i : Int32} {C : String} (hg : gty k = .object C) (hk : 24 ≤ k) (hk2 : k < 28) (hdg : decode M.1 pc = .ok (.aastore, 1)) (hs : sh a = (k, n)) (hin : vp_in i n) (kk : G E M P sh sz (hu V a i.toNatClampNeg .null) cu su (pc + 1) L rest) : G E M P sh sz V cu su pc L (.null :: .int i :: .ref a :: rest) := by
  intro p e s m args below meth c C0 H locs ls D
  have h1 := (C0.2.2.2.2.2.2.2.2.2.1.2.1 k (by omega) hk2).1 n (V a)
  rw [hg] at h1
  refine va_WaastN (C := C) C0.1 C0.2.1 (D.2.1.arr hs (by omega)) h1 (fun h => by cases h) (arr_in hin) rfl rfl hdg fun H1 e1 z oq => ?_
  refine kk p e s m args below meth c C0 H1 _ ls (D.put z oq (by rw [hs]; show k ≠ 0; omega) ?_)
  rw [hs]
  exact cell_arr (by omega) (by rw [e1, arrV_store])
theorem Dyn.made {s : State} {H H1 : Heap} {locs : List Loc} {ls : Array Slot} {t : Nat × Nat} {F : Nat → Value} (D : Dyn E M sh sz V L s H locs ls) (z : H1.size = sz + 1) (oq : ∀ q : Nat, q < sz → H1[q]? = H[q]?) (hc : cellAt E t sz F H1) : Dyn E M (hs sh sz t) (sz + 1) (hn V sz F) L s H1 locs ls :=
  ⟨D.1, D.2.1.new z oq hc, D.2.2.1, Nat.le_succ_of_le D.2.2.2⟩
theorem g_new (ci : Nat) {T : u_T} {C : String} {N : Nat} (hc : vwCl[ci]? = some (C, T, N)) (hci : ci < 19) (hin : ∀ w ∈ u_ws C T N, w ∈ gW) (ty0 : Nat → FieldType) (hty : ∀ k, k < N → parseFieldDescriptor (T k).2.2.1 = some (ty0 k)) {index : Nat} (hcl : Cond.classLink M.2.2.1 index C ∈ gW) (hinst : Cond.instantiable C N ∈ gW) (hini : Cond.initialized C ∈ gW)
    (hdg : decode M.1 pc = .ok (.new index, 3)) (hm : cu + 1 ≤ M.2.2.2.2.2.2.cells ∧ su + N ≤ M.2.2.2.2.2.2.slots) (kk : G E M P (hs sh sz (ci + 1, N)) (sz + 1) (hn V sz (fun k => defaultValue (ty0 k))) (cu + 1) (su + N) (pc + 3) L (.ref sz :: rest)) : G E M P sh sz V cu su pc L rest := by
  intro p e s m args below meth c C0 H locs ls D
  have hKn := C0.2.2.2.2.2.2.2.2.2.1.kn hc
  refine W.newcK C0.1 C0.2.1 C0.2.2.2.1 (C0.2.2.2.2.1 _ hcl) (C0.2.2.2.2.1 _ hinst) (C0.2.2.2.2.1 _ hini) rfl hdg hm.1 hm.2 hKn.2.1 D.2.1.1 fun H1 kC hkC e1 z1 o1 => ?_
  exact kk p e s m args below meth c C0 H1 locs ls (D.made z1 o1 (cell_obj rfl hci hc (u_born ty0 (ws := gW) C0.2.2.2.2.1 hin hKn hkC e1 hty)))
/-- an array of ints, chars, longs, doubles -/
theorem g_newa (k : Nat) {atype : ArrayType} (hty : newarray.typeOf atype = gty k) (hk : 20 ≤ k) (hk2 : k < 24) (harr : Cond.arrayClass (newarray.typeOf atype) ∈ gW) {n : Int32} (N : Nat) (hn0 : ¬ n < 0) (hN : n.toNatClampNeg = N) (hbytes : N * componentBytes (newarray.typeOf atype) ≤ 536870912)
    (hdg : decode M.1 pc = .ok (.newarray atype, 2)) (hm : cu + 1 ≤ M.2.2.2.2.2.2.cells ∧ su + N ≤ M.2.2.2.2.2.2.slots) (kk : G E M P (hs sh sz (k, N)) (sz + 1) (hn V sz (fun _ => defaultValue (gty k))) (cu + 1) (su + N) (pc + 2) L (.ref sz :: rest)) : G E M P sh sz V cu su pc L (.int n :: rest) := by
  intro p e s m args below meth c C0 H locs ls D
  refine va_newaK C0.1 C0.2.1 (C0.2.2.2.2.1 _ harr) rfl hdg rfl hn0 hN hbytes hm.1 hm.2 D.2.1.1 fun H1 cA e1 z1 o1 hAr hNm => ?_
  have h2 := (C0.2.2.2.2.2.2.2.2.2.1.2.1 k hk (by omega)).2
  rw [hty] at hNm e1
  have hcA : cA = E.2.2.2.2.1 k := by
    rcases (show k = 20 ∨ k = 21 ∨ k = 22 ∨ k = 23 by omega) with rfl | rfl | rfl | rfl <;> exact Option.some.inj (hNm.symm.trans h2)
  rw [hcA] at e1
  exact kk p e s m args below meth c C0 H1 locs ls (D.made z1 o1 (cell_arr hk e1))
/-- an array of references -/
theorem g_anew (k : Nat) {C : String} (hg : gty k = .object C) (hk : 24 ≤ k) (hk2 : k < 28) (hao : ∀ s, KI E s → va_AO C s) {index : Nat} (hcl : Cond.classLink M.2.2.1 index C ∈ gW) {n : Int32} (N : Nat) (hn0 : ¬ n < 0) (hN : n.toNatClampNeg = N) (hbytes : N * 4 ≤ 536870912)
    (hdg : decode M.1 pc = .ok (.anewarray index, 3)) (hm : cu + 1 ≤ M.2.2.2.2.2.2.cells ∧ su + N ≤ M.2.2.2.2.2.2.slots) (kk : G E M P (hs sh sz (k, N)) (sz + 1) (hn V sz (fun _ => .null)) (cu + 1) (su + N) (pc + 3) L (.ref sz :: rest)) : G E M P sh sz V cu su pc L (.int n :: rest) := by
  subst hN
  intro p e s m args below meth c C0 H locs ls D
  refine W.anew C0.1 C0.2.1 C0.2.2.2.1 (C0.2.2.2.2.1 _ hcl) (va_AO.use (hao s C0.2.2.2.2.2.2.2.2.2.1)) rfl hdg rfl hn0 hbytes hm.1 hm.2 fun cA kA comp f1 f2 f3 f4 => ?_
  have h2 := (C0.2.2.2.2.2.2.2.2.2.1.2.1 k (by omega) hk2).2
  rw [hg] at h2
  obtain ⟨kA', comp', k1, k2, k3, k4⟩ := h2
  have hcA : cA = E.2.2.2.2.1 k := Option.some.inj (f1.symm.trans k4)
  subst hcA
  have hz := D.2.1.1
  subst hz
  refine kk p e s m args below meth c C0 _ locs ls (D.made (by rw [Array.size_push]) (fun q hq => by rw [Array.getElem?_push, if_neg (Nat.ne_of_lt hq)]) (cell_arr (by omega) ?_))
  rw [Array.getElem?_push_size, ← arrV_new]
/-- Object's constructor -/
theorem g_objInit {index : Nat} (hl : Cond.methodLink M.2.2.1 index Lib.objectInit ∈ gW) (h2 : Cond.instanceMethod Lib.objectInit ∈ gW) (h3 : Cond.code Lib.objectInit ⟨#[0xb1]⟩ 1 none ∈ gW) {a : Nat} (hdg : decode M.1 pc = .ok (.invokespecial index, 3)) (hf : 1 ≤ M.2.2.2.2.2.2.frames) (hlo : (rest.map fun v => v.category).sum + 12 ≤ M.2.2.2.2.2.2.locals) (kk : G E M P sh sz V cu su (pc + 3) L rest) : G E M P sh sz V cu su pc L (.ref a :: rest) := by
  intro p e s m args below meth c C0 H locs ls D
  exact W.objInit C0.1 C0.2.1 C0.2.2.2.1 (C0.2.2.2.2.1 _ hl) (C0.2.2.2.2.1 _ h2) (C0.2.2.2.2.1 _ h3) rfl (by rw [C0.2.2.1]; exact D.1.1) rfl hdg hf (by show 2 * 0 + _ + _ ≤ _; omega) (kk p e s m args below meth c C0 H locs ls D)
/-! calls -/
theorem vx_any {p : Program} {l : Launch} {e : Env} {R : Room} {s : State} {m : MethodId} {args : Array Value} {below : List Frame} {meth : Method} {c : Code} {H : Heap} {locs : List Loc} {cells slots mc ms : Nat} {Q : State → Prop} {ls : Array Slot} {st0 rest : List Value} {Qa : State → Outcome → State → Prop} {XC : String → State → State → Prop} {free : Addr → Prop}
    (hr : vx_Run p l e R s m args below meth c H locs cells slots mc ms (F0 m pc ls st0) rest Qa XC free)
    (kk : ∀ (v : Option Value) (st t : State) (L : List Loc), (∀ q ∈ L, free q.base) → Qa st (.returned v) t → W p l e R s m args below meth c t.heap (locs ++ L) (cells + mc) (slots + ms) Q (F0 m (pc + 3) ls (v.toList ++ rest)))
    (kx : ∀ (C : String) (ce : Cell) (q : Addr) (st t : State) (L : List Loc), (∀ q ∈ L, free q.base) → XC C st t → t.heap[q]? = some ce → ce.vm = .none → s.vm.findClass C = some ce.cls → vx_W p l e R s m args below meth c t.heap (locs ++ L) (cells + mc) (slots + ms) Q (F0 m pc ls rest) q) :
    W p l e R s m args below meth c H locs cells slots Q (F0 m pc ls st0) := by
  intro T hT X
  rcases hr T hT X with ⟨v, st₀, t, T', L, h0, X', hL, e1, e2, hq, st⟩ | ⟨q, st₀, t, T', L, C, ce, h0, X', hL, e1, e2, hx, hce, hcv, hcl, st⟩
  · obtain ⟨t2, a1, b1⟩ := kk v st₀ t L hL hq T' e1 X'
    exact ⟨t2, st t2 a1, b1⟩
  · obtain ⟨t2, a1, b1⟩ := kx C ce q st₀ t L hL hx hce hcv hcl T' e1 X'
    exact ⟨t2, st.trans a1, b1⟩
theorem va_any2 {p : Program} {l : Launch} {e : Env} {R : Room} {s : State} {m : MethodId} {args : Array Value} {below : List Frame} {meth : Method} {c : Code} {H : Heap} {locs : List Loc} {cells slots mc ms : Nat} {Q : State → Prop} {ls : Array Slot} {st0 rest : List Value} {Qa : State → Outcome → State → Prop} {free : Addr → Prop}
    (hr : va_Run p l e R s m args below meth c H locs cells slots mc ms (F0 m pc ls st0) rest Qa free)
    (kk : ∀ (v : Option Value) (st t : State) (L : List Loc), (∀ q ∈ L, free q.base) → Qa st (.returned v) t → W p l e R s m args below meth c t.heap (locs ++ L) (cells + mc) (slots + ms) Q (F0 m (pc + 3) ls (v.toList ++ rest))) :
    W p l e R s m args below meth c H locs cells slots Q (F0 m pc ls st0) := by
  intro T hT X
  obtain ⟨v, st₀, t, T', L, h0, X', hL, e1, e2, hq, st⟩ := hr T hT X
  obtain ⟨t2, a1, b1⟩ := kk v st₀ t L hL hq T' e1 X'
  exact ⟨t2, st t2 a1, b1⟩
theorem HR.mono_sz {s : State} {H H1 : Heap} {locs L2 : List Loc} {ls : Array Slot} {sh' : Sh} {sz' : Nat} {V' : Vl} (D : Dyn E M sh sz V L s H locs ls) (h : HR E sh' sz' V' H1) (hz : sz ≤ sz') (hL : ∀ q ∈ L2, gN E q.base) : Dyn E M sh' sz' V' L s H1 (locs ++ L2) ls :=
  ⟨D.1, h, fun q hq => by
    rcases List.mem_append.mp hq with h1 | h1
    · exact D.2.2.1 q h1
    · exact hL q h1, Nat.le_trans D.2.2.2 hz⟩
/-- room for a call -/
def gRoom (Y : gY) (M : gM) (cu su : Nat) : Prop := Y.2.2.2.2.frames + 1 ≤ M.2.2.2.2.2.2.frames ∧ 8 + (Y.2.2.1 + 11) + Y.2.2.2.2.locals ≤ M.2.2.2.2.2.2.locals ∧ cu + Y.2.2.2.2.cells ≤ M.2.2.2.2.2.2.cells ∧ su + Y.2.2.2.2.slots ≤ M.2.2.2.2.2.2.slots
/-- what a method's name says of its arguments -/
def gName (y : MethodName) (n : Nat) : Prop := y.cls ≠ "java/lang/invoke/MethodHandle" ∧ y.cls ≠ "java/lang/invoke/VarHandle" ∧ (parseMethodDescriptor y.desc).map (fun d => d.parameters.length) = some n
theorem g_callV {Y : gY} {idx n : Nat} {C : String} (hs : GoodIn gW (wsV M.2.2.1 idx C Y.1 (Cond.code Y.1 Y.2.1 Y.2.2.1 Y.2.2.2.1 :: gW))) (hC : Y.1.cls = C) (hy : gName Y.1 n) (ci : Nat) {r : vw_C} (hci : ci < 19) (hcl : vwCl[ci]? = some r) (hrC : r.1 = C) (hdg : decode M.1 pc = .ok (.invokevirtual idx, 3))
    {b : Nat} {As S : List Value} {P2 : gP} (hc : MC E Y (.ref b :: As) sh sz V P2) (hb : (sh b).1 = ci + 1) (hn : As.length = n) (hS : S = As.reverse ++ .ref b :: rest) (hroom : gRoom Y M cu su) (hcat : (rest.map fun v => v.category).sum ≤ 8)
    (hz : ∀ o sh' sz' V', P2 o sh' sz' V' → sz ≤ sz')
    (kk : ∀ v sh' sz' V', P2 (.inl v) sh' sz' V' → G E M P sh' sz' V' (cu + Y.2.2.2.2.cells) (su + Y.2.2.2.2.slots) (pc + 3) L (v.toList ++ rest))
    (kx : ∀ C sh' sz' V', P2 (.inr C) sh' sz' V' → Gt E M P sh' sz' V' (cu + Y.2.2.2.2.cells) (su + Y.2.2.2.2.slots) pc L C) : G E M P sh sz V cu su pc L S := by
  subst hS
  intro p e s m args below meth c C0 H locs ls D
  obtain ⟨cell, q1, q2, q3, q4⟩ := D.2.1.obj hb hcl hci
  have hfc := (C0.2.2.2.2.2.2.2.2.2.1.kn hcl).2.1
  rw [hrC] at hfc
  refine vx_any (vx_runV (rest := rest) ⟨C0.1, C0.2.1, C0.2.2.1, C0.2.2.2.1, C0.2.2.2.2.1⟩ hc (cwV n C0.2.2.2.2.1 hs rfl rfl rfl ⟨hC, hy⟩ ⟨hroom.1, hroom.2.1⟩) ⟨gPc_blind, ⟨cell, q1, by rw [q3]; rfl, by rw [q2]; exact hfc⟩, fun U hU hW => ⟨rfl, C0.2.2.2.2.2.2.2.2.2.1.warm hW, by rw [hU]; exact D.2.1⟩⟩ rfl hn D.1.1 rfl (lv_room hcat) hdg ⟨hroom.2.2.1, hroom.2.2.2⟩) ?_ ?_
  · rintro v st t L2 hL ⟨v', sh', sz', V', hv, hR, hP⟩
    cases hv
    exact kk v sh' sz' V' hP p e s m args below meth c C0 t.heap _ ls (HR.mono_sz D hR (hz _ _ _ _ hP) hL)
  · rintro C9 ce q st t L2 hL ⟨sh', sz', V', hR, hP⟩ h1 h2 h3
    exact kx C9 sh' sz' V' hP p e s m args below meth c C0 t.heap _ ls (HR.mono_sz D hR (hz _ _ _ _ hP) hL) q ce _ h1 h2 h3
theorem g_callS {Y : gY} {idx n : Nat} (hs : GoodIn gW (va_wsS M.2.2.1 idx Y.1 (Cond.code Y.1 Y.2.1 Y.2.2.1 Y.2.2.2.1 :: gW))) (hy : gName Y.1 n) (hdg : decode M.1 pc = .ok (.invokestatic idx, 3))
    {As S : List Value} {P2 : gP} (hc : MC E Y As sh sz V P2) (hn : As.length = n) (hS : S = As.reverse ++ rest) (hroom : gRoom Y M cu su) (hcat : (rest.map fun v => v.category).sum ≤ 8)
    (hz : ∀ o sh' sz' V', P2 o sh' sz' V' → sz ≤ sz')
    (kk : ∀ v sh' sz' V', P2 (.inl v) sh' sz' V' → G E M P sh' sz' V' (cu + Y.2.2.2.2.cells) (su + Y.2.2.2.2.slots) (pc + 3) L (v.toList ++ rest))
    (kx : ∀ C sh' sz' V', P2 (.inr C) sh' sz' V' → Gt E M P sh' sz' V' (cu + Y.2.2.2.2.cells) (su + Y.2.2.2.2.slots) pc L C) : G E M P sh sz V cu su pc L S := by
  subst hS
  intro p e s m args below meth c C0 H locs ls D
  refine vx_any (vx_runS (rest := rest) ⟨C0.1, C0.2.1, C0.2.2.1, C0.2.2.2.1, C0.2.2.2.2.1⟩ hc (va_cwS n C0.2.2.2.2.1 hs rfl rfl rfl hy ⟨hroom.1, hroom.2.1⟩) ⟨gPc_blind, fun U hU hW => ⟨rfl, C0.2.2.2.2.2.2.2.2.2.1.warm hW, by rw [hU]; exact D.2.1⟩⟩ rfl hn D.1.1 rfl (lv_room hcat) hdg ⟨hroom.2.2.1, hroom.2.2.2⟩) ?_ ?_
  · rintro v st t L2 hL ⟨v', sh', sz', V', hv, hR, hP⟩
    cases hv
    exact kk v sh' sz' V' hP p e s m args below meth c C0 t.heap _ ls (HR.mono_sz D hR (hz _ _ _ _ hP) hL)
  · rintro C9 ce q st t L2 hL ⟨sh', sz', V', hR, hP⟩ h1 h2 h3
    exact kx C9 sh' sz' V' hP p e s m args below meth c C0 t.heap _ ls (HR.mono_sz D hR (hz _ _ _ _ hP) hL) q ce _ h1 h2 h3
/-- a constructor of the claim's own, never throwing -/
theorem g_callI {Y : gY} {idx n : Nat} (hr0 : Y.2.2.2.1 = none) (h5 : Cond.code Y.1 Y.2.1 Y.2.2.1 none ∈ gW) (hl : Cond.methodLink M.2.2.1 idx Y.1 ∈ gW) (h2 : Cond.instanceMethod Y.1 ∈ gW) (hini : Cond.initialized Y.1.cls ∈ gW) (hnm : Y.1.name = "<init>") (hy : gName Y.1 n) (hdg : decode M.1 pc = .ok (.invokespecial idx, 3))
    {b : Nat} {As S : List Value} {P2 : gP} (hc : MC E Y (.ref b :: As) sh sz V P2) (hn : As.length = n) (hS : S = As.reverse ++ .ref b :: rest) (hroom : gRoom Y M cu su) (hcat : (rest.map fun v => v.category).sum ≤ 8)
    (hz : ∀ o sh' sz' V', P2 o sh' sz' V' → sz ≤ sz') (hx : ∀ C sh' sz' V', ¬ P2 (.inr C) sh' sz' V')
    (kk : ∀ v sh' sz' V', P2 (.inl v) sh' sz' V' → G E M P sh' sz' V' (cu + Y.2.2.2.2.cells) (su + Y.2.2.2.2.slots) (pc + 3) L (v.toList ++ rest)) : G E M P sh sz V cu su pc L S := by
  subst hS
  obtain ⟨y, cc, nl, ret, rm⟩ := Y
  have hr0 : ret = none := hr0
  subst hr0
  intro p e s m args below meth c C0 H locs ls D
  refine va_any2 (va_runI (rest := rest) ⟨C0.1, C0.2.1, C0.2.2.1, C0.2.2.2.1, C0.2.2.2.2.1⟩ (hc.met hx) (cwI n C0.2.2.2.2.1 (gIn_I h5) rfl rfl rfl (C0.2.2.2.2.1 _ hini) (C0.2.2.2.2.1 _ hl) (C0.2.2.2.2.1 _ h2) hnm hy ⟨hroom.1, hroom.2.1⟩) ⟨gPc_blind, fun U hU hW => ⟨rfl, C0.2.2.2.2.2.2.2.2.2.1.warm hW, by rw [hU]; exact D.2.1⟩⟩ rfl hn D.1.1 rfl (lv_room hcat) hdg ⟨hroom.2.2.1, hroom.2.2.2⟩) ?_
  rintro v st t L2 hL ⟨v', sh', sz', V', hv, hR, hP⟩
  cases hv
  exact kk v sh' sz' V' hP p e s m args below meth c C0 t.heap _ ls (HR.mono_sz D hR (hz _ _ _ _ hP) hL)
/-- .. a private one of a nest mate -/
theorem g_callIN {Y : gY} {idx n : Nat} {host : String} (hr0 : Y.2.2.2.1 = none) (h5 : Cond.code Y.1 Y.2.1 Y.2.2.1 none ∈ gW) (hl : Cond.methodLinkNest M.2.2.1 idx Y.1 host ∈ gNw) (h2 : Cond.instanceMethod Y.1 ∈ gW) (hini : Cond.initialized Y.1.cls ∈ gW) (hnm : Y.1.name = "<init>") (hy : gName Y.1 n) (hdg : decode M.1 pc = .ok (.invokespecial idx, 3))
    {b : Nat} {As S : List Value} {P2 : gP} (hc : MC E Y (.ref b :: As) sh sz V P2) (hn : As.length = n) (hS : S = As.reverse ++ .ref b :: rest) (hroom : gRoom Y M cu su) (hcat : (rest.map fun v => v.category).sum ≤ 8)
    (hz : ∀ o sh' sz' V', P2 o sh' sz' V' → sz ≤ sz') (hx : ∀ C sh' sz' V', ¬ P2 (.inr C) sh' sz' V')
    (kk : ∀ v sh' sz' V', P2 (.inl v) sh' sz' V' → G E M P sh' sz' V' (cu + Y.2.2.2.2.cells) (su + Y.2.2.2.2.slots) (pc + 3) L (v.toList ++ rest)) : G E M P sh sz V cu su pc L S := by
  subst hS
  obtain ⟨y, cc, nl, ret, rm⟩ := Y
  have hr0 : ret = none := hr0
  subst hr0
  intro p e s m args below meth c C0 H locs ls D
  refine va_any2 (va_runIN (rest := rest) ⟨C0.1, C0.2.1, C0.2.2.1, C0.2.2.2.1, C0.2.2.2.2.1⟩ (hc.met hx) ⟨va_cnB n C0.2.2.2.2.1 (gIn_I h5) rfl rfl rfl (C0.2.2.2.2.2.2.2.2.2.1.2.2.2.2.2.2.1 _ hl) (C0.2.2.2.2.1 _ hini) hy ⟨hroom.1, hroom.2.1⟩, hnm, C0.2.2.2.2.1 _ h2⟩ ⟨gPc_blind, fun U hU hW => ⟨rfl, C0.2.2.2.2.2.2.2.2.2.1.warm hW, by rw [hU]; exact D.2.1⟩⟩ rfl hn D.1.1 rfl (lv_room hcat) hdg ⟨hroom.2.2.1, hroom.2.2.2⟩) ?_
  rintro v st t L2 hL ⟨v', sh', sz', V', hv, hR, hP⟩
  cases hv
  exact kk v sh' sz' V' hP p e s m args below meth c C0 t.heap _ ls (HR.mono_sz D hR (hz _ _ _ _ hP) hL)
/-- a private static method of a nest mate, never throwing -/
theorem g_callSN {Y : gY} {idx n : Nat} {host : String} (h5 : Cond.code Y.1 Y.2.1 Y.2.2.1 Y.2.2.2.1 ∈ gW) (hl : Cond.methodLinkNest M.2.2.1 idx Y.1 host ∈ gNw) (h2 : Cond.static Y.1 ∈ gW) (hini : Cond.initialized Y.1.cls ∈ gW) (hy : gName Y.1 n) (hdg : decode M.1 pc = .ok (.invokestatic idx, 3))
    {As S : List Value} {P2 : gP} (hc : MC E Y As sh sz V P2) (hn : As.length = n) (hS : S = As.reverse ++ rest) (hroom : gRoom Y M cu su) (hcat : (rest.map fun v => v.category).sum ≤ 8)
    (hz : ∀ o sh' sz' V', P2 o sh' sz' V' → sz ≤ sz') (hx : ∀ C sh' sz' V', ¬ P2 (.inr C) sh' sz' V')
    (kk : ∀ v sh' sz' V', P2 (.inl v) sh' sz' V' → G E M P sh' sz' V' (cu + Y.2.2.2.2.cells) (su + Y.2.2.2.2.slots) (pc + 3) L (v.toList ++ rest)) : G E M P sh sz V cu su pc L S := by
  subst hS
  intro p e s m args below meth c C0 H locs ls D
  refine va_any2 (va_runSN (rest := rest) ⟨C0.1, C0.2.1, C0.2.2.1, C0.2.2.2.1, C0.2.2.2.2.1⟩ (hc.met hx) ⟨va_cnB n C0.2.2.2.2.1 (gIn_I h5) rfl rfl rfl (C0.2.2.2.2.2.2.2.2.2.1.2.2.2.2.2.2.1 _ hl) (C0.2.2.2.2.1 _ hini) hy ⟨hroom.1, hroom.2.1⟩, C0.2.2.2.2.1 _ h2, trivial⟩ ⟨gPc_blind, fun U hU hW => ⟨rfl, C0.2.2.2.2.2.2.2.2.2.1.warm hW, by rw [hU]; exact D.2.1⟩⟩ rfl hn D.1.1 rfl (lv_room hcat) hdg ⟨hroom.2.2.1, hroom.2.2.2⟩) ?_
  rintro v st t L2 hL ⟨v', sh', sz', V', hv, hR, hP⟩
  cases hv
  exact kk v sh' sz' V' hP p e s m args below meth c C0 t.heap _ ls (HR.mono_sz D hR (hz _ _ _ _ hP) hL)
/-! ends -/
theorem g_vret (hr : M.2.2.2.1 = none) (hdg : decode M.1 pc = .ok (.return_, 1)) (hm : cu ≤ M.2.2.2.2.2.2.cells ∧ su ≤ M.2.2.2.2.2.2.slots) (h : P (.inl none) sh sz V) : G E M P sh sz V cu su pc L [] := by
  intro p e s m args below meth c C0 H locs ls D
  have hlocks := C0.2.2.2.2.2.2.1
  refine W.widen hm.1 hm.2 (vx_ret (W.vret C0.1 C0.2.1 (C0.2.2.2.2.2.1.trans hr) (fun t ht _ => ⟨none, sh, sz, V, rfl, by rw [ht]; exact D.2.1, h⟩) D.2.2.1 hdg hlocks))
theorem g_iret {v : Int32} {ty : FieldType} (hr : M.2.2.2.1 = some ty) (hn : narrow ty (.int v) = .int v) (hdg : decode M.1 pc = .ok (.ireturn, 1)) (hm : cu ≤ M.2.2.2.2.2.2.cells ∧ su ≤ M.2.2.2.2.2.2.slots) (h : P (.inl (some (.int v))) sh sz V) : G E M P sh sz V cu su pc L [.int v] := by
  intro p e s m args below meth c C0 H locs ls D
  have hlocks := C0.2.2.2.2.2.2.1
  refine W.widen hm.1 hm.2 (vx_ret (W.zret C0.1 C0.2.1 (C0.2.2.2.2.2.1.trans hr) hn (fun t ht _ => ⟨_, sh, sz, V, rfl, by rw [ht]; exact D.2.1, h⟩) D.2.2.1 hdg hlocks))
theorem g_lret {v : Int64} (hr : M.2.2.2.1 = some .long) (hdg : decode M.1 pc = .ok (.lreturn, 1)) (hm : cu ≤ M.2.2.2.2.2.2.cells ∧ su ≤ M.2.2.2.2.2.2.slots) (h : P (.inl (some (.long v))) sh sz V) : G E M P sh sz V cu su pc L [.long v] := by
  intro p e s m args below meth c C0 H locs ls D
  have hlocks := C0.2.2.2.2.2.2.1
  refine W.widen hm.1 hm.2 (vx_ret (W.lret C0.1 C0.2.1 (C0.2.2.2.2.2.1.trans hr) (fun t ht _ => ⟨_, sh, sz, V, rfl, by rw [ht]; exact D.2.1, h⟩) D.2.2.1 hdg hlocks))
theorem g_fret {v : UInt32} (hr : M.2.2.2.1 = some .float) (hdg : decode M.1 pc = .ok (.freturn, 1)) (hm : cu ≤ M.2.2.2.2.2.2.cells ∧ su ≤ M.2.2.2.2.2.2.slots) (h : P (.inl (some (.float v))) sh sz V) : G E M P sh sz V cu su pc L [.float v] := by
  intro p e s m args below meth c C0 H locs ls D
  have hlocks := C0.2.2.2.2.2.2.1
  refine W.widen hm.1 hm.2 (vx_ret (W.fret C0.1 C0.2.1 (C0.2.2.2.2.2.1.trans hr) (fun t ht _ => ⟨_, sh, sz, V, rfl, by rw [ht]; exact D.2.1, h⟩) D.2.2.1 hdg hlocks))
theorem g_aret {v : Value} {rt : FieldType} (hr : M.2.2.2.1 = some rt) (hrt : (∃ n, rt = .object n) ∨ ∃ t, rt = .array t) (hv : v = .null ∨ ∃ a, v = .ref a) (hdg : decode M.1 pc = .ok (.areturn, 1)) (hm : cu ≤ M.2.2.2.2.2.2.cells ∧ su ≤ M.2.2.2.2.2.2.slots) (h : P (.inl (some v)) sh sz V) : G E M P sh sz V cu su pc L [v] := by
  intro p e s m args below meth c C0 H locs ls D
  have hlocks := C0.2.2.2.2.2.2.1
  refine W.widen hm.1 hm.2 (vx_ret (W.aret C0.1 C0.2.1 (C0.2.2.2.2.2.1.trans hr) hrt hv (fun t ht _ => ⟨_, sh, sz, V, rfl, by rw [ht]; exact D.2.1, h⟩) D.2.2.1 hdg hlocks))
/-- thrown on to the caller -/
theorem gt_out {C : String} (ht : M.2.2.2.2.1 = []) (hm : cu ≤ M.2.2.2.2.2.2.cells ∧ su ≤ M.2.2.2.2.2.2.slots) (h : P (.inr C) sh sz V) : Gt E M P sh sz V cu su pc L C := by
  intro p e s m args below meth c C0 H locs ls D q ce rest h1 h2 h3
  exact vx_out (fun x hx => by rw [C0.2.2.2.2.2.2.2.1, ht] at hx; cases hx) C0.2.2.2.2.2.2.1 h1 h2 h3 (fun t ht _ => ⟨sh, sz, V, by rw [ht]; exact D.2.1, h⟩) D.2.2.1 hm.1 hm.2
end GR
