/-! the String "dsrtjp": a frame that knows it, and its indexOf -/
section STR
/-- at k lies the String, at v its bytes -/
def SAt (E : gE) (k v : Nat) (U : State) : Prop := va_O "java/lang/String" k (gN E) U E.2.2.1 ∧ va_OF "java/lang/String" "coder" "B" (.int 0) k (gN E) U E.2.2.1 ∧ va_OF "java/lang/String" "value" "[B" (.ref v) k (gN E) U E.2.2.1 ∧ va_T .byte v 6 (fun j => .int (([100, 115, 114, 116, 106, 112] : List Int32).getD j 0)) (gN E) U E.2.2.1
theorem SAt.warm {E : gE} {k v : Nat} {s U : State} (hW : s.WarmedH U.vm) (h : SAt E k v s) : SAt E k v U := ⟨h.1.moved hW.alike, h.2.1.moved hW.alike, h.2.2.1.moved hW.alike, h.2.2.2.moved hW.alike⟩
theorem SAt.same {E : gE} {k v : Nat} {s U : State} (hv : U.vm = s.vm) (h : SAt E k v s) : SAt E k v U := by
  have ha : s.vm.Alike U.vm := by rw [hv]; exact Vm.Alike.refl _
  exact ⟨h.1.moved ha, h.2.1.moved ha, h.2.2.1.moved ha, h.2.2.2.moved ha⟩
def Gs (E : gE) (M : gM) (k9 v9 : Nat) (P : gP) (sh : Sh) (sz : Nat) (V : Vl) (cu su pc : Nat) (L : List (Option Value)) (S : List Value) : Prop :=
  ∀ p e s m args below meth c, Ctx E M p e s m args below meth c → SAt E k9 v9 s → ∀ H locs ls, Dyn E M sh sz V L s H locs ls →
    W p E.1 e M.2.2.2.2.2.2 s m args below meth c H locs cu su (vx_MQ below (gQ E P) (gX E P) args s M.2.2.2.2.2.2.cells M.2.2.2.2.2.2.slots (gN E)) (F0 m pc ls S)
def MCs (E : gE) (Y : gY) (k9 v9 : Nat) (as : List Value) (sh : Sh) (sz : Nat) (V : Vl) (P : gP) : Prop :=
  vx_Met E.1 Y.1 (Cond.code Y.1 Y.2.1 Y.2.2.1 Y.2.2.2.1 :: gW) Y.2.2.2.2 (fun a U => gPc E as sh sz V a U ∧ SAt E k9 v9 U) (gQ E P) (gX E P) Y.2.2.2.2.cells Y.2.2.2.2.slots (gN E)
theorem gPs_blind {E : gE} {as : List Value} {sh : Sh} {sz : Nat} {V : Vl} {k9 v9 : Nat} : FrameBlind (fun a U => gPc E as sh sz V a U ∧ SAt E k9 v9 U) := fun a U g mk h => ⟨gPc_blind a U g mk h.1, SAt.same (s := U) (U := U.calling g mk a) rfl h.2⟩
theorem MCs.of {E : gE} {Y : gY} {k9 v9 : Nat} {as : List Value} {sh : Sh} {sz : Nat} {V : Vl} {P : gP} (own nm : String) (hcls : Y.1.cls = own) (hy : plainName Y.1.cls = true) (hnm : Y.1.name = nm) (k : Nat) (L : List (Option Value)) (hL : lin as ++ List.replicate k none = L) (hlen : (lg_sl as).length ≤ Y.2.2.1)
    (kk : Gs E (Y.2.1, Y.2.2.1, own, Y.2.2.2.1, [], nm, Y.2.2.2.2) k9 v9 P sh sz V 0 0 0 L []) : MCs E Y k9 v9 as sh sz V P := by
  refine vx_ofW hy rfl ?_
  intro p e s m args below meth c s₁ B hml ht hv
  obtain ⟨⟨rfl, hK, hR⟩, hS9⟩ := hv
  have hl := lv_entry as (n := Y.2.2.1) hlen
  rw [← asc_lin as k 0, hL] at hl
  rw [lg_entry_eq]
  obtain ⟨n1, n2⟩ := name_of_methodNamed B.named B.method
  refine kk p e s m as.toArray below meth c ⟨B.exec, B.bytes, hml, hcls ▸ findClass_of_methodNamed B.named, fun w hw => atoms_spec B.pre w (List.mem_cons_of_mem _ hw), B.returns, B.notSynchronized, List.eq_nil_iff_forall_not_mem.mpr (fun x hx => ht x hx), by rw [n1]; exact hnm, hK, by rw [hR.1]; exact hR.2.1, hR.2.2.1⟩ hS9 s.heap [] _ ⟨hl, hR, fun _ h => (nomatch h), by rw [hR.1]; exact Nat.le_refl _⟩
variable {E : gE} {M : gM} {P : gP} {sh : Sh} {sz : Nat} {V : Vl} {cu su pc : Nat} {L : List (Option Value)} {rest : List Value} {k9 v9 : Nat}
theorem G.s (h : G E M P sh sz V cu su pc L rest) : Gs E M k9 v9 P sh sz V cu su pc L rest := fun p e s m args below meth c C _ => h p e s m args below meth c C
theorem gs_iconst {n : Int} {v : Int32} (hdg : decode M.1 pc = .ok (.iconst n, 1)) (hv : Int32.ofInt n = v) (k : Gs E M k9 v9 P sh sz V cu su (pc + 1) L (.int v :: rest)) : Gs E M k9 v9 P sh sz V cu su pc L (rest) :=
  fun p e s m args below meth c C hS9 H locs ls D => lv_iconst C.1 C.2.1 hdg hv (k p e s m args below meth c C hS9 H locs ls D)
theorem gs_iload_n {k : Fin 4} {x : Int32} (hdg : decode M.1 pc = .ok (.iload_n k, 1)) (hl : lg L (k : Nat) = some (.int x)) (kk : Gs E M k9 v9 P sh sz V cu su (pc + 1) L (.int x :: rest)) : Gs E M k9 v9 P sh sz V cu su pc L rest :=
  fun p e s m args below meth c C hS9 H locs ls D => lv_iload_n C.1 C.2.1 hdg rfl (lg_has D.1 hl) (kk p e s m args below meth c C hS9 H locs ls D)
theorem gs_iload {i : Nat} {x : Int32} (hdg : decode M.1 pc = .ok (.iload i, 2)) (hl : lg L i = some (.int x)) (kk : Gs E M k9 v9 P sh sz V cu su (pc + 2) L (.int x :: rest)) : Gs E M k9 v9 P sh sz V cu su pc L rest :=
  fun p e s m args below meth c C hS9 H locs ls D => lv_iload C.1 C.2.1 hdg (lg_has D.1 hl) (kk p e s m args below meth c C hS9 H locs ls D)
theorem gs_aload_n {k : Fin 4} {x : Nat} (hdg : decode M.1 pc = .ok (.aload_n k, 1)) (hl : lg L (k : Nat) = some (.ref x)) (kk : Gs E M k9 v9 P sh sz V cu su (pc + 1) L (.ref x :: rest)) : Gs E M k9 v9 P sh sz V cu su pc L rest :=
  fun p e s m args below meth c C hS9 H locs ls D => lv_aload_n C.1 C.2.1 hdg rfl (lg_has D.1 hl) (kk p e s m args below meth c C hS9 H locs ls D)
theorem gs_istore_n {k : Fin 4} {x : Int32} (hdg : decode M.1 pc = .ok (.istore_n k, 1)) (hi : (k : Nat) < M.2.1) (hc : lc1 L (k : Nat) = true) (kk : Gs E M k9 v9 P sh sz V cu su (pc + 1) (lst L (k : Nat) (.int x)) rest) : Gs E M k9 v9 P sh sz V cu su pc L (.int x :: rest) :=
  fun p e s m args below meth c C hS9 H locs ls D => lv_istore_n C.1 C.2.1 hdg rfl D.1 hi rfl (fun ls' h => kk p e s m args below meth c C hS9 H locs ls' ⟨lv_mono h (lst_sub hc), D.2⟩)
theorem gs_istore {i : Nat} {x : Int32} (hdg : decode M.1 pc = .ok (.istore i, 2)) (hi : i < M.2.1) (hc : lc1 L i = true) (kk : Gs E M k9 v9 P sh sz V cu su (pc + 2) (lst L i (.int x)) rest) : Gs E M k9 v9 P sh sz V cu su pc L (.int x :: rest) :=
  fun p e s m args below meth c C hS9 H locs ls D => lv_istore C.1 C.2.1 hdg D.1 hi rfl (fun ls' h => kk p e s m args below meth c C hS9 H locs ls' ⟨lv_mono h (lst_sub hc), D.2⟩)
theorem gs_iinc {i : Nat} {n : Int} {x v : Int32} (hdg : decode M.1 pc = .ok (.iinc i n, 3)) (hl : lg L i = some (.int x)) (hv : x + Int32.ofInt n = v) (hi : i < M.2.1) (hc : lc1 L i = true) (kk : Gs E M k9 v9 P sh sz V cu su (pc + 3) (lst L i (.int v)) rest) : Gs E M k9 v9 P sh sz V cu su pc L rest :=
  fun p e s m args below meth c C hS9 H locs ls D => by
    obtain ⟨k, hk⟩ := List.getElem?_of_mem ((asc_mem L 0 i (.int x)).mpr ⟨i, by omega, hl⟩)
    exact lv_iinc C.1 C.2.1 hdg D.1 hk hv hi rfl (fun ls' h => kk p e s m args below meth c C hS9 H locs ls' ⟨lv_mono h (lst_sub hc), D.2⟩)
theorem gs_if_eq {x : Int32} {off : Int} {tgt : Nat} (hdg : decode M.1 pc = .ok (.ifCond .eq off, 3)) (ht : (pc : Int) + off = (tgt : Int)) (kt : x = 0 → Gs E M k9 v9 P sh sz V cu su tgt L rest) (kf : ¬ x = 0 → Gs E M k9 v9 P sh sz V cu su (pc + 3) L rest) : Gs E M k9 v9 P sh sz V cu su pc L (.int x :: rest) :=
  fun p e s m args below meth c C hS9 H locs ls D => lv_if_eq C.1 C.2.1 hdg ht (fun h => kt h p e s m args below meth c C hS9 H locs ls D) (fun h => kf h p e s m args below meth c C hS9 H locs ls D)
theorem gs_if_ne {x : Int32} {off : Int} {tgt : Nat} (hdg : decode M.1 pc = .ok (.ifCond .ne off, 3)) (ht : (pc : Int) + off = (tgt : Int)) (kt : ¬ x = 0 → Gs E M k9 v9 P sh sz V cu su tgt L rest) (kf : x = 0 → Gs E M k9 v9 P sh sz V cu su (pc + 3) L rest) : Gs E M k9 v9 P sh sz V cu su pc L (.int x :: rest) :=
  fun p e s m args below meth c C hS9 H locs ls D => lv_if_ne C.1 C.2.1 hdg ht (fun h => kt h p e s m args below meth c C hS9 H locs ls D) (fun h => kf h p e s m args below meth c C hS9 H locs ls D)
theorem gs_icmp_ge {x y : Int32} {off : Int} {tgt : Nat} (hdg : decode M.1 pc = .ok (.if_icmp .ge off, 3)) (ht : (pc : Int) + off = (tgt : Int)) (kt : y ≤ x → Gs E M k9 v9 P sh sz V cu su tgt L rest) (kf : ¬ y ≤ x → Gs E M k9 v9 P sh sz V cu su (pc + 3) L rest) : Gs E M k9 v9 P sh sz V cu su pc L (.int y :: .int x :: rest) :=
  fun p e s m args below meth c C hS9 H locs ls D => lv_icmp_ge C.1 C.2.1 hdg ht (fun h => kt h p e s m args below meth c C hS9 H locs ls D) (fun h => kf h p e s m args below meth c C hS9 H locs ls D)
theorem gs_icmp_lt {x y : Int32} {off : Int} {tgt : Nat} (hdg : decode M.1 pc = .ok (.if_icmp .lt off, 3)) (ht : (pc : Int) + off = (tgt : Int)) (kt : x < y → Gs E M k9 v9 P sh sz V cu su tgt L rest) (kf : ¬ x < y → Gs E M k9 v9 P sh sz V cu su (pc + 3) L rest) : Gs E M k9 v9 P sh sz V cu su pc L (.int y :: .int x :: rest) :=
  fun p e s m args below meth c C hS9 H locs ls D => lv_icmp_lt C.1 C.2.1 hdg ht (fun h => kt h p e s m args below meth c C hS9 H locs ls D) (fun h => kf h p e s m args below meth c C hS9 H locs ls D)
theorem gs_icmp_ne {x y : Int32} {off : Int} {tgt : Nat} (hdg : decode M.1 pc = .ok (.if_icmp .ne off, 3)) (ht : (pc : Int) + off = (tgt : Int)) (kt : ¬ x = y → Gs E M k9 v9 P sh sz V cu su tgt L rest) (kf : x = y → Gs E M k9 v9 P sh sz V cu su (pc + 3) L rest) : Gs E M k9 v9 P sh sz V cu su pc L (.int y :: .int x :: rest) :=
  fun p e s m args below meth c C hS9 H locs ls D => lv_icmp_ne C.1 C.2.1 hdg ht (fun h => kt h p e s m args below meth c C hS9 H locs ls D) (fun h => kf h p e s m args below meth c C hS9 H locs ls D)
theorem gs_goto {off : Int} {tgt : Nat} (hdg : decode M.1 pc = .ok (.goto off, 3)) (ht : (pc : Int) + off = (tgt : Int)) {S : List Value} (k : Gs E M k9 v9 P sh sz V cu su tgt L S) : Gs E M k9 v9 P sh sz V cu su pc L S :=
  fun p e s m args below meth c C hS9 H locs ls D => lv_goto C.1 C.2.1 hdg ht (k p e s m args below meth c C hS9 H locs ls D)
theorem gs_iret {v : Int32} {ty : FieldType} (hr : M.2.2.2.1 = some ty) (hn : narrow ty (.int v) = .int v) (hdg : decode M.1 pc = .ok (.ireturn, 1)) (hm : cu ≤ M.2.2.2.2.2.2.cells ∧ su ≤ M.2.2.2.2.2.2.slots) (h : P (.inl (some (.int v))) sh sz V) : Gs E M k9 v9 P sh sz V cu su pc L [.int v] := by
  intro p e s m args below meth c C0 hS9 H locs ls D
  have hlocks := C0.2.2.2.2.2.2.1
  refine W.widen hm.1 hm.2 (vx_ret (W.zret C0.1 C0.2.1 (C0.2.2.2.2.2.1.trans hr) hn (fun t ht _ => ⟨_, sh, sz, V, rfl, by rw [ht]; exact D.2.1, h⟩) D.2.2.1 hdg hlocks))
theorem gs_mmax {index : Nat} {x y : Int32} (hl : Cond.methodLink M.2.2.1 index Lib.Math.max.name ∈ gW) (h1 : Cond.static Lib.Math.max.name ∈ gW) (h2 : Cond.initialized "java/lang/Math" ∈ gW) (h3 : Cond.code Lib.Math.max.name Lib.Math.max.code 2 (some .int) ∈ gW) (hdg : decode M.1 pc = .ok (.invokestatic index, 3)) (hf : 1 ≤ M.2.2.2.2.2.2.frames) (hlo : (rest.map fun v => v.category).sum + 13 ≤ M.2.2.2.2.2.2.locals) (hm : cu ≤ M.2.2.2.2.2.2.cells ∧ su ≤ M.2.2.2.2.2.2.slots) (kk : Gs E M k9 v9 P sh sz V cu su (pc + 3) L (.int (if x < y then y else x) :: rest)) : Gs E M k9 v9 P sh sz V cu su pc L (.int y :: .int x :: rest) :=
  fun p e s m args below meth c C0 hS9 H locs ls D => va_mmax C0.1 C0.2.1 (by rw [C0.2.2.1]; exact D.1.1.symm) C0.2.2.2.1 (C0.2.2.2.2.1 _ hl) (C0.2.2.2.2.1 _ h1) (C0.2.2.2.2.1 _ h2) (C0.2.2.2.2.1 _ h3) hf hlo hm.1 hm.2 hdg (kk p e s m args below meth c C0 hS9 H locs ls D)
theorem gs_mmin {index : Nat} {x y : Int32} (hl : Cond.methodLink M.2.2.1 index Lib.Math.min.name ∈ gW) (h1 : Cond.static Lib.Math.min.name ∈ gW) (h2 : Cond.initialized "java/lang/Math" ∈ gW) (h3 : Cond.code Lib.Math.min.name Lib.Math.min.code 2 (some .int) ∈ gW) (hdg : decode M.1 pc = .ok (.invokestatic index, 3)) (hf : 1 ≤ M.2.2.2.2.2.2.frames) (hlo : (rest.map fun v => v.category).sum + 13 ≤ M.2.2.2.2.2.2.locals) (hm : cu ≤ M.2.2.2.2.2.2.cells ∧ su ≤ M.2.2.2.2.2.2.slots) (kk : Gs E M k9 v9 P sh sz V cu su (pc + 3) L (.int (if y < x then y else x) :: rest)) : Gs E M k9 v9 P sh sz V cu su pc L (.int y :: .int x :: rest) :=
  fun p e s m args below meth c C0 hS9 H locs ls D => va_mmin C0.1 C0.2.1 (by rw [C0.2.2.1]; exact D.1.1.symm) C0.2.2.2.1 (C0.2.2.2.2.1 _ hl) (C0.2.2.2.2.1 _ h1) (C0.2.2.2.2.1 _ h2) (C0.2.2.2.2.1 _ h3) hf hlo hm.1 hm.2 hdg (kk p e s m args below meth c C0 hS9 H locs ls D)
theorem gs_jump {off : Int} {tgt : Nat} (hdg : decode M.1 pc = .ok (.goto off, 3)) (ht : (pc : Int) + off = (tgt : Int)) (k : Gs E M k9 v9 P sh sz V cu su tgt L rest) : Gs E M k9 v9 P sh sz V cu su pc L rest := gs_goto hdg ht k
theorem gs_ishr {x y : Int32} (hdg : decode M.1 pc = .ok (.ishr, 1)) (k : Gs E M k9 v9 P sh sz V cu su (pc + 1) L (.int (x >>> (y &&& 31)) :: rest)) : Gs E M k9 v9 P sh sz V cu su pc L (.int y :: .int x :: rest) :=
  fun p e s m args below meth c C hS9 H locs ls D => lv_ishr C.1 C.2.1 hdg (k p e s m args below meth c C hS9 H locs ls D)
theorem gs_i2b {x v : Int32} (hdg : decode M.1 pc = .ok (.i2b, 1)) (hv : x.toInt8.toInt32 = v) (k : Gs E M k9 v9 P sh sz V cu su (pc + 1) L (.int v :: rest)) : Gs E M k9 v9 P sh sz V cu su pc L (.int x :: rest) :=
  fun p e s m args below meth c C hS9 H locs ls D => lv_i2b C.1 C.2.1 hdg hv (k p e s m args below meth c C hS9 H locs ls D)
theorem gs_val {index : Nat} (hlink : Cond.fieldLink M.2.2.1 index "java/lang/String" "value" "[B" ∈ gW) (hdg : decode M.1 pc = .ok (.getfield index, 3)) (kk : Gs E M k9 v9 P sh sz V cu su (pc + 3) L (.ref v9 :: rest)) : Gs E M k9 v9 P sh sz V cu su pc L (.ref k9 :: rest) := by
  intro p e s m args below meth c C0 hS9 H locs ls D
  obtain ⟨cf, k, i, f, cell, h1, h2, h3, h4, h5, h6⟩ := hS9.2.2.1
  exact W.getf C0.1 C0.2.1 C0.2.2.2.1 (C0.2.2.2.2.1 _ hlink) h1 h2 (by rw [va_S_of C0.2.2.2.2.2.2.2.2.2.2.2 D.2.1 _ h6]; exact h3) h4 h5 rfl rfl hdg (kk p e s m args below meth c C0 hS9 H locs ls D)
theorem gs_cod {index : Nat} (hlink : Cond.fieldLink M.2.2.1 index "java/lang/String" "coder" "B" ∈ gW) (hdg : decode M.1 pc = .ok (.getfield index, 3)) (kk : Gs E M k9 v9 P sh sz V cu su (pc + 3) L (.int 0 :: rest)) : Gs E M k9 v9 P sh sz V cu su pc L (.ref k9 :: rest) := by
  intro p e s m args below meth c C0 hS9 H locs ls D
  obtain ⟨cf, k, i, f, cell, h1, h2, h3, h4, h5, h6⟩ := hS9.2.1
  exact W.getf C0.1 C0.2.1 C0.2.2.2.1 (C0.2.2.2.2.1 _ hlink) h1 h2 (by rw [va_S_of C0.2.2.2.2.2.2.2.2.2.2.2 D.2.1 _ h6]; exact h3) h4 h5 rfl rfl hdg (kk p e s m args below meth c C0 hS9 H locs ls D)
theorem gs_comp {index : Nat} (hlink : Cond.fieldLink M.2.2.1 index "java/lang/String" "COMPACT_STRINGS" "Z" ∈ gW) (hdg : decode M.1 pc = .ok (.getstatic index, 3)) (kk : Gs E M k9 v9 P sh sz V cu su (pc + 3) L (.int 1 :: rest)) : Gs E M k9 v9 P sh sz V cu su pc L rest := by
  intro p e s m args below meth c C0 hS9 H locs ls D
  obtain ⟨adK, adV, -, -, cf, kf, fi, f, a, cell, h1, h2, h3, h4, h5, h6, h7, h8⟩ := C0.2.2.2.2.2.2.2.2.2.1.2.2.2.2.2.2.2.1.1
  exact W.gets C0.1 C0.2.1 C0.2.2.2.1 (C0.2.2.2.2.1 _ hlink) h1 h2 h3 h4 (by rw [va_S_of C0.2.2.2.2.2.2.2.2.2.2.2 D.2.1 a h8]; exact h5) (fun e9 => by rw [e9] at h6; cases h6) h7 rfl hdg (kk p e s m args below meth c C0 hS9 H locs ls D)
theorem gs_blen (hdg : decode M.1 pc = .ok (.arraylength, 1)) (kk : Gs E M k9 v9 P sh sz V cu su (pc + 1) L (.int (nI 6) :: rest)) : Gs E M k9 v9 P sh sz V cu su pc L (.ref v9 :: rest) := by
  intro p e s m args below meth c C0 hS9 H locs ls D
  obtain ⟨cell, h1, h2, h3, h4, h5, h6, h7⟩ := hS9.2.2.2
  exact W.alen (n := nI 6) C0.1 C0.2.1 (by rw [va_S_of C0.2.2.2.2.2.2.2.2.2.2.2 D.2.1 _ h7]; exact h1) h2 h5 rfl rfl hdg (kk p e s m args below meth c C0 hS9 H locs ls D)
theorem gs_bald {i : Int32} (hdg : decode M.1 pc = .ok (.baload, 1)) (hin : vp_in i 6) (kk : Gs E M k9 v9 P sh sz V cu su (pc + 1) L (.int (([100, 115, 114, 116, 106, 112] : List Int32).getD i.toNatClampNeg 0) :: rest)) : Gs E M k9 v9 P sh sz V cu su pc L (.int i :: .ref v9 :: rest) := by
  intro p e s m args below meth c C0 hS9 H locs ls D
  obtain ⟨cell, h1, h2, h3, h4, h5, h6, h7⟩ := hS9.2.2.2
  have hlt : i.toNatClampNeg < 6 := Nat.not_le.mp fun q => hin (Or.inr q)
  have hin' : ¬ (i < 0 ∨ cell.slots.size ≤ i.toNatClampNeg) := by
    intro q
    rcases q with q | q
    · exact hin (Or.inl q)
    · omega
  exact W.bald C0.1 C0.2.1 (by rw [va_S_of C0.2.2.2.2.2.2.2.2.2.2.2 D.2.1 _ h7]; exact h1) h2 h3 hin' (h6 _ hlt) rfl rfl hdg (kk p e s m args below meth c C0 hS9 H locs ls D)
theorem gs_callVp {Y : gY} {idx n : Nat} {As S : List Value} {v : Value} (hs : GoodIn gW (wsV M.2.2.1 idx RJ0 Y.1 (Cond.code Y.1 Y.2.1 Y.2.2.1 Y.2.2.2.1 :: gW))) (hC : Y.1.cls = RJ0) (hy : gName Y.1 n) (hdg : decode M.1 pc = .ok (.invokevirtual idx, 3))
    (hc : MCs E Y k9 v9 (.ref k9 :: As) sh sz V (pR (some v) sh sz V)) (hn : As.length = n) (hS : S = As.reverse ++ .ref k9 :: rest) (hroom : gRoomB Y M cu su = true) (hcat : (rest.map fun v => v.category).sum ≤ 8) (h0 : Y.2.2.2.2.cells = 0 ∧ Y.2.2.2.2.slots = 0)
    (kk : Gs E M k9 v9 P sh sz V cu su (pc + 3) L (v :: rest)) : Gs E M k9 v9 P sh sz V cu su pc L S := by
  subst hS
  have hroom := gRoom_of hroom
  intro p e s m args below meth c C0 hS9 H locs ls D
  obtain ⟨cell, q1, q2, q3, q4⟩ := hS9.1
  refine vx_any (vx_runV (rest := rest) ⟨C0.1, C0.2.1, C0.2.2.1, C0.2.2.2.1, C0.2.2.2.2.1⟩ hc (cwV n C0.2.2.2.2.1 hs rfl rfl rfl ⟨hC, hy⟩ ⟨hroom.1, hroom.2.1⟩) ⟨gPs_blind, ⟨cell, by rw [va_S_of C0.2.2.2.2.2.2.2.2.2.2.2 D.2.1 _ q4]; exact q1, q2, q3⟩, fun U hU hW => ⟨⟨rfl, C0.2.2.2.2.2.2.2.2.2.1.warm hW, by rw [hU]; exact D.2.1⟩, hS9.warm hW⟩⟩ rfl hn D.1.1 rfl (lv_room hcat) hdg ⟨hroom.2.2.1, hroom.2.2.2⟩) ?_ ?_
  · rintro v' st t L2 hL ⟨v2, sh', sz', V', hv, hR, h1, rfl, rfl, rfl⟩
    cases hv
    cases h1
    rw [h0.1, h0.2]
    exact kk p e s m args below meth c C0 hS9 t.heap _ ls (HR.mono_sz D hR (Nat.le_refl _) hL)
  · rintro C9 ce q st t L2 hL ⟨sh', sz', V', hR, hP⟩ h1 h2 h3
    exact nomatch hP.1
theorem gs_callSp {Y : gY} {idx n : Nat} {As S : List Value} {v : Value} (hs : GoodIn gW (va_wsS M.2.2.1 idx Y.1 (Cond.code Y.1 Y.2.1 Y.2.2.1 Y.2.2.2.1 :: gW))) (hy : gName Y.1 n) (hdg : decode M.1 pc = .ok (.invokestatic idx, 3))
    (hc : MCs E Y k9 v9 As sh sz V (pR (some v) sh sz V)) (hn : As.length = n) (hS : S = As.reverse ++ rest) (hroom : gRoomB Y M cu su = true) (hcat : (rest.map fun v => v.category).sum ≤ 8) (h0 : Y.2.2.2.2.cells = 0 ∧ Y.2.2.2.2.slots = 0)
    (kk : Gs E M k9 v9 P sh sz V cu su (pc + 3) L (v :: rest)) : Gs E M k9 v9 P sh sz V cu su pc L S := by
  subst hS
  have hroom := gRoom_of hroom
  intro p e s m args below meth c C0 hS9 H locs ls D
  refine vx_any (vx_runS (rest := rest) ⟨C0.1, C0.2.1, C0.2.2.1, C0.2.2.2.1, C0.2.2.2.2.1⟩ hc (va_cwS n C0.2.2.2.2.1 hs rfl rfl rfl hy ⟨hroom.1, hroom.2.1⟩) ⟨gPs_blind, fun U hU hW => ⟨⟨rfl, C0.2.2.2.2.2.2.2.2.2.1.warm hW, by rw [hU]; exact D.2.1⟩, hS9.warm hW⟩⟩ rfl hn D.1.1 rfl (lv_room hcat) hdg ⟨hroom.2.2.1, hroom.2.2.2⟩) ?_ ?_
  · rintro v' st t L2 hL ⟨v2, sh', sz', V', hv, hR, h1, rfl, rfl, rfl⟩
    cases hv
    cases h1
    rw [h0.1, h0.2]
    exact kk p e s m args below meth c C0 hS9 t.heap _ ls (HR.mono_sz D hR (Nat.le_refl _) hL)
  · rintro C9 ce q st t L2 hL ⟨sh', sz', V', hR, hP⟩ h1 h2 h3
    exact nomatch hP.1
theorem MC.s {Y : gY} {as : List Value} (h : MC E Y as sh sz V P) : MCs E Y k9 v9 as sh sz V P := MetFree.mono h (fun _ _ h => h.1) (fun _ _ _ _ _ h => h) (fun _ _ _ _ _ h => h)
/-- which of the six letters -/
def ixF (c : Int32) : Int32 := if c = nI 100 then nI 0 else if c = nI 115 then nI 1 else if c = nI 114 then nI 2 else if c = nI 116 then nI 3 else if c = nI 106 then nI 4 else if c = nI 112 then nI 5 else -1
theorem z_canEncode {c : Int32} (hP : P (.inl (some (.int (bi (0 ≤ c ∧ c ≤ nI 255))))) sh sz V) : MC E YJ1_canEncode_9a6ad [.int c] sh sz V P := by
  refine MC.of RJ1 "canEncode" rfl (by decide +kernel) rfl 0 [_] rfl (Nat.le_of_ble_eq_true rfl) ?_
  show G E MJ1_canEncode_9a6ad _ _ _ _ _ _ _ _ _
  refine g_iload_n dJ1_canEncode_9a6ad_0 rfl ?_
  refine g_if_lt (tgt := 15) dJ1_canEncode_9a6ad_1 (by decide) (fun b1 => ?_) (fun b1 => ?_)
  · rw [bi_f (p := 0 ≤ c ∧ c ≤ nI 255) (fun q => absurd b1 (Int32.not_lt.mpr q.1))] at hP
    refine g_iconst (v := nI 0) dJ1_canEncode_9a6ad_15 (by decide) ?_
    exact g_iret rfl nz0 dJ1_canEncode_9a6ad_16 (by decide) hP
  · refine g_iload_n dJ1_canEncode_9a6ad_4 rfl ?_
    refine g_sipush (v := nI 255) dJ1_canEncode_9a6ad_5 (by decide) ?_
    refine g_icmp_gt (tgt := 15) dJ1_canEncode_9a6ad_8 (by decide) (fun b2 => ?_) (fun b2 => ?_)
    · rw [bi_f (p := 0 ≤ c ∧ c ≤ nI 255) (fun q => absurd b2 (Int32.not_lt.mpr q.2))] at hP
      refine g_iconst (v := nI 0) dJ1_canEncode_9a6ad_15 (by decide) ?_
      exact g_iret rfl nz0 dJ1_canEncode_9a6ad_16 (by decide) hP
    · rw [bi_t (p := 0 ≤ c ∧ c ≤ nI 255) ⟨Int32.not_lt.mp b1, Int32.not_lt.mp b2⟩] at hP
      refine g_iconst (v := nI 1) dJ1_canEncode_9a6ad_11 (by decide) ?_
      refine g_jump (tgt := 16) dJ1_canEncode_9a6ad_12 (by decide) ?_
      exact g_iret rfl nz1 dJ1_canEncode_9a6ad_16 (by decide) hP
section WALKS
theorem z_isLatin1 : MCs E YJ0_isLatin1_aae02 k9 v9 [.ref k9] sh sz V (pR (some (.int (nI 1))) sh sz V) := by
  refine MCs.of RJ0 "isLatin1" rfl (by decide +kernel) rfl 0 [_] rfl (Nat.le_of_ble_eq_true rfl) ?_
  show Gs E MJ0_isLatin1_aae02 _ _ _ _ _ _ _ _ _ _ _
  refine gs_comp fl_J0_38 dJ0_isLatin1_aae02_0 ?_
  refine gs_if_eq (tgt := 17) dJ0_isLatin1_aae02_3 (by decide) (fun hq => absurd hq ((by decide))) (fun _ => ?_)
  refine gs_aload_n dJ0_isLatin1_aae02_6 rfl ?_
  refine gs_cod fl_J0_15 dJ0_isLatin1_aae02_7 ?_
  refine gs_if_ne (tgt := 17) dJ0_isLatin1_aae02_10 (by decide) (fun hq => absurd hq ((fun q => q rfl))) (fun _ => ?_)
  refine gs_iconst (v := nI 1) dJ0_isLatin1_aae02_13 (by decide) ?_
  refine gs_jump (tgt := 18) dJ0_isLatin1_aae02_14 (by decide) ?_
  exact gs_iret rfl nz1 dJ0_isLatin1_aae02_18 (by decide) pR_ok
theorem z_coder : MCs E YJ0_coder_7d493 k9 v9 [.ref k9] sh sz V (pR (some (.int (nI 0))) sh sz V) := by
  refine MCs.of RJ0 "coder" rfl (by decide +kernel) rfl 0 [_] rfl (Nat.le_of_ble_eq_true rfl) ?_
  show Gs E MJ0_coder_7d493 _ _ _ _ _ _ _ _ _ _ _
  refine gs_comp fl_J0_38 dJ0_coder_7d493_0 ?_
  refine gs_if_eq (tgt := 13) dJ0_coder_7d493_3 (by decide) (fun hq => absurd hq ((by decide))) (fun _ => ?_)
  refine gs_aload_n dJ0_coder_7d493_6 rfl ?_
  refine gs_cod fl_J0_15 dJ0_coder_7d493_7 ?_
  refine gs_jump (tgt := 14) dJ0_coder_7d493_10 (by decide) ?_
  exact gs_iret rfl (by decide +kernel) dJ0_coder_7d493_14 (by decide) pR_ok
theorem z_length : MCs E YJ0_length_8abf5 k9 v9 [.ref k9] sh sz V (pR (some (.int (nI 6))) sh sz V) := by
  refine MCs.of RJ0 "length" rfl (by decide +kernel) rfl 0 [_] rfl (Nat.le_of_ble_eq_true rfl) ?_
  show Gs E MJ0_length_8abf5 _ _ _ _ _ _ _ _ _ _ _
  refine gs_aload_n dJ0_length_8abf5_0 rfl ?_
  refine gs_val fl_J0_9 dJ0_length_8abf5_1 ?_
  refine gs_blen dJ0_length_8abf5_4 ?_
  refine gs_aload_n dJ0_length_8abf5_5 rfl ?_
  refine gs_callVp (Y := YJ0_coder_7d493) sv_J0_335 rfl yn_J0_coder_7d493 dJ0_length_8abf5_6 z_coder rfl rfl rfl (Nat.le_of_ble_eq_true rfl) ⟨rfl, rfl⟩ ?_
  refine gs_ishr dJ0_length_8abf5_9 ?_
  exact gs_iret rfl (nr_int _) dJ0_length_8abf5_10 (by decide) ⟨rfl, rfl, rfl, rfl⟩
theorem z_byte : ∀ n, n < 256 → ∀ i, i < 6 → ((([100, 115, 114, 116, 106, 112] : List Int32).getD i 0 = (nI n).toInt8.toInt32) ↔ nI n = ([100, 115, 114, 116, 106, 112] : List Int32).getD i 0) := by decide +kernel
theorem z_indexOfChar {n : Nat} (hn : n < 256) : MCs E YJ1_indexOfChar_4cfef k9 v9 [.ref v9, .int (nI n), .int (nI 0), .int (nI 6)] sh sz V (pR (some (.int (ixF (nI n)))) sh sz V) := by
  refine MCs.of RJ1 "indexOfChar" rfl (by decide +kernel) rfl 2 [_, _, _, _, none, none] rfl (Nat.le_of_ble_eq_true rfl) ?_
  show Gs E MJ1_indexOfChar_4cfef _ _ _ _ _ _ _ _ _ _ _
  refine gs_iload_n dJ1_indexOfChar_4cfef_0 rfl ?_
  refine gs_i2b dJ1_indexOfChar_4cfef_1 rfl ?_
  refine gs_istore dJ1_indexOfChar_4cfef_2 (by decide) rfl ?_
  show Gs _ _ _ _ _ _ _ _ _ _ _ [_, _, _, _, _, _] _
  refine gs_iload_n dJ1_indexOfChar_4cfef_4 rfl ?_
  refine gs_istore dJ1_indexOfChar_4cfef_5 (by decide) rfl ?_
  show Gs _ _ _ _ _ _ _ _ _ _ _ [_, _, _, _, _, _] _
  have step : ∀ i, i < 6 → (nI n = ([100, 115, 114, 116, 106, 112] : List Int32).getD i 0 → ixF (nI n) = nI i) → (¬ nI n = ([100, 115, 114, 116, 106, 112] : List Int32).getD i 0 → Gs E MJ1_indexOfChar_4cfef k9 v9 (pR (some (.int (ixF (nI n)))) sh sz V) sh sz V 0 0 7 [some (.ref v9), some (.int (nI n)), some (.int (nI 0)), some (.int (nI 6)), some (.int (nI n).toInt8.toInt32), some (.int (nI (i + 1)))] []) → Gs E MJ1_indexOfChar_4cfef k9 v9 (pR (some (.int (ixF (nI n)))) sh sz V) sh sz V 0 0 7 [some (.ref v9), some (.int (nI n)), some (.int (nI 0)), some (.int (nI 6)), some (.int (nI n).toInt8.toInt32), some (.int (nI i))] [] := by
    intro i hi h1 h2
    refine gs_iload dJ1_indexOfChar_4cfef_7 rfl ?_
    refine gs_iload_n dJ1_indexOfChar_4cfef_9 rfl ?_
    refine gs_icmp_ge (tgt := 31) dJ1_indexOfChar_4cfef_10 (by decide) (fun hq => absurd hq (nI_ge (by omega) (by decide))) (fun _ => ?_)
    refine gs_aload_n dJ1_indexOfChar_4cfef_13 rfl ?_
    refine gs_iload dJ1_indexOfChar_4cfef_14 rfl ?_
    refine gs_bald dJ1_indexOfChar_4cfef_16 (vp_in_nI hi (by decide)) ?_
    rw [nI_clamp (by omega)]
    have hb := z_byte n hn i hi
    refine gs_iload dJ1_indexOfChar_4cfef_17 rfl ?_
    refine gs_icmp_ne (tgt := 25) dJ1_indexOfChar_4cfef_19 (by decide) (fun b1 => ?_) (fun b1 => ?_)
    · refine gs_iinc dJ1_indexOfChar_4cfef_25 rfl (by first | exact nI_inc _ | rfl) (by decide) rfl ?_
      show Gs _ _ _ _ _ _ _ _ _ _ _ [_, _, _, _, _, _] _
      refine gs_jump (tgt := 7) dJ1_indexOfChar_4cfef_28 (by decide) ?_
      exact h2 (fun q => b1 (hb.mpr q))
    · have e := h1 (hb.mp b1)
      rw [e]
      refine gs_iload dJ1_indexOfChar_4cfef_22 rfl ?_
      exact gs_iret rfl (nr_int _) dJ1_indexOfChar_4cfef_24 (by decide) pR_ok
  refine step 0 (by decide) (fun q => by unfold ixF; exact if_pos q) (fun q0 => ?_)
  have q0 : ¬ nI n = nI 100 := q0
  refine step 1 (by decide) (fun q => by unfold ixF; rw [if_neg q0]; exact if_pos q) (fun q1 => ?_)
  have q1 : ¬ nI n = nI 115 := q1
  refine step 2 (by decide) (fun q => by unfold ixF; rw [if_neg q0, if_neg q1]; exact if_pos q) (fun q2 => ?_)
  have q2 : ¬ nI n = nI 114 := q2
  refine step 3 (by decide) (fun q => by unfold ixF; rw [if_neg q0, if_neg q1, if_neg q2]; exact if_pos q) (fun q3 => ?_)
  have q3 : ¬ nI n = nI 116 := q3
  refine step 4 (by decide) (fun q => by unfold ixF; rw [if_neg q0, if_neg q1, if_neg q2, if_neg q3]; exact if_pos q) (fun q4 => ?_)
  have q4 : ¬ nI n = nI 106 := q4
  refine step 5 (by decide) (fun q => by unfold ixF; rw [if_neg q0, if_neg q1, if_neg q2, if_neg q3, if_neg q4]; exact if_pos q) (fun q5 => ?_)
  have q5 : ¬ nI n = nI 112 := q5
  have e : ixF (nI n) = -1 := by
    unfold ixF
    rw [if_neg q0, if_neg q1, if_neg q2, if_neg q3, if_neg q4]
    exact if_neg q5
  rw [e]
  refine gs_iload dJ1_indexOfChar_4cfef_7 rfl ?_
  refine gs_iload_n dJ1_indexOfChar_4cfef_9 rfl ?_
  refine gs_icmp_ge (tgt := 31) dJ1_indexOfChar_4cfef_10 (by decide) (fun _ => ?_) (fun hq => absurd (Int32.le_refl _) hq)
  refine gs_iconst (v := (-1)) dJ1_indexOfChar_4cfef_31 (by decide) ?_
  exact gs_iret rfl (nr_int _) dJ1_indexOfChar_4cfef_32 (by decide) pR_ok
theorem ixF_out {c : Int32} (h : ¬ (0 ≤ c ∧ c ≤ nI 255)) : ixF c = -1 := by
  have K : ∀ n, n < 256 → ¬ c = nI n := fun n hn e => h (by rw [e]; exact ⟨nI_pos' (by omega), (nI_leI (by omega) (by decide)).mpr (by omega)⟩)
  unfold ixF
  rw [if_neg (K 100 (by decide)), if_neg (K 115 (by decide)), if_neg (K 114 (by decide)), if_neg (K 116 (by decide)), if_neg (K 106 (by decide)), if_neg (K 112 (by decide))]
theorem z_indexOfS {c : Int32} : MCs E YJ1_indexOf_4cfef k9 v9 [.ref v9, .int c, .int (nI 0), .int (nI 6)] sh sz V (pR (some (.int (ixF c))) sh sz V) := by
  refine MCs.of RJ1 "indexOf" rfl (by decide +kernel) rfl 0 [_, _, _, _] rfl (Nat.le_of_ble_eq_true rfl) ?_
  show Gs E MJ1_indexOf_4cfef _ _ _ _ _ _ _ _ _ _ _
  refine gs_iload_n dJ1_indexOf_4cfef_0 rfl ?_
  refine gs_callSp (Y := YJ1_canEncode_9a6ad) ss_J1_88 yn_J1_canEncode_9a6ad dJ1_indexOf_4cfef_1 (z_canEncode pR_ok).s rfl rfl rfl (Nat.le_of_ble_eq_true rfl) ⟨rfl, rfl⟩ ?_
  refine gs_if_ne (tgt := 9) dJ1_indexOf_4cfef_4 (by decide) (fun b1 => ?_) (fun b1 => ?_)
  rotate_left
  · rw [ixF_out (bi_eq b1)]
    refine gs_iconst (v := (-1)) dJ1_indexOf_4cfef_7 (by decide) ?_
    exact gs_iret rfl (nr_int _) dJ1_indexOf_4cfef_8 (by decide) pR_ok
  have hb := bi_ne b1
  obtain ⟨n, hn, rfl⟩ := in_nI (n := 256) hb.1 (by rw [fa_lt]; have := hb.2; rw [fa_le] at this; rw [nI_toInt (by decide)] at this ⊢; omega) (by decide)
  refine gs_iload_n dJ1_indexOf_4cfef_9 rfl ?_
  refine gs_iconst (v := nI 0) dJ1_indexOf_4cfef_10 (by decide) ?_
  refine gs_mmax ml_J1_92 wm_mmax_s wm_ini wm_mmax_c dJ1_indexOf_4cfef_11 (Nat.le_of_ble_eq_true rfl) (Nat.le_of_ble_eq_true rfl) ⟨Nat.le_of_ble_eq_true rfl, Nat.le_of_ble_eq_true rfl⟩ ?_
  rw [show (if (nI 0 : Int32) < nI 0 then nI 0 else nI 0) = nI 0 from by decide]
  refine gs_istore_n dJ1_indexOf_4cfef_14 (by decide) rfl ?_
  show Gs _ _ _ _ _ _ _ _ _ _ _ [_, _, _, _] _
  refine gs_iload_n dJ1_indexOf_4cfef_15 rfl ?_
  refine gs_aload_n dJ1_indexOf_4cfef_16 rfl ?_
  refine gs_blen dJ1_indexOf_4cfef_17 ?_
  refine gs_mmin ml_J1_38 wm_mmin_s wm_ini wm_mmin_c dJ1_indexOf_4cfef_18 (Nat.le_of_ble_eq_true rfl) (Nat.le_of_ble_eq_true rfl) ⟨Nat.le_of_ble_eq_true rfl, Nat.le_of_ble_eq_true rfl⟩ ?_
  rw [show (if (nI 6 : Int32) < nI 6 then nI 6 else nI 6) = nI 6 from by decide]
  refine gs_istore_n dJ1_indexOf_4cfef_21 (by decide) rfl ?_
  show Gs _ _ _ _ _ _ _ _ _ _ _ [_, _, _, _] _
  refine gs_iload_n dJ1_indexOf_4cfef_22 rfl ?_
  refine gs_iload_n dJ1_indexOf_4cfef_23 rfl ?_
  refine gs_icmp_lt (tgt := 29) dJ1_indexOf_4cfef_24 (by decide) (fun _ => ?_) (fun hq => absurd ((by decide)) hq)
  refine gs_aload_n dJ1_indexOf_4cfef_29 rfl ?_
  refine gs_iload_n dJ1_indexOf_4cfef_30 rfl ?_
  refine gs_iload_n dJ1_indexOf_4cfef_31 rfl ?_
  refine gs_iload_n dJ1_indexOf_4cfef_32 rfl ?_
  refine gs_callSp (Y := YJ1_indexOfChar_4cfef) ss_J1_95 yn_J1_indexOfChar_4cfef dJ1_indexOf_4cfef_33 (z_indexOfChar hn) rfl rfl rfl (Nat.le_of_ble_eq_true rfl) ⟨rfl, rfl⟩ ?_
  exact gs_iret rfl (nr_int _) dJ1_indexOf_4cfef_36 (by decide) pR_ok
theorem z_indexOf2 {c : Int32} : MCs E YJ0_indexOf_7cf53 k9 v9 [.ref k9, .int c, .int (nI 0)] sh sz V (pR (some (.int (ixF c))) sh sz V) := by
  refine MCs.of RJ0 "indexOf" rfl (by decide +kernel) rfl 0 [_, _, _] rfl (Nat.le_of_ble_eq_true rfl) ?_
  show Gs E MJ0_indexOf_7cf53 _ _ _ _ _ _ _ _ _ _ _
  refine gs_aload_n dJ0_indexOf_7cf53_0 rfl ?_
  refine gs_callVp (Y := YJ0_isLatin1_aae02) sv_J0_492 rfl yn_J0_isLatin1_aae02 dJ0_indexOf_7cf53_1 z_isLatin1 rfl rfl rfl (Nat.le_of_ble_eq_true rfl) ⟨rfl, rfl⟩ ?_
  refine gs_if_eq (tgt := 23) dJ0_indexOf_7cf53_4 (by decide) (fun hq => absurd hq ((by decide))) (fun _ => ?_)
  refine gs_aload_n dJ0_indexOf_7cf53_7 rfl ?_
  refine gs_val fl_J0_9 dJ0_indexOf_7cf53_8 ?_
  refine gs_iload_n dJ0_indexOf_7cf53_11 rfl ?_
  refine gs_iload_n dJ0_indexOf_7cf53_12 rfl ?_
  refine gs_aload_n dJ0_indexOf_7cf53_13 rfl ?_
  refine gs_callVp (Y := YJ0_length_8abf5) sv_J0_505 rfl yn_J0_length_8abf5 dJ0_indexOf_7cf53_14 z_length rfl rfl rfl (Nat.le_of_ble_eq_true rfl) ⟨rfl, rfl⟩ ?_
  refine gs_callSp (Y := YJ1_indexOf_4cfef) ss_J0_637 yn_J1_indexOf_4cfef dJ0_indexOf_7cf53_17 z_indexOfS rfl rfl rfl (Nat.le_of_ble_eq_true rfl) ⟨rfl, rfl⟩ ?_
  refine gs_jump (tgt := 36) dJ0_indexOf_7cf53_20 (by decide) ?_
  exact gs_iret rfl (nr_int _) dJ0_indexOf_7cf53_36 (by decide) pR_ok
theorem z_indexOf {c : Int32} : MCs E YJ0_indexOf_0f7a4 k9 v9 [.ref k9, .int c] sh sz V (pR (some (.int (ixF c))) sh sz V) := by
  refine MCs.of RJ0 "indexOf" rfl (by decide +kernel) rfl 0 [_, _] rfl (Nat.le_of_ble_eq_true rfl) ?_
  show Gs E MJ0_indexOf_0f7a4 _ _ _ _ _ _ _ _ _ _ _
  refine gs_aload_n dJ0_indexOf_0f7a4_0 rfl ?_
  refine gs_iload_n dJ0_indexOf_0f7a4_1 rfl ?_
  refine gs_iconst (v := nI 0) dJ0_indexOf_0f7a4_2 (by decide) ?_
  refine gs_callVp (Y := YJ0_indexOf_7cf53) sv_J0_633 rfl yn_J0_indexOf_7cf53 dJ0_indexOf_0f7a4_3 z_indexOf2 rfl rfl rfl (Nat.le_of_ble_eq_true rfl) ⟨rfl, rfl⟩ ?_
  exact gs_iret rfl (nr_int _) dJ0_indexOf_0f7a4_6 (by decide) pR_ok
/-- ldc "dsrtjp", the letter, indexOf -/
theorem g_ix {m : Nat} {c : Int32} {x : Value} (kk : G E MX7_readOrder P sh sz V 0 0 47 [some (.ref m), some x, some (.int c)] (.int (ixF c) :: rest)) (hr : (rest.map fun v => v.category).sum ≤ 4) : G E MX7_readOrder P sh sz V 0 0 41 [some (.ref m), some x, some (.int c)] rest := by
  intro p e s m1 args below meth c1 C0 H locs ls D
  obtain ⟨adK, adV, b1, ⟨b2, -⟩, -⟩ := C0.2.2.2.2.2.2.2.2.2.1.2.2.2.2.2.2.2.1.1
  have hS9 : SAt E (adK 0) (adV 0) s := b2 0 (by decide)
  have call : Gs E MX7_readOrder (adK 0) (adV 0) P sh sz V 0 0 43 [some (.ref m), some x, some (.int c)] (.ref (adK 0) :: rest) := by
    refine gs_iload_n dX7_readOrder_43 rfl ?_
    refine gs_callVp (M := MX7_readOrder) (pc := 44) (Y := YJ0_indexOf_0f7a4) (rest := rest) sv_X7_239 rfl yn_J0_indexOf_0f7a4 dX7_readOrder_44 z_indexOf rfl rfl rfl (Nat.le_trans hr (by decide)) ⟨rfl, rfl⟩ kk.s
  exact va_ldcS C0.1 C0.2.1 C0.2.2.2.1 b1 dX7_readOrder_41 (call p e s m1 args below meth c1 C0 hS9 H locs ls D)
end WALKS
end STR

