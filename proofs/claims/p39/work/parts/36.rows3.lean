/-! rows for the reference: System.arraycopy, the bits of floats and doubles -/
section ROWS3
variable {E : gE} {M : gM} {P : gP} {sh : Sh} {sz : Nat} {V : Vl} {cu su pc : Nat} {L : List (Option Value)} {rest : List Value}
theorem HR.updN {H H1 : Heap} {a : Nat} {F : Nat → Value} (h : HR E sh sz V H) (hz : H1.size = H.size) (oq : ∀ q : Nat, q ≠ a → H1[q]? = H[q]?) (ha : E.2.1 ≤ a) (hc : cellAt E (sh a) a F H1) : HR E sh sz (hn V a F) H1 := by
  obtain ⟨h1, h2, h3, h4⟩ := h
  refine ⟨hz.trans h1, h2, fun q hq => (oq q (by omega)).trans (h3 q hq), fun b hb => ?_⟩
  obtain ⟨g1, g2, g3⟩ := h4 b hb
  refine ⟨g1, g2, ?_⟩
  by_cases e : b = a
  · subst e
    show cellAt E (sh b) b (if b = b then _ else _) H1
    rw [if_pos rfl]
    exact hc
  · show cellAt E (sh b) b (if b = a then _ else _) H1
    rw [if_neg e]
    exact g3.kept (oq b e)
theorem nn_int {z : Int32} (hz : ¬ z < 0) : z.toInt = (z.toNatClampNeg : Int) := by
  have hz0 : (0 : Int) ≤ z.toInt := by
    have := Int32.not_lt.mp hz
    simpa using Int32.le_iff_toInt_le.mp this
  show z.toInt = ((z.toInt.toNat : Nat) : Int)
  omega
theorem g_acopy {index n0 n1 a0 a sp dp n : Nat} (hlink : Cond.methodLink M.2.2.1 index arraycopyName ∈ gW) (hnat : Cond.native arraycopyName ∈ gW) (hstat : Cond.static arraycopyName ∈ gW) (hini : Cond.initialized "java/lang/System" ∈ gW) (hdg : decode M.1 pc = .ok (.invokestatic index, 3)) (hs0 : sh a0 = (20, n0)) (hs1 : sh a = (20, n1)) (h4 : sp + n ≤ n0) (h5 : dp + n ≤ n1) (hb0 : n0 < 2 ^ 31) (hb1 : n1 < 2 ^ 31) (hv : ∀ i, i < n → ∃ x : Int32, V a0 (sp + i) = .int x)
    (hf : 1 ≤ M.2.2.2.2.2.2.frames) (hlo : (rest.map fun v => v.category).sum + (nativeFrameWords "java/lang/System" "arraycopy" 5 + 11) ≤ M.2.2.2.2.2.2.locals) (kk : G E M P sh sz (hn V a (va_cpy (V a0) (V a) sp dp n)) cu su (pc + 3) L rest) : G E M P sh sz V cu su pc L (.int (nI n) :: .int (nI dp) :: .ref a :: .int (nI sp) :: .ref a0 :: rest) := by
  intro p e s m args below meth c C0 H locs ls D T hT X
  have hc0 := D.2.1.arr hs0 (by decide)
  have hc1 := D.2.1.arr hs1 (by decide)
  have e1 : (nI sp).toNatClampNeg = sp := nI_clamp (by omega)
  have e2 : (nI dp).toNatClampNeg = dp := nI_clamp (by omega)
  have e3 : (nI n).toNatClampNeg = n := nI_clamp (by omega)
  have p1 : ¬ nI sp < 0 := nI_pos (by omega)
  have p2 : ¬ nI dp < 0 := nI_pos (by omega)
  have p3 : ¬ nI n < 0 := nI_pos (by omega)
  obtain ⟨-, k0, hk0, cm0, hkk0⟩ := (C0.2.2.2.2.2.2.2.2.2.1.2.1 20 (by decide) (by decide)).1 n0 (V a0)
  obtain ⟨-, k1, hk1, cm1, hkk1⟩ := (C0.2.2.2.2.2.2.2.2.2.1.2.1 20 (by decide) (by decide)).1 n1 (V a)
  obtain ⟨vm', X', step⟩ := X.arraycopy C0.1 C0.2.2.2.1 (C0.2.2.2.2.1 _ hlink) (C0.2.2.2.2.1 _ hnat) (C0.2.2.2.2.1 _ hstat) (C0.2.2.2.2.1 _ hini) (src := a0) (dst := a) (cs := arrV (E.2.2.2.2.1 20) n0 (V a0)) (cd := arrV (E.2.2.2.2.1 20) n1 (V a)) (srcPos := nI sp) (destPos := nI dp) (n := nI n) (by rw [hT]; exact hc0) (by rw [hT]; exact hc1)
    (fun _ h => by cases h) (fun _ h => by cases h) (fun h => by cases h) (fun h => by cases h) hk0 hk1 hkk0 hkk1 (by decide) p1 p2 p3
    (by rw [nn_int p1, nn_int p3, e1, e3, arrV_size]; omega)
    (by rw [nn_int p2, nn_int p3, e2, e3, arrV_size]; omega)
    (fun vm₁ _ i hi => by
      rw [e3] at hi
      rw [e1]
      obtain ⟨x, hx⟩ := hv i hi
      have e : (arrV (E.2.2.2.2.1 20) n0 (V a0)).slots.getD (sp + i) .null = .int x := by
        rw [Array.getD_eq_getD_getElem?, arrV_read _ _ (by omega), hx]
        rfl
      rw [e]
      exact ⟨rfl, trivial⟩)
    (g := F0 m pc ls (.int (nI n) :: .int (nI dp) :: .ref a :: .int (nI sp) :: .ref a0 :: rest)) rfl (by rw [C0.2.2.1]; exact D.1.1) (rest := rest) rfl (by rw [C0.2.1]; exact hdg) hf (by show 2 * 0 + _ + _ ≤ _; omega)
  have ec : copied (arrV (E.2.2.2.2.1 20) n0 (V a0)) (arrV (E.2.2.2.2.1 20) n1 (V a)) (nI sp) (nI dp) (nI n) = arrV (E.2.2.2.2.1 20) n1 (va_cpy (V a0) (V a) sp dp n) := by
    have := va_copied (fun v : Value => v) (E.2.2.2.2.1 20) (E.2.2.2.2.1 20) (n0 := n0) (n1 := n1) (sp := (nI sp).toNatClampNeg) (dp := (nI dp).toNatClampNeg) (n := (nI n).toNatClampNeg) (V a0) (V a) (by rw [e1, e3]; exact h4)
    rw [e1, e2, e3] at this
    rw [← this]
    unfold copied
    rw [e1, e2, e3]
  rw [ec] at X' step
  have hl : a < H.size := (Array.getElem?_eq_some_iff.mp hc1).1
  have hheap : ((T.setVm vm').setCell a (arrV (E.2.2.2.2.1 20) n1 (va_cpy (V a0) (V a) sp dp n))).heap = H.setIfInBounds a (arrV (E.2.2.2.2.1 20) n1 (va_cpy (V a0) (V a) sp dp n)) := by rw [← hT]; rfl
  have oq : ∀ q : Nat, q ≠ a → (H.setIfInBounds a (arrV (E.2.2.2.2.1 20) n1 (va_cpy (V a0) (V a) sp dp n)))[q]? = H[q]? := fun q hq => by simp [Array.getElem?_setIfInBounds, Ne.symm hq]
  have hat := D.2.1.at (a := a) (by rw [hs1]; show 20 ≠ 0; omega)
  obtain ⟨t, b1, b2⟩ := kk p e s m args below meth c C0 _ _ ls ⟨D.1, D.2.1.updN (by simp) oq hat.1 (by
      rw [hs1]
      exact cell_arr (by decide) (by simp [Array.getElem?_setIfInBounds, hl])), fun q hq => by
      rcases List.mem_append.mp hq with h | h
      · exact D.2.2.1 q h
      · obtain ⟨z, -, hz⟩ := List.mem_map.mp h
        rw [← hz]
        exact hat.1, D.2.2.2⟩ _ hheap X'
  exact ⟨t, step t b1, b2⟩
theorem g_i2fb {index : Nat} {b : Int32} (hlink : Cond.methodLink M.2.2.1 index ⟨"java/lang/Float", "intBitsToFloat", "(I)F"⟩ ∈ gW) (hnat : Cond.native ⟨"java/lang/Float", "intBitsToFloat", "(I)F"⟩ ∈ gW) (hstat : Cond.static ⟨"java/lang/Float", "intBitsToFloat", "(I)F"⟩ ∈ gW) (hini : Cond.initialized "java/lang/Float" ∈ gW) (hdg : decode M.1 pc = .ok (.invokestatic index, 3)) (hv : vn_sni2f b = false) (hf : 1 ≤ M.2.2.2.2.2.2.frames) (hlo : (rest.map fun v => v.category).sum + 15 ≤ M.2.2.2.2.2.2.locals)
    (kk : G E M P sh sz V cu su (pc + 3) L (.float b.toUInt32 :: rest)) : G E M P sh sz V cu su pc L (.int b :: rest) :=
  fun p e s m args below meth c C0 H locs ls D => vn_i2f C0.1 C0.2.1 (by rw [C0.2.2.1]; exact D.1.1.symm) C0.2.2.2.1 (C0.2.2.2.2.1 _ hlink) (C0.2.2.2.2.1 _ hnat) (C0.2.2.2.2.1 _ hstat) (C0.2.2.2.2.1 _ hini) hv hf hlo hdg (kk p e s m args below meth c C0 H locs ls D)
theorem g_f2ib {index : Nat} {b : UInt32} (hlink : Cond.methodLink M.2.2.1 index ⟨"java/lang/Float", "floatToRawIntBits", "(F)I"⟩ ∈ gW) (hnat : Cond.native ⟨"java/lang/Float", "floatToRawIntBits", "(F)I"⟩ ∈ gW) (hstat : Cond.static ⟨"java/lang/Float", "floatToRawIntBits", "(F)I"⟩ ∈ gW) (hini : Cond.initialized "java/lang/Float" ∈ gW) (hdg : decode M.1 pc = .ok (.invokestatic index, 3)) (hf : 1 ≤ M.2.2.2.2.2.2.frames) (hlo : (rest.map fun v => v.category).sum + 15 ≤ M.2.2.2.2.2.2.locals)
    (kk : G E M P sh sz V cu su (pc + 3) L (.int b.toInt32 :: rest)) : G E M P sh sz V cu su pc L (.float b :: rest) :=
  fun p e s m args below meth c C0 H locs ls D => vn_f2i C0.1 C0.2.1 (by rw [C0.2.2.1]; exact D.1.1.symm) C0.2.2.2.1 (C0.2.2.2.2.1 _ hlink) (C0.2.2.2.2.1 _ hnat) (C0.2.2.2.2.1 _ hstat) (C0.2.2.2.2.1 _ hini) hf hlo hdg (kk p e s m args below meth c C0 H locs ls D)
theorem g_d2lb {index : Nat} {b : UInt64} (hlink : Cond.methodLink M.2.2.1 index ⟨"java/lang/Double", "doubleToRawLongBits", "(D)J"⟩ ∈ gW) (hnat : Cond.native ⟨"java/lang/Double", "doubleToRawLongBits", "(D)J"⟩ ∈ gW) (hstat : Cond.static ⟨"java/lang/Double", "doubleToRawLongBits", "(D)J"⟩ ∈ gW) (hini : Cond.initialized "java/lang/Double" ∈ gW) (hdg : decode M.1 pc = .ok (.invokestatic index, 3)) (hf : 1 ≤ M.2.2.2.2.2.2.frames) (hlo : (rest.map fun v => v.category).sum + 15 ≤ M.2.2.2.2.2.2.locals)
    (kk : G E M P sh sz V cu su (pc + 3) L (.long b.toInt64 :: rest)) : G E M P sh sz V cu su pc L (.double b :: rest) :=
  fun p e s m args below meth c C0 H locs ls D => vn_d2l C0.1 C0.2.1 (by rw [C0.2.2.1]; exact D.1.1.symm) C0.2.2.2.1 (C0.2.2.2.2.1 _ hlink) (C0.2.2.2.2.1 _ hnat) (C0.2.2.2.2.1 _ hstat) (C0.2.2.2.2.1 _ hini) hf hlo hdg (kk p e s m args below meth c C0 H locs ls D)
theorem vx_ofWF {l : Launch} {y : MethodName} {ws ws' : List Cond} {rm : Room} {Pc : Array Value → State → Prop} {Qc : Array Value → State → Outcome → State → Prop} {XC : String → State → State → Prop} {mc ms : Nat} {free : Addr → Prop} {cc : ByteArray} {maxL : Nat} {ret : Option FieldType}
    (hy : plainFor y = true) (hw : ws = Cond.code y cc maxL ret :: ws')
    (body : ∀ p e s m args below meth c s₁, BodyLoose p l y (headSpec ws rm) cc maxL ret e s m args below meth c s₁ → c.maxLocals = maxL → (∀ x ∈ c.exceptionTable.toList, False) → Pc args s →
      W p l e (headSpec ws rm).room s m args below meth c s.heap [] 0 0 (vx_MQ below Qc XC args s mc ms free) (entryFrame m args maxL)) : vx_Met l y ws rm Pc Qc XC mc ms free := by
  refine MetFree.of_bodySF (code := cc) (maxLocals := maxL) (ret := ret) hy ?_ ?_
  · intro args s m h hn
    obtain ⟨meth, c, h1, h2, h3, h4, h5, h6, -, -⟩ := Cond.code_spec hn (atoms_spec (ws := ws) h _ (by rw [hw]; exact List.mem_cons_self))
    exact ⟨meth, c, h1, h2, h3, h4, h5, h6⟩
  · intro p e s m args below meth c s₁ B hml hP _
    have hh0 : s₁.heap = s.heap := by rw [B.state]; rfl
    have ht : ∀ x ∈ c.exceptionTable.toList, False := by
      obtain ⟨meth9, c9, h1, h2, -, -, -, -, h7, -⟩ := Cond.code_spec B.named (atoms_spec (ws := ws) B.pre _ (by rw [hw]; exact List.mem_cons_self))
      cases Option.some.inj (h1.symm.trans B.method)
      cases Option.some.inj (h2.symm.trans (Stand.of_body B).code)
      intro x hx
      rw [Array.isEmpty_iff.mp h7] at hx
      cases hx
    obtain ⟨t, a1, o, b1, b2, b3⟩ := body p e s m args below meth c s₁ B hml ht hP s₁ hh0 (Stand.of_body B)
    exact ⟨t, o, a1, b1, b2, b3⟩
theorem MC.ofF {E : gE} {Y : gY} {as : List Value} {sh : Sh} {sz : Nat} {V : Vl} {P : gP} (own nm : String) (hcls : Y.1.cls = own) (hy : plainFor Y.1 = true) (hnm : Y.1.name = nm) (k : Nat) (L : List (Option Value)) (hL : lin as ++ List.replicate k none = L) (hlen : (lg_sl as).length ≤ Y.2.2.1)
    (kk : G E (Y.2.1, Y.2.2.1, own, Y.2.2.2.1, [], nm, Y.2.2.2.2) P sh sz V 0 0 0 L []) : MC E Y as sh sz V P := by
  refine vx_ofWF hy rfl ?_
  intro p e s m args below meth c s₁ B hml ht hv
  obtain ⟨rfl, hK, hR⟩ := hv
  have hl := lv_entry as (n := Y.2.2.1) hlen
  rw [← asc_lin as k 0, hL] at hl
  rw [lg_entry_eq]
  obtain ⟨n1, n2⟩ := name_of_methodNamed B.named B.method
  refine kk p e s m as.toArray below meth c ⟨B.exec, B.bytes, hml, hcls ▸ findClass_of_methodNamed B.named, fun w hw => atoms_spec B.pre w (List.mem_cons_of_mem _ hw), B.returns, B.notSynchronized, List.eq_nil_iff_forall_not_mem.mpr (fun x hx => ht x hx), by rw [n1]; exact hnm, hK, by rw [hR.1]; exact hR.2.1, hR.2.2.1⟩ s.heap [] _ ⟨hl, hR, fun _ h => (nomatch h), by rw [hR.1]; exact Nat.le_refl _⟩
end ROWS3

