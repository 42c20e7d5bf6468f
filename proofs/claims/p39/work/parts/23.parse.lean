/-! an order, a text read -/
section PARSE
variable {E : gE} {M : gM} {P : gP} {sh : Sh} {sz : Nat} {V : Vl} {cu su pc : Nat} {L : List (Option Value)} {rest : List Value} {o n i k : Nat} {tx : Nat → Int32}
/-- row k of the orders holds the order l a b c -/
def OrdAt (V : Vl) (o k : Nat) (q : Int32 × Int32 × Int32 × Int32) : Prop := V (o + 2) k = .int q.1 ∧ V (o + 3) k = .int q.2.1 ∧ (q.1 = nI 106 → V (o + 4) k = .int q.2.2.1 ∧ V (o + 5) k = .int q.2.2.2)
theorem oK_d {tx : Nat → Int32} {n i : Nat} (h : ch tx n i (nI 100) ∨ ch tx n i (nI 112)) : oK tx n i = (decide (dg tx n (i + 1)), nE tx n (i + 1), (tx i, nV tx n (i + 1), 0, 0)) := if_pos h
theorem oK_s {tx : Nat → Int32} {n i : Nat} (h : ch tx n i (nI 115) ∨ ch tx n i (nI 114)) : oK tx n i = (decide (dg tx n (i + 1)), dE tx n (i + 1), (tx i, dV tx n (i + 1), 0, 0)) := by
  unfold oK
  rw [if_neg, if_pos h]
  rintro (q | q) <;> rcases h with h | h <;> exact absurd (q.2.symm.trans h.2) (by decide)
theorem oK_t {tx : Nat → Int32} {n i : Nat} (h : ch tx n i (nI 116)) : oK tx n i = (if ch tx n (i + 1) (nI 45) then (decide (dg tx n (i + 2)), nE tx n (i + 2), (tx i, -nV tx n (i + 2), 0, 0)) else (decide (dg tx n (i + 1)), nE tx n (i + 1), (tx i, nV tx n (i + 1), 0, 0))) := by
  unfold oK
  rw [if_neg, if_neg, if_pos h]
  · rintro (q | q) <;> exact absurd (q.2.symm.trans h.2) (by decide)
  · rintro (q | q) <;> exact absurd (q.2.symm.trans h.2) (by decide)
theorem oK_j {tx : Nat → Int32} {n i : Nat} (h : ch tx n i (nI 106)) : oK tx n i = (if ¬ dg tx n (i + 1) then (false, i + 1, (0, 0, 0, 0)) else if ¬ ch tx n (i + 2) (nI 58) then (false, i + 2, (0, 0, 0, 0)) else if ¬ dg tx n (i + 3) then (false, i + 3, (0, 0, 0, 0)) else if ¬ ch tx n (i + 4) (nI 46) then (false, i + 4, (0, 0, 0, 0)) else if ¬ dg tx n (i + 5) then (false, i + 5, (0, 0, 0, 0)) else (true, i + 6, (tx i, tx (i + 1) - nI 48, tx (i + 3) - nI 48, tx (i + 5) - nI 48))) := by
  unfold oK
  rw [if_neg, if_neg, if_neg, if_pos h]
  · intro q; exact absurd (q.2.symm.trans h.2) (by decide)
  · rintro (q | q) <;> exact absurd (q.2.symm.trans h.2) (by decide)
  · rintro (q | q) <;> exact absurd (q.2.symm.trans h.2) (by decide)
/-- no letter of an order -/
def noL (c : Int32) : Prop := c ≠ nI 100 ∧ c ≠ nI 112 ∧ c ≠ nI 115 ∧ c ≠ nI 114 ∧ c ≠ nI 116 ∧ c ≠ nI 106
theorem oK_0 {tx : Nat → Int32} {n i : Nat} (h : i < n → noL (tx i)) : oK tx n i = (false, i, (0, 0, 0, 0)) := by
  unfold oK
  rw [if_neg, if_neg, if_neg, if_neg]
  · intro q; exact (h q.1).2.2.2.2.2 q.2
  · intro q; exact (h q.1).2.2.2.2.1 q.2
  · rintro (q | q)
    · exact (h q.1).2.2.1 q.2
    · exact (h q.1).2.2.2.1 q.2
  · rintro (q | q)
    · exact (h q.1).1 q.2
    · exact (h q.1).2.1 q.2
theorem c_parseOrder (h : Pz sh V o tx n i k) (hk : k < 20) (hP : ∀ V', Ar V V' o k → V' o 2 = .int (nI (oK tx n i).2.1) → ((oK tx n i).1 = true → OrdAt V' o k (oK tx n i).2.2) → P (.inl (some (.int (bi ((oK tx n i).1 = true))))) sh sz V') : MC E YX3_parseOrder [.ref o] sh sz V P := by
  have hn := h.1.2.2.1
  have hin := h.2.2.2
  have s0 := h.1.1.1
  have s1 := h.1.1.2.1
  have s2 := h.1.1.2.2.1
  have s3 := h.1.1.2.2.2.1
  have hvk := vp_in_nI (n := k) (N := 20) hk (by decide)
  refine MC.of RX3 "parseOrder" rfl (by decide +kernel) rfl 1 [_, none] rfl (Nat.le_of_ble_eq_true rfl) ?_
  show G E MX3_parseOrder _ _ _ _ _ _ _ _ _
  have K : ∀ c : Int32, c = (if i < n then tx i else nI 32) → G E MX3_parseOrder P sh sz V 0 0 25 [some (.ref o), none] [.int c] := by
    intro c hc
    refine g_istore_n dX3_parseOrder_25 (by decide) rfl ?_
    show G _ _ _ _ _ _ _ _ _ [_, _] _
    refine g_aload_n dX3_parseOrder_26 rfl ?_
    refine g_get 5 rfl (by decide) inX3 4 (by decide) fl_X3_25 dX3_parseOrder_27 s0 h.1.2.1.2.2.1 ?_
    refine g_aload_n dX3_parseOrder_30 rfl ?_
    refine g_get 5 rfl (by decide) inX3 3 (by decide) fl_X3_22 dX3_parseOrder_31 s0 h.2.2.1 ?_
    refine g_iload_n dX3_parseOrder_34 rfl ?_
    refine g_iastore dX3_parseOrder_35 s2 hvk ?_
    rw [nI_clamp (by omega)]
    have a1 : Ar V (hu V (o + 2) k (.int c)) o k := Ar.rf.arr (b := 2) (by decide) (by decide)
    have y1 : hu V (o + 2) k (.int c) (o + 2) k = .int c := hu_at _ _ _ _
    have z1 : hu V (o + 2) k (.int c) o 2 = .int (nI i) := (congrFun (hu_ne _ _ _ (by omega)) 2).trans h.2.1
    generalize hu V (o + 2) k (.int c) = V1 at a1 y1 z1 ⊢
    have h1 : Pz sh V1 o tx n i k := h.ar a1 z1 hin
    have hlet : ∀ l : Int32, c = l → l ≠ nI 32 → i < n ∧ tx i = l ∧ c = tx i := fun l e1 e2 => by
      by_cases q : i < n
      · rw [if_pos q] at hc
        exact ⟨q, hc.symm.trans e1, hc⟩
      · rw [if_neg q] at hc
        exact absurd (e1.symm.trans hc) e2
    have hoff : Pz sh (hu V1 o 2 (.int (nI i + nI 1))) o tx n i k → True := fun _ => trivial
    have hdef : noL c → G E MX3_parseOrder P sh sz V1 0 0 232 [some (.ref o), some (.int c)] [] := by
      intro hno
      have e := oK_0 (tx := tx) (n := n) (i := i) (fun q => by rw [if_pos q] at hc; rw [← hc]; exact hno)
      rw [e] at hP
      have hP : P (.inl (some (.int (nI 0)))) sh sz V1 := bi_f (p := false = true) (by decide) ▸ hP V1 a1 z1 (fun q => nomatch q)
      refine g_iconst (v := nI 0) dX3_parseOrder_232 (by decide) ?_
      exact g_iret rfl nz0 dX3_parseOrder_233 (by decide) hP
    have hd : (ch tx n i (nI 100) ∨ ch tx n i (nI 112)) → G E MX3_parseOrder P sh sz V1 0 0 120 [some (.ref o), some (.int c)] [] := by
      intro hl
      have hlt : i < n := by rcases hl with q | q <;> exact q.1
      have hct : c = tx i := by rw [if_pos hlt] at hc; exact hc
      rw [oK_d hl] at hP
      refine g_aload_n dX3_parseOrder_120 rfl ?_
      refine g_dup dX3_parseOrder_121 rfl ?_
      refine g_get 5 rfl (by decide) inX3 2 (by decide) fl_X3_19 dX3_parseOrder_122 s0 z1 ?_
      refine g_iconst (v := nI 1) dX3_parseOrder_125 (by decide) ?_
      refine g_iadd dX3_parseOrder_126 ?_
      rw [nI_add]
      refine g_put 5 rfl (by decide) inX3 tyX3 tyX3_ok nmX3 2 (by decide) fl_X3_19 rfl dX3_parseOrder_127 s0 rfl rfl ?_
      have h2 := h1.off (j := i + 1) hlt
      refine g_aload_n dX3_parseOrder_130 rfl ?_
      refine g_get 5 rfl (by decide) inX3 5 (by decide) fl_X3_29 dX3_parseOrder_131 s0 h2.1.2.1.2.2.2.1 ?_
      refine g_aload_n dX3_parseOrder_134 rfl ?_
      refine g_get 5 rfl (by decide) inX3 3 (by decide) fl_X3_22 dX3_parseOrder_135 s0 h2.2.2.1 ?_
      refine g_aload_n dX3_parseOrder_138 rfl ?_
      refine g_callVw (Y := YX3_parseNumber) (Q := (fun v V2 => v = .int (nV tx n (i + 1)) ∧ V2 = hu (hu V1 o 2 (.int (nI (i + 1)))) o 2 (.int (nI (nE tx n (i + 1)))))) sv_X3_46 rfl yn_X3_parseNumber 5 (by decide) rfl rfl dX3_parseOrder_139 (c_parseNumber h2 ⟨_, rfl, rfl, rfl, rfl, rfl⟩) s0 rfl rfl rfl (Nat.le_of_ble_eq_true rfl) ⟨rfl, rfl⟩ (fun v V2 q => ?_)
      obtain ⟨rfl, rfl⟩ := q
      rw [hu_hu]
      refine g_iastore dX3_parseOrder_142 s3 hvk ?_
      rw [nI_clamp (by omega)]
      have a3 : Ar V (hu (hu V1 o 2 (.int (nI (nE tx n (i + 1))))) (o + 3) k (.int (nV tx n (i + 1)))) o k := (a1.off).arr (b := 3) (by decide) (by decide)
      have z3 : hu (hu V1 o 2 (.int (nI (nE tx n (i + 1))))) (o + 3) k (.int (nV tx n (i + 1))) o 2 = .int (nI (nE tx n (i + 1))) := (congrFun (hu_ne _ _ _ (by omega)) 2).trans (hu_at _ _ _ _)
      have y3 : hu (hu V1 o 2 (.int (nI (nE tx n (i + 1))))) (o + 3) k (.int (nV tx n (i + 1))) (o + 3) k = .int (nV tx n (i + 1)) := hu_at _ _ _ _
      have x3 : hu (hu V1 o 2 (.int (nI (nE tx n (i + 1))))) (o + 3) k (.int (nV tx n (i + 1))) (o + 2) k = .int c := (congrFun ((hu_ne _ _ _ (by omega)).trans (hu_ne _ _ _ (by omega))) k).trans y1
      generalize hu (hu V1 o 2 (.int (nI (nE tx n (i + 1))))) (o + 3) k (.int (nV tx n (i + 1))) = V3 at a3 z3 y3 x3 ⊢
      have h3 : Pz sh V3 o tx n (nE tx n (i + 1)) k := h.ar a3 z3 (nE_le hlt)
      have hP := hP V3 a3 z3 (fun _ => ⟨by rw [x3, hct], y3, fun q => by rcases hl with w | w <;> exact absurd (w.2.symm.trans q) (by decide)⟩)
      rw [bi_dg] at hP
      refine g_aload_n dX3_parseOrder_143 rfl ?_
      refine g_get 5 rfl (by decide) inX3 5 (by decide) fl_X3_29 dX3_parseOrder_144 s0 h3.1.2.1.2.2.2.1 ?_
      refine g_aload_n dX3_parseOrder_147 rfl ?_
      refine g_get 5 rfl (by decide) inX3 3 (by decide) fl_X3_22 dX3_parseOrder_148 s0 h3.2.2.1 ?_
      refine g_iaload dX3_parseOrder_151 s3 hvk (at_nI (by omega) y3) ?_
      refine g_if_lt (tgt := 159) dX3_parseOrder_152 (by decide) (fun b1 => ?_) (fun b1 => ?_)
      · rw [bi_f (p := dg tx n (i + 1)) (nV_neg.mp b1)] at hP
        refine g_iconst (v := nI 0) dX3_parseOrder_159 (by decide) ?_
        exact g_iret rfl nz0 dX3_parseOrder_160 (by decide) hP
      · rw [bi_t (p := dg tx n (i + 1)) (Classical.byContradiction fun q => absurd (nV_neg.mpr q) b1)] at hP
        refine g_iconst (v := nI 1) dX3_parseOrder_155 (by decide) ?_
        refine g_jump (tgt := 160) dX3_parseOrder_156 (by decide) ?_
        exact g_iret rfl nz1 dX3_parseOrder_160 (by decide) hP
    have hs : (ch tx n i (nI 115) ∨ ch tx n i (nI 114)) → G E MX3_parseOrder P sh sz V1 0 0 161 [some (.ref o), some (.int c)] [] := by
      intro hl
      have hlt : i < n := by rcases hl with q | q <;> exact q.1
      have hct : c = tx i := by rw [if_pos hlt] at hc; exact hc
      rw [oK_s hl] at hP
      refine g_aload_n dX3_parseOrder_161 rfl ?_
      refine g_dup dX3_parseOrder_162 rfl ?_
      refine g_get 5 rfl (by decide) inX3 2 (by decide) fl_X3_19 dX3_parseOrder_163 s0 z1 ?_
      refine g_iconst (v := nI 1) dX3_parseOrder_166 (by decide) ?_
      refine g_iadd dX3_parseOrder_167 ?_
      rw [nI_add]
      refine g_put 5 rfl (by decide) inX3 tyX3 tyX3_ok nmX3 2 (by decide) fl_X3_19 rfl dX3_parseOrder_168 s0 rfl rfl ?_
      have h2 := h1.off (j := i + 1) hlt
      refine g_aload_n dX3_parseOrder_171 rfl ?_
      refine g_get 5 rfl (by decide) inX3 5 (by decide) fl_X3_29 dX3_parseOrder_172 s0 h2.1.2.1.2.2.2.1 ?_
      refine g_aload_n dX3_parseOrder_175 rfl ?_
      refine g_get 5 rfl (by decide) inX3 3 (by decide) fl_X3_22 dX3_parseOrder_176 s0 h2.2.2.1 ?_
      refine g_aload_n dX3_parseOrder_179 rfl ?_
      refine g_callVw (Y := YX3_parseDigit) (Q := (fun v V2 => v = .int (dV tx n (i + 1)) ∧ V2 = hu (hu V1 o 2 (.int (nI (i + 1)))) o 2 (.int (nI (dE tx n (i + 1)))))) sv_X3_50 rfl yn_X3_parseDigit 5 (by decide) rfl rfl dX3_parseOrder_180 (c_parseDigit h2 ⟨_, rfl, rfl, rfl, rfl, rfl⟩) s0 rfl rfl rfl (Nat.le_of_ble_eq_true rfl) ⟨rfl, rfl⟩ (fun v V2 q => ?_)
      obtain ⟨rfl, rfl⟩ := q
      rw [hu_hu]
      refine g_iastore dX3_parseOrder_183 s3 hvk ?_
      rw [nI_clamp (by omega)]
      have a3 : Ar V (hu (hu V1 o 2 (.int (nI (dE tx n (i + 1))))) (o + 3) k (.int (dV tx n (i + 1)))) o k := (a1.off).arr (b := 3) (by decide) (by decide)
      have z3 : hu (hu V1 o 2 (.int (nI (dE tx n (i + 1))))) (o + 3) k (.int (dV tx n (i + 1))) o 2 = .int (nI (dE tx n (i + 1))) := (congrFun (hu_ne _ _ _ (by omega)) 2).trans (hu_at _ _ _ _)
      have y3 : hu (hu V1 o 2 (.int (nI (dE tx n (i + 1))))) (o + 3) k (.int (dV tx n (i + 1))) (o + 3) k = .int (dV tx n (i + 1)) := hu_at _ _ _ _
      have x3 : hu (hu V1 o 2 (.int (nI (dE tx n (i + 1))))) (o + 3) k (.int (dV tx n (i + 1))) (o + 2) k = .int c := (congrFun ((hu_ne _ _ _ (by omega)).trans (hu_ne _ _ _ (by omega))) k).trans y1
      generalize hu (hu V1 o 2 (.int (nI (dE tx n (i + 1))))) (o + 3) k (.int (dV tx n (i + 1))) = V3 at a3 z3 y3 x3 ⊢
      have h3 : Pz sh V3 o tx n (dE tx n (i + 1)) k := h.ar a3 z3 (dE_le hlt)
      have hP := hP V3 a3 z3 (fun _ => ⟨by rw [x3, hct], y3, fun q => by rcases hl with w | w <;> exact absurd (w.2.symm.trans q) (by decide)⟩)
      rw [bi_dg] at hP
      refine g_aload_n dX3_parseOrder_184 rfl ?_
      refine g_get 5 rfl (by decide) inX3 5 (by decide) fl_X3_29 dX3_parseOrder_185 s0 h3.1.2.1.2.2.2.1 ?_
      refine g_aload_n dX3_parseOrder_188 rfl ?_
      refine g_get 5 rfl (by decide) inX3 3 (by decide) fl_X3_22 dX3_parseOrder_189 s0 h3.2.2.1 ?_
      refine g_iaload dX3_parseOrder_192 s3 hvk (at_nI (by omega) y3) ?_
      refine g_if_lt (tgt := 200) dX3_parseOrder_193 (by decide) (fun b1 => ?_) (fun b1 => ?_)
      · rw [bi_f (p := dg tx n (i + 1)) (dV_neg.mp b1)] at hP
        refine g_iconst (v := nI 0) dX3_parseOrder_200 (by decide) ?_
        exact g_iret rfl nz0 dX3_parseOrder_201 (by decide) hP
      · rw [bi_t (p := dg tx n (i + 1)) (Classical.byContradiction fun q => absurd (dV_neg.mpr q) b1)] at hP
        refine g_iconst (v := nI 1) dX3_parseOrder_196 (by decide) ?_
        refine g_jump (tgt := 201) dX3_parseOrder_197 (by decide) ?_
        exact g_iret rfl nz1 dX3_parseOrder_201 (by decide) hP
    have ht : ch tx n i (nI 116) → G E MX3_parseOrder P sh sz V1 0 0 202 [some (.ref o), some (.int c)] [] := by
      intro hl
      have hlt := hl.1
      have hct : c = tx i := by rw [if_pos hlt] at hc; exact hc
      rw [oK_t hl] at hP
      refine g_aload_n dX3_parseOrder_202 rfl ?_
      refine g_dup dX3_parseOrder_203 rfl ?_
      refine g_get 5 rfl (by decide) inX3 2 (by decide) fl_X3_19 dX3_parseOrder_204 s0 z1 ?_
      refine g_iconst (v := nI 1) dX3_parseOrder_207 (by decide) ?_
      refine g_iadd dX3_parseOrder_208 ?_
      rw [nI_add]
      refine g_put 5 rfl (by decide) inX3 tyX3 tyX3_ok nmX3 2 (by decide) fl_X3_19 rfl dX3_parseOrder_209 s0 rfl rfl ?_
      have h2 := h1.off (j := i + 1) hlt
      have a2 : Ar V (hu V1 o 2 (.int (nI (i + 1)))) o k := a1.off
      have x2 : hu V1 o 2 (.int (nI (i + 1))) (o + 2) k = .int c := (congrFun (hu_ne _ _ _ (by omega)) k).trans y1
      generalize hu V1 o 2 (.int (nI (i + 1))) = V2 at h2 a2 x2 ⊢
      refine g_aload_n dX3_parseOrder_212 rfl ?_
      refine g_callVw (Y := YX3_parseTemperature) sv_X3_53 rfl yn_X3_parseTemperature 5 (by decide) rfl rfl dX3_parseOrder_213 (c_parseTemperature (P := pW (fun v V3 => v = .int (bi (dg tx n (if ch tx n (i + 1) (nI 45) then i + 1 + 1 else i + 1))) ∧ Ar V2 V3 o k ∧ V3 o 2 = .int (nI (nE tx n (if ch tx n (i + 1) (nI 45) then i + 1 + 1 else i + 1))) ∧ V3 (o + 3) k = .int (if ch tx n (i + 1) (nI 45) then -nV tx n (if ch tx n (i + 1) (nI 45) then i + 1 + 1 else i + 1) else nV tx n (if ch tx n (i + 1) (nI 45) then i + 1 + 1 else i + 1)) ∧ V3 (o + 2) = V2 (o + 2)) sh sz) h2 hk rfl (fun V3 q1 q2 q3 q4 => ⟨_, rfl, rfl, rfl, rfl, q1, q2, q3, q4⟩)) s0 rfl rfl rfl (Nat.le_of_ble_eq_true rfl) ⟨rfl, rfl⟩ (fun v V3 q => ?_)
      obtain ⟨rfl, q1, q2, q3, q4⟩ := q
      have a3 : Ar V V3 o k := ⟨fun a ha => (q1.1 a ha).trans (a2.1 a ha), fun j hj => by
        obtain ⟨w1, w2, w3, w4⟩ := q1.2.1 j hj
        obtain ⟨u1, u2, u3, u4⟩ := a2.2.1 j hj
        exact ⟨w1.trans u1, w2.trans u2, w3.trans u3, w4.trans u4⟩, fun s hs => (q1.2.2.1 s hs).trans (a2.2.2.1 s hs), q1.2.2.2.trans a2.2.2.2⟩
      have x3 : V3 (o + 2) k = .int c := (congrFun q4 k).trans x2
      have hnj : ∀ P : Prop, tx i = nI 106 → P := fun P q => absurd (hl.2.symm.trans q) (by decide)
      by_cases w : ch tx n (i + 1) (nI 45)
      · rw [if_pos w] at hP q2 q3 ⊢
        rw [if_pos w] at q3
        have hP := hP V3 a3 q2 (fun _ => ⟨by rw [x3, hct], q3, fun q => hnj _ q⟩)
        rw [bi_dg] at hP
        exact g_iret rfl (bi_nar _) dX3_parseOrder_216 (by decide) hP
      · rw [if_neg w] at hP q2 q3 ⊢
        rw [if_neg w] at q3
        have hP := hP V3 a3 q2 (fun _ => ⟨by rw [x3, hct], q3, fun q => hnj _ q⟩)
        rw [bi_dg] at hP
        exact g_iret rfl (bi_nar _) dX3_parseOrder_216 (by decide) hP
    have hj : ch tx n i (nI 106) → G E MX3_parseOrder P sh sz V1 0 0 217 [some (.ref o), some (.int c)] [] := by
      intro hl
      have hlt := hl.1
      have hct : c = tx i := by rw [if_pos hlt] at hc; exact hc
      rw [oK_j hl] at hP
      refine g_aload_n dX3_parseOrder_217 rfl ?_
      refine g_dup dX3_parseOrder_218 rfl ?_
      refine g_get 5 rfl (by decide) inX3 2 (by decide) fl_X3_19 dX3_parseOrder_219 s0 z1 ?_
      refine g_iconst (v := nI 1) dX3_parseOrder_222 (by decide) ?_
      refine g_iadd dX3_parseOrder_223 ?_
      rw [nI_add]
      refine g_put 5 rfl (by decide) inX3 tyX3 tyX3_ok nmX3 2 (by decide) fl_X3_19 rfl dX3_parseOrder_224 s0 rfl rfl ?_
      have h2 := h1.off (j := i + 1) hlt
      have a2 : Ar V (hu V1 o 2 (.int (nI (i + 1)))) o k := a1.off
      have x2 : hu V1 o 2 (.int (nI (i + 1))) (o + 2) k = .int c := (congrFun (hu_ne _ _ _ (by omega)) k).trans y1
      generalize hu V1 o 2 (.int (nI (i + 1))) = V2 at h2 a2 x2 ⊢
      have a3 : ∀ V3, Ar V2 V3 o k → Ar V V3 o k := fun V3 q1 => ⟨fun a ha => (q1.1 a ha).trans (a2.1 a ha), fun j hj => by
        obtain ⟨w1, w2, w3, w4⟩ := q1.2.1 j hj
        obtain ⟨u1, u2, u3, u4⟩ := a2.2.1 j hj
        exact ⟨w1.trans u1, w2.trans u2, w3.trans u3, w4.trans u4⟩, fun s hs => (q1.2.2.1 s hs).trans (a2.2.2.1 s hs), q1.2.2.2.trans a2.2.2.2⟩
      refine g_aload_n dX3_parseOrder_227 rfl ?_
      refine g_callVw (Y := YX3_parseJoin) sv_X3_56 rfl yn_X3_parseJoin 5 (by decide) rfl rfl dX3_parseOrder_228 (c_parseJoin (P := pW (fun v V3 => ∃ b : Int32, v = .int b ∧ (b = nI 0 ∨ b = nI 1) ∧ P (.inl (some (.int b))) sh sz V3) sh sz) h2 hk (fun V3 j q1 q2 q3 q4 => ⟨_, rfl, rfl, rfl, _, rfl, Or.inl rfl, ?_⟩) (fun V3 q1 q2 q3 q4 q5 q6 w1 w2 w3 w4 w5 => ⟨_, rfl, rfl, rfl, _, rfl, Or.inr rfl, ?_⟩)) s0 rfl rfl rfl (Nat.le_of_ble_eq_true rfl) ⟨rfl, rfl⟩ (fun v V3 q => ?_)
      · have hP := hP V3 (a3 V3 q1)
        rcases q4 with ⟨w1, rfl⟩ | ⟨w1, w2, rfl⟩ | ⟨w1, w2, w3, rfl⟩ | ⟨w1, w2, w3, w4, rfl⟩ | ⟨w1, w2, w3, w4, w5, rfl⟩
        · rw [if_pos w1] at hP
          exact bi_f (p := false = true) (by decide) ▸ hP q2 (fun q => nomatch q)
        · rw [if_neg (fun z => z w1), if_pos w2] at hP
          exact bi_f (p := false = true) (by decide) ▸ hP q2 (fun q => nomatch q)
        · rw [if_neg (fun z => z w1), if_neg (fun z => z w2), if_pos w3] at hP
          exact bi_f (p := false = true) (by decide) ▸ hP q2 (fun q => nomatch q)
        · rw [if_neg (fun z => z w1), if_neg (fun z => z w2), if_neg (fun z => z w3), if_pos w4] at hP
          exact bi_f (p := false = true) (by decide) ▸ hP q2 (fun q => nomatch q)
        · rw [if_neg (fun z => z w1), if_neg (fun z => z w2), if_neg (fun z => z w3), if_neg (fun z => z w4), if_pos w5] at hP
          exact bi_f (p := false = true) (by decide) ▸ hP q2 (fun q => nomatch q)
      · have hP := hP V3 (a3 V3 q1)
        rw [if_neg (fun z => z w1), if_neg (fun z => z w2), if_neg (fun z => z w3), if_neg (fun z => z w4), if_neg (fun z => z w5)] at hP
        exact bi_t (p := true = true) rfl ▸ hP q2 (fun _ => ⟨by rw [q3, x2, hct], q4, fun _ => ⟨q5, q6⟩⟩)
      · obtain ⟨b, rfl, hb, hPb⟩ := q
        exact g_iret rfl (by rcases hb with rfl | rfl <;> rfl) dX3_parseOrder_231 (by decide) hPb
    refine g_iload_n dX3_parseOrder_36 rfl ?_
    by_cases c1 : c = nI 100
    · obtain ⟨q1, q2, q3⟩ := hlet _ c1 (by decide)
      rw [c1]
      refine g_tableIn (off := 83) (tgt := 120) dX3_parseOrder_37 (by decide) (by decide) (by decide +kernel) (by decide) ?_
      rw [← c1]
      exact hd (Or.inl ⟨q1, q2⟩)
    by_cases c2 : c = nI 112
    · obtain ⟨q1, q2, q3⟩ := hlet _ c2 (by decide)
      rw [c2]
      refine g_tableIn (off := 83) (tgt := 120) dX3_parseOrder_37 (by decide) (by decide) (by decide +kernel) (by decide) ?_
      rw [← c2]
      exact hd (Or.inr ⟨q1, q2⟩)
    by_cases c3 : c = nI 115
    · obtain ⟨q1, q2, q3⟩ := hlet _ c3 (by decide)
      rw [c3]
      refine g_tableIn (off := 124) (tgt := 161) dX3_parseOrder_37 (by decide) (by decide) (by decide +kernel) (by decide) ?_
      rw [← c3]
      exact hs (Or.inl ⟨q1, q2⟩)
    by_cases c4 : c = nI 114
    · obtain ⟨q1, q2, q3⟩ := hlet _ c4 (by decide)
      rw [c4]
      refine g_tableIn (off := 124) (tgt := 161) dX3_parseOrder_37 (by decide) (by decide) (by decide +kernel) (by decide) ?_
      rw [← c4]
      exact hs (Or.inr ⟨q1, q2⟩)
    by_cases c5 : c = nI 116
    · obtain ⟨q1, q2, q3⟩ := hlet _ c5 (by decide)
      rw [c5]
      refine g_tableIn (off := 165) (tgt := 202) dX3_parseOrder_37 (by decide) (by decide) (by decide +kernel) (by decide) ?_
      rw [← c5]
      exact ht ⟨q1, q2⟩
    by_cases c6 : c = nI 106
    · obtain ⟨q1, q2, q3⟩ := hlet _ c6 (by decide)
      rw [c6]
      refine g_tableIn (off := 180) (tgt := 217) dX3_parseOrder_37 (by decide) (by decide) (by decide +kernel) (by decide) ?_
      rw [← c6]
      exact hj ⟨q1, q2⟩
    have hno : noL c := ⟨c1, c2, c3, c4, c5, c6⟩
    have hdef := hdef hno
    by_cases r1 : c.toInt < 100 ∨ 116 < c.toInt
    · refine g_tableOut (tgt := 232) dX3_parseOrder_37 r1 (by decide) ?_
      exact hdef
    · clear hlet hoff hd hs ht hj hc
      have hcc : ∃ m, m < 17 ∧ c = nI (100 + m) := ⟨(c.toInt - 100).toNat, by omega, by
        rw [fa_eq, nI_toInt (by omega)]
        omega⟩
      obtain ⟨m, hm, rfl⟩ := hcc
      rcases (show m = 1 ∨ m = 2 ∨ m = 3 ∨ m = 4 ∨ m = 5 ∨ m = 7 ∨ m = 8 ∨ m = 9 ∨ m = 10 ∨ m = 11 ∨ m = 13 by
        have n0 : m ≠ 0 := fun e => c1 (by rw [e])
        have n12 : m ≠ 12 := fun e => c2 (by rw [e])
        have n15 : m ≠ 15 := fun e => c3 (by rw [e])
        have n14 : m ≠ 14 := fun e => c4 (by rw [e])
        have n16 : m ≠ 16 := fun e => c5 (by rw [e])
        have n6 : m ≠ 6 := fun e => c6 (by rw [e])
        omega) with rfl | rfl | rfl | rfl | rfl | rfl | rfl | rfl | rfl | rfl | rfl
      all_goals exact g_tableIn (off := 195) (tgt := 232) dX3_parseOrder_37 (by decide) (by decide) (by decide +kernel) (by decide) hdef
  refine g_aload_n dX3_parseOrder_0 rfl ?_
  refine g_get 5 rfl (by decide) inX3 2 (by decide) fl_X3_19 dX3_parseOrder_1 s0 h.2.1 ?_
  refine g_aload_n dX3_parseOrder_4 rfl ?_
  refine g_get 5 rfl (by decide) inX3 1 (by decide) fl_X3_15 dX3_parseOrder_5 s0 h.1.2.1.2.1 ?_
  refine g_icmp_ge (tgt := 23) dX3_parseOrder_8 (by decide) (fun b1 => ?_) (fun b1 => ?_)
  · rw [nI_leI (by omega) (by omega)] at b1
    refine g_bipush (v := nI 32) dX3_parseOrder_23 (by decide) ?_
    exact K _ (if_neg (by omega)).symm
  · rw [nI_leI (by omega) (by omega)] at b1
    refine g_aload_n dX3_parseOrder_11 rfl ?_
    refine g_get 5 rfl (by decide) inX3 0 (by decide) fl_X3_9 dX3_parseOrder_12 s0 h.1.2.1.1 ?_
    refine g_aload_n dX3_parseOrder_15 rfl ?_
    refine g_get 5 rfl (by decide) inX3 2 (by decide) fl_X3_19 dX3_parseOrder_16 s0 h.2.1 ?_
    refine g_caload dX3_parseOrder_19 s1 (vp_in_nI (by omega) (by decide)) (h.chr (by omega)) ?_
    refine g_jump (tgt := 25) dX3_parseOrder_20 (by decide) ?_
    exact K _ (if_pos (by omega)).symm
end PARSE

