/-! an order read -/
section ORDER
variable {E : gE} {M : gM} {P : gP} {sh : Sh} {sz : Nat} {V : Vl} {cu su pc : Nat} {L : List (Option Value)} {rest : List Value} {o n i k : Nat} {tx : Nat → Int32}
theorem bi_dg (tx : Nat → Int32) (n i : Nat) : bi (decide (dg tx n i) = true) = bi (dg tx n i) := bi_iff (by simp)
theorem c_parseTemperature {j : Nat} (h : Pz sh V o tx n i k) (hk : k < 20) (hj : j = if ch tx n i (nI 45) then i + 1 else i) (hP : ∀ V', Ar V V' o k → V' o 2 = .int (nI (nE tx n j)) → V' (o + 3) k = .int (if ch tx n i (nI 45) then -nV tx n j else nV tx n j) → V' (o + 2) = V (o + 2) → P (.inl (some (.int (bi (dg tx n j))))) sh sz V') : MC E YX3_parseTemperature [.ref o] sh sz V P := by
  have s0 := h.1.1.1
  have s3 := h.1.1.2.2.2.1
  have v5 := h.1.2.1.2.2.2.1
  have v3 := h.2.2.1
  have hjn : j ≤ n := by
    rw [hj]
    split
    · rename_i q; exact q.1
    · exact h.2.2.2
  have hne := nE_le (tx := tx) hjn
  refine MC.of RX3 "parseTemperature" rfl (by decide +kernel) rfl 2 [_, none, none] rfl (Nat.le_of_ble_eq_true rfl) ?_
  show G E MX3_parseTemperature _ _ _ _ _ _ _ _ _
  refine g_aload_n dX3_parseTemperature_0 rfl ?_
  refine g_bipush (v := nI 45) dX3_parseTemperature_1 (by decide) ?_
  refine g_callVw (Y := YX3_skip) (Q := (fun v V1 => v = .int (bi (ch tx n i (nI 45))) ∧ V1 = hu V o 2 (.int (nI (if ch tx n i (nI 45) then i + 1 else i))))) sv_X3_42 rfl yn_X3_skip 5 (by decide) rfl rfl dX3_parseTemperature_3 (c_skip h ⟨_, rfl, rfl, rfl, rfl, rfl⟩) s0 rfl rfl rfl (Nat.le_of_ble_eq_true rfl) ⟨rfl, rfl⟩ (fun v V1 q => ?_)
  obtain ⟨rfl, rfl⟩ := q
  rw [← hj]
  refine g_istore_n dX3_parseTemperature_6 (by decide) rfl ?_
  show G _ _ _ _ _ _ _ _ _ [_, _, _] _
  refine g_aload_n dX3_parseTemperature_7 rfl ?_
  refine g_callVw (Y := YX3_parseNumber) (Q := (fun v V1 => v = .int (nV tx n j) ∧ V1 = hu (hu V o 2 (.int (nI j))) o 2 (.int (nI (nE tx n j))))) sv_X3_46 rfl yn_X3_parseNumber 5 (by decide) rfl rfl dX3_parseTemperature_8 (c_parseNumber (h.off hjn) ⟨_, rfl, rfl, rfl, rfl, rfl⟩) s0 rfl rfl rfl (Nat.le_of_ble_eq_true rfl) ⟨rfl, rfl⟩ (fun v V1 q => ?_)
  obtain ⟨rfl, rfl⟩ := q
  rw [hu_hu]
  have a1 : Ar V (hu V o 2 (.int (nI (nE tx n j)))) o k := Ar.rf.off
  have z2 : hu V o 2 (.int (nI (nE tx n j))) o 2 = .int (nI (nE tx n j)) := hu_at _ _ _ _
  have z3 : hu V o 2 (.int (nI (nE tx n j))) (o + 2) = V (o + 2) := hu_ne _ _ _ (by omega)
  generalize hu V o 2 (.int (nI (nE tx n j))) = V1 at a1 z2 z3 ⊢
  have h1 : Pz sh V1 o tx n (nE tx n j) k := h.ar a1 z2 hne
  have w5 := h1.1.2.1.2.2.2.1
  have w3 := h1.2.2.1
  have hend : ∀ x : Int32, x = (if ch tx n i (nI 45) then -nV tx n j else nV tx n j) → G E MX3_parseTemperature P sh sz (hu V1 (o + 3) k (.int x)) 0 0 31 [some (.ref o), some (.int (bi (ch tx n i (nI 45)))), some (.int (nV tx n j))] [] := by
    intro x hx
    have hP := hP (hu V1 (o + 3) k (.int x)) (a1.arr (b := 3) (by decide) (by decide)) ((congrFun (hu_ne _ _ _ (by omega)) 2).trans z2) (by rw [hu_at, hx]) ((hu_ne _ _ _ (by omega)).trans z3)
    refine g_iload_n dX3_parseTemperature_31 rfl ?_
    refine g_if_lt (tgt := 39) dX3_parseTemperature_32 (by decide) (fun b1 => ?_) (fun b1 => ?_)
    · rw [bi_f (p := dg tx n j) (nV_neg.mp b1)] at hP
      refine g_iconst (v := nI 0) dX3_parseTemperature_39 (by decide) ?_
      exact g_iret rfl nz0 dX3_parseTemperature_40 (by decide) hP
    · rw [bi_t (p := dg tx n j) (Classical.byContradiction fun q => absurd (nV_neg.mpr q) b1)] at hP
      refine g_iconst (v := nI 1) dX3_parseTemperature_35 (by decide) ?_
      refine g_jump (tgt := 40) dX3_parseTemperature_36 (by decide) ?_
      exact g_iret rfl nz1 dX3_parseTemperature_40 (by decide) hP
  refine g_istore_n dX3_parseTemperature_11 (by decide) rfl ?_
  show G _ _ _ _ _ _ _ _ _ [_, _, _] _
  refine g_aload_n dX3_parseTemperature_12 rfl ?_
  refine g_get 5 rfl (by decide) inX3 5 (by decide) fl_X3_29 dX3_parseTemperature_13 s0 w5 ?_
  refine g_aload_n dX3_parseTemperature_16 rfl ?_
  refine g_get 5 rfl (by decide) inX3 3 (by decide) fl_X3_22 dX3_parseTemperature_17 s0 w3 ?_
  refine g_iload_n dX3_parseTemperature_20 rfl ?_
  refine g_if_eq (tgt := 29) dX3_parseTemperature_21 (by decide) (fun b2 => ?_) (fun b2 => ?_)
  · have q := bi_eq b2
    refine g_iload_n dX3_parseTemperature_29 rfl ?_
    refine g_iastore dX3_parseTemperature_30 s3 (vp_in_nI hk (by decide)) ?_
    rw [nI_clamp (by omega)]
    exact hend _ (if_neg q).symm
  · have q := bi_ne b2
    refine g_iload_n dX3_parseTemperature_24 rfl ?_
    refine g_ineg dX3_parseTemperature_25 ?_
    refine g_jump (tgt := 30) dX3_parseTemperature_26 (by decide) ?_
    refine g_iastore dX3_parseTemperature_30 s3 (vp_in_nI hk (by decide)) ?_
    rw [nI_clamp (by omega)]
    exact hend _ (if_pos q).symm
/-- a digit read into a row of the orders: b is 3, 4 or 5 -/
theorem c_parseJoin (h : Pz sh V o tx n i k) (hk : k < 20)
    (hP1 : ∀ V' j, Ar V V' o k → V' o 2 = .int (nI j) → V' (o + 2) = V (o + 2) → ((¬ dg tx n i ∧ j = i) ∨ (dg tx n i ∧ ¬ ch tx n (i + 1) (nI 58) ∧ j = i + 1) ∨ (dg tx n i ∧ ch tx n (i + 1) (nI 58) ∧ ¬ dg tx n (i + 2) ∧ j = i + 2) ∨ (dg tx n i ∧ ch tx n (i + 1) (nI 58) ∧ dg tx n (i + 2) ∧ ¬ ch tx n (i + 3) (nI 46) ∧ j = i + 3) ∨ (dg tx n i ∧ ch tx n (i + 1) (nI 58) ∧ dg tx n (i + 2) ∧ ch tx n (i + 3) (nI 46) ∧ ¬ dg tx n (i + 4) ∧ j = i + 4)) → P (.inl (some (.int (nI 0)))) sh sz V')
    (hP2 : ∀ V', Ar V V' o k → V' o 2 = .int (nI (i + 5)) → V' (o + 2) = V (o + 2) → V' (o + 3) k = .int (tx i - nI 48) → V' (o + 4) k = .int (tx (i + 2) - nI 48) → V' (o + 5) k = .int (tx (i + 4) - nI 48) → dg tx n i → ch tx n (i + 1) (nI 58) → dg tx n (i + 2) → ch tx n (i + 3) (nI 46) → dg tx n (i + 4) → P (.inl (some (.int (nI 1)))) sh sz V') : MC E YX3_parseJoin [.ref o] sh sz V P := by
  have s0 := h.1.1.1
  have s3 := h.1.1.2.2.2.1
  have s4 := h.1.1.2.2.2.2.1
  have s5 := h.1.1.2.2.2.2.2
  have hvk := vp_in_nI (n := k) (N := 20) hk (by decide)
  refine MC.of RX3 "parseJoin" rfl (by decide +kernel) rfl 0 [_] rfl (Nat.le_of_ble_eq_true rfl) ?_
  show G E MX3_parseJoin _ _ _ _ _ _ _ _ _
  refine g_aload_n dX3_parseJoin_0 rfl ?_
  refine g_get 5 rfl (by decide) inX3 5 (by decide) fl_X3_29 dX3_parseJoin_1 s0 h.1.2.1.2.2.2.1 ?_
  refine g_aload_n dX3_parseJoin_4 rfl ?_
  refine g_get 5 rfl (by decide) inX3 3 (by decide) fl_X3_22 dX3_parseJoin_5 s0 h.2.2.1 ?_
  refine g_aload_n dX3_parseJoin_8 rfl ?_
  refine g_callVw (Y := YX3_parseDigit) (Q := (fun v V1 => v = .int (dV tx n i) ∧ V1 = hu V o 2 (.int (nI (dE tx n i))))) sv_X3_50 rfl yn_X3_parseDigit 5 (by decide) rfl rfl dX3_parseJoin_9 (c_parseDigit h ⟨_, rfl, rfl, rfl, rfl, rfl⟩) s0 rfl rfl rfl (Nat.le_of_ble_eq_true rfl) ⟨rfl, rfl⟩ (fun v V1 q => ?_)
  obtain ⟨rfl, rfl⟩ := q
  refine g_iastore dX3_parseJoin_12 s3 hvk ?_
  rw [nI_clamp (by omega)]
  have a1 : Ar V (hu (hu V o 2 (.int (nI (dE tx n i)))) (o + 3) k (.int (dV tx n i))) o k := (Ar.rf.off).arr (b := 3) (by decide) (by decide)
  have z1 : hu (hu V o 2 (.int (nI (dE tx n i)))) (o + 3) k (.int (dV tx n i)) o 2 = .int (nI (dE tx n i)) := (congrFun (hu_ne _ _ _ (by omega)) 2).trans (hu_at _ _ _ _)
  have y1 : hu (hu V o 2 (.int (nI (dE tx n i)))) (o + 3) k (.int (dV tx n i)) (o + 3) k = .int (dV tx n i) := hu_at _ _ _ _
  have x1 : hu (hu V o 2 (.int (nI (dE tx n i)))) (o + 3) k (.int (dV tx n i)) (o + 2) = V (o + 2) := (hu_ne _ _ _ (by omega)).trans (hu_ne _ _ _ (by omega))
  generalize hu (hu V o 2 (.int (nI (dE tx n i)))) (o + 3) k (.int (dV tx n i)) = V1 at a1 z1 y1 x1 ⊢
  have h1 : Pz sh V1 o tx n (dE tx n i) k := h.ar a1 z1 (dE_le h.2.2.2)
  refine g_aload_n dX3_parseJoin_13 rfl ?_
  refine g_get 5 rfl (by decide) inX3 5 (by decide) fl_X3_29 dX3_parseJoin_14 s0 h1.1.2.1.2.2.2.1 ?_
  refine g_aload_n dX3_parseJoin_17 rfl ?_
  refine g_get 5 rfl (by decide) inX3 3 (by decide) fl_X3_22 dX3_parseJoin_18 s0 h1.2.2.1 ?_
  refine g_iaload dX3_parseJoin_21 s3 hvk (at_nI (by omega) y1) ?_
  refine g_if_lt (tgt := 34) dX3_parseJoin_22 (by decide) (fun b1 => ?_) (fun b1 => ?_)
  · have q := dV_neg.mp b1
    have hP := hP1 V1 i a1 (by rw [z1]; unfold dE; rw [if_neg q]) x1 (Or.inl ⟨q, rfl⟩)
    refine g_iconst (v := nI 0) dX3_parseJoin_34 (by decide) ?_
    exact g_iret rfl nz0 dX3_parseJoin_35 (by decide) hP
  have q1 : dg tx n i := Classical.byContradiction fun q => absurd (dV_neg.mpr q) b1
  have e1 : dE tx n i = i + 1 := if_pos q1
  have f1 : dV tx n i = tx i - nI 48 := if_pos q1
  rw [e1] at h1 z1
  rw [f1] at y1
  refine g_aload_n dX3_parseJoin_25 rfl ?_
  refine g_bipush (v := nI 58) dX3_parseJoin_26 (by decide) ?_
  refine g_callVw (Y := YX3_skip) (Q := (fun v V2 => v = .int (bi (ch tx n (i + 1) (nI 58))) ∧ V2 = hu V1 o 2 (.int (nI (if ch tx n (i + 1) (nI 58) then i + 1 + 1 else i + 1))))) sv_X3_42 rfl yn_X3_skip 5 (by decide) rfl rfl dX3_parseJoin_28 (c_skip h1 ⟨_, rfl, rfl, rfl, rfl, rfl⟩) s0 rfl rfl rfl (Nat.le_of_ble_eq_true rfl) ⟨rfl, rfl⟩ (fun v V2 q => ?_)
  obtain ⟨rfl, rfl⟩ := q
  refine g_if_ne (tgt := 36) dX3_parseJoin_31 (by decide) (fun b2 => ?_) (fun b2 => ?_)
  · have q2 := bi_ne b2
    rw [if_pos q2]
    have a2 : Ar V (hu V1 o 2 (.int (nI (i + 1 + 1)))) o k := a1.off
    have z2 : hu V1 o 2 (.int (nI (i + 1 + 1))) o 2 = .int (nI (i + 2)) := hu_at _ _ _ _
    have y2 : hu V1 o 2 (.int (nI (i + 1 + 1))) (o + 3) k = .int (tx i - nI 48) := (congrFun (hu_ne _ _ _ (by omega)) k).trans y1
    have x2 : hu V1 o 2 (.int (nI (i + 1 + 1))) (o + 2) = V (o + 2) := (hu_ne _ _ _ (by omega)).trans x1
    generalize hu V1 o 2 (.int (nI (i + 1 + 1))) = V2 at a2 z2 y2 x2 ⊢
    have h2 : Pz sh V2 o tx n (i + 2) k := h.ar a2 z2 q2.1
    refine g_aload_n dX3_parseJoin_36 rfl ?_
    refine g_get 5 rfl (by decide) inX3 6 (by decide) fl_X3_32 dX3_parseJoin_37 s0 h2.1.2.1.2.2.2.2.1 ?_
    refine g_aload_n dX3_parseJoin_40 rfl ?_
    refine g_get 5 rfl (by decide) inX3 3 (by decide) fl_X3_22 dX3_parseJoin_41 s0 h2.2.2.1 ?_
    refine g_aload_n dX3_parseJoin_44 rfl ?_
    refine g_callVw (Y := YX3_parseDigit) (Q := (fun v V1 => v = .int (dV tx n (i + 2)) ∧ V1 = hu V2 o 2 (.int (nI (dE tx n (i + 2)))))) sv_X3_50 rfl yn_X3_parseDigit 5 (by decide) rfl rfl dX3_parseJoin_45 (c_parseDigit h2 ⟨_, rfl, rfl, rfl, rfl, rfl⟩) s0 rfl rfl rfl (Nat.le_of_ble_eq_true rfl) ⟨rfl, rfl⟩ (fun v V1 q => ?_)
    obtain ⟨rfl, rfl⟩ := q
    refine g_iastore dX3_parseJoin_48 s4 hvk ?_
    rw [nI_clamp (by omega)]
    have a3 : Ar V (hu (hu V2 o 2 (.int (nI (dE tx n (i + 2))))) (o + 4) k (.int (dV tx n (i + 2)))) o k := (a2.off).arr (b := 4) (by decide) (by decide)
    have z3 : hu (hu V2 o 2 (.int (nI (dE tx n (i + 2))))) (o + 4) k (.int (dV tx n (i + 2))) o 2 = .int (nI (dE tx n (i + 2))) := (congrFun (hu_ne _ _ _ (by omega)) 2).trans (hu_at _ _ _ _)
    have y3 : hu (hu V2 o 2 (.int (nI (dE tx n (i + 2))))) (o + 4) k (.int (dV tx n (i + 2))) (o + 4) k = .int (dV tx n (i + 2)) := hu_at _ _ _ _
    have y3' : hu (hu V2 o 2 (.int (nI (dE tx n (i + 2))))) (o + 4) k (.int (dV tx n (i + 2))) (o + 3) k = .int (tx i - nI 48) := (congrFun ((hu_ne _ _ _ (by omega)).trans (hu_ne _ _ _ (by omega))) k).trans y2
    have x3 : hu (hu V2 o 2 (.int (nI (dE tx n (i + 2))))) (o + 4) k (.int (dV tx n (i + 2))) (o + 2) = V (o + 2) := ((hu_ne _ _ _ (by omega)).trans (hu_ne _ _ _ (by omega))).trans x2
    generalize hu (hu V2 o 2 (.int (nI (dE tx n (i + 2))))) (o + 4) k (.int (dV tx n (i + 2))) = V3 at a3 z3 y3 y3' x3 ⊢
    have h3 : Pz sh V3 o tx n (dE tx n (i + 2)) k := h.ar a3 z3 (dE_le q2.1)
    refine g_aload_n dX3_parseJoin_49 rfl ?_
    refine g_get 5 rfl (by decide) inX3 6 (by decide) fl_X3_32 dX3_parseJoin_50 s0 h3.1.2.1.2.2.2.2.1 ?_
    refine g_aload_n dX3_parseJoin_53 rfl ?_
    refine g_get 5 rfl (by decide) inX3 3 (by decide) fl_X3_22 dX3_parseJoin_54 s0 h3.2.2.1 ?_
    refine g_iaload dX3_parseJoin_57 s4 hvk (at_nI (by omega) y3) ?_
    refine g_if_lt (tgt := 70) dX3_parseJoin_58 (by decide) (fun b3 => ?_) (fun b3 => ?_)
    · have q := dV_neg.mp b3
      have hP := hP1 V3 (i + 2) a3 (by rw [z3]; unfold dE; rw [if_neg q]) x3 (Or.inr (Or.inr (Or.inl ⟨q1, q2, q, rfl⟩)))
      refine g_iconst (v := nI 0) dX3_parseJoin_70 (by decide) ?_
      exact g_iret rfl nz0 dX3_parseJoin_71 (by decide) hP
    have q3 : dg tx n (i + 2) := Classical.byContradiction fun q => absurd (dV_neg.mpr q) b3
    have e3 : dE tx n (i + 2) = i + 3 := if_pos q3
    have f3 : dV tx n (i + 2) = tx (i + 2) - nI 48 := if_pos q3
    rw [e3] at h3 z3
    rw [f3] at y3
    refine g_aload_n dX3_parseJoin_61 rfl ?_
    refine g_bipush (v := nI 46) dX3_parseJoin_62 (by decide) ?_
    refine g_callVw (Y := YX3_skip) (Q := (fun v V2 => v = .int (bi (ch tx n (i + 3) (nI 46))) ∧ V2 = hu V3 o 2 (.int (nI (if ch tx n (i + 3) (nI 46) then i + 3 + 1 else i + 3))))) sv_X3_42 rfl yn_X3_skip 5 (by decide) rfl rfl dX3_parseJoin_64 (c_skip h3 ⟨_, rfl, rfl, rfl, rfl, rfl⟩) s0 rfl rfl rfl (Nat.le_of_ble_eq_true rfl) ⟨rfl, rfl⟩ (fun v V2 q => ?_)
    obtain ⟨rfl, rfl⟩ := q
    refine g_if_ne (tgt := 72) dX3_parseJoin_67 (by decide) (fun b4 => ?_) (fun b4 => ?_)
    · have q4 := bi_ne b4
      rw [if_pos q4]
      have a4 : Ar V (hu V3 o 2 (.int (nI (i + 3 + 1)))) o k := a3.off
      have z4 : hu V3 o 2 (.int (nI (i + 3 + 1))) o 2 = .int (nI (i + 4)) := hu_at _ _ _ _
      have y4 : hu V3 o 2 (.int (nI (i + 3 + 1))) (o + 3) k = .int (tx i - nI 48) := (congrFun (hu_ne _ _ _ (by omega)) k).trans y3'
      have y4' : hu V3 o 2 (.int (nI (i + 3 + 1))) (o + 4) k = .int (tx (i + 2) - nI 48) := (congrFun (hu_ne _ _ _ (by omega)) k).trans y3
      have x4 : hu V3 o 2 (.int (nI (i + 3 + 1))) (o + 2) = V (o + 2) := (hu_ne _ _ _ (by omega)).trans x3
      generalize hu V3 o 2 (.int (nI (i + 3 + 1))) = V4 at a4 z4 y4 y4' x4 ⊢
      have h4 : Pz sh V4 o tx n (i + 4) k := h.ar a4 z4 q4.1
      refine g_aload_n dX3_parseJoin_72 rfl ?_
      refine g_get 5 rfl (by decide) inX3 7 (by decide) fl_X3_35 dX3_parseJoin_73 s0 h4.1.2.1.2.2.2.2.2 ?_
      refine g_aload_n dX3_parseJoin_76 rfl ?_
      refine g_get 5 rfl (by decide) inX3 3 (by decide) fl_X3_22 dX3_parseJoin_77 s0 h4.2.2.1 ?_
      refine g_aload_n dX3_parseJoin_80 rfl ?_
      refine g_callVw (Y := YX3_parseDigit) (Q := (fun v V1 => v = .int (dV tx n (i + 4)) ∧ V1 = hu V4 o 2 (.int (nI (dE tx n (i + 4)))))) sv_X3_50 rfl yn_X3_parseDigit 5 (by decide) rfl rfl dX3_parseJoin_81 (c_parseDigit h4 ⟨_, rfl, rfl, rfl, rfl, rfl⟩) s0 rfl rfl rfl (Nat.le_of_ble_eq_true rfl) ⟨rfl, rfl⟩ (fun v V1 q => ?_)
      obtain ⟨rfl, rfl⟩ := q
      refine g_iastore dX3_parseJoin_84 s5 hvk ?_
      rw [nI_clamp (by omega)]
      have a5 : Ar V (hu (hu V4 o 2 (.int (nI (dE tx n (i + 4))))) (o + 5) k (.int (dV tx n (i + 4)))) o k := (a4.off).arr (b := 5) (by decide) (by decide)
      have z5 : hu (hu V4 o 2 (.int (nI (dE tx n (i + 4))))) (o + 5) k (.int (dV tx n (i + 4))) o 2 = .int (nI (dE tx n (i + 4))) := (congrFun (hu_ne _ _ _ (by omega)) 2).trans (hu_at _ _ _ _)
      have y5 : hu (hu V4 o 2 (.int (nI (dE tx n (i + 4))))) (o + 5) k (.int (dV tx n (i + 4))) (o + 5) k = .int (dV tx n (i + 4)) := hu_at _ _ _ _
      have y5' : hu (hu V4 o 2 (.int (nI (dE tx n (i + 4))))) (o + 5) k (.int (dV tx n (i + 4))) (o + 3) k = .int (tx i - nI 48) := (congrFun ((hu_ne _ _ _ (by omega)).trans (hu_ne _ _ _ (by omega))) k).trans y4
      have y5'' : hu (hu V4 o 2 (.int (nI (dE tx n (i + 4))))) (o + 5) k (.int (dV tx n (i + 4))) (o + 4) k = .int (tx (i + 2) - nI 48) := (congrFun ((hu_ne _ _ _ (by omega)).trans (hu_ne _ _ _ (by omega))) k).trans y4'
      have x5 : hu (hu V4 o 2 (.int (nI (dE tx n (i + 4))))) (o + 5) k (.int (dV tx n (i + 4))) (o + 2) = V (o + 2) := ((hu_ne _ _ _ (by omega)).trans (hu_ne _ _ _ (by omega))).trans x4
      generalize hu (hu V4 o 2 (.int (nI (dE tx n (i + 4))))) (o + 5) k (.int (dV tx n (i + 4))) = V5 at a5 z5 y5 y5' y5'' x5 ⊢
      have h5 : Pz sh V5 o tx n (dE tx n (i + 4)) k := h.ar a5 z5 (dE_le q4.1)
      refine g_aload_n dX3_parseJoin_85 rfl ?_
      refine g_get 5 rfl (by decide) inX3 7 (by decide) fl_X3_35 dX3_parseJoin_86 s0 h5.1.2.1.2.2.2.2.2 ?_
      refine g_aload_n dX3_parseJoin_89 rfl ?_
      refine g_get 5 rfl (by decide) inX3 3 (by decide) fl_X3_22 dX3_parseJoin_90 s0 h5.2.2.1 ?_
      refine g_iaload dX3_parseJoin_93 s5 hvk (at_nI (by omega) y5) ?_
      refine g_if_lt (tgt := 101) dX3_parseJoin_94 (by decide) (fun b5 => ?_) (fun b5 => ?_)
      · have q := dV_neg.mp b5
        have hP := hP1 V5 (i + 4) a5 (by rw [z5]; unfold dE; rw [if_neg q]) x5 (Or.inr (Or.inr (Or.inr (Or.inr ⟨q1, q2, q3, q4, q, rfl⟩))))
        refine g_iconst (v := nI 0) dX3_parseJoin_101 (by decide) ?_
        exact g_iret rfl nz0 dX3_parseJoin_102 (by decide) hP
      · have q5 : dg tx n (i + 4) := Classical.byContradiction fun q => absurd (dV_neg.mpr q) b5
        have e5 : dE tx n (i + 4) = i + 5 := if_pos q5
        have f5 : dV tx n (i + 4) = tx (i + 4) - nI 48 := if_pos q5
        rw [e5] at z5
        rw [f5] at y5
        have hP := hP2 V5 a5 z5 x5 y5' y5'' y5 q1 q2 q3 q4 q5
        refine g_iconst (v := nI 1) dX3_parseJoin_97 (by decide) ?_
        refine g_jump (tgt := 102) dX3_parseJoin_98 (by decide) ?_
        exact g_iret rfl nz1 dX3_parseJoin_102 (by decide) hP
    · have q := bi_eq b4
      rw [if_neg q]
      have hP := hP1 (hu V3 o 2 (.int (nI (i + 3)))) (i + 3) a3.off (hu_at _ _ _ _) ((hu_ne _ _ _ (by omega)).trans x3) (Or.inr (Or.inr (Or.inr (Or.inl ⟨q1, q2, q3, q, rfl⟩))))
      refine g_iconst (v := nI 0) dX3_parseJoin_70 (by decide) ?_
      exact g_iret rfl nz0 dX3_parseJoin_71 (by decide) hP
  · have q := bi_eq b2
    rw [if_neg q]
    have hP := hP1 (hu V1 o 2 (.int (nI (i + 1)))) (i + 1) a1.off (hu_at _ _ _ _) ((hu_ne _ _ _ (by omega)).trans x1) (Or.inr (Or.inl ⟨q1, q, rfl⟩))
    refine g_iconst (v := nI 0) dX3_parseJoin_34 (by decide) ?_
    exact g_iret rfl nz0 dX3_parseJoin_35 (by decide) hP
end ORDER

