/-! small methods: Truck, Convoy, Mile, and the plain functions of IceConvoys -/
section LEAF
theorem lv_ldcfw {p : Program} {l : Launch} {e : Env} {R : Room} {s : State} {m : MethodId} {args : Array Value} {below : List Frame} {meth : Method} {c : Code} {H : Heap} {locs : List Loc} {cells slots : Nat} {Q : State → Prop} {cc : ByteArray} {pc : Nat} {ls : Array Slot} {rest : List Value} (hexec : p.tables.exec = Jvm.exec) (hb : c.code = cc) {own : String} {index : Nat} {v : UInt32} (hown : s.vm.findClass own = some m.cls) (hconst : (Jvm.Cond.constantFloat own index v).before args s = true) (hdg : decode cc pc = .ok (.ldc_w index, 3)) (k : W p l e R s m args below meth c H locs cells slots Q (F0 m (pc + 3) ls (.float v :: rest))) : W p l e R s m args below meth c H locs cells slots Q (F0 m pc ls rest) := by
  intro T hT X
  obtain ⟨t, a, b⟩ := k T hT X
  obtain ⟨k, cf, hk, hcf, hcp⟩ := Cond.constantFloat_spec hown hconst
  obtain ⟨k', hk', he⟩ := X.warmed.alike.2.2 _ _ hk
  refine ⟨t, ?_, b⟩
  subst hb
  jvm_step X.here [hexec, hdg, ldc_w.wp_float (s := T) (f := F0 m pc ls rest) X.here.top hk' (by rw [he]; exact hcf) hcp]
  exact a
variable {E : gE} {M : gM} {P : gP} {sh : Sh} {sz : Nat} {V : Vl} {cu su pc : Nat} {L : List (Option Value)} {rest : List Value}
theorem g_ldcfw {index : Nat} {v : UInt32} (hc : Cond.constantFloat M.2.2.1 index v ∈ gW) (hdg : decode M.1 pc = .ok (.ldc_w index, 3)) (k : G E M P sh sz V cu su (pc + 3) L (.float v :: rest)) : G E M P sh sz V cu su pc L rest :=
  fun p e s m args below meth c C H locs ls D => lv_ldcfw C.1 C.2.1 C.2.2.2.1 (C.2.2.2.2.1 _ hc) hdg (k p e s m args below meth c C H locs ls D)
theorem pR_ok {v : Option Value} : pR v sh sz V (.inl v) sh sz V := ⟨rfl, rfl, rfl, rfl⟩
/-- a mile that there is -/
abbrev isM (x : Int32) : Prop := 0 ≤ x ∧ x < nI 12
theorem c_isMile {x : Int32} (hP : P (.inl (some (.int (bi (isM x))))) sh sz V) : MC E YX6_isMile [.int x] sh sz V P := by
  refine MC.of RX6 "isMile" rfl (by decide +kernel) rfl 0 [_] rfl (Nat.le_of_ble_eq_true rfl) ?_
  show G E MX6_isMile _ _ _ _ _ _ _ _ _
  refine g_iload_n dX6_isMile_0 rfl ?_
  refine g_if_lt (tgt := 14) dX6_isMile_1 (by decide) (fun h => ?_) (fun h => ?_)
  · rw [bi_f (p := isM x) (fun q => absurd q.1 (Int32.not_le.mpr h))] at hP
    refine g_iconst (v := nI 0) dX6_isMile_14 (by decide) ?_
    exact g_iret rfl nz0 dX6_isMile_15 (by decide) hP
  refine g_iload_n dX6_isMile_4 rfl ?_
  refine g_bipush (v := nI 12) dX6_isMile_5 (by decide) ?_
  refine g_icmp_ge (tgt := 14) dX6_isMile_7 (by decide) (fun h2 => ?_) (fun h2 => ?_)
  · rw [bi_f (p := isM x) (fun q => absurd q.2 (Int32.not_lt.mpr h2))] at hP
    refine g_iconst (v := nI 0) dX6_isMile_14 (by decide) ?_
    exact g_iret rfl nz0 dX6_isMile_15 (by decide) hP
  · rw [bi_t (p := isM x) ⟨Int32.not_lt.mp h, Int32.not_le.mp h2⟩] at hP
    refine g_iconst (v := nI 1) dX6_isMile_10 (by decide) ?_
    refine g_jump (tgt := 15) dX6_isMile_11 (by decide) ?_
    exact g_iret rfl nz1 dX6_isMile_15 (by decide) hP
theorem c_isRow {x : Int32} (hP : P (.inl (some (.int (bi (0 ≤ x ∧ x < nI 2))))) sh sz V) : MC E YX6_isRow [.int x] sh sz V P := by
  refine MC.of RX6 "isRow" rfl (by decide +kernel) rfl 0 [_] rfl (Nat.le_of_ble_eq_true rfl) ?_
  show G E MX6_isRow _ _ _ _ _ _ _ _ _
  refine g_iload_n dX6_isRow_0 rfl ?_
  refine g_if_lt (tgt := 13) dX6_isRow_1 (by decide) (fun h => ?_) (fun h => ?_)
  · rw [bi_f (p := 0 ≤ x ∧ x < nI 2) (fun q => absurd q.1 (Int32.not_le.mpr h))] at hP
    refine g_iconst (v := nI 0) dX6_isRow_13 (by decide) ?_
    exact g_iret rfl nz0 dX6_isRow_14 (by decide) hP
  refine g_iload_n dX6_isRow_4 rfl ?_
  refine g_iconst (v := nI 2) dX6_isRow_5 (by decide) ?_
  refine g_icmp_ge (tgt := 13) dX6_isRow_6 (by decide) (fun h2 => ?_) (fun h2 => ?_)
  · rw [bi_f (p := 0 ≤ x ∧ x < nI 2) (fun q => absurd q.2 (Int32.not_lt.mpr h2))] at hP
    refine g_iconst (v := nI 0) dX6_isRow_13 (by decide) ?_
    exact g_iret rfl nz0 dX6_isRow_14 (by decide) hP
  · rw [bi_t (p := 0 ≤ x ∧ x < nI 2) ⟨Int32.not_lt.mp h, Int32.not_le.mp h2⟩] at hP
    refine g_iconst (v := nI 1) dX6_isRow_9 (by decide) ?_
    refine g_jump (tgt := 14) dX6_isRow_10 (by decide) ?_
    exact g_iret rfl nz1 dX6_isRow_14 (by decide) hP
theorem c_isPlace {x : Int32} (hP : P (.inl (some (.int (bi (0 ≤ x ∧ x < nI 5))))) sh sz V) : MC E YX6_isPlace [.int x] sh sz V P := by
  refine MC.of RX6 "isPlace" rfl (by decide +kernel) rfl 0 [_] rfl (Nat.le_of_ble_eq_true rfl) ?_
  show G E MX6_isPlace _ _ _ _ _ _ _ _ _
  refine g_iload_n dX6_isPlace_0 rfl ?_
  refine g_if_lt (tgt := 13) dX6_isPlace_1 (by decide) (fun h => ?_) (fun h => ?_)
  · rw [bi_f (p := 0 ≤ x ∧ x < nI 5) (fun q => absurd q.1 (Int32.not_le.mpr h))] at hP
    refine g_iconst (v := nI 0) dX6_isPlace_13 (by decide) ?_
    exact g_iret rfl nz0 dX6_isPlace_14 (by decide) hP
  refine g_iload_n dX6_isPlace_4 rfl ?_
  refine g_iconst (v := nI 5) dX6_isPlace_5 (by decide) ?_
  refine g_icmp_ge (tgt := 13) dX6_isPlace_6 (by decide) (fun h2 => ?_) (fun h2 => ?_)
  · rw [bi_f (p := 0 ≤ x ∧ x < nI 5) (fun q => absurd q.2 (Int32.not_lt.mpr h2))] at hP
    refine g_iconst (v := nI 0) dX6_isPlace_13 (by decide) ?_
    exact g_iret rfl nz0 dX6_isPlace_14 (by decide) hP
  · rw [bi_t (p := 0 ≤ x ∧ x < nI 5) ⟨Int32.not_lt.mp h, Int32.not_le.mp h2⟩] at hP
    refine g_iconst (v := nI 1) dX6_isPlace_9 (by decide) ?_
    refine g_jump (tgt := 14) dX6_isPlace_10 (by decide) ?_
    exact g_iret rfl nz1 dX6_isPlace_14 (by decide) hP
theorem c_isDaysToPass {x : Int32} (hP : P (.inl (some (.int (bi (nI 1 ≤ x ∧ x ≤ nI 30))))) sh sz V) : MC E YX6_isDaysToPass [.int x] sh sz V P := by
  refine MC.of RX6 "isDaysToPass" rfl (by decide +kernel) rfl 0 [_] rfl (Nat.le_of_ble_eq_true rfl) ?_
  show G E MX6_isDaysToPass _ _ _ _ _ _ _ _ _
  refine g_iload_n dX6_isDaysToPass_0 rfl ?_
  refine g_iconst (v := nI 1) dX6_isDaysToPass_1 (by decide) ?_
  refine g_icmp_lt (tgt := 15) dX6_isDaysToPass_2 (by decide) (fun h => ?_) (fun h => ?_)
  · rw [bi_f (p := nI 1 ≤ x ∧ x ≤ nI 30) (fun q => absurd q.1 (Int32.not_le.mpr h))] at hP
    refine g_iconst (v := nI 0) dX6_isDaysToPass_15 (by decide) ?_
    exact g_iret rfl nz0 dX6_isDaysToPass_16 (by decide) hP
  refine g_iload_n dX6_isDaysToPass_5 rfl ?_
  refine g_bipush (v := nI 30) dX6_isDaysToPass_6 (by decide) ?_
  refine g_icmp_gt (tgt := 15) dX6_isDaysToPass_8 (by decide) (fun h2 => ?_) (fun h2 => ?_)
  · rw [bi_f (p := nI 1 ≤ x ∧ x ≤ nI 30) (fun q => absurd q.2 (Int32.not_le.mpr h2))] at hP
    refine g_iconst (v := nI 0) dX6_isDaysToPass_15 (by decide) ?_
    exact g_iret rfl nz0 dX6_isDaysToPass_16 (by decide) hP
  · rw [bi_t (p := nI 1 ≤ x ∧ x ≤ nI 30) ⟨Int32.not_lt.mp h, Int32.not_lt.mp h2⟩] at hP
    refine g_iconst (v := nI 1) dX6_isDaysToPass_11 (by decide) ?_
    refine g_jump (tgt := 16) dX6_isDaysToPass_12 (by decide) ?_
    exact g_iret rfl nz1 dX6_isDaysToPass_16 (by decide) hP
theorem c_refusalFor {r d : Int32} (hP : P (.inl (some (.int (r * nI 16 + d)))) sh sz V) : MC E YX6_refusalFor [.int r, .int d] sh sz V P := by
  refine MC.of RX6 "refusalFor" rfl (by decide +kernel) rfl 0 [_, _] rfl (Nat.le_of_ble_eq_true rfl) ?_
  show G E MX6_refusalFor _ _ _ _ _ _ _ _ _
  refine g_iload_n dX6_refusalFor_0 rfl ?_
  refine g_bipush (v := nI 16) dX6_refusalFor_1 (by decide) ?_
  refine g_imul dX6_refusalFor_3 ?_
  refine g_iload_n dX6_refusalFor_4 rfl ?_
  refine g_iadd dX6_refusalFor_5 ?_
  exact g_iret rfl (nr_int _) dX6_refusalFor_6 (by decide) hP
def loS : List Int32 := [-40, 0, 1]
def hiS : List Int32 := [10, 100, 14]
theorem KI_lo : ∀ s, KI E s → ∃ t : Nat, va_Z "IceConvoys" "LOWEST_SETTING" "[I" (.ref t) (gN E) s E.2.2.1 ∧ va_T .int t 3 (fun j => .int (loS.getD j 0)) (gN E) s E.2.2.1 := fun _ h => h.2.2.2.1.1
theorem KI_hi : ∀ s, KI E s → ∃ t : Nat, va_Z "IceConvoys" "HIGHEST_SETTING" "[I" (.ref t) (gN E) s E.2.2.1 ∧ va_T .int t 3 (fun j => .int (hiS.getD j 0)) (gN E) s E.2.2.1 := fun _ h => h.2.2.2.1.2
abbrev isS (x : Int32) : Prop := 0 ≤ x ∧ x < nI 3
theorem c_isSetting {x : Int32} (hP : P (.inl (some (.int (bi (isS x))))) sh sz V) : MC E YX6_isSetting [.int x] sh sz V P := by
  refine MC.of RX6 "isSetting" rfl (by decide +kernel) rfl 0 [_] rfl (Nat.le_of_ble_eq_true rfl) ?_
  show G E MX6_isSetting _ _ _ _ _ _ _ _ _
  refine g_iload_n dX6_isSetting_0 rfl ?_
  refine g_if_lt (tgt := 16) dX6_isSetting_1 (by decide) (fun h => ?_) (fun h => ?_)
  · rw [bi_f (p := isS x) (fun q => absurd q.1 (Int32.not_le.mpr h))] at hP
    refine g_iconst (v := nI 0) dX6_isSetting_16 (by decide) ?_
    exact g_iret rfl nz0 dX6_isSetting_17 (by decide) hP
  refine g_iload_n dX6_isSetting_4 rfl ?_
  refine g_statlen fl_X6_380 KI_lo dX6_isSetting_5 dX6_isSetting_8 ?_
  refine g_icmp_ge (tgt := 16) dX6_isSetting_9 (by decide) (fun h2 => ?_) (fun h2 => ?_)
  · rw [bi_f (p := isS x) (fun q => absurd q.2 (Int32.not_lt.mpr h2))] at hP
    refine g_iconst (v := nI 0) dX6_isSetting_16 (by decide) ?_
    exact g_iret rfl nz0 dX6_isSetting_17 (by decide) hP
  · rw [bi_t (p := isS x) ⟨Int32.not_lt.mp h, Int32.not_le.mp h2⟩] at hP
    refine g_iconst (v := nI 1) dX6_isSetting_12 (by decide) ?_
    refine g_jump (tgt := 17) dX6_isSetting_13 (by decide) ?_
    exact g_iret rfl nz1 dX6_isSetting_17 (by decide) hP
theorem vp_in_lt {x : Int32} {n : Nat} (h0 : 0 ≤ x) (h1 : x < nI n) (hn : n < 2 ^ 31) : vp_in x n := by
  obtain ⟨j, hj, rfl⟩ := in_nI h0 h1 hn
  exact vp_in_nI hj hn
abbrev isSV (w v : Int32) : Prop := isS w ∧ loS.getD w.toNatClampNeg 0 ≤ v ∧ v ≤ hiS.getD w.toNatClampNeg 0
theorem c_isSettingValue {w v : Int32} (hP : P (.inl (some (.int (bi (isSV w v))))) sh sz V) : MC E YX6_isSettingValue [.int w, .int v] sh sz V P := by
  refine MC.of RX6 "isSettingValue" rfl (by decide +kernel) rfl 0 [_, _] rfl (Nat.le_of_ble_eq_true rfl) ?_
  show G E MX6_isSettingValue _ _ _ _ _ _ _ _ _
  refine g_iload_n dX6_isSettingValue_0 rfl ?_
  refine g_callSp (Y := YX6_isSetting) ss_X6_66 yn_X6_isSetting dX6_isSettingValue_1 (c_isSetting pR_ok) rfl rfl rfl (Nat.le_of_ble_eq_true rfl) ⟨rfl, rfl⟩ ?_
  refine g_if_eq (tgt := 29) dX6_isSettingValue_4 (by decide) (fun h => ?_) (fun h => ?_)
  · rw [bi_f (p := isSV w v) (fun q => absurd q.1 (bi_eq h))] at hP
    refine g_iconst (v := nI 0) dX6_isSettingValue_29 (by decide) ?_
    exact g_iret rfl nz0 dX6_isSettingValue_30 (by decide) hP
  have hw := bi_ne h
  refine g_iload_n dX6_isSettingValue_7 rfl ?_
  refine g_stat3 fl_X6_380 KI_lo dX6_isSettingValue_8 dX6_isSettingValue_11 rfl (vp_in_lt hw.1 hw.2 (by decide)) dX6_isSettingValue_12 ?_
  refine g_icmp_lt (tgt := 29) dX6_isSettingValue_13 (by decide) (fun h2 => ?_) (fun h2 => ?_)
  · rw [bi_f (p := isSV w v) (fun q => absurd q.2.1 (Int32.not_le.mpr h2))] at hP
    refine g_iconst (v := nI 0) dX6_isSettingValue_29 (by decide) ?_
    exact g_iret rfl nz0 dX6_isSettingValue_30 (by decide) hP
  refine g_iload_n dX6_isSettingValue_16 rfl ?_
  refine g_stat3 fl_X6_383 KI_hi dX6_isSettingValue_17 dX6_isSettingValue_20 rfl (vp_in_lt hw.1 hw.2 (by decide)) dX6_isSettingValue_21 ?_
  refine g_icmp_gt (tgt := 29) dX6_isSettingValue_22 (by decide) (fun h3 => ?_) (fun h3 => ?_)
  · rw [bi_f (p := isSV w v) (fun q => absurd q.2.2 (Int32.not_le.mpr h3))] at hP
    refine g_iconst (v := nI 0) dX6_isSettingValue_29 (by decide) ?_
    exact g_iret rfl nz0 dX6_isSettingValue_30 (by decide) hP
  · rw [bi_t (p := isSV w v) ⟨hw, Int32.not_lt.mp h2, Int32.not_lt.mp h3⟩] at hP
    refine g_iconst (v := nI 1) dX6_isSettingValue_25 (by decide) ?_
    refine g_jump (tgt := 30) dX6_isSettingValue_26 (by decide) ?_
    exact g_iret rfl nz1 dX6_isSettingValue_30 (by decide) hP
/-! trucks -/
def TrAt (sh : Sh) (V : Vl) (q : Nat) (t : Int32 × Int32 × Int32) : Prop := (sh q).1 = 8 ∧ V q 0 = .int t.1 ∧ V q 1 = .int t.2.1 ∧ V q 2 = .int t.2.2
/-- the load: flat as it weighs, a tank with its axles -/
def bud (t : Int32 × Int32 × Int32) : UInt32 := if t.1 = 0 then FP.i2f t.2.1 else FP.fadd (FP.i2f t.2.1) (FP.fmul 1056964608 (FP.i2f t.2.2))
theorem c_burden {q : Nat} {t : Int32 × Int32 × Int32} (h : TrAt sh V q t) (h1 : vf_n32 (FP.fmul 1056964608 (FP.i2f t.2.2))) (h2 : vf_n32 (FP.fadd (FP.i2f t.2.1) (FP.fmul 1056964608 (FP.i2f t.2.2)))) (hP : P (.inl (some (.float (bud t)))) sh sz V) : MC E YX5_burden [.ref q] sh sz V P := by
  obtain ⟨k, w, x⟩ := t
  obtain ⟨hs, g0, g1, g2⟩ := h
  unfold bud at hP
  refine MC.of RX5 "burden" rfl (by decide +kernel) rfl 0 [_] rfl (Nat.le_of_ble_eq_true rfl) ?_
  show G E MX5_burden _ _ _ _ _ _ _ _ _
  refine g_aload_n dX5_burden_0 rfl ?_
  refine g_get 7 rfl (by decide) inX5 0 (by decide) fl_X5_7 dX5_burden_1 hs g0 ?_
  refine g_if_ne (tgt := 15) dX5_burden_4 (by decide) (fun h => ?_) (fun h => ?_)
  · rw [if_neg h] at hP
    refine g_aload_n dX5_burden_15 rfl ?_
    refine g_get 7 rfl (by decide) inX5 1 (by decide) fl_X5_13 dX5_burden_16 hs g1 ?_
    refine g_i2f dX5_burden_19 ?_
    refine g_ldcf kc_X5_19 dX5_burden_20 ?_
    refine g_aload_n dX5_burden_22 rfl ?_
    refine g_get 7 rfl (by decide) inX5 2 (by decide) fl_X5_16 dX5_burden_23 hs g2 ?_
    refine g_i2f dX5_burden_26 ?_
    refine g_fmul dX5_burden_27 h1 ?_
    refine g_fadd dX5_burden_28 h2 ?_
    exact g_fret rfl dX5_burden_29 (by decide) hP
  · rw [if_pos h] at hP
    refine g_aload_n dX5_burden_7 rfl ?_
    refine g_get 7 rfl (by decide) inX5 1 (by decide) fl_X5_13 dX5_burden_8 hs g1 ?_
    refine g_i2f dX5_burden_11 ?_
    refine g_jump (tgt := 29) dX5_burden_12 (by decide) ?_
    exact g_fret rfl dX5_burden_29 (by decide) hP
def stn (t : Int32 × Int32 × Int32) : Int32 := t.2.1 / nI 10 + nI 1
theorem c_strainOnIce {q : Nat} {t : Int32 × Int32 × Int32} (h : TrAt sh V q t) (hP : P (.inl (some (.int (stn t)))) sh sz V) : MC E YX5_strainOnIce [.ref q] sh sz V P := by
  refine MC.of RX5 "strainOnIce" rfl (by decide +kernel) rfl 0 [_] rfl (Nat.le_of_ble_eq_true rfl) ?_
  show G E MX5_strainOnIce _ _ _ _ _ _ _ _ _
  refine g_aload_n dX5_strainOnIce_0 rfl ?_
  refine g_get 7 rfl (by decide) inX5 1 (by decide) fl_X5_13 dX5_strainOnIce_1 h.1 h.2.2.1 ?_
  refine g_bipush (v := nI 10) dX5_strainOnIce_4 (by decide) ?_
  refine g_idiv dX5_strainOnIce_6 (by decide) ?_
  refine g_iconst (v := nI 1) dX5_strainOnIce_7 (by decide) ?_
  refine g_iadd dX5_strainOnIce_8 ?_
  exact g_iret rfl (nr_int _) dX5_strainOnIce_9 (by decide) hP
/-! convoys -/
def mw (ld g : Int32) (k : Nat) : Int32 := ld - nI k * (g + nI 1)
def mt (ld g : Int32) (k : Nat) : Int32 := if 0 ≤ ld then mw ld g k else -1
theorem c_hasStarted {a : Nat} {x : Int32} (h0 : (sh a).1 = 3) (h1 : V a 1 = .int x) (hP : P (.inl (some (.int (bi (0 ≤ x))))) sh sz V) : MC E YX0_hasStarted [.ref a] sh sz V P := by
  refine MC.of RX0 "hasStarted" rfl (by decide +kernel) rfl 0 [_] rfl (Nat.le_of_ble_eq_true rfl) ?_
  show G E MX0_hasStarted _ _ _ _ _ _ _ _ _
  refine g_aload_n dX0_hasStarted_0 rfl ?_
  refine g_get 2 rfl (by decide) inX0 1 (by decide) fl_X0_15 dX0_hasStarted_1 h0 h1 ?_
  refine g_if_lt (tgt := 11) dX0_hasStarted_4 (by decide) (fun h => ?_) (fun h => ?_)
  · rw [bi_f (Int32.not_le.mpr h)] at hP
    refine g_iconst (v := nI 0) dX0_hasStarted_11 (by decide) ?_
    exact g_iret rfl nz0 dX0_hasStarted_12 (by decide) hP
  · rw [bi_t (Int32.not_lt.mp h)] at hP
    refine g_iconst (v := nI 1) dX0_hasStarted_7 (by decide) ?_
    refine g_jump (tgt := 12) dX0_hasStarted_8 (by decide) ?_
    exact g_iret rfl nz1 dX0_hasStarted_12 (by decide) hP
theorem c_mileWithLead {a k : Nat} {g ld : Int32} (h0 : (sh a).1 = 3) (h1 : V a 0 = .int g) (hP : P (.inl (some (.int (mw ld g k)))) sh sz V) : MC E YX0_mileWithLead [.ref a, .int (nI k), .int ld] sh sz V P := by
  refine MC.of RX0 "mileWithLead" rfl (by decide +kernel) rfl 0 [_, _, _] rfl (Nat.le_of_ble_eq_true rfl) ?_
  show G E MX0_mileWithLead _ _ _ _ _ _ _ _ _
  refine g_iload_n dX0_mileWithLead_0 rfl ?_
  refine g_iload_n dX0_mileWithLead_1 rfl ?_
  refine g_aload_n dX0_mileWithLead_2 rfl ?_
  refine g_get 2 rfl (by decide) inX0 0 (by decide) fl_X0_9 dX0_mileWithLead_3 h0 h1 ?_
  refine g_iconst (v := nI 1) dX0_mileWithLead_6 (by decide) ?_
  refine g_iadd dX0_mileWithLead_7 ?_
  refine g_imul dX0_mileWithLead_8 ?_
  refine g_isub dX0_mileWithLead_9 ?_
  exact g_iret rfl (nr_int _) dX0_mileWithLead_10 (by decide) hP
theorem c_mileOfTruck {a k : Nat} {g ld : Int32} (h0 : (sh a).1 = 3) (h1 : V a 0 = .int g) (h2 : V a 1 = .int ld) (hP : P (.inl (some (.int (mt ld g k)))) sh sz V) : MC E YX0_mileOfTruck [.ref a, .int (nI k)] sh sz V P := by
  unfold mt at hP
  refine MC.of RX0 "mileOfTruck" rfl (by decide +kernel) rfl 0 [_, _] rfl (Nat.le_of_ble_eq_true rfl) ?_
  show G E MX0_mileOfTruck _ _ _ _ _ _ _ _ _
  refine g_aload_n dX0_mileOfTruck_0 rfl ?_
  refine g_callVp (Y := YX0_hasStarted) sv_X0_27 rfl yn_X0_hasStarted 2 (by decide) rfl rfl dX0_mileOfTruck_1 (c_hasStarted h0 h2 pR_ok) h0 rfl rfl rfl (Nat.le_of_ble_eq_true rfl) ⟨rfl, rfl⟩ ?_
  refine g_if_eq (tgt := 19) dX0_mileOfTruck_4 (by decide) (fun h => ?_) (fun h => ?_)
  · rw [if_neg (bi_eq h)] at hP
    refine g_iconst (v := (-1)) dX0_mileOfTruck_19 (by decide) ?_
    exact g_iret rfl (nr_int _) dX0_mileOfTruck_20 (by decide) hP
  · rw [if_pos (bi_ne h)] at hP
    refine g_aload_n dX0_mileOfTruck_7 rfl ?_
    refine g_iload_n dX0_mileOfTruck_8 rfl ?_
    refine g_aload_n dX0_mileOfTruck_9 rfl ?_
    refine g_get 2 rfl (by decide) inX0 1 (by decide) fl_X0_15 dX0_mileOfTruck_10 h0 h2 ?_
    refine g_callVp (Y := YX0_mileWithLead) sv_X0_35 rfl yn_X0_mileWithLead 2 (by decide) rfl rfl dX0_mileOfTruck_13 (c_mileWithLead h0 h1 pR_ok) h0 rfl rfl rfl (Nat.le_of_ble_eq_true rfl) ⟨rfl, rfl⟩ ?_
    refine g_jump (tgt := 20) dX0_mileOfTruck_16 (by decide) ?_
    exact g_iret rfl (nr_int _) dX0_mileOfTruck_20 (by decide) hP
theorem c_countOnRoad {a n : Nat} {g ld : Int32} (h0 : (sh a).1 = 3) (h1 : V a 0 = .int g) (h2 : V a 1 = .int ld) (h3 : V a 2 = .int (nI n)) (hn : n < 2 ^ 31) (hP : P (.inl (some (.int (nI (fb_ct (fun k => decide (isM (mt ld g k))) n))))) sh sz V) : MC E YX0_countOnRoad [.ref a] sh sz V P := by
  refine MC.of RX0 "countOnRoad" rfl (by decide +kernel) rfl 2 [_, none, none] rfl (Nat.le_of_ble_eq_true rfl) ?_
  show G E MX0_countOnRoad _ _ _ _ _ _ _ _ _
  refine g_iconst (v := nI 0) dX0_countOnRoad_0 (by decide) ?_
  refine g_istore_n dX0_countOnRoad_1 (by decide) rfl ?_
  show G _ _ _ _ _ _ _ _ _ [_, _, _] _
  refine g_iconst (v := nI 0) dX0_countOnRoad_2 (by decide) ?_
  refine g_istore_n dX0_countOnRoad_3 (by decide) rfl ?_
  show G _ _ _ _ _ _ _ _ _ [_, _, _] _
  suffices K : ∀ (d i : Nat), i + d = n → G E MX0_countOnRoad P sh sz V 0 0 4 [some (.ref a), some (.int (nI (fb_ct (fun k => decide (isM (mt ld g k))) i))), some (.int (nI i))] [] from K n 0 (by omega)
  intro d
  induction d with
  | zero =>
    intro i hi
    have e : i = n := by omega
    subst e
    refine g_iload_n dX0_countOnRoad_4 rfl ?_
    refine g_aload_n dX0_countOnRoad_5 rfl ?_
    refine g_get 2 rfl (by decide) inX0 2 (by decide) fl_X0_18 dX0_countOnRoad_6 h0 h3 ?_
    refine g_icmp_ge (tgt := 32) dX0_countOnRoad_9 (by decide) (fun _ => ?_) (fun hq => absurd (Int32.le_refl _) hq)
    refine g_iload_n dX0_countOnRoad_32 rfl ?_
    exact g_iret rfl (nr_int _) dX0_countOnRoad_33 (by decide) hP
  | succ d ih =>
    intro i hi
    refine g_iload_n dX0_countOnRoad_4 rfl ?_
    refine g_aload_n dX0_countOnRoad_5 rfl ?_
    refine g_get 2 rfl (by decide) inX0 2 (by decide) fl_X0_18 dX0_countOnRoad_6 h0 h3 ?_
    refine g_icmp_ge (tgt := 32) dX0_countOnRoad_9 (by decide) (fun hq => absurd hq (nI_ge (by omega) hn)) (fun _ => ?_)
    refine g_aload_n dX0_countOnRoad_12 rfl ?_
    refine g_iload_n dX0_countOnRoad_13 rfl ?_
    refine g_callVp (Y := YX0_mileOfTruck) sv_X0_39 rfl yn_X0_mileOfTruck 2 (by decide) rfl rfl dX0_countOnRoad_14 (c_mileOfTruck h0 h1 h2 pR_ok) h0 rfl rfl rfl (Nat.le_of_ble_eq_true rfl) ⟨rfl, rfl⟩ ?_
    refine g_callSNp (Y := YX6_isMile) wc_X6_isMile mn_X0_43 wt_X6_isMile ini_X6 yn_X6_isMile dX0_countOnRoad_17 (c_isMile pR_ok) rfl rfl rfl (Nat.le_of_ble_eq_true rfl) ⟨rfl, rfl⟩ ?_
    refine g_if_eq (tgt := 26) dX0_countOnRoad_20 (by decide) (fun h => ?_) (fun h => ?_)
    · refine g_iinc dX0_countOnRoad_26 rfl (by first | exact nI_inc _ | rfl) (by decide) rfl ?_
      show G _ _ _ _ _ _ _ _ _ [_, _, _] _
      refine g_jump (tgt := 4) dX0_countOnRoad_29 (by decide) ?_
      have e : fb_ct (fun k => decide (isM (mt ld g k))) (i + 1) = fb_ct (fun k => decide (isM (mt ld g k))) i := by simp [fb_ct, bi_eq h]
      have := ih (i + 1) (by omega)
      rw [e] at this
      exact this
    · refine g_iinc dX0_countOnRoad_23 rfl (by first | exact nI_inc _ | rfl) (by decide) rfl ?_
      show G _ _ _ _ _ _ _ _ _ [_, _, _] _
      refine g_iinc dX0_countOnRoad_26 rfl (by first | exact nI_inc _ | rfl) (by decide) rfl ?_
      show G _ _ _ _ _ _ _ _ _ [_, _, _] _
      refine g_jump (tgt := 4) dX0_countOnRoad_29 (by decide) ?_
      have e : fb_ct (fun k => decide (isM (mt ld g k))) (i + 1) = fb_ct (fun k => decide (isM (mt ld g k))) i + 1 := by simp [fb_ct, bi_ne h]
      have := ih (i + 1) (by omega)
      rw [e] at this
      exact this
theorem c_countArrived {a n : Nat} {g ld : Int32} (h0 : (sh a).1 = 3) (h1 : V a 0 = .int g) (h2 : V a 1 = .int ld) (h3 : V a 2 = .int (nI n)) (hn : n < 2 ^ 31) (hP : P (.inl (some (.int (nI (fb_ct (fun k => decide (nI 12 ≤ mt ld g k)) n))))) sh sz V) : MC E YX0_countArrived [.ref a] sh sz V P := by
  refine MC.of RX0 "countArrived" rfl (by decide +kernel) rfl 2 [_, none, none] rfl (Nat.le_of_ble_eq_true rfl) ?_
  show G E MX0_countArrived _ _ _ _ _ _ _ _ _
  refine g_iconst (v := nI 0) dX0_countArrived_0 (by decide) ?_
  refine g_istore_n dX0_countArrived_1 (by decide) rfl ?_
  show G _ _ _ _ _ _ _ _ _ [_, _, _] _
  refine g_iconst (v := nI 0) dX0_countArrived_2 (by decide) ?_
  refine g_istore_n dX0_countArrived_3 (by decide) rfl ?_
  show G _ _ _ _ _ _ _ _ _ [_, _, _] _
  suffices K : ∀ (d i : Nat), i + d = n → G E MX0_countArrived P sh sz V 0 0 4 [some (.ref a), some (.int (nI (fb_ct (fun k => decide (nI 12 ≤ mt ld g k)) i))), some (.int (nI i))] [] from K n 0 (by omega)
  intro d
  induction d with
  | zero =>
    intro i hi
    have e : i = n := by omega
    subst e
    refine g_iload_n dX0_countArrived_4 rfl ?_
    refine g_aload_n dX0_countArrived_5 rfl ?_
    refine g_get 2 rfl (by decide) inX0 2 (by decide) fl_X0_18 dX0_countArrived_6 h0 h3 ?_
    refine g_icmp_ge (tgt := 31) dX0_countArrived_9 (by decide) (fun _ => ?_) (fun hq => absurd (Int32.le_refl _) hq)
    refine g_iload_n dX0_countArrived_31 rfl ?_
    exact g_iret rfl (nr_int _) dX0_countArrived_32 (by decide) hP
  | succ d ih =>
    intro i hi
    refine g_iload_n dX0_countArrived_4 rfl ?_
    refine g_aload_n dX0_countArrived_5 rfl ?_
    refine g_get 2 rfl (by decide) inX0 2 (by decide) fl_X0_18 dX0_countArrived_6 h0 h3 ?_
    refine g_icmp_ge (tgt := 31) dX0_countArrived_9 (by decide) (fun hq => absurd hq (nI_ge (by omega) hn)) (fun _ => ?_)
    refine g_aload_n dX0_countArrived_12 rfl ?_
    refine g_iload_n dX0_countArrived_13 rfl ?_
    refine g_callVp (Y := YX0_mileOfTruck) sv_X0_39 rfl yn_X0_mileOfTruck 2 (by decide) rfl rfl dX0_countArrived_14 (c_mileOfTruck h0 h1 h2 pR_ok) h0 rfl rfl rfl (Nat.le_of_ble_eq_true rfl) ⟨rfl, rfl⟩ ?_
    refine g_bipush (v := nI 12) dX0_countArrived_17 (by decide) ?_
    refine g_icmp_lt (tgt := 25) dX0_countArrived_19 (by decide) (fun h => ?_) (fun h => ?_)
    · refine g_iinc dX0_countArrived_25 rfl (by first | exact nI_inc _ | rfl) (by decide) rfl ?_
      show G _ _ _ _ _ _ _ _ _ [_, _, _] _
      refine g_jump (tgt := 4) dX0_countArrived_28 (by decide) ?_
      have e : fb_ct (fun k => decide (nI 12 ≤ mt ld g k)) (i + 1) = fb_ct (fun k => decide (nI 12 ≤ mt ld g k)) i := by simp [fb_ct, h]
      have := ih (i + 1) (by omega)
      rw [e] at this
      exact this
    · refine g_iinc dX0_countArrived_22 rfl (by first | exact nI_inc _ | rfl) (by decide) rfl ?_
      show G _ _ _ _ _ _ _ _ _ [_, _, _] _
      refine g_iinc dX0_countArrived_25 rfl (by first | exact nI_inc _ | rfl) (by decide) rfl ?_
      show G _ _ _ _ _ _ _ _ _ [_, _, _] _
      refine g_jump (tgt := 4) dX0_countArrived_28 (by decide) ?_
      have e : fb_ct (fun k => decide (nI 12 ≤ mt ld g k)) (i + 1) = fb_ct (fun k => decide (nI 12 ≤ mt ld g k)) i + 1 := by simp [fb_ct, Int32.not_lt.mp h]
      have := ih (i + 1) (by omega)
      rw [e] at this
      exact this
/-- a convoy of n trucks at a, its row of trucks at a + 1 -/
def CvAt (sh : Sh) (V : Vl) (a : Nat) (g ld : Int32) (n : Nat) (tk : Nat → Int32 × Int32 × Int32) : Prop :=
  (sh a).1 = 3 ∧ sh (a + 1) = (24, 4) ∧ V a 0 = .int g ∧ V a 1 = .int ld ∧ V a 2 = .int (nI n) ∧ V a 3 = .ref (a + 1) ∧ n ≤ 4 ∧ (∀ k, k < n → ∃ q, V (a + 1) k = .ref q ∧ TrAt sh V q (tk k)) ∧ ∀ k, n ≤ k → k < 4 → V (a + 1) k = .null
theorem c_isDone {a n : Nat} {g ld : Int32} (h0 : (sh a).1 = 3) (h1 : V a 0 = .int g) (h2 : V a 1 = .int ld) (h3 : V a 2 = .int (nI n)) (hn : n < 2 ^ 31) (hP : P (.inl (some (.int (bi (0 ≤ ld ∧ fb_ct (fun k => decide (nI 12 ≤ mt ld g k)) n = n))))) sh sz V) : MC E YX0_isDone [.ref a] sh sz V P := by
  refine MC.of RX0 "isDone" rfl (by decide +kernel) rfl 0 [_] rfl (Nat.le_of_ble_eq_true rfl) ?_
  show G E MX0_isDone _ _ _ _ _ _ _ _ _
  refine g_aload_n dX0_isDone_0 rfl ?_
  refine g_callVp (Y := YX0_hasStarted) sv_X0_27 rfl yn_X0_hasStarted 2 (by decide) rfl rfl dX0_isDone_1 (c_hasStarted h0 h2 pR_ok) h0 rfl rfl rfl (Nat.le_of_ble_eq_true rfl) ⟨rfl, rfl⟩ ?_
  refine g_if_eq (tgt := 22) dX0_isDone_4 (by decide) (fun h => ?_) (fun h => ?_)
  · rw [bi_f (p := 0 ≤ ld ∧ _) (fun q => (bi_eq h) q.1)] at hP
    refine g_iconst (v := nI 0) dX0_isDone_22 (by decide) ?_
    exact g_iret rfl nz0 dX0_isDone_23 (by decide) hP
  · refine g_aload_n dX0_isDone_7 rfl ?_
    refine g_callVp (Y := YX0_countArrived) sv_X0_31 rfl yn_X0_countArrived 2 (by decide) rfl rfl dX0_isDone_8 (c_countArrived h0 h1 h2 h3 hn pR_ok) h0 rfl rfl rfl (Nat.le_of_ble_eq_true rfl) ⟨rfl, rfl⟩ ?_
    refine g_aload_n dX0_isDone_11 rfl ?_
    refine g_get 2 rfl (by decide) inX0 2 (by decide) fl_X0_18 dX0_isDone_12 h0 h3 ?_
    have hle : fb_ct (fun k => decide (nI 12 ≤ mt ld g k)) n ≤ n := fb_ct_le _ _
    refine g_icmp_ne (tgt := 22) dX0_isDone_15 (by decide) (fun h4 => ?_) (fun h4 => ?_)
    · rw [bi_f (p := 0 ≤ ld ∧ _) (fun q => h4 (by rw [q.2]))] at hP
      refine g_iconst (v := nI 0) dX0_isDone_22 (by decide) ?_
      exact g_iret rfl nz0 dX0_isDone_23 (by decide) hP
    · rw [bi_t (p := 0 ≤ ld ∧ _) ⟨bi_ne h, (nI_eq (by omega) hn).mp h4⟩] at hP
      refine g_iconst (v := nI 1) dX0_isDone_18 (by decide) ?_
      refine g_jump (tgt := 23) dX0_isDone_19 (by decide) ?_
      exact g_iret rfl nz1 dX0_isDone_23 (by decide) hP
/-- the first place with p, or -1 -/
def fstI (p : Nat → Bool) (n : Nat) : Int32 := if fa_first p n < n then nI (fa_first p n) else -1
theorem fa_first_eq {p : Nat → Bool} {n i : Nat} (hi : i < n) (hp : p i = true) (hlt : ∀ k, k < i → p k = false) : fa_first p n = i := by
  have h1 : ¬ fa_first p n < i := fun q => by
    have := fa_first_yes p n (by omega)
    rw [hlt _ q] at this
    cases this
  have h2 : ¬ i < fa_first p n := fun q => by
    have := fa_first_no p n i q
    rw [hp] at this
    cases this
  omega
theorem fa_first_none {p : Nat → Bool} {n : Nat} (h : ∀ k, k < n → p k = false) : ¬ fa_first p n < n := fun q => by
  have := fa_first_yes p n q
  rw [h _ q] at this
  cases this
theorem fstI_eq {p : Nat → Bool} {n i : Nat} (hi : i < n) (hp : p i = true) (hlt : ∀ k, k < i → p k = false) : fstI p n = nI i := by
  unfold fstI
  rw [fa_first_eq hi hp hlt, if_pos hi]
theorem fstI_none {p : Nat → Bool} {n : Nat} (h : ∀ k, k < n → p k = false) : fstI p n = -1 := by
  unfold fstI
  rw [if_neg (fa_first_none h)]
theorem c_placeAt {a n : Nat} {g ld mile : Int32} (h0 : (sh a).1 = 3) (h1 : V a 0 = .int g) (h2 : V a 1 = .int ld) (h3 : V a 2 = .int (nI n)) (hn : n < 2 ^ 31) (hP : P (.inl (some (.int (fstI (fun k => decide (mw ld g k = mile)) n)))) sh sz V) : MC E YX0_placeAt [.ref a, .int mile] sh sz V P := by
  refine MC.of RX0 "placeAt" rfl (by decide +kernel) rfl 1 [_, _, none] rfl (Nat.le_of_ble_eq_true rfl) ?_
  show G E MX0_placeAt _ _ _ _ _ _ _ _ _
  refine g_iconst (v := nI 0) dX0_placeAt_0 (by decide) ?_
  refine g_istore_n dX0_placeAt_1 (by decide) rfl ?_
  show G _ _ _ _ _ _ _ _ _ [_, _, _] _
  suffices K : ∀ (d i : Nat), i + d = n → (∀ k, k < i → ¬ mw ld g k = mile) → G E MX0_placeAt P sh sz V 0 0 2 [some (.ref a), some (.int mile), some (.int (nI i))] [] from K n 0 (by omega) (fun k hk => absurd hk (Nat.not_lt_zero k))
  intro d
  induction d with
  | zero =>
    intro i hi hk
    have e : i = n := by omega
    subst e
    refine g_iload_n dX0_placeAt_2 rfl ?_
    refine g_aload_n dX0_placeAt_3 rfl ?_
    refine g_get 2 rfl (by decide) inX0 2 (by decide) fl_X0_18 dX0_placeAt_4 h0 h3 ?_
    refine g_icmp_ge (tgt := 31) dX0_placeAt_7 (by decide) (fun _ => ?_) (fun hq => absurd (Int32.le_refl _) hq)
    rw [fstI_none (fun k hk2 => decide_eq_false (hk k hk2))] at hP
    refine g_iconst (v := (-1)) dX0_placeAt_31 (by decide) ?_
    exact g_iret rfl (nr_int _) dX0_placeAt_32 (by decide) hP
  | succ d ih =>
    intro i hi hk
    refine g_iload_n dX0_placeAt_2 rfl ?_
    refine g_aload_n dX0_placeAt_3 rfl ?_
    refine g_get 2 rfl (by decide) inX0 2 (by decide) fl_X0_18 dX0_placeAt_4 h0 h3 ?_
    refine g_icmp_ge (tgt := 31) dX0_placeAt_7 (by decide) (fun hq => absurd hq (nI_ge (by omega) hn)) (fun _ => ?_)
    refine g_aload_n dX0_placeAt_10 rfl ?_
    refine g_iload_n dX0_placeAt_11 rfl ?_
    refine g_aload_n dX0_placeAt_12 rfl ?_
    refine g_get 2 rfl (by decide) inX0 1 (by decide) fl_X0_15 dX0_placeAt_13 h0 h2 ?_
    refine g_callVp (Y := YX0_mileWithLead) sv_X0_35 rfl yn_X0_mileWithLead 2 (by decide) rfl rfl dX0_placeAt_16 (c_mileWithLead h0 h1 pR_ok) h0 rfl rfl rfl (Nat.le_of_ble_eq_true rfl) ⟨rfl, rfl⟩ ?_
    refine g_iload_n dX0_placeAt_19 rfl ?_
    refine g_icmp_ne (tgt := 25) dX0_placeAt_20 (by decide) (fun h => ?_) (fun h => ?_)
    · refine g_iinc dX0_placeAt_25 rfl (by first | exact nI_inc _ | rfl) (by decide) rfl ?_
      show G _ _ _ _ _ _ _ _ _ [_, _, _] _
      refine g_jump (tgt := 2) dX0_placeAt_28 (by decide) ?_
      exact ih (i + 1) (by omega) (fun k hk2 => by
        rcases Nat.lt_succ_iff_lt_or_eq.mp hk2 with q | rfl
        · exact hk k q
        · exact h)
    · rw [fstI_eq (i := i) (by omega) (decide_eq_true h) (fun k hk2 => decide_eq_false (hk k hk2))] at hP
      refine g_iload_n dX0_placeAt_23 rfl ?_
      exact g_iret rfl (nr_int _) dX0_placeAt_24 (by decide) hP
/-- a sum of ints -/
def sI (p : Nat → Int32) : Nat → Int32
  | 0 => nI 0
  | n + 1 => sI p n + p n
theorem add_nI0 (x : Int32) : x + nI 0 = x := Int32.add_zero x
theorem c_tonnesNotArrived {a n : Nat} {g ld : Int32} {tk : Nat → Int32 × Int32 × Int32} (h : CvAt sh V a g ld n tk) (hP : P (.inl (some (.int (sI (fun k => if k < n then (if nI 12 ≤ mt ld g k then nI 0 else (tk k).2.1) else nI 0) 4)))) sh sz V) : MC E YX0_tonnesNotArrived [.ref a] sh sz V P := by
  obtain ⟨h0, ha, h1, h2, h3, h4, hn, h5, h6⟩ := h
  refine MC.of RX0 "tonnesNotArrived" rfl (by decide +kernel) rfl 3 [_, none, none, none] rfl (Nat.le_of_ble_eq_true rfl) ?_
  show G E MX0_tonnesNotArrived _ _ _ _ _ _ _ _ _
  refine g_iconst (v := nI 0) dX0_tonnesNotArrived_0 (by decide) ?_
  refine g_istore_n dX0_tonnesNotArrived_1 (by decide) rfl ?_
  show G _ _ _ _ _ _ _ _ _ [_, _, _, _] _
  refine g_iconst (v := nI 0) dX0_tonnesNotArrived_2 (by decide) ?_
  refine g_istore_n dX0_tonnesNotArrived_3 (by decide) rfl ?_
  show G _ _ _ _ _ _ _ _ _ [_, _, _, _] _
  suffices K : ∀ (d i : Nat), i + d = 4 → ∀ z, G E MX0_tonnesNotArrived P sh sz V 0 0 4 [some (.ref a), some (.int (sI (fun k => if k < n then (if nI 12 ≤ mt ld g k then nI 0 else (tk k).2.1) else nI 0) i)), some (.int (nI i)), z] [] from K 4 0 rfl _
  intro d
  induction d with
  | zero =>
    intro i hi z
    have e : i = 4 := by omega
    subst e
    refine g_iload_n dX0_tonnesNotArrived_4 rfl ?_
    refine g_iconst (v := nI 4) dX0_tonnesNotArrived_5 (by decide) ?_
    refine g_icmp_ge (tgt := 43) dX0_tonnesNotArrived_6 (by decide) (fun _ => ?_) (fun hq => absurd (Int32.le_refl _) hq)
    refine g_iload_n dX0_tonnesNotArrived_43 rfl ?_
    exact g_iret rfl (nr_int _) dX0_tonnesNotArrived_44 (by decide) hP
  | succ d ih =>
    intro i hi z
    refine g_iload_n dX0_tonnesNotArrived_4 rfl ?_
    refine g_iconst (v := nI 4) dX0_tonnesNotArrived_5 (by decide) ?_
    refine g_icmp_ge (tgt := 43) dX0_tonnesNotArrived_6 (by decide) (fun hq => absurd hq (nI_ge (by omega) (by decide))) (fun _ => ?_)
    refine g_aload_n dX0_tonnesNotArrived_9 rfl ?_
    refine g_get 2 rfl (by decide) inX0 3 (by decide) fl_X0_23 dX0_tonnesNotArrived_10 h0 h4 ?_
    refine g_iload_n dX0_tonnesNotArrived_13 rfl ?_
    rcases Nat.lt_or_ge i n with q | q
    · obtain ⟨t, e1, e2⟩ := h5 i q
      refine g_aaload _ dX0_tonnesNotArrived_14 ha (by decide) (by decide) (vp_in_nI (by omega) (by decide)) (at_nI (by omega) (e1)) ?_
      refine g_astore_n dX0_tonnesNotArrived_15 (by decide) rfl ?_
      show G _ _ _ _ _ _ _ _ _ [_, _, _, _] _
      refine g_aload_n dX0_tonnesNotArrived_16 rfl ?_
      refine g_ifnull dX0_tonnesNotArrived_17 ?_
      refine g_aload_n dX0_tonnesNotArrived_20 rfl ?_
      refine g_iload_n dX0_tonnesNotArrived_21 rfl ?_
      refine g_callVp (Y := YX0_mileOfTruck) sv_X0_39 rfl yn_X0_mileOfTruck 2 (by decide) rfl rfl dX0_tonnesNotArrived_22 (c_mileOfTruck h0 h1 h2 pR_ok) h0 rfl rfl rfl (Nat.le_of_ble_eq_true rfl) ⟨rfl, rfl⟩ ?_
      refine g_bipush (v := nI 12) dX0_tonnesNotArrived_25 (by decide) ?_
      refine g_icmp_ge (tgt := 37) dX0_tonnesNotArrived_27 (by decide) (fun h => ?_) (fun h => ?_)
      · refine g_iinc dX0_tonnesNotArrived_37 rfl (by first | exact nI_inc _ | rfl) (by decide) rfl ?_
        show G _ _ _ _ _ _ _ _ _ [_, _, _, _] _
        refine g_jump (tgt := 4) dX0_tonnesNotArrived_40 (by decide) ?_
        have e : sI (fun k => if k < n then (if nI 12 ≤ mt ld g k then nI 0 else (tk k).2.1) else nI 0) (i + 1) = sI (fun k => if k < n then (if nI 12 ≤ mt ld g k then nI 0 else (tk k).2.1) else nI 0) i := by
          rw [sI, if_pos q, if_pos h, add_nI0]
        have := ih (i + 1) (by omega) (some (.ref t))
        rw [e] at this
        exact this
      · refine g_iload_n dX0_tonnesNotArrived_30 rfl ?_
        refine g_aload_n dX0_tonnesNotArrived_31 rfl ?_
        refine g_get 7 rfl (by decide) inX5 1 (by decide) fl_X0_47 dX0_tonnesNotArrived_32 e2.1 e2.2.2.1 ?_
        refine g_iadd dX0_tonnesNotArrived_35 ?_
        refine g_istore_n dX0_tonnesNotArrived_36 (by decide) rfl ?_
        show G _ _ _ _ _ _ _ _ _ [_, _, _, _] _
        refine g_iinc dX0_tonnesNotArrived_37 rfl (by first | exact nI_inc _ | rfl) (by decide) rfl ?_
        show G _ _ _ _ _ _ _ _ _ [_, _, _, _] _
        refine g_jump (tgt := 4) dX0_tonnesNotArrived_40 (by decide) ?_
        have e : sI (fun k => if k < n then (if nI 12 ≤ mt ld g k then nI 0 else (tk k).2.1) else nI 0) (i + 1) = sI (fun k => if k < n then (if nI 12 ≤ mt ld g k then nI 0 else (tk k).2.1) else nI 0) i + (tk i).2.1 := by
          rw [sI, if_pos q, if_neg h]
        have := ih (i + 1) (by omega) (some (.ref t))
        rw [e] at this
        exact this
    · refine g_aaload _ dX0_tonnesNotArrived_14 ha (by decide) (by decide) (vp_in_nI (by omega) (by decide)) (at_nI (by omega) (h6 i q (by omega))) ?_
      refine g_astore_nN dX0_tonnesNotArrived_15 (by decide) rfl ?_
      show G _ _ _ _ _ _ _ _ _ [_, _, _, _] _
      refine g_aload_nN dX0_tonnesNotArrived_16 rfl ?_
      refine g_ifnullN (tgt := 37) dX0_tonnesNotArrived_17 (by decide) ?_
      refine g_iinc dX0_tonnesNotArrived_37 rfl (by first | exact nI_inc _ | rfl) (by decide) rfl ?_
      show G _ _ _ _ _ _ _ _ _ [_, _, _, _] _
      refine g_jump (tgt := 4) dX0_tonnesNotArrived_40 (by decide) ?_
      have e : sI (fun k => if k < n then (if nI 12 ≤ mt ld g k then nI 0 else (tk k).2.1) else nI 0) (i + 1) = sI (fun k => if k < n then (if nI 12 ≤ mt ld g k then nI 0 else (tk k).2.1) else nI 0) i := by
        rw [sI, if_neg (by omega), add_nI0]
      have := ih (i + 1) (by omega) (some .null)
      rw [e] at this
      exact this
theorem c_strainAheadOf {a n k : Nat} {g ld mile : Int32} {tk : Nat → Int32 × Int32 × Int32} (h : CvAt sh V a g ld n tk) (hk : k ≤ n) (hP : P (.inl (some (.int (sI (fun j => if mile ≤ mt ld g j then nI 0 else stn (tk j)) k)))) sh sz V) : MC E YX0_strainAheadOf [.ref a, .int (nI k), .int mile] sh sz V P := by
  obtain ⟨h0, ha, h1, h2, h3, h4, hn, h5, h6⟩ := h
  refine MC.of RX0 "strainAheadOf" rfl (by decide +kernel) rfl 3 [_, _, _, none, none, none] rfl (Nat.le_of_ble_eq_true rfl) ?_
  show G E MX0_strainAheadOf _ _ _ _ _ _ _ _ _
  refine g_iconst (v := nI 0) dX0_strainAheadOf_0 (by decide) ?_
  refine g_istore_n dX0_strainAheadOf_1 (by decide) rfl ?_
  show G _ _ _ _ _ _ _ _ _ [_, _, _, _, _, _] _
  refine g_iconst (v := nI 0) dX0_strainAheadOf_2 (by decide) ?_
  refine g_istore dX0_strainAheadOf_3 (by decide) rfl ?_
  show G _ _ _ _ _ _ _ _ _ [_, _, _, _, _, _] _
  suffices K : ∀ (d i : Nat), i + d = k → ∀ z, G E MX0_strainAheadOf P sh sz V 0 0 5 [some (.ref a), some (.int (nI k)), some (.int mile), some (.int (sI (fun j => if mile ≤ mt ld g j then nI 0 else stn (tk j)) i)), some (.int (nI i)), z] [] from K k 0 (by omega) _
  intro d
  induction d with
  | zero =>
    intro i hi z
    have e : i = k := by omega
    subst e
    refine g_iload dX0_strainAheadOf_5 rfl ?_
    refine g_iload_n dX0_strainAheadOf_7 rfl ?_
    refine g_icmp_ge (tgt := 55) dX0_strainAheadOf_8 (by decide) (fun _ => ?_) (fun hq => absurd (Int32.le_refl _) hq)
    refine g_iload_n dX0_strainAheadOf_55 rfl ?_
    exact g_iret rfl (nr_int _) dX0_strainAheadOf_56 (by decide) hP
  | succ d ih =>
    intro i hi z
    refine g_iload dX0_strainAheadOf_5 rfl ?_
    refine g_iload_n dX0_strainAheadOf_7 rfl ?_
    refine g_icmp_ge (tgt := 55) dX0_strainAheadOf_8 (by decide) (fun hq => absurd hq (nI_ge (by omega) (by omega))) (fun _ => ?_)
    refine g_iload dX0_strainAheadOf_11 rfl ?_
    refine g_iconst (v := nI 4) dX0_strainAheadOf_13 (by decide) ?_
    refine g_icmp_ge (tgt := 55) dX0_strainAheadOf_14 (by decide) (fun hq => absurd hq (nI_ge (by omega) (by decide))) (fun _ => ?_)
    refine g_aload_n dX0_strainAheadOf_17 rfl ?_
    refine g_get 2 rfl (by decide) inX0 3 (by decide) fl_X0_23 dX0_strainAheadOf_18 h0 h4 ?_
    obtain ⟨t, e1, e2⟩ := h5 i (by omega)
    refine g_iload dX0_strainAheadOf_21 rfl ?_
    refine g_aaload _ dX0_strainAheadOf_23 ha (by decide) (by decide) (vp_in_nI (by omega) (by decide)) (at_nI (by omega) (e1)) ?_
    refine g_astore dX0_strainAheadOf_24 (by decide) rfl ?_
    show G _ _ _ _ _ _ _ _ _ [_, _, _, _, _, _] _
    refine g_aload dX0_strainAheadOf_26 rfl ?_
    refine g_ifnull dX0_strainAheadOf_28 ?_
    refine g_aload_n dX0_strainAheadOf_31 rfl ?_
    refine g_iload dX0_strainAheadOf_32 rfl ?_
    refine g_callVp (Y := YX0_mileOfTruck) sv_X0_39 rfl yn_X0_mileOfTruck 2 (by decide) rfl rfl dX0_strainAheadOf_34 (c_mileOfTruck h0 h1 h2 pR_ok) h0 rfl rfl rfl (Nat.le_of_ble_eq_true rfl) ⟨rfl, rfl⟩ ?_
    refine g_iload_n dX0_strainAheadOf_37 rfl ?_
    refine g_icmp_ge (tgt := 49) dX0_strainAheadOf_38 (by decide) (fun h => ?_) (fun h => ?_)
    · refine g_iinc dX0_strainAheadOf_49 rfl (by first | exact nI_inc _ | rfl) (by decide) rfl ?_
      show G _ _ _ _ _ _ _ _ _ [_, _, _, _, _, _] _
      refine g_jump (tgt := 5) dX0_strainAheadOf_52 (by decide) ?_
      have e : sI (fun j => if mile ≤ mt ld g j then nI 0 else stn (tk j)) (i + 1) = sI (fun j => if mile ≤ mt ld g j then nI 0 else stn (tk j)) i := by
        rw [sI, if_pos h, add_nI0]
      have := ih (i + 1) (by omega) (some (.ref t))
      rw [e] at this
      exact this
    · refine g_iload_n dX0_strainAheadOf_41 rfl ?_
      refine g_aload dX0_strainAheadOf_42 rfl ?_
      refine g_callVp (Y := YX5_strainOnIce) sv_X0_50 rfl yn_X5_strainOnIce 7 (by decide) rfl rfl dX0_strainAheadOf_44 (c_strainOnIce e2 pR_ok) e2.1 rfl rfl rfl (Nat.le_of_ble_eq_true rfl) ⟨rfl, rfl⟩ ?_
      refine g_iadd dX0_strainAheadOf_47 ?_
      refine g_istore_n dX0_strainAheadOf_48 (by decide) rfl ?_
      show G _ _ _ _ _ _ _ _ _ [_, _, _, _, _, _] _
      refine g_iinc dX0_strainAheadOf_49 rfl (by first | exact nI_inc _ | rfl) (by decide) rfl ?_
      show G _ _ _ _ _ _ _ _ _ [_, _, _, _, _, _] _
      refine g_jump (tgt := 5) dX0_strainAheadOf_52 (by decide) ?_
      have e : sI (fun j => if mile ≤ mt ld g j then nI 0 else stn (tk j)) (i + 1) = sI (fun j => if mile ≤ mt ld g j then nI 0 else stn (tk j)) i + stn (tk i) := by
        rw [sI, if_neg h]
      have := ih (i + 1) (by omega) (some (.ref t))
      rw [e] at this
      exact this
end LEAF

