/-! the class' methods: weather and miles -/
section METH1
variable {E : gE} {M : gM} {P : gP} {sh : Sh} {sz : Nat} {V V' : Vl} {cu su pc : Nat} {L : List (Option Value)} {rest : List Value} {x : Nat} {S : St}
theorem sw_out {w : Int32} {n : Nat} (hn : n + 1 < 2 ^ 31) (e : (nI (n + 1)).toInt = (n : Int) + 1) (h : ¬ (0 ≤ w ∧ w < nI (n + 1))) : w.toInt < 0 ∨ (n : Int) < w.toInt := by
  rw [fa_le, fa_lt, e] at h
  have e0 : (0 : Int32).toInt = 0 := by decide
  rw [e0] at h
  omega
theorem m_set {w v : Int32} (hC : CS sh V x S) (hW : Wf sh sz) (hP : CP x sh sz V [xIA] (sp_set S w v) P) : MC E YX6_set [.ref x, .int w, .int v] sh sz V P := by
  obtain ⟨o0, o1, o2, o3, o4, o5, o6, o7, o8⟩ := hC.1
  unfold sp_set at hP
  refine MC.of RX6 "set" rfl (by decide +kernel) rfl 1 [_, _, _, none] rfl (Nat.le_of_ble_eq_true rfl) ?_
  show G E MX6_set _ _ _ _ _ _ _ _ _
  refine g_iload_n dX6_set_0 rfl ?_
  refine g_iload_n dX6_set_1 rfl ?_
  refine g_callSp (Y := YX6_isSettingValue) ss_X6_47 yn_X6_isSettingValue dX6_set_2 (c_isSettingValue pR_ok) rfl rfl rfl (Nat.le_of_ble_eq_true rfl) ⟨rfl, rfl⟩ ?_
  refine g_if_ne (tgt := 18) dX6_set_5 (by decide) (fun b1 => ?_) (fun b1 => ?_)
  · have b2 := bi_ne b1
    rw [if_pos b2] at hP
    obtain ⟨k, hk, rfl⟩ := in_nI b2.1.1 b2.1.2 (by decide)
    rw [nI_clamp (by omega)] at hP
    refine g_aload_n dX6_set_18 rfl ?_
    refine g_get 8 rfl (by decide) inX6 4 (by decide) fl_X6_29 dX6_set_19 o0 o5 ?_
    refine g_aload_n dX6_set_22 rfl ?_
    refine g_get 8 rfl (by decide) inX6 0 (by decide) fl_X6_12 dX6_set_23 o0 o1 ?_
    refine g_callVv (Y := YX1_keep) (Q := (fun V1 => (∀ a, ¬ (x ≤ a ∧ a < x + 284) → V1 a = V a) ∧ CS sh V1 x (S.1, S.2.1, pH S.2.2.1 S.2.2.2.1 S.1, pC S.2.2.2.1, S.2.2.2.2))) sv_X6_58 rfl yn_X1_keep 3 (by decide) rfl rfl dX6_set_26 (c_keepC hC (fun V1 q1 q2 => ⟨rfl, rfl, rfl, q1, q2⟩)) (by obtain ⟨-, -, -, -, ⟨K, nx, hH, -⟩, -⟩ := hC; exact hH.1) rfl rfl rfl (Nat.le_of_ble_eq_true rfl) ⟨rfl, rfl⟩ (fun V1 q => ?_)
    obtain ⟨q1, q2⟩ := q
    obtain ⟨p0, p1, p2, p3, p4, p5, p6, p7, p8⟩ := q2.1
    have hR : RoadAt sh V1 (x + 1) S.1 := q2.2.1
    refine g_aload_n dX6_set_29 rfl ?_
    refine g_get 8 rfl (by decide) inX6 0 (by decide) fl_X6_12 dX6_set_30 p0 p1 ?_
    refine g_get 6 rfl (by decide) inX4 0 (by decide) fl_X6_62 dX6_set_33 hR.1.1 hR.2.1.1 ?_
    refine g_iload_n dX6_set_36 rfl ?_
    refine g_iaload dX6_set_37 hR.1.2.1 (vp_in_nI hk (by decide)) (hR.set hk) ?_
    refine g_istore_n dX6_set_38 (by decide) rfl ?_
    show G _ _ _ _ _ _ _ _ _ [_, _, _, _] _
    refine g_aload_n dX6_set_39 rfl ?_
    refine g_get 8 rfl (by decide) inX6 0 (by decide) fl_X6_12 dX6_set_40 p0 p1 ?_
    refine g_get 6 rfl (by decide) inX4 0 (by decide) fl_X6_62 dX6_set_43 hR.1.1 hR.2.1.1 ?_
    refine g_iload_n dX6_set_46 rfl ?_
    refine g_iload_n dX6_set_47 rfl ?_
    refine g_iastore dX6_set_48 hR.1.2.1 (vp_in_nI hk (by decide)) ?_
    rw [nI_clamp (by omega)]
    have hP := hP.retW hW (V' := hu V1 (x + 1 + 1) k (.int v)) (fun a ha => (hu_ne _ _ _ (by omega)).trans (q1 a ha)) (CAt.now q2 (Fr.rf.put (by omega) (by omega)) (RoadAt.sett hk hR))
    refine g_iload_n dX6_set_49 rfl ?_
    exact g_iret rfl (nr_int _) dX6_set_50 (by decide) hP
  · rw [if_neg (bi_eq b1)] at hP
    refine g_throw (names := tn_IllegalArgumentException) (text := "no such setting, or its value is out of range") rfl (by decide +kernel) cl_X6_51 ini_IllegalArgumentException (by decide +kernel) ta_X6_55 to_X6_55 dX6_set_8 dX6_set_11 dX6_set_12 dX6_set_14 dX6_set_17 rfl (by decide) (by decide) (by decide) (hP.thr hW hC rfl)
theorem m_setting {w : Int32} (hC : CS sh V x S) (hW : Wf sh sz) (hP : CP x sh sz V [xIA] (sp_setting S w) P) : MC E YX6_setting [.ref x, .int w] sh sz V P := by
  obtain ⟨o0, o1, o2, o3, o4, o5, o6, o7, o8⟩ := hC.1
  have hR : RoadAt sh V (x + 1) S.1 := hC.2.1
  unfold sp_setting at hP
  refine MC.of RX6 "setting" rfl (by decide +kernel) rfl 0 [_, _] rfl (Nat.le_of_ble_eq_true rfl) ?_
  show G E MX6_setting _ _ _ _ _ _ _ _ _
  refine g_iload_n dX6_setting_0 rfl ?_
  refine g_callSp (Y := YX6_isSetting) ss_X6_66 yn_X6_isSetting dX6_setting_1 (c_isSetting pR_ok) rfl rfl rfl (Nat.le_of_ble_eq_true rfl) ⟨rfl, rfl⟩ ?_
  refine g_if_ne (tgt := 17) dX6_setting_4 (by decide) (fun b1 => ?_) (fun b1 => ?_)
  · have b2 := bi_ne b1
    rw [if_pos b2] at hP
    obtain ⟨k, hk, rfl⟩ := in_nI b2.1 b2.2 (by decide)
    rw [nI_clamp (by omega)] at hP
    refine g_aload_n dX6_setting_17 rfl ?_
    refine g_get 8 rfl (by decide) inX6 0 (by decide) fl_X6_12 dX6_setting_18 o0 o1 ?_
    refine g_get 6 rfl (by decide) inX4 0 (by decide) fl_X6_62 dX6_setting_21 hR.1.1 hR.2.1.1 ?_
    refine g_iload_n dX6_setting_24 rfl ?_
    refine g_iaload dX6_setting_25 hR.1.2.1 (vp_in_nI hk (by decide)) (hR.set hk) ?_
    exact g_iret rfl (nr_int _) dX6_setting_26 (by decide) (hP.ret hW hC)
  · rw [if_neg (bi_eq b1)] at hP
    refine g_throw (names := tn_IllegalArgumentException) (text := "no such setting") rfl (by decide +kernel) cl_X6_51 ini_IllegalArgumentException (by decide +kernel) ta_X6_55 to_X6_55 dX6_setting_7 dX6_setting_10 dX6_setting_11 dX6_setting_13 dX6_setting_16 rfl (by decide) (by decide) (by decide) (hP.thr hW hC rfl)
theorem m_drill {a : Int32} (hC : CS sh V x S) (hI : InvB S.1) (hW : Wf sh sz) (hP : CP x sh sz V [xIO] (sp_drill S a) P) : MC E YX6_drill [.ref x, .int a] sh sz V P := by
  obtain ⟨o0, o1, o2, o3, o4, o5, o6, o7, o8⟩ := hC.1
  unfold sp_drill at hP
  refine MC.of RX6 "drill" rfl (by decide +kernel) rfl 0 [_, _] rfl (Nat.le_of_ble_eq_true rfl) ?_
  show G E MX6_drill _ _ _ _ _ _ _ _ _
  refine g_iload_n dX6_drill_0 rfl ?_
  refine g_callSp (Y := YX6_isMile) ss_X6_72 yn_X6_isMile dX6_drill_1 (c_isMile pR_ok) rfl rfl rfl (Nat.le_of_ble_eq_true rfl) ⟨rfl, rfl⟩ ?_
  refine g_if_ne (tgt := 17) dX6_drill_4 (by decide) (fun b1 => ?_) (fun b1 => ?_)
  · have b2 := bi_ne b1
    rw [if_pos b2] at hP
    obtain ⟨j, hj, rfl⟩ := isM_nI b2
    rw [nI_clamp (by omega)] at hP
    refine g_aload_n dX6_drill_17 rfl ?_
    refine g_get 8 rfl (by decide) inX6 4 (by decide) fl_X6_29 dX6_drill_18 o0 o5 ?_
    refine g_aload_n dX6_drill_21 rfl ?_
    refine g_get 8 rfl (by decide) inX6 0 (by decide) fl_X6_12 dX6_drill_22 o0 o1 ?_
    refine g_callVv (Y := YX1_keep) (Q := (fun V1 => (∀ a, ¬ (x ≤ a ∧ a < x + 284) → V1 a = V a) ∧ CS sh V1 x (S.1, S.2.1, pH S.2.2.1 S.2.2.2.1 S.1, pC S.2.2.2.1, S.2.2.2.2))) sv_X6_58 rfl yn_X1_keep 3 (by decide) rfl rfl dX6_drill_25 (c_keepC hC (fun V1 q1 q2 => ⟨rfl, rfl, rfl, q1, q2⟩)) (by obtain ⟨-, -, -, -, ⟨K, nx, hH, -⟩, -⟩ := hC; exact hH.1) rfl rfl rfl (Nat.le_of_ble_eq_true rfl) ⟨rfl, rfl⟩ (fun V1 q => ?_)
    obtain ⟨q1, q2⟩ := q
    obtain ⟨p0, p1, p2, p3, p4, p5, p6, p7, p8⟩ := q2.1
    have hR : RoadAt sh V1 (x + 1) S.1 := q2.2.1
    refine g_aload_n dX6_drill_28 rfl ?_
    refine g_get 8 rfl (by decide) inX6 0 (by decide) fl_X6_12 dX6_drill_29 p0 p1 ?_
    refine g_aload_n dX6_drill_32 rfl ?_
    refine g_get 8 rfl (by decide) inX6 0 (by decide) fl_X6_12 dX6_drill_33 p0 p1 ?_
    refine g_get 6 rfl (by decide) inX4 2 (by decide) fl_X6_80 dX6_drill_36 hR.1.1 hR.2.1.2.2.1 ?_
    refine g_iload_n dX6_drill_39 rfl ?_
    refine g_aaload _ dX6_drill_40 hR.1.2.2.1 (by decide) (by decide) (vp_in_nI hj (by decide)) (hR.mir hj) ?_
    refine g_callVv (Y := YX4_noteIce) (Q := (fun V2 => Fr V1 V2 (x + 1) ∧ RoadAt sh V2 (x + 1) (drF S.1 j))) sv_X6_84 rfl yn_X4_noteIce 6 (by decide) rfl rfl dX6_drill_41 (c_noteIce hR hj (fun V2 q1 q2 => ⟨rfl, rfl, rfl, q1, q2⟩)) hR.1.1 rfl rfl rfl (Nat.le_of_ble_eq_true rfl) ⟨rfl, rfl⟩ (fun V2 q => ?_)
    obtain ⟨q3, q4⟩ := q
    have hC2 := CAt.now q2 q3 q4
    obtain ⟨r0, r1, r2, r3, r4, r5, r6, r7, r8⟩ := hC2.1
    obtain ⟨m0, m1, m2, m3, m4, m5, m6⟩ := q4.mi hj
    have e3 : drF S.1 j (oM j 3) = S.1 (oM j 0) := by
      unfold drF
      rw [pk_un (by unfold oM; omega), pk_un (oM_ne (by decide)), pk_us]
    rw [e3] at m2
    refine g_aload_n dX6_drill_44 rfl ?_
    refine g_get 8 rfl (by decide) inX6 0 (by decide) fl_X6_12 dX6_drill_45 r0 r1 ?_
    refine g_get 6 rfl (by decide) inX4 2 (by decide) fl_X6_80 dX6_drill_48 q4.1.1 q4.2.1.2.2.1 ?_
    refine g_iload_n dX6_drill_51 rfl ?_
    refine g_aaload _ dX6_drill_52 q4.1.2.2.1 (by decide) (by decide) (vp_in_nI hj (by decide)) (q4.mir hj) ?_
    refine g_get 4 rfl (by decide) inX2 1 (by decide) fl_X6_88 dX6_drill_53 m0 m2 ?_
    refine g_callSp (Y := YX6_floatBits) ss_X6_94 yn_X6_floatBits dX6_drill_56 (c_floatBits (okI.n (hI.2.2.2.1 j hj).1) pR_ok) rfl rfl rfl (Nat.le_of_ble_eq_true rfl) ⟨rfl, rfl⟩ ?_
    have hP := hP.retW hW (V' := V2) (fun a ha => (q3 a (by omega)).trans (q1 a ha)) hC2
    have e4 : (S.1 (oM j 0)).toUInt32.toInt32 = S.1 (oM j 0) := by simp
    rw [e4]
    exact g_iret rfl (nr_int _) dX6_drill_59 (by decide) hP
  · rw [if_neg (bi_eq b1)] at hP
    refine g_throw (names := tn_IndexOutOfBoundsException) (text := "no such mile") rfl (by decide +kernel) cl_X6_75 ini_IndexOutOfBoundsException (by decide +kernel) ta_X6_79 to_X6_79 dX6_drill_7 dX6_drill_10 dX6_drill_11 dX6_drill_13 dX6_drill_16 rfl (by decide) (by decide) (by decide) (hP.thr hW hC rfl)
theorem m_drilled {a : Int32} (hC : CS sh V x S) (hI : InvB S.1) (hW : Wf sh sz) (hP : CP x sh sz V [xIO, nsC] (sp_drilled S a) P) : MC E YX6_drilled [.ref x, .int a] sh sz V P := by
  obtain ⟨o0, o1, o2, o3, o4, o5, o6, o7, o8⟩ := hC.1
  have hR : RoadAt sh V (x + 1) S.1 := hC.2.1
  unfold sp_drilled at hP
  refine MC.of RX6 "drilled" rfl (by decide +kernel) rfl 0 [_, _] rfl (Nat.le_of_ble_eq_true rfl) ?_
  show G E MX6_drilled _ _ _ _ _ _ _ _ _
  refine g_iload_n dX6_drilled_0 rfl ?_
  refine g_callSp (Y := YX6_isMile) ss_X6_72 yn_X6_isMile dX6_drilled_1 (c_isMile pR_ok) rfl rfl rfl (Nat.le_of_ble_eq_true rfl) ⟨rfl, rfl⟩ ?_
  refine g_if_ne (tgt := 17) dX6_drilled_4 (by decide) (fun b1 => ?_) (fun b1 => ?_)
  · have b2 := bi_ne b1
    rw [if_pos b2] at hP
    obtain ⟨j, hj, rfl⟩ := isM_nI b2
    rw [nI_clamp (by omega)] at hP
    obtain ⟨m0, m1, m2, m3, m4, m5, m6⟩ := hR.mi hj
    refine g_aload_n dX6_drilled_17 rfl ?_
    refine g_get 8 rfl (by decide) inX6 0 (by decide) fl_X6_12 dX6_drilled_18 o0 o1 ?_
    refine g_get 6 rfl (by decide) inX4 2 (by decide) fl_X6_80 dX6_drilled_21 hR.1.1 hR.2.1.2.2.1 ?_
    refine g_iload_n dX6_drilled_24 rfl ?_
    refine g_aaload _ dX6_drilled_25 hR.1.2.2.1 (by decide) (by decide) (vp_in_nI hj (by decide)) (hR.mir hj) ?_
    refine g_get 4 rfl (by decide) inX2 2 (by decide) fl_X6_98 dX6_drilled_26 m0 m3 ?_
    refine g_if_ge (tgt := 42) dX6_drilled_29 (by decide) (fun b3 => ?_) (fun b3 => ?_)
    · rw [if_neg (Int32.not_lt.mpr b3)] at hP
      refine g_aload_n dX6_drilled_42 rfl ?_
      refine g_get 8 rfl (by decide) inX6 0 (by decide) fl_X6_12 dX6_drilled_43 o0 o1 ?_
      refine g_get 6 rfl (by decide) inX4 2 (by decide) fl_X6_80 dX6_drilled_46 hR.1.1 hR.2.1.2.2.1 ?_
      refine g_iload_n dX6_drilled_49 rfl ?_
      refine g_aaload _ dX6_drilled_50 hR.1.2.2.1 (by decide) (by decide) (vp_in_nI hj (by decide)) (hR.mir hj) ?_
      refine g_get 4 rfl (by decide) inX2 1 (by decide) fl_X6_88 dX6_drilled_51 m0 m2 ?_
      refine g_callSp (Y := YX6_floatBits) ss_X6_94 yn_X6_floatBits dX6_drilled_54 (c_floatBits (okI.n (hI.2.2.2.1 j hj).2.1) pR_ok) rfl rfl rfl (Nat.le_of_ble_eq_true rfl) ⟨rfl, rfl⟩ ?_
      have e4 : (S.1 (oM j 3)).toUInt32.toInt32 = S.1 (oM j 3) := by simp
      rw [e4]
      exact g_iret rfl (nr_int _) dX6_drilled_57 (by decide) (hP.ret hW hC)
    · rw [if_pos (Int32.not_le.mp b3)] at hP
      refine g_throwN (text := "the mile was never drilled") rfl cl_X6_101 (by decide +kernel) dX6_drilled_32 dX6_drilled_35 dX6_drilled_36 dX6_drilled_38 dX6_drilled_41 rfl (by decide) (by decide) (by decide) (hP.thr hW hC rfl)
  · rw [if_neg (bi_eq b1)] at hP
    refine g_throw (names := tn_IndexOutOfBoundsException) (text := "no such mile") rfl (by decide +kernel) cl_X6_75 ini_IndexOutOfBoundsException (by decide +kernel) ta_X6_79 to_X6_79 dX6_drilled_7 dX6_drilled_10 dX6_drilled_11 dX6_drilled_13 dX6_drilled_16 rfl (by decide) (by decide) (by decide) (hP.thr hW hC rfl)
theorem m_mileOf {a w : Int32} (hC : CS sh V x S) (hW : Wf sh sz) (hP : CP x sh sz V [xIO, xIA] (sp_mileOf S a w) P) : MC E YX6_mileOf [.ref x, .int a, .int w] sh sz V P := by
  obtain ⟨o0, o1, o2, o3, o4, o5, o6, o7, o8⟩ := hC.1
  have hR : RoadAt sh V (x + 1) S.1 := hC.2.1
  unfold sp_mileOf at hP
  refine MC.of RX6 "mileOf" rfl (by decide +kernel) rfl 1 [_, _, _, none] rfl (Nat.le_of_ble_eq_true rfl) ?_
  show G E MX6_mileOf _ _ _ _ _ _ _ _ _
  refine g_iload_n dX6_mileOf_0 rfl ?_
  refine g_callSp (Y := YX6_isMile) ss_X6_72 yn_X6_isMile dX6_mileOf_1 (c_isMile pR_ok) rfl rfl rfl (Nat.le_of_ble_eq_true rfl) ⟨rfl, rfl⟩ ?_
  refine g_if_ne (tgt := 17) dX6_mileOf_4 (by decide) (fun b1 => ?_) (fun b1 => ?_)
  · have b2 := bi_ne b1
    rw [if_pos b2] at hP
    obtain ⟨j, hj, rfl⟩ := isM_nI b2
    rw [nI_clamp (by omega)] at hP
    obtain ⟨m0, m1, m2, m3, m4, m5, m6⟩ := hR.mi hj
    refine g_aload_n dX6_mileOf_17 rfl ?_
    refine g_get 8 rfl (by decide) inX6 0 (by decide) fl_X6_12 dX6_mileOf_18 o0 o1 ?_
    refine g_get 6 rfl (by decide) inX4 2 (by decide) fl_X6_80 dX6_mileOf_21 hR.1.1 hR.2.1.2.2.1 ?_
    refine g_iload_n dX6_mileOf_24 rfl ?_
    refine g_aaload _ dX6_mileOf_25 hR.1.2.2.1 (by decide) (by decide) (vp_in_nI hj (by decide)) (hR.mir hj) ?_
    refine g_astore_n dX6_mileOf_26 (by decide) rfl ?_
    show G _ _ _ _ _ _ _ _ _ [_, _, _, _] _
    refine g_iload_n dX6_mileOf_27 rfl ?_
    by_cases b3 : 0 ≤ w ∧ w < nI 5
    · rw [if_pos b3] at hP
      obtain ⟨k, hk, rfl⟩ := in_nI b3.1 b3.2 (by decide)
      unfold mileV at hP
      rcases (show k = 0 ∨ k = 1 ∨ k = 2 ∨ k = 3 ∨ k = 4 by omega) with rfl | rfl | rfl | rfl | rfl
      · rw [if_pos rfl] at hP
        refine g_tableIn (off := 36) (tgt := 64) dX6_mileOf_28 (by decide) (by decide) (by decide +kernel) (by decide) ?_
        refine g_aload_n dX6_mileOf_64 rfl ?_
        refine g_get 4 rfl (by decide) inX2 3 (by decide) fl_X6_106 dX6_mileOf_65 m0 m4 ?_
        exact g_iret rfl (nr_int _) dX6_mileOf_68 (by decide) (hP.ret hW hC)
      · rw [if_neg (by decide), if_pos rfl] at hP
        refine g_tableIn (off := 41) (tgt := 69) dX6_mileOf_28 (by decide) (by decide) (by decide +kernel) (by decide) ?_
        refine g_aload_n dX6_mileOf_69 rfl ?_
        refine g_get 4 rfl (by decide) inX2 4 (by decide) fl_X6_109 dX6_mileOf_70 m0 m5 ?_
        exact g_iret rfl (nr_int _) dX6_mileOf_73 (by decide) (hP.ret hW hC)
      · rw [if_neg (by decide), if_neg (by decide), if_pos rfl] at hP
        refine g_tableIn (off := 46) (tgt := 74) dX6_mileOf_28 (by decide) (by decide) (by decide +kernel) (by decide) ?_
        refine g_aload_n dX6_mileOf_74 rfl ?_
        refine g_get 4 rfl (by decide) inX2 2 (by decide) fl_X6_98 dX6_mileOf_75 m0 m3 ?_
        exact g_iret rfl (nr_int _) dX6_mileOf_78 (by decide) (hP.ret hW hC)
      · rw [if_neg (by decide), if_neg (by decide), if_neg (by decide), if_pos rfl] at hP
        refine g_tableIn (off := 51) (tgt := 79) dX6_mileOf_28 (by decide) (by decide) (by decide +kernel) (by decide) ?_
        refine g_aload_n dX6_mileOf_79 rfl ?_
        refine g_get 8 rfl (by decide) inX6 0 (by decide) fl_X6_12 dX6_mileOf_80 o0 o1 ?_
        refine g_aload_n dX6_mileOf_83 rfl ?_
        refine g_callVp (Y := YX4_isDrillGood) sv_X6_112 rfl yn_X4_isDrillGood 6 (by decide) rfl rfl dX6_mileOf_84 (c_isDrillGood hR hj pR_ok) hR.1.1 rfl rfl rfl (Nat.le_of_ble_eq_true rfl) ⟨rfl, rfl⟩ ?_
        refine g_if_eq (tgt := 94) dX6_mileOf_87 (by decide) (fun b4 => ?_) (fun b4 => ?_)
        · rw [bgd_f (bgd_eq b4)] at hP
          refine g_iconst (v := nI 0) dX6_mileOf_94 (by decide) ?_
          exact g_iret rfl (nr_int _) dX6_mileOf_95 (by decide) (hP.ret hW hC)
        · rw [bgd_t (bgd_ne b4)] at hP
          refine g_iconst (v := nI 1) dX6_mileOf_90 (by decide) ?_
          refine g_jump (tgt := 95) dX6_mileOf_91 (by decide) ?_
          exact g_iret rfl (nr_int _) dX6_mileOf_95 (by decide) (hP.ret hW hC)
      · rw [if_neg (by decide), if_neg (by decide), if_neg (by decide), if_neg (by decide)] at hP
        refine g_tableIn (off := 68) (tgt := 96) dX6_mileOf_28 (by decide) (by decide) (by decide +kernel) (by decide) ?_
        refine g_aload_n dX6_mileOf_96 rfl ?_
        refine g_get 4 rfl (by decide) inX2 5 (by decide) fl_X6_116 dX6_mileOf_97 m0 m6 ?_
        exact g_iret rfl (nr_int _) dX6_mileOf_100 (by decide) (hP.ret hW hC)
    · rw [if_neg b3] at hP
      refine g_tableOut (tgt := 101) dX6_mileOf_28 (sw_out (n := 4) (by decide) (by decide) b3) (by decide) ?_
      refine g_throw (names := tn_IllegalArgumentException) (text := "no such number of a mile") rfl (by decide +kernel) cl_X6_51 ini_IllegalArgumentException (by decide +kernel) ta_X6_55 to_X6_55 dX6_mileOf_101 dX6_mileOf_104 dX6_mileOf_105 dX6_mileOf_107 dX6_mileOf_110 rfl (by decide) (by decide) (by decide) (hP.thr hW hC rfl)
  · rw [if_neg (bi_eq b1)] at hP
    refine g_throw (names := tn_IndexOutOfBoundsException) (text := "no such mile") rfl (by decide +kernel) cl_X6_75 ini_IndexOutOfBoundsException (by decide +kernel) ta_X6_79 to_X6_79 dX6_mileOf_7 dX6_mileOf_10 dX6_mileOf_11 dX6_mileOf_13 dX6_mileOf_16 rfl (by decide) (by decide) (by decide) (hP.thr hW hC rfl)
theorem m_ice {a : Int32} (hC : CS sh V x S) (hW : Wf sh sz) (hP : CP x sh sz V [xIO] (sp_ice S a) P) : MC E YX6_ice [.ref x, .int a] sh sz V P := by
  obtain ⟨o0, o1, o2, o3, o4, o5, o6, o7, o8⟩ := hC.1
  have hR : RoadAt sh V (x + 1) S.1 := hC.2.1
  unfold sp_ice at hP
  refine MC.of RX6 "ice" rfl (by decide +kernel) rfl 0 [_, _] rfl (Nat.le_of_ble_eq_true rfl) ?_
  show G E MX6_ice _ _ _ _ _ _ _ _ _
  refine g_iload_n dX6_ice_0 rfl ?_
  refine g_callSp (Y := YX6_isMile) ss_X6_72 yn_X6_isMile dX6_ice_1 (c_isMile pR_ok) rfl rfl rfl (Nat.le_of_ble_eq_true rfl) ⟨rfl, rfl⟩ ?_
  refine g_if_ne (tgt := 17) dX6_ice_4 (by decide) (fun b1 => ?_) (fun b1 => ?_)
  · have b2 := bi_ne b1
    rw [if_pos b2] at hP
    obtain ⟨j, hj, rfl⟩ := isM_nI b2
    rw [nI_clamp (by omega)] at hP
    obtain ⟨m0, m1, m2, m3, m4, m5, m6⟩ := hR.mi hj
    refine g_aload_n dX6_ice_17 rfl ?_
    refine g_get 8 rfl (by decide) inX6 0 (by decide) fl_X6_12 dX6_ice_18 o0 o1 ?_
    refine g_get 6 rfl (by decide) inX4 2 (by decide) fl_X6_80 dX6_ice_21 hR.1.1 hR.2.1.2.2.1 ?_
    refine g_iload_n dX6_ice_24 rfl ?_
    refine g_aaload _ dX6_ice_25 hR.1.2.2.1 (by decide) (by decide) (vp_in_nI hj (by decide)) (hR.mir hj) ?_
    refine g_get 4 rfl (by decide) inX2 0 (by decide) fl_X6_121 dX6_ice_26 m0 m1 ?_
    exact g_fret rfl dX6_ice_29 (by decide) (hP.ret hW hC)
  · rw [if_neg (bi_eq b1)] at hP
    refine g_throw (names := tn_IndexOutOfBoundsException) (text := "no such mile") rfl (by decide +kernel) cl_X6_75 ini_IndexOutOfBoundsException (by decide +kernel) ta_X6_79 to_X6_79 dX6_ice_7 dX6_ice_10 dX6_ice_11 dX6_ice_13 dX6_ice_16 rfl (by decide) (by decide) (by decide) (hP.thr hW hC rfl)
theorem bd_okN {f : Fl} (hI : InvB f) {j : Nat} (hj : j < 12) : okN (bd f j) := by
  obtain ⟨l, hl, e6⟩ := hI.2.2.1
  obtain ⟨-, i2, ⟨c, hc, ec⟩, -⟩ := hI.2.2.2.1 j hj
  unfold bd bdF
  rw [ec, e6]
  by_cases q : gdF f j
  · rw [if_pos q]
    exact (fp_bor i2 hc hl).2.2.2.2.2.2.2
  · rw [if_neg q]
    unfold okN
    decide
theorem m_bears {a : Int32} (hC : CS sh V x S) (hI : InvB S.1) (hW : Wf sh sz) (hP : CP x sh sz V [xIO] (sp_bears S a) P) : MC E YX6_bears [.ref x, .int a] sh sz V P := by
  obtain ⟨o0, o1, o2, o3, o4, o5, o6, o7, o8⟩ := hC.1
  have hR : RoadAt sh V (x + 1) S.1 := hC.2.1
  unfold sp_bears at hP
  refine MC.of RX6 "bears" rfl (by decide +kernel) rfl 0 [_, _] rfl (Nat.le_of_ble_eq_true rfl) ?_
  show G E MX6_bears _ _ _ _ _ _ _ _ _
  refine g_iload_n dX6_bears_0 rfl ?_
  refine g_callSp (Y := YX6_isMile) ss_X6_72 yn_X6_isMile dX6_bears_1 (c_isMile pR_ok) rfl rfl rfl (Nat.le_of_ble_eq_true rfl) ⟨rfl, rfl⟩ ?_
  refine g_if_ne (tgt := 17) dX6_bears_4 (by decide) (fun b1 => ?_) (fun b1 => ?_)
  · have b2 := bi_ne b1
    rw [if_pos b2] at hP
    obtain ⟨j, hj, rfl⟩ := isM_nI b2
    rw [nI_clamp (by omega)] at hP
    refine g_aload_n dX6_bears_17 rfl ?_
    refine g_get 8 rfl (by decide) inX6 0 (by decide) fl_X6_12 dX6_bears_18 o0 o1 ?_
    refine g_aload_n dX6_bears_21 rfl ?_
    refine g_get 8 rfl (by decide) inX6 0 (by decide) fl_X6_12 dX6_bears_22 o0 o1 ?_
    refine g_get 6 rfl (by decide) inX4 2 (by decide) fl_X6_80 dX6_bears_25 hR.1.1 hR.2.1.2.2.1 ?_
    refine g_iload_n dX6_bears_28 rfl ?_
    refine g_aaload _ dX6_bears_29 hR.1.2.2.1 (by decide) (by decide) (vp_in_nI hj (by decide)) (hR.mir hj) ?_
    refine g_callVp (Y := YX4_borneByDrill) sv_X6_124 rfl yn_X4_borneByDrill 6 (by decide) rfl rfl dX6_bears_30 (c_borneByDrill hR hI hj pR_ok) hR.1.1 rfl rfl rfl (Nat.le_of_ble_eq_true rfl) ⟨rfl, rfl⟩ ?_
    refine g_callSp (Y := YX6_floatBits) ss_X6_94 yn_X6_floatBits dX6_bears_33 (c_floatBits (bd_okN hI hj) pR_ok) rfl rfl rfl (Nat.le_of_ble_eq_true rfl) ⟨rfl, rfl⟩ ?_
    exact g_iret rfl (nr_int _) dX6_bears_36 (by decide) (hP.ret hW hC)
  · rw [if_neg (bi_eq b1)] at hP
    refine g_throw (names := tn_IndexOutOfBoundsException) (text := "no such mile") rfl (by decide +kernel) cl_X6_75 ini_IndexOutOfBoundsException (by decide +kernel) ta_X6_79 to_X6_79 dX6_bears_7 dX6_bears_10 dX6_bears_11 dX6_bears_13 dX6_bears_16 rfl (by decide) (by decide) (by decide) (hP.thr hW hC rfl)
theorem fstI_neg {p : Nat → Bool} {n : Nat} (hn : n < 2 ^ 31) : fstI p n < 0 ↔ ∀ k, k < n → p k = false := by
  constructor
  · intro h k hk
    rcases hp : p k with _ | _
    · rfl
    · exfalso
      unfold fstI at h
      have hle := fa_first_le p n
      have : fa_first p n < n := Nat.lt_of_not_le fun q => by
        have := fa_first_no p n k (by omega)
        rw [hp] at this
        cases this
      rw [if_pos this] at h
      exact nI_pos (by omega) h
  · intro h
    rw [fstI_none h]
    decide
theorem tkn_iff {f : Fl} {m : Int32} : tkn f m (-1) ↔ ∃ c, c < cnt f ∧ 0 ≤ paF f c m ∧ nI c ≠ -1 := ⟨fun ⟨c, h1, h2, h3⟩ => ⟨c, h1, h3, h2⟩, fun ⟨c, h1, h2, h3⟩ => ⟨c, h1, h3, h2⟩⟩
theorem nI_m1 {c : Nat} (h : c < 2 ^ 31) : nI c ≠ -1 := fun e => by
  have h0 := nI_pos' h
  rw [e] at h0
  exact absurd h0 (by decide)
theorem tkn_fst {f : Fl} (hI : InvB f) {m : Int32} : ¬ fstI (fun c => decide (0 ≤ paF f c m)) (cnt f) < 0 ↔ tkn f m (-1) := by
  have h4 := hI.1.2
  rw [fstI_neg (by omega)]
  constructor
  · intro h
    refine Classical.byContradiction fun q => h fun k hk => decide_eq_false fun z => q ⟨k, hk, nI_m1 (by omega), z⟩
  · rintro ⟨c, h1, -, h3⟩ h
    exact of_decide_eq_false (h c h1) h3
theorem m_sign {a : Int32} (hC : CS sh V x S) (hI : InvB S.1) (hW : Wf sh sz) (hP : CP x sh sz V [xIO] (sp_sign S a) P) : MC E YX6_sign [.ref x, .int a] sh sz V P := by
  obtain ⟨o0, o1, o2, o3, o4, o5, o6, o7, o8⟩ := hC.1
  have hR : RoadAt sh V (x + 1) S.1 := hC.2.1
  unfold sp_sign at hP
  refine MC.of RX6 "sign" rfl (by decide +kernel) rfl 1 [_, _, none] rfl (Nat.le_of_ble_eq_true rfl) ?_
  show G E MX6_sign _ _ _ _ _ _ _ _ _
  refine g_iload_n dX6_sign_0 rfl ?_
  refine g_callSp (Y := YX6_isMile) ss_X6_72 yn_X6_isMile dX6_sign_1 (c_isMile pR_ok) rfl rfl rfl (Nat.le_of_ble_eq_true rfl) ⟨rfl, rfl⟩ ?_
  refine g_if_ne (tgt := 17) dX6_sign_4 (by decide) (fun b1 => ?_) (fun b1 => ?_)
  · have b2 := bi_ne b1
    rw [if_pos b2] at hP
    obtain ⟨j, hj, rfl⟩ := isM_nI b2
    rw [nI_clamp (by omega)] at hP
    obtain ⟨m0, m1, m2, m3, m4, m5, m6⟩ := hR.mi hj
    unfold signV at hP
    refine g_aload_n dX6_sign_17 rfl ?_
    refine g_get 8 rfl (by decide) inX6 0 (by decide) fl_X6_12 dX6_sign_18 o0 o1 ?_
    refine g_iload_n dX6_sign_21 rfl ?_
    refine g_callVp (Y := YX4_convoyAt) sv_X6_128 rfl yn_X4_convoyAt 6 (by decide) rfl rfl dX6_sign_22 (c_convoyAt hR hI pR_ok) hR.1.1 rfl rfl rfl (Nat.le_of_ble_eq_true rfl) ⟨rfl, rfl⟩ ?_
    refine g_if_lt (tgt := 31) dX6_sign_25 (by decide) (fun b3 => ?_) (fun b3 => ?_)
    · rw [if_neg (fun q => (tkn_fst hI).mpr q b3)] at hP
      refine g_aload_n dX6_sign_31 rfl ?_
      refine g_get 8 rfl (by decide) inX6 0 (by decide) fl_X6_12 dX6_sign_32 o0 o1 ?_
      refine g_get 6 rfl (by decide) inX4 2 (by decide) fl_X6_80 dX6_sign_35 hR.1.1 hR.2.1.2.2.1 ?_
      refine g_iload_n dX6_sign_38 rfl ?_
      refine g_aaload _ dX6_sign_39 hR.1.2.2.1 (by decide) (by decide) (vp_in_nI hj (by decide)) (hR.mir hj) ?_
      refine g_astore_n dX6_sign_40 (by decide) rfl ?_
      show G _ _ _ _ _ _ _ _ _ [_, _, _] _
      refine g_aload_n dX6_sign_41 rfl ?_
      refine g_get 8 rfl (by decide) inX6 0 (by decide) fl_X6_12 dX6_sign_42 o0 o1 ?_
      refine g_aload_n dX6_sign_45 rfl ?_
      refine g_callVp (Y := YX4_isDrillGood) sv_X6_112 rfl yn_X4_isDrillGood 6 (by decide) rfl rfl dX6_sign_46 (c_isDrillGood hR hj pR_ok) hR.1.1 rfl rfl rfl (Nat.le_of_ble_eq_true rfl) ⟨rfl, rfl⟩ ?_
      refine g_if_eq (tgt := 63) dX6_sign_49 (by decide) (fun b4 => ?_) (fun b4 => ?_)
      · rw [if_neg (bgd_eq b4)] at hP
        refine g_bipush (v := nI 63) dX6_sign_63 (by decide) ?_
        exact g_iret rfl rfl dX6_sign_65 (by decide) (hP.ret hW hC)
      · rw [if_pos (bgd_ne b4)] at hP
        obtain ⟨c, hc, ec⟩ := (hI.2.2.2.1 j hj).2.2.1
        rw [ec, nI_add] at hP
        rw [ec] at m4
        refine g_bipush (v := nI 48) dX6_sign_52 (by decide) ?_
        refine g_aload_n dX6_sign_54 rfl ?_
        refine g_get 4 rfl (by decide) inX2 3 (by decide) fl_X6_106 dX6_sign_55 m0 m4 ?_
        refine g_iadd dX6_sign_58 ?_
        rw [nI_add]
        refine g_i2c (v := nI (48 + c)) dX6_sign_59 (by rw [pk_char]; rw [pk_tn (by omega), Nat.mod_eq_of_lt (by omega)]) ?_
        refine g_jump (tgt := 65) dX6_sign_60 (by decide) ?_
        exact g_iret rfl (pk_charN (by omega)).1 dX6_sign_65 (by decide) (hP.ret hW hC)
    · rw [if_pos ((tkn_fst hI).mp b3)] at hP
      refine g_bipush (v := nI 84) dX6_sign_28 (by decide) ?_
      exact g_iret rfl rfl dX6_sign_30 (by decide) (hP.ret hW hC)
  · rw [if_neg (bi_eq b1)] at hP
    refine g_throw (names := tn_IndexOutOfBoundsException) (text := "no such mile") rfl (by decide +kernel) cl_X6_75 ini_IndexOutOfBoundsException (by decide +kernel) ta_X6_79 to_X6_79 dX6_sign_7 dX6_sign_10 dX6_sign_11 dX6_sign_13 dX6_sign_16 rfl (by decide) (by decide) (by decide) (hP.thr hW hC rfl)
theorem m_weakest (hC : CS sh V x S) (hI : InvB S.1) (hW : Wf sh sz) (hP : CP x sh sz V [] (sp_weakest S) P) : MC E YX6_weakest [.ref x] sh sz V P := by
  obtain ⟨o0, o1, o2, o3, o4, o5, o6, o7, o8⟩ := hC.1
  have hR : RoadAt sh V (x + 1) S.1 := hC.2.1
  refine MC.of RX6 "weakest" rfl (by decide +kernel) rfl 4 [_, none, none, none, none] rfl (Nat.le_of_ble_eq_true rfl) ?_
  show G E MX6_weakest _ _ _ _ _ _ _ _ _
  refine g_iconst (v := nI 0) dX6_weakest_0 (by decide) ?_
  refine g_istore_n dX6_weakest_1 (by decide) rfl ?_
  show G _ _ _ _ _ _ _ _ _ [_, _, _, _, _] _
  refine g_aload_n dX6_weakest_2 rfl ?_
  refine g_get 8 rfl (by decide) inX6 0 (by decide) fl_X6_12 dX6_weakest_3 o0 o1 ?_
  refine g_aload_n dX6_weakest_6 rfl ?_
  refine g_get 8 rfl (by decide) inX6 0 (by decide) fl_X6_12 dX6_weakest_7 o0 o1 ?_
  refine g_get 6 rfl (by decide) inX4 2 (by decide) fl_X6_80 dX6_weakest_10 hR.1.1 hR.2.1.2.2.1 ?_
  refine g_iconst (v := nI 0) dX6_weakest_13 (by decide) ?_
  refine g_aaload _ dX6_weakest_14 hR.1.2.2.1 (by decide) (by decide) (vp_in_nI (by decide) (by decide)) (hR.mir (j := 0) (by decide)) ?_
  refine g_callVp (Y := YX4_borneByDrill) sv_X6_124 rfl yn_X4_borneByDrill 6 (by decide) rfl rfl dX6_weakest_15 (c_borneByDrill hR hI (j := 0) (by decide) pR_ok) hR.1.1 rfl rfl rfl (Nat.le_of_ble_eq_true rfl) ⟨rfl, rfl⟩ ?_
  refine g_fstore_n dX6_weakest_18 (by decide) rfl ?_
  show G _ _ _ _ _ _ _ _ _ [_, _, _, _, _] _
  refine g_iconst (v := nI 1) dX6_weakest_19 (by decide) ?_
  refine g_istore_n dX6_weakest_20 (by decide) rfl ?_
  show G _ _ _ _ _ _ _ _ _ [_, _, _, _, _] _
  suffices K : ∀ (d i : Nat), i + d = 11 → ∀ z, G E MX6_weakest P sh sz V 0 0 21 [some (.ref x), some (.int (nI (wkst S.1 i))), some (.float (bd S.1 (wkst S.1 i))), some (.int (nI (i + 1))), z] [] from K 11 0 rfl _
  intro d
  induction d with
  | zero =>
    intro i hi z
    have e : i = 11 := by omega
    subst e
    refine g_iload_n dX6_weakest_21 rfl ?_
    refine g_bipush (v := nI 12) dX6_weakest_22 (by decide) ?_
    refine g_icmp_ge (tgt := 63) dX6_weakest_24 (by decide) (fun _ => ?_) (fun hq => absurd (Int32.le_refl _) hq)
    refine g_iload_n dX6_weakest_63 rfl ?_
    exact g_iret rfl (nr_int _) dX6_weakest_64 (by decide) (hP.ret hW hC)
  | succ d ih =>
    intro i hi z
    have ih := ih (i + 1) (by omega)
    unfold wkst at ih
    refine g_iload_n dX6_weakest_21 rfl ?_
    refine g_bipush (v := nI 12) dX6_weakest_22 (by decide) ?_
    refine g_icmp_ge (tgt := 63) dX6_weakest_24 (by decide) (fun hq => absurd hq (nI_ge (by omega) (by decide))) (fun _ => ?_)
    refine g_aload_n dX6_weakest_27 rfl ?_
    refine g_get 8 rfl (by decide) inX6 0 (by decide) fl_X6_12 dX6_weakest_28 o0 o1 ?_
    refine g_aload_n dX6_weakest_31 rfl ?_
    refine g_get 8 rfl (by decide) inX6 0 (by decide) fl_X6_12 dX6_weakest_32 o0 o1 ?_
    refine g_get 6 rfl (by decide) inX4 2 (by decide) fl_X6_80 dX6_weakest_35 hR.1.1 hR.2.1.2.2.1 ?_
    refine g_iload_n dX6_weakest_38 rfl ?_
    refine g_aaload _ dX6_weakest_39 hR.1.2.2.1 (by decide) (by decide) (vp_in_nI (by omega) (by decide)) (hR.mir (j := i + 1) (by omega)) ?_
    refine g_callVp (Y := YX4_borneByDrill) sv_X6_124 rfl yn_X4_borneByDrill 6 (by decide) rfl rfl dX6_weakest_40 (c_borneByDrill hR hI (j := i + 1) (by omega) pR_ok) hR.1.1 rfl rfl rfl (Nat.le_of_ble_eq_true rfl) ⟨rfl, rfl⟩ ?_
    refine g_fstore dX6_weakest_43 (by decide) rfl ?_
    show G _ _ _ _ _ _ _ _ _ [_, _, _, _, _] _
    refine g_fload dX6_weakest_45 rfl ?_
    refine g_fload_n dX6_weakest_47 rfl ?_
    refine g_fcmp dX6_weakest_48 ?_
    refine g_if_ge (tgt := 57) dX6_weakest_49 (by decide) (fun b1 => ?_) (fun b1 => ?_)
    · rw [if_neg (Int32.not_lt.mpr b1)] at ih
      refine g_iinc dX6_weakest_57 rfl (by first | exact nI_inc _ | rfl) (by decide) rfl ?_
      show G _ _ _ _ _ _ _ _ _ [_, _, _, _, _] _
      refine g_jump (tgt := 21) dX6_weakest_60 (by decide) ?_
      exact ih _
    · rw [if_pos (Int32.not_le.mp b1)] at ih
      refine g_fload dX6_weakest_52 rfl ?_
      refine g_fstore_n dX6_weakest_54 (by decide) rfl ?_
      show G _ _ _ _ _ _ _ _ _ [_, _, _, _, _] _
      refine g_iload_n dX6_weakest_55 rfl ?_
      refine g_istore_n dX6_weakest_56 (by decide) rfl ?_
      show G _ _ _ _ _ _ _ _ _ [_, _, _, _, _] _
      refine g_iinc dX6_weakest_57 rfl (by first | exact nI_inc _ | rfl) (by decide) rfl ?_
      show G _ _ _ _ _ _ _ _ _ [_, _, _, _, _] _
      refine g_jump (tgt := 21) dX6_weakest_60 (by decide) ?_
      exact ih _
end METH1

