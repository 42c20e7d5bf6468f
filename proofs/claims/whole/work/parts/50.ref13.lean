/-! the reference's calls that change nothing (1) -/
section REF13
variable {E : gE} {M : gM} {P : gP} {sh : Sh} {sz : Nat} {V V' V1 V2 : Vl} {cu su pc : Nat} {L : List (Option Value)} {rest : List Value} {m : Nat} {f g b : Fl} {th r : Int32} {S : St}
theorem r_thrown (h : MS sh V m S th) (hP : P (.inl (some (.int th))) sh sz V) : MC E YX7_thrown [.ref m] sh sz V P := by
  obtain ⟨r, hB⟩ := h
  refine MC.of RX7 "thrown" rfl (by decide +kernel) rfl 0 [_] rfl (Nat.le_of_ble_eq_true rfl) ?_
  show G E MX7_thrown _ _ _ _ _ _ _ _ _
  refine g_aload_n dX7_thrown_0 rfl ?_
  refine g_get 9 rfl (by decide) inX7 7 (by decide) fl_X7_45 dX7_thrown_1 hB.1.1 hB.2.2.1 ?_
  exact g_iret rfl (nr_int _) dX7_thrown_4 (by decide) hP
theorem in_S (w : Int32) : bi (nI 0 ≤ w ∧ w ≤ nI 2) = bi (isS w) := bi_iff ⟨fun q => ⟨q.1, (le_lt (by decide)).mp q.2⟩, fun q => ⟨q.1, (le_lt (by decide)).mpr q.2⟩⟩
theorem in_n (w : Int32) {n : Nat} (hn : n + 1 < 2 ^ 31) : bi (nI 0 ≤ w ∧ w ≤ nI n) = bi (0 ≤ w ∧ w < nI (n + 1)) := bi_iff ⟨fun q => ⟨q.1, (le_lt hn).mp q.2⟩, fun q => ⟨q.1, (le_lt hn).mpr q.2⟩⟩
theorem r_setting {w : Int32} (h : MS sh V m S th) (hP : RI sh m sz V (sp_setting S w) P) : MC E YX7_setting [.ref m, .int w] sh sz V P := by
  obtain ⟨r, hB⟩ := h
  have h0 := hB.1.1
  unfold sp_setting at hP
  refine MC.of RX7 "setting" rfl (by decide +kernel) rfl 0 [_, _] rfl (Nat.le_of_ble_eq_true rfl) ?_
  show G E MX7_setting _ _ _ _ _ _ _ _ _
  refine g_aload_n dX7_setting_0 rfl ?_
  refine g_iload_n dX7_setting_1 rfl ?_
  refine g_iconst (v := nI 0) dX7_setting_2 (by decide) ?_
  refine g_iconst (v := nI 2) dX7_setting_3 (by decide) ?_
  refine g_callSp (Y := YX7_in) ss_X7_84 yn_X7_in dX7_setting_4 (k_in pR_ok) rfl rfl rfl (Nat.le_of_ble_eq_true rfl) ⟨rfl, rfl⟩ ?_
  rw [in_S]
  refine g_if_eq (tgt := 14) dX7_setting_7 (by decide) (fun b1 => ?_) (fun b1 => ?_)
  · rw [if_neg (bi_eq b1)] at hP
    refine g_iconst (v := nI 1) dX7_setting_14 (by decide) ?_
    refine g_put 9 rfl (by decide) inX7 tyX7 tyX7_ok nmX7 7 (by decide) fl_X7_45 rfl dX7_setting_15 h0 rfl rfl ?_
    refine g_aload_n dX7_setting_18 rfl ?_
    refine g_get 9 rfl (by decide) inX7 7 (by decide) fl_X7_45 dX7_setting_19 h0 (hu_at _ _ _ _) ?_
    refine g_if_le (tgt := 29) dX7_setting_22 (by decide) (fun hq => absurd hq ((by decide))) (fun _ => ?_)
    refine g_iconst (v := nI 0) dX7_setting_25 (by decide) ?_
    refine g_jump (tgt := 37) dX7_setting_26 (by decide) ?_
    exact g_iret rfl (nr_int _) dX7_setting_37 (by decide) (hP.t7 hB (fun z => absurd z (Nat.succ_ne_zero _)))
  rw [if_pos (bi_ne b1)] at hP
  obtain ⟨k, hk, rfl⟩ := in_nI (bi_ne b1).1 (bi_ne b1).2 (by decide)
  rw [nI_clamp (by omega)] at hP
  refine g_iconst (v := nI 0) dX7_setting_10 (by decide) ?_
  refine g_jump (tgt := 15) dX7_setting_11 (by decide) ?_
  refine g_put 9 rfl (by decide) inX7 tyX7 tyX7_ok nmX7 7 (by decide) fl_X7_45 rfl dX7_setting_15 h0 rfl rfl ?_
  refine g_aload_n dX7_setting_18 rfl ?_
  refine g_get 9 rfl (by decide) inX7 7 (by decide) fl_X7_45 dX7_setting_19 h0 (hu_at _ _ _ _) ?_
  refine g_if_le (tgt := 29) dX7_setting_22 (by decide) (fun _ => ?_) (fun hq => absurd (Int32.le_refl _) hq)
  have hS : SA sh (hu V m 7 (.int (nI 0))) m S.1 := hB.thr.1
  refine g_aload_n dX7_setting_29 rfl ?_
  refine g_get 9 rfl (by decide) inX7 0 (by decide) fl_X7_9 dX7_setting_30 h0 hS.2.2.1 ?_
  refine g_iconst (v := nI 5) dX7_setting_33 (by decide) ?_
  refine g_iload_n dX7_setting_34 rfl ?_
  refine g_iadd dX7_setting_35 ?_
  rw [nI_add]
  refine g_iaload dX7_setting_36 hS.2.1 (vp_in_nI (by omega) (by decide)) (hS.rd (k := 5 + k) (by omega)) ?_
  exact g_iret rfl (nr_int _) dX7_setting_37 (by decide) (hP.t7 hB (fun _ => rfl))
theorem r_drilled {a : Int32} (h : MS sh V m S th) (hP : RI sh m sz V (sp_drilled S a) P) : MC E YX7_drilled [.ref m, .int a] sh sz V P := by
  obtain ⟨r, hB⟩ := h
  have h0 := hB.1.1
  unfold sp_drilled at hP
  refine MC.of RX7 "drilled" rfl (by decide +kernel) rfl 0 [_, _] rfl (Nat.le_of_ble_eq_true rfl) ?_
  show G E MX7_drilled _ _ _ _ _ _ _ _ _
  refine g_aload_n dX7_drilled_0 rfl ?_
  refine g_iload_n dX7_drilled_1 rfl ?_
  refine g_callSp (Y := YX7_isMile) ss_X7_101 yn_X7_isMile dX7_drilled_2 (k_isMile pR_ok) rfl rfl rfl (Nat.le_of_ble_eq_true rfl) ⟨rfl, rfl⟩ ?_
  refine g_if_ne (tgt := 12) dX7_drilled_5 (by decide) (fun b1 => ?_) (fun b1 => ?_)
  rotate_left
  · rw [if_neg (bi_eq b1)] at hP
    refine g_iconst (v := nI 1) dX7_drilled_8 (by decide) ?_
    refine g_jump (tgt := 26) dX7_drilled_9 (by decide) ?_
    refine g_put 9 rfl (by decide) inX7 tyX7 tyX7_ok nmX7 7 (by decide) fl_X7_45 rfl dX7_drilled_26 h0 rfl rfl ?_
    refine g_aload_n dX7_drilled_29 rfl ?_
    refine g_get 9 rfl (by decide) inX7 7 (by decide) fl_X7_45 dX7_drilled_30 h0 (hu_at _ _ _ _) ?_
    refine g_if_le (tgt := 40) dX7_drilled_33 (by decide) (fun hq => absurd hq ((by decide))) (fun _ => ?_)
    refine g_iconst (v := nI 0) dX7_drilled_36 (by decide) ?_
    refine g_jump (tgt := 46) dX7_drilled_37 (by decide) ?_
    exact g_iret rfl (nr_int _) dX7_drilled_46 (by decide) (hP.t7 hB (fun z => absurd z (Nat.succ_ne_zero _)))
  rw [if_pos (bi_ne b1)] at hP
  obtain ⟨j, hj, rfl⟩ := isM_nI (bi_ne b1)
  rw [nI_clamp (by omega)] at hP
  refine g_aload_n dX7_drilled_12 rfl ?_
  refine g_iload_n dX7_drilled_13 rfl ?_
  refine g_iconst (v := nI 4) dX7_drilled_14 (by decide) ?_
  refine g_callVp (Y := YX7_get) sv_X7_67 rfl yn_X7_get 9 (by decide) rfl rfl dX7_drilled_15 (k_get hB.1 hj (k := 4) (by decide) pR_ok) h0 rfl rfl rfl (Nat.le_of_ble_eq_true rfl) ⟨rfl, rfl⟩ ?_
  refine g_if_ge (tgt := 25) dX7_drilled_18 (by decide) (fun b2 => ?_) (fun b2 => ?_)
  rotate_left
  · rw [if_pos (Int32.not_le.mp b2)] at hP
    refine g_iconst (v := nI 2) dX7_drilled_21 (by decide) ?_
    refine g_jump (tgt := 26) dX7_drilled_22 (by decide) ?_
    refine g_put 9 rfl (by decide) inX7 tyX7 tyX7_ok nmX7 7 (by decide) fl_X7_45 rfl dX7_drilled_26 h0 rfl rfl ?_
    refine g_aload_n dX7_drilled_29 rfl ?_
    refine g_get 9 rfl (by decide) inX7 7 (by decide) fl_X7_45 dX7_drilled_30 h0 (hu_at _ _ _ _) ?_
    refine g_if_le (tgt := 40) dX7_drilled_33 (by decide) (fun hq => absurd hq ((by decide))) (fun _ => ?_)
    refine g_iconst (v := nI 0) dX7_drilled_36 (by decide) ?_
    refine g_jump (tgt := 46) dX7_drilled_37 (by decide) ?_
    exact g_iret rfl (nr_int _) dX7_drilled_46 (by decide) (hP.t7 hB (fun z => absurd z (Nat.succ_ne_zero _)))
  rw [if_neg (Int32.not_lt.mpr b2)] at hP
  refine g_iconst (v := nI 0) dX7_drilled_25 (by decide) ?_
  refine g_put 9 rfl (by decide) inX7 tyX7 tyX7_ok nmX7 7 (by decide) fl_X7_45 rfl dX7_drilled_26 h0 rfl rfl ?_
  refine g_aload_n dX7_drilled_29 rfl ?_
  refine g_get 9 rfl (by decide) inX7 7 (by decide) fl_X7_45 dX7_drilled_30 h0 (hu_at _ _ _ _) ?_
  refine g_if_le (tgt := 40) dX7_drilled_33 (by decide) (fun _ => ?_) (fun hq => absurd (Int32.le_refl _) hq)
  have hS : SA sh (hu V m 7 (.int (nI 0))) m S.1 := hB.thr.1
  refine g_aload_n dX7_drilled_40 rfl ?_
  refine g_iload_n dX7_drilled_41 rfl ?_
  refine g_iconst (v := nI 3) dX7_drilled_42 (by decide) ?_
  refine g_callVp (Y := YX7_get) sv_X7_67 rfl yn_X7_get 9 (by decide) rfl rfl dX7_drilled_43 (k_get hS hj (k := 3) (by decide) pR_ok) h0 rfl rfl rfl (Nat.le_of_ble_eq_true rfl) ⟨rfl, rfl⟩ ?_
  exact g_iret rfl (nr_int _) dX7_drilled_46 (by decide) (hP.t7 hB (fun _ => rfl))
theorem r_mileOf {a w : Int32} (h : MS sh V m S th) (hP : RI sh m sz V (sp_mileOf S a w) P) : MC E YX7_mileOf [.ref m, .int a, .int w] sh sz V P := by
  obtain ⟨r, hB⟩ := h
  have h0 := hB.1.1
  unfold sp_mileOf at hP
  refine MC.of RX7 "mileOf" rfl (by decide +kernel) rfl 0 [_, _, _] rfl (Nat.le_of_ble_eq_true rfl) ?_
  show G E MX7_mileOf _ _ _ _ _ _ _ _ _
  refine g_aload_n dX7_mileOf_0 rfl ?_
  refine g_iload_n dX7_mileOf_1 rfl ?_
  refine g_callSp (Y := YX7_isMile) ss_X7_101 yn_X7_isMile dX7_mileOf_2 (k_isMile pR_ok) rfl rfl rfl (Nat.le_of_ble_eq_true rfl) ⟨rfl, rfl⟩ ?_
  refine g_if_ne (tgt := 12) dX7_mileOf_5 (by decide) (fun b1 => ?_) (fun b1 => ?_)
  rotate_left
  · rw [if_neg (bi_eq b1)] at hP
    refine g_iconst (v := nI 1) dX7_mileOf_8 (by decide) ?_
    refine g_jump (tgt := 26) dX7_mileOf_9 (by decide) ?_
    refine g_put 9 rfl (by decide) inX7 tyX7 tyX7_ok nmX7 7 (by decide) fl_X7_45 rfl dX7_mileOf_26 h0 rfl rfl ?_
    refine g_aload_n dX7_mileOf_29 rfl ?_
    refine g_get 9 rfl (by decide) inX7 7 (by decide) fl_X7_45 dX7_mileOf_30 h0 (hu_at _ _ _ _) ?_
    refine g_if_le (tgt := 38) dX7_mileOf_33 (by decide) (fun hq => absurd hq ((by decide))) (fun _ => ?_)
    refine g_iconst (v := nI 0) dX7_mileOf_36 (by decide) ?_
    exact g_iret rfl (nr_int _) dX7_mileOf_37 (by decide) (hP.t7 hB (fun z => absurd z (Nat.succ_ne_zero _)))
  rw [if_pos (bi_ne b1)] at hP
  obtain ⟨j, hj, rfl⟩ := isM_nI (bi_ne b1)
  rw [nI_clamp (by omega)] at hP
  refine g_iload_n dX7_mileOf_12 rfl ?_
  refine g_iconst (v := nI 0) dX7_mileOf_13 (by decide) ?_
  refine g_iconst (v := nI 4) dX7_mileOf_14 (by decide) ?_
  refine g_callSp (Y := YX7_in) ss_X7_84 yn_X7_in dX7_mileOf_15 (k_in pR_ok) rfl rfl rfl (Nat.le_of_ble_eq_true rfl) ⟨rfl, rfl⟩ ?_
  rw [in_n w (n := 4) (by decide)]
  refine g_if_ne (tgt := 25) dX7_mileOf_18 (by decide) (fun b2 => ?_) (fun b2 => ?_)
  rotate_left
  · rw [if_neg (bi_eq b2)] at hP
    refine g_iconst (v := nI 2) dX7_mileOf_21 (by decide) ?_
    refine g_jump (tgt := 26) dX7_mileOf_22 (by decide) ?_
    refine g_put 9 rfl (by decide) inX7 tyX7 tyX7_ok nmX7 7 (by decide) fl_X7_45 rfl dX7_mileOf_26 h0 rfl rfl ?_
    refine g_aload_n dX7_mileOf_29 rfl ?_
    refine g_get 9 rfl (by decide) inX7 7 (by decide) fl_X7_45 dX7_mileOf_30 h0 (hu_at _ _ _ _) ?_
    refine g_if_le (tgt := 38) dX7_mileOf_33 (by decide) (fun hq => absurd hq ((by decide))) (fun _ => ?_)
    refine g_iconst (v := nI 0) dX7_mileOf_36 (by decide) ?_
    exact g_iret rfl (nr_int _) dX7_mileOf_37 (by decide) (hP.t7 hB (fun z => absurd z (Nat.succ_ne_zero _)))
  rw [if_pos (bi_ne b2)] at hP
  refine g_iconst (v := nI 0) dX7_mileOf_25 (by decide) ?_
  refine g_put 9 rfl (by decide) inX7 tyX7 tyX7_ok nmX7 7 (by decide) fl_X7_45 rfl dX7_mileOf_26 h0 rfl rfl ?_
  refine g_aload_n dX7_mileOf_29 rfl ?_
  refine g_get 9 rfl (by decide) inX7 7 (by decide) fl_X7_45 dX7_mileOf_30 h0 (hu_at _ _ _ _) ?_
  refine g_if_le (tgt := 38) dX7_mileOf_33 (by decide) (fun _ => ?_) (fun hq => absurd (Int32.le_refl _) hq)
  have hS : SA sh (hu V m 7 (.int (nI 0))) m S.1 := hB.thr.1
  refine g_iload_n dX7_mileOf_38 rfl ?_
  obtain ⟨k, hk, rfl⟩ := in_nI (bi_ne b2).1 (bi_ne b2).2 (by decide)
  unfold mileV at hP
  rcases (show k = 0 ∨ k = 1 ∨ k = 2 ∨ k = 3 ∨ k = 4 by omega) with rfl | rfl | rfl | rfl | rfl
  · rw [if_pos rfl] at hP
    refine g_tableIn (off := 29) (tgt := 68) dX7_mileOf_39 (by decide) (by decide) (by decide +kernel) (by decide) ?_
    refine g_aload_n dX7_mileOf_68 rfl ?_
    refine g_iload_n dX7_mileOf_69 rfl ?_
    refine g_iconst (v := nI 1) dX7_mileOf_70 (by decide) ?_
    refine g_callVp (Y := YX7_get) sv_X7_67 rfl yn_X7_get 9 (by decide) rfl rfl dX7_mileOf_71 (k_get hS hj (k := 1) (by decide) pR_ok) h0 rfl rfl rfl (Nat.le_of_ble_eq_true rfl) ⟨rfl, rfl⟩ ?_
    exact g_iret rfl (nr_int _) dX7_mileOf_74 (by decide) (hP.t7 hB (fun _ => rfl))
  · rw [if_neg (by decide), if_pos rfl] at hP
    refine g_tableIn (off := 36) (tgt := 75) dX7_mileOf_39 (by decide) (by decide) (by decide +kernel) (by decide) ?_
    refine g_aload_n dX7_mileOf_75 rfl ?_
    refine g_iload_n dX7_mileOf_76 rfl ?_
    refine g_iconst (v := nI 2) dX7_mileOf_77 (by decide) ?_
    refine g_callVp (Y := YX7_get) sv_X7_67 rfl yn_X7_get 9 (by decide) rfl rfl dX7_mileOf_78 (k_get hS hj (k := 2) (by decide) pR_ok) h0 rfl rfl rfl (Nat.le_of_ble_eq_true rfl) ⟨rfl, rfl⟩ ?_
    exact g_iret rfl (nr_int _) dX7_mileOf_81 (by decide) (hP.t7 hB (fun _ => rfl))
  · rw [if_neg (by decide), if_neg (by decide), if_pos rfl] at hP
    refine g_tableIn (off := 43) (tgt := 82) dX7_mileOf_39 (by decide) (by decide) (by decide +kernel) (by decide) ?_
    refine g_aload_n dX7_mileOf_82 rfl ?_
    refine g_iload_n dX7_mileOf_83 rfl ?_
    refine g_iconst (v := nI 4) dX7_mileOf_84 (by decide) ?_
    refine g_callVp (Y := YX7_get) sv_X7_67 rfl yn_X7_get 9 (by decide) rfl rfl dX7_mileOf_85 (k_get hS hj (k := 4) (by decide) pR_ok) h0 rfl rfl rfl (Nat.le_of_ble_eq_true rfl) ⟨rfl, rfl⟩ ?_
    exact g_iret rfl (nr_int _) dX7_mileOf_88 (by decide) (hP.t7 hB (fun _ => rfl))
  · rw [if_neg (by decide), if_neg (by decide), if_neg (by decide), if_pos rfl] at hP
    refine g_tableIn (off := 50) (tgt := 89) dX7_mileOf_39 (by decide) (by decide) (by decide +kernel) (by decide) ?_
    refine g_aload_n dX7_mileOf_89 rfl ?_
    refine g_iload_n dX7_mileOf_90 rfl ?_
    refine g_callVp (Y := YX7_isGood) sv_X7_108 rfl yn_X7_isGood 9 (by decide) rfl rfl dX7_mileOf_91 (k_isGood hS hj pR_ok) h0 rfl rfl rfl (Nat.le_of_ble_eq_true rfl) ⟨rfl, rfl⟩ ?_
    refine g_if_eq (tgt := 101) dX7_mileOf_94 (by decide) (fun b4 => ?_) (fun b4 => ?_)
    · rw [bgd_f (bgd_eq b4)] at hP
      refine g_iconst (v := nI 0) dX7_mileOf_101 (by decide) ?_
      exact g_iret rfl (nr_int _) dX7_mileOf_102 (by decide) (hP.t7 hB (fun _ => rfl))
    · rw [bgd_t (bgd_ne b4)] at hP
      refine g_iconst (v := nI 1) dX7_mileOf_97 (by decide) ?_
      refine g_jump (tgt := 102) dX7_mileOf_98 (by decide) ?_
      exact g_iret rfl (nr_int _) dX7_mileOf_102 (by decide) (hP.t7 hB (fun _ => rfl))
  · rw [if_neg (by decide), if_neg (by decide), if_neg (by decide), if_neg (by decide)] at hP
    refine g_tableOut (tgt := 103) dX7_mileOf_39 (Or.inr (by decide)) (by decide) ?_
    refine g_aload_n dX7_mileOf_103 rfl ?_
    refine g_iload_n dX7_mileOf_104 rfl ?_
    refine g_iconst (v := nI 5) dX7_mileOf_105 (by decide) ?_
    refine g_callVp (Y := YX7_get) sv_X7_67 rfl yn_X7_get 9 (by decide) rfl rfl dX7_mileOf_106 (k_get hS hj (k := 5) (by decide) pR_ok) h0 rfl rfl rfl (Nat.le_of_ble_eq_true rfl) ⟨rfl, rfl⟩ ?_
    exact g_iret rfl (nr_int _) dX7_mileOf_109 (by decide) (hP.t7 hB (fun _ => rfl))
theorem r_ice {a : Int32} (h : MS sh V m S th) (hI : InvB S.1) (hP : RF sh m sz V (sp_ice S a) P) : MC E YX7_ice [.ref m, .int a] sh sz V P := by
  obtain ⟨r, hB⟩ := h
  have h0 := hB.1.1
  unfold sp_ice at hP
  refine MC.of RX7 "ice" rfl (by decide +kernel) rfl 0 [_, _] rfl (Nat.le_of_ble_eq_true rfl) ?_
  show G E MX7_ice _ _ _ _ _ _ _ _ _
  refine g_aload_n dX7_ice_0 rfl ?_
  refine g_iload_n dX7_ice_1 rfl ?_
  refine g_callSp (Y := YX7_isMile) ss_X7_101 yn_X7_isMile dX7_ice_2 (k_isMile pR_ok) rfl rfl rfl (Nat.le_of_ble_eq_true rfl) ⟨rfl, rfl⟩ ?_
  refine g_if_eq (tgt := 12) dX7_ice_5 (by decide) (fun b1 => ?_) (fun b1 => ?_)
  · rw [if_neg (bi_eq b1)] at hP
    refine g_iconst (v := nI 1) dX7_ice_12 (by decide) ?_
    refine g_put 9 rfl (by decide) inX7 tyX7 tyX7_ok nmX7 7 (by decide) fl_X7_45 rfl dX7_ice_13 h0 rfl rfl ?_
    refine g_aload_n dX7_ice_16 rfl ?_
    refine g_get 9 rfl (by decide) inX7 7 (by decide) fl_X7_45 dX7_ice_17 h0 (hu_at _ _ _ _) ?_
    refine g_if_le (tgt := 27) dX7_ice_20 (by decide) (fun hq => absurd hq ((by decide))) (fun _ => ?_)
    refine g_fconst0 dX7_ice_23 ?_
    refine g_jump (tgt := 32) dX7_ice_24 (by decide) ?_
    exact g_fret rfl dX7_ice_32 (by decide) (hP.t7 hB (fun z => absurd z (Nat.succ_ne_zero _)))
  rw [if_pos (bi_ne b1)] at hP
  obtain ⟨j, hj, rfl⟩ := isM_nI (bi_ne b1)
  rw [nI_clamp (by omega)] at hP
  refine g_iconst (v := nI 0) dX7_ice_8 (by decide) ?_
  refine g_jump (tgt := 13) dX7_ice_9 (by decide) ?_
  refine g_put 9 rfl (by decide) inX7 tyX7 tyX7_ok nmX7 7 (by decide) fl_X7_45 rfl dX7_ice_13 h0 rfl rfl ?_
  refine g_aload_n dX7_ice_16 rfl ?_
  refine g_get 9 rfl (by decide) inX7 7 (by decide) fl_X7_45 dX7_ice_17 h0 (hu_at _ _ _ _) ?_
  refine g_if_le (tgt := 27) dX7_ice_20 (by decide) (fun _ => ?_) (fun hq => absurd (Int32.le_refl _) hq)
  have hS : SA sh (hu V m 7 (.int (nI 0))) m S.1 := hB.thr.1
  refine g_aload_n dX7_ice_27 rfl ?_
  refine g_iload_n dX7_ice_28 rfl ?_
  refine g_callVp (Y := YX7_iceOf) sv_X7_114 rfl yn_X7_iceOf 9 (by decide) rfl rfl dX7_ice_29 (k_iceOf hS hj (hI.2.2.2.1 j hj).1 pR_ok) h0 rfl rfl rfl (Nat.le_of_ble_eq_true rfl) ⟨rfl, rfl⟩ ?_
  exact g_fret rfl dX7_ice_32 (by decide) (hP.t7 hB (fun _ => rfl))
theorem r_bears {a : Int32} (h : MS sh V m S th) (hI : InvB S.1) (hP : RI sh m sz V (sp_bears S a) P) : MC E YX7_bears [.ref m, .int a] sh sz V P := by
  obtain ⟨r, hB⟩ := h
  have h0 := hB.1.1
  unfold sp_bears at hP
  refine MC.of RX7 "bears" rfl (by decide +kernel) rfl 0 [_, _] rfl (Nat.le_of_ble_eq_true rfl) ?_
  show G E MX7_bears _ _ _ _ _ _ _ _ _
  refine g_aload_n dX7_bears_0 rfl ?_
  refine g_iload_n dX7_bears_1 rfl ?_
  refine g_callSp (Y := YX7_isMile) ss_X7_101 yn_X7_isMile dX7_bears_2 (k_isMile pR_ok) rfl rfl rfl (Nat.le_of_ble_eq_true rfl) ⟨rfl, rfl⟩ ?_
  refine g_if_eq (tgt := 12) dX7_bears_5 (by decide) (fun b1 => ?_) (fun b1 => ?_)
  · rw [if_neg (bi_eq b1)] at hP
    refine g_iconst (v := nI 1) dX7_bears_12 (by decide) ?_
    refine g_put 9 rfl (by decide) inX7 tyX7 tyX7_ok nmX7 7 (by decide) fl_X7_45 rfl dX7_bears_13 h0 rfl rfl ?_
    refine g_aload_n dX7_bears_16 rfl ?_
    refine g_get 9 rfl (by decide) inX7 7 (by decide) fl_X7_45 dX7_bears_17 h0 (hu_at _ _ _ _) ?_
    refine g_if_le (tgt := 27) dX7_bears_20 (by decide) (fun hq => absurd hq ((by decide))) (fun _ => ?_)
    refine g_iconst (v := nI 0) dX7_bears_23 (by decide) ?_
    refine g_jump (tgt := 35) dX7_bears_24 (by decide) ?_
    exact g_iret rfl (nr_int _) dX7_bears_35 (by decide) (hP.t7 hB (fun z => absurd z (Nat.succ_ne_zero _)))
  rw [if_pos (bi_ne b1)] at hP
  obtain ⟨j, hj, rfl⟩ := isM_nI (bi_ne b1)
  rw [nI_clamp (by omega)] at hP
  refine g_iconst (v := nI 0) dX7_bears_8 (by decide) ?_
  refine g_jump (tgt := 13) dX7_bears_9 (by decide) ?_
  refine g_put 9 rfl (by decide) inX7 tyX7 tyX7_ok nmX7 7 (by decide) fl_X7_45 rfl dX7_bears_13 h0 rfl rfl ?_
  refine g_aload_n dX7_bears_16 rfl ?_
  refine g_get 9 rfl (by decide) inX7 7 (by decide) fl_X7_45 dX7_bears_17 h0 (hu_at _ _ _ _) ?_
  refine g_if_le (tgt := 27) dX7_bears_20 (by decide) (fun _ => ?_) (fun hq => absurd (Int32.le_refl _) hq)
  have hS : SA sh (hu V m 7 (.int (nI 0))) m S.1 := hB.thr.1
  refine g_aload_n dX7_bears_27 rfl ?_
  refine g_iload_n dX7_bears_28 rfl ?_
  refine g_callVp (Y := YX7_bearsOf) sv_X7_117 rfl yn_X7_bearsOf 9 (by decide) rfl rfl dX7_bears_29 (k_bearsOf hS hI hj pR_ok) h0 rfl rfl rfl (Nat.le_of_ble_eq_true rfl) ⟨rfl, rfl⟩ ?_
  refine g_callSp (Y := YJxf58ca_floatToIntBits_5c35a) ss_X7_77 yn_Jxf58ca_floatToIntBits_5c35a dX7_bears_32 (c_ftib (bd_okN hI hj) pR_ok) rfl rfl rfl (Nat.le_of_ble_eq_true rfl) ⟨rfl, rfl⟩ ?_
  exact g_iret rfl (nr_int _) dX7_bears_35 (by decide) (hP.t7 hB (fun _ => rfl))
theorem r_sign {a : Int32} (h : MS sh V m S th) (hI : InvB S.1) (hP : RI sh m sz V (sp_sign S a) P) : MC E YX7_sign [.ref m, .int a] sh sz V P := by
  obtain ⟨r, hB⟩ := h
  have h0 := hB.1.1
  unfold sp_sign at hP
  refine MC.of RX7 "sign" rfl (by decide +kernel) rfl 0 [_, _] rfl (Nat.le_of_ble_eq_true rfl) ?_
  show G E MX7_sign _ _ _ _ _ _ _ _ _
  refine g_aload_n dX7_sign_0 rfl ?_
  refine g_iload_n dX7_sign_1 rfl ?_
  refine g_callSp (Y := YX7_isMile) ss_X7_101 yn_X7_isMile dX7_sign_2 (k_isMile pR_ok) rfl rfl rfl (Nat.le_of_ble_eq_true rfl) ⟨rfl, rfl⟩ ?_
  refine g_if_eq (tgt := 12) dX7_sign_5 (by decide) (fun b1 => ?_) (fun b1 => ?_)
  · rw [if_neg (bi_eq b1)] at hP
    refine g_iconst (v := nI 1) dX7_sign_12 (by decide) ?_
    refine g_put 9 rfl (by decide) inX7 tyX7 tyX7_ok nmX7 7 (by decide) fl_X7_45 rfl dX7_sign_13 h0 rfl rfl ?_
    refine g_aload_n dX7_sign_16 rfl ?_
    refine g_get 9 rfl (by decide) inX7 7 (by decide) fl_X7_45 dX7_sign_17 h0 (hu_at _ _ _ _) ?_
    refine g_if_le (tgt := 26) dX7_sign_20 (by decide) (fun hq => absurd hq ((by decide))) (fun _ => ?_)
    refine g_bipush (v := nI 32) dX7_sign_23 (by decide) ?_
    exact g_iret rfl rfl dX7_sign_25 (by decide) (hP.t7 hB (fun z => absurd z (Nat.succ_ne_zero _)))
  rw [if_pos (bi_ne b1)] at hP
  obtain ⟨j, hj, rfl⟩ := isM_nI (bi_ne b1)
  rw [nI_clamp (by omega)] at hP
  refine g_iconst (v := nI 0) dX7_sign_8 (by decide) ?_
  refine g_jump (tgt := 13) dX7_sign_9 (by decide) ?_
  refine g_put 9 rfl (by decide) inX7 tyX7 tyX7_ok nmX7 7 (by decide) fl_X7_45 rfl dX7_sign_13 h0 rfl rfl ?_
  refine g_aload_n dX7_sign_16 rfl ?_
  refine g_get 9 rfl (by decide) inX7 7 (by decide) fl_X7_45 dX7_sign_17 h0 (hu_at _ _ _ _) ?_
  refine g_if_le (tgt := 26) dX7_sign_20 (by decide) (fun _ => ?_) (fun hq => absurd (Int32.le_refl _) hq)
  have hS : SA sh (hu V m 7 (.int (nI 0))) m S.1 := hB.thr.1
  unfold signV at hP
  refine g_aload_n dX7_sign_26 rfl ?_
  refine g_iload_n dX7_sign_27 rfl ?_
  refine g_iconst (v := (-1)) dX7_sign_28 (by decide) ?_
  refine g_callVp (Y := YX7_whoIsAt) sv_X7_120 rfl yn_X7_whoIsAt 9 (by decide) rfl rfl dX7_sign_29 (k_whoIsAt hS hI (nI_pos' (by omega)) pR_ok) h0 rfl rfl rfl (Nat.le_of_ble_eq_true rfl) ⟨rfl, rfl⟩ ?_
  refine g_if_lt (tgt := 40) dX7_sign_32 (by decide) (fun b2 => ?_) (fun b2 => ?_)
  rotate_left
  · rw [if_pos (Classical.byContradiction fun q => b2 ((whoV_neg hI).mpr q))] at hP
    refine g_bipush (v := nI 84) dX7_sign_35 (by decide) ?_
    refine g_jump (tgt := 63) dX7_sign_37 (by decide) ?_
    exact g_iret rfl rfl dX7_sign_63 (by decide) (hP.t7 hB (fun _ => rfl))
  rw [if_neg ((whoV_neg hI).mp b2)] at hP
  refine g_aload_n dX7_sign_40 rfl ?_
  refine g_iload_n dX7_sign_41 rfl ?_
  refine g_callVp (Y := YX7_isGood) sv_X7_108 rfl yn_X7_isGood 9 (by decide) rfl rfl dX7_sign_42 (k_isGood hS hj pR_ok) h0 rfl rfl rfl (Nat.le_of_ble_eq_true rfl) ⟨rfl, rfl⟩ ?_
  refine g_if_eq (tgt := 61) dX7_sign_45 (by decide) (fun b3 => ?_) (fun b3 => ?_)
  · rw [if_neg (bgd_eq b3)] at hP
    refine g_bipush (v := nI 63) dX7_sign_61 (by decide) ?_
    exact g_iret rfl rfl dX7_sign_63 (by decide) (hP.t7 hB (fun _ => rfl))
  · rw [if_pos (bgd_ne b3)] at hP
    obtain ⟨c, hc, ec⟩ := (hI.2.2.2.1 j hj).2.2.1
    rw [ec, nI_add] at hP
    refine g_bipush (v := nI 48) dX7_sign_48 (by decide) ?_
    refine g_aload_n dX7_sign_50 rfl ?_
    refine g_iload_n dX7_sign_51 rfl ?_
    refine g_iconst (v := nI 1) dX7_sign_52 (by decide) ?_
    refine g_callVp (Y := YX7_get) sv_X7_67 rfl yn_X7_get 9 (by decide) rfl rfl dX7_sign_53 (k_get hS hj (k := 1) (by decide) pR_ok) h0 rfl rfl rfl (Nat.le_of_ble_eq_true rfl) ⟨rfl, rfl⟩ ?_
    rw [ec]
    refine g_iadd dX7_sign_56 ?_
    rw [nI_add]
    refine g_i2c (v := nI (48 + c)) dX7_sign_57 (by rw [pk_char]; rw [pk_tn (by omega), Nat.mod_eq_of_lt (by omega)]) ?_
    refine g_jump (tgt := 63) dX7_sign_58 (by decide) ?_
    exact g_iret rfl (pk_charN (by omega)).1 dX7_sign_63 (by decide) (hP.t7 hB (fun _ => rfl))
theorem r_weakest (h : MS sh V m S th) (hI : InvB S.1) (hP : RI sh m sz V (sp_weakest S) P) : MC E YX7_weakest [.ref m] sh sz V P := by
  obtain ⟨r, hB⟩ := h
  have h0 := hB.1.1
  unfold sp_weakest at hP
  have hP := hP.t7 (w := nI (wkst S.1 11)) hB (fun _ => rfl)
  refine MC.of RX7 "weakest" rfl (by decide +kernel) rfl 2 [_, none, none] rfl (Nat.le_of_ble_eq_true rfl) ?_
  show G E MX7_weakest _ _ _ _ _ _ _ _ _
  refine g_aload_n dX7_weakest_0 rfl ?_
  refine g_iconst (v := nI 0) dX7_weakest_1 (by decide) ?_
  refine g_put 9 rfl (by decide) inX7 tyX7 tyX7_ok nmX7 7 (by decide) fl_X7_45 rfl dX7_weakest_2 h0 rfl rfl ?_
  have hS : SA sh (hu V m 7 (.int (nI 0))) m S.1 := hB.thr.1
  generalize hu V m 7 (.int (nI 0)) = V1 at hS hP ⊢
  refine g_iconst (v := nI 0) dX7_weakest_5 (by decide) ?_
  refine g_istore_n dX7_weakest_6 (by decide) rfl ?_
  show G _ _ _ _ _ _ _ _ _ [_, _, _] _
  refine g_iconst (v := nI 1) dX7_weakest_7 (by decide) ?_
  refine g_istore_n dX7_weakest_8 (by decide) rfl ?_
  show G _ _ _ _ _ _ _ _ _ [_, _, _] _
  have hle : ∀ i, wkst S.1 i ≤ i := by
    intro i
    induction i with
    | zero => exact Nat.le_refl _
    | succ i ih =>
      unfold wkst
      split <;> omega
  suffices K : ∀ (d i : Nat), i + d = 11 → G E MX7_weakest P sh sz V1 0 0 9 [some (.ref m), some (.int (nI (wkst S.1 i))), some (.int (nI (i + 1)))] [] from K 11 0 rfl
  intro d
  induction d with
  | zero =>
    intro i hi
    have e : i = 11 := by omega
    subst e
    refine g_iload_n dX7_weakest_9 rfl ?_
    refine g_bipush (v := nI 12) dX7_weakest_10 (by decide) ?_
    refine g_icmp_ge (tgt := 41) dX7_weakest_12 (by decide) (fun _ => ?_) (fun hq => absurd (Int32.le_refl _) hq)
    refine g_iload_n dX7_weakest_41 rfl ?_
    exact g_iret rfl (nr_int _) dX7_weakest_42 (by decide) hP
  | succ d ih =>
    intro i hi
    have hl := hle i
    have ih := ih (i + 1) (by omega)
    unfold wkst at ih
    refine g_iload_n dX7_weakest_9 rfl ?_
    refine g_bipush (v := nI 12) dX7_weakest_10 (by decide) ?_
    refine g_icmp_ge (tgt := 41) dX7_weakest_12 (by decide) (fun hq => absurd hq (nI_ge (by omega) (by decide))) (fun _ => ?_)
    refine g_aload_n dX7_weakest_15 rfl ?_
    refine g_iload_n dX7_weakest_16 rfl ?_
    refine g_callVp (Y := YX7_bearsOf) sv_X7_117 rfl yn_X7_bearsOf 9 (by decide) rfl rfl dX7_weakest_17 (k_bearsOf hS hI (j := i + 1) (by omega) pR_ok) h0 rfl rfl rfl (Nat.le_of_ble_eq_true rfl) ⟨rfl, rfl⟩ ?_
    refine g_aload_n dX7_weakest_20 rfl ?_
    refine g_iload_n dX7_weakest_21 rfl ?_
    refine g_callVp (Y := YX7_bearsOf) sv_X7_117 rfl yn_X7_bearsOf 9 (by decide) rfl rfl dX7_weakest_22 (k_bearsOf hS hI (j := wkst S.1 i) (by omega) pR_ok) h0 rfl rfl rfl (Nat.le_of_ble_eq_true rfl) ⟨rfl, rfl⟩ ?_
    refine g_fcmp dX7_weakest_25 ?_
    refine g_if_ge (tgt := 33) dX7_weakest_26 (by decide) (fun b1 => ?_) (fun b1 => ?_)
    · rw [if_neg (Int32.not_lt.mpr b1)] at ih
      refine g_iload_n dX7_weakest_33 rfl ?_
      refine g_istore_n dX7_weakest_34 (by decide) rfl ?_
      show G _ _ _ _ _ _ _ _ _ [_, _, _] _
      refine g_iinc dX7_weakest_35 rfl (by first | exact nI_inc _ | rfl) (by decide) rfl ?_
      show G _ _ _ _ _ _ _ _ _ [_, _, _] _
      refine g_jump (tgt := 9) dX7_weakest_38 (by decide) ?_
      exact ih
    · rw [if_pos (Int32.not_le.mp b1)] at ih
      refine g_iload_n dX7_weakest_29 rfl ?_
      refine g_jump (tgt := 34) dX7_weakest_30 (by decide) ?_
      refine g_istore_n dX7_weakest_34 (by decide) rfl ?_
      show G _ _ _ _ _ _ _ _ _ [_, _, _] _
      refine g_iinc dX7_weakest_35 rfl (by first | exact nI_inc _ | rfl) (by decide) rfl ?_
      show G _ _ _ _ _ _ _ _ _ [_, _, _] _
      refine g_jump (tgt := 9) dX7_weakest_38 (by decide) ?_
      exact ih
theorem r_inRow {y z w : Int32} (h : MS sh V m S th) (hP : RI sh m sz V (sp_inRow S y z w) P) : MC E YX7_inRow [.ref m, .int y, .int z, .int w] sh sz V P := by
  obtain ⟨r, hB⟩ := h
  have h0 := hB.1.1
  unfold sp_inRow at hP
  refine MC.of RX7 "inRow" rfl (by decide +kernel) rfl 0 [_, _, _, _] rfl (Nat.le_of_ble_eq_true rfl) ?_
  show G E MX7_inRow _ _ _ _ _ _ _ _ _
  refine g_aload_n dX7_inRow_0 rfl ?_
  refine g_iload_n dX7_inRow_1 rfl ?_
  refine g_iload_n dX7_inRow_2 rfl ?_
  refine g_callSp (Y := YX7_isPlace) ss_X7_130 yn_X7_isPlace dX7_inRow_3 (k_isPlace pR_ok) rfl rfl rfl (Nat.le_of_ble_eq_true rfl) ⟨rfl, rfl⟩ ?_
  refine g_if_ne (tgt := 13) dX7_inRow_6 (by decide) (fun b1 => ?_) (fun b1 => ?_)
  rotate_left
  · rw [if_neg (bi_eq b1)] at hP
    refine g_iconst (v := nI 1) dX7_inRow_9 (by decide) ?_
    refine g_jump (tgt := 44) dX7_inRow_10 (by decide) ?_
    refine g_put 9 rfl (by decide) inX7 tyX7 tyX7_ok nmX7 7 (by decide) fl_X7_45 rfl dX7_inRow_44 h0 rfl rfl ?_
    refine g_aload_n dX7_inRow_47 rfl ?_
    refine g_get 9 rfl (by decide) inX7 7 (by decide) fl_X7_45 dX7_inRow_48 h0 (hu_at _ _ _ _) ?_
    refine g_if_le (tgt := 58) dX7_inRow_51 (by decide) (fun hq => absurd hq ((by decide))) (fun _ => ?_)
    refine g_iconst (v := nI 0) dX7_inRow_54 (by decide) ?_
    refine g_jump (tgt := 70) dX7_inRow_55 (by decide) ?_
    exact g_iret rfl (nr_int _) dX7_inRow_70 (by decide) (hP.t7 hB (fun z => absurd z (Nat.succ_ne_zero _)))
  rw [if_pos (bi_ne b1)] at hP
  obtain ⟨a, ha, rfl⟩ := in_nI (bi_ne b1).1.1 (bi_ne b1).1.2 (by decide)
  obtain ⟨k, hk, rfl⟩ := in_nI (bi_ne b1).2.1 (bi_ne b1).2.2 (by decide)
  rw [nI_clamp (by omega), nI_clamp (by omega)] at hP
  refine g_aload_n dX7_inRow_13 rfl ?_
  refine g_get 9 rfl (by decide) inX7 0 (by decide) fl_X7_9 dX7_inRow_14 h0 hB.1.2.2.1 ?_
  refine g_iload_n dX7_inRow_17 rfl ?_
  refine g_iload_n dX7_inRow_18 rfl ?_
  refine g_callSp (Y := YX7_placeIn) ss_X7_123 yn_X7_placeIn dX7_inRow_19 (k_placeIn pR_ok) rfl rfl rfl (Nat.le_of_ble_eq_true rfl) ⟨rfl, rfl⟩ ?_
  refine g_iaload dX7_inRow_22 hB.1.2.1 (vp_in_nI (by unfold oR; omega) (by decide)) (hB.1.rd (k := oR (a * 5 + k)) (by unfold oR; omega)) ?_
  refine g_if_ne (tgt := 30) dX7_inRow_23 (by decide) (fun b2 => ?_) (fun b2 => ?_)
  rotate_left
  · rw [if_pos b2] at hP
    refine g_iconst (v := nI 2) dX7_inRow_26 (by decide) ?_
    refine g_jump (tgt := 44) dX7_inRow_27 (by decide) ?_
    refine g_put 9 rfl (by decide) inX7 tyX7 tyX7_ok nmX7 7 (by decide) fl_X7_45 rfl dX7_inRow_44 h0 rfl rfl ?_
    refine g_aload_n dX7_inRow_47 rfl ?_
    refine g_get 9 rfl (by decide) inX7 7 (by decide) fl_X7_45 dX7_inRow_48 h0 (hu_at _ _ _ _) ?_
    refine g_if_le (tgt := 58) dX7_inRow_51 (by decide) (fun hq => absurd hq ((by decide))) (fun _ => ?_)
    refine g_iconst (v := nI 0) dX7_inRow_54 (by decide) ?_
    refine g_jump (tgt := 70) dX7_inRow_55 (by decide) ?_
    exact g_iret rfl (nr_int _) dX7_inRow_70 (by decide) (hP.t7 hB (fun z => absurd z (Nat.succ_ne_zero _)))
  rw [if_neg b2] at hP
  refine g_iload_n dX7_inRow_30 rfl ?_
  refine g_iconst (v := nI 0) dX7_inRow_31 (by decide) ?_
  refine g_iconst (v := nI 1) dX7_inRow_32 (by decide) ?_
  refine g_callSp (Y := YX7_in) ss_X7_84 yn_X7_in dX7_inRow_33 (k_in pR_ok) rfl rfl rfl (Nat.le_of_ble_eq_true rfl) ⟨rfl, rfl⟩ ?_
  refine g_if_ne (tgt := 43) dX7_inRow_36 (by decide) (fun b3 => ?_) (fun b3 => ?_)
  rotate_left
  · rw [if_neg (show ¬ (0 ≤ w ∧ w ≤ nI 1) from bi_eq b3)] at hP
    refine g_iconst (v := nI 3) dX7_inRow_39 (by decide) ?_
    refine g_jump (tgt := 44) dX7_inRow_40 (by decide) ?_
    refine g_put 9 rfl (by decide) inX7 tyX7 tyX7_ok nmX7 7 (by decide) fl_X7_45 rfl dX7_inRow_44 h0 rfl rfl ?_
    refine g_aload_n dX7_inRow_47 rfl ?_
    refine g_get 9 rfl (by decide) inX7 7 (by decide) fl_X7_45 dX7_inRow_48 h0 (hu_at _ _ _ _) ?_
    refine g_if_le (tgt := 58) dX7_inRow_51 (by decide) (fun hq => absurd hq ((by decide))) (fun _ => ?_)
    refine g_iconst (v := nI 0) dX7_inRow_54 (by decide) ?_
    refine g_jump (tgt := 70) dX7_inRow_55 (by decide) ?_
    exact g_iret rfl (nr_int _) dX7_inRow_70 (by decide) (hP.t7 hB (fun z => absurd z (Nat.succ_ne_zero _)))
  have b3 := bi_ne b3
  rw [if_pos (show 0 ≤ w ∧ w ≤ nI 1 from b3)] at hP
  refine g_iconst (v := nI 0) dX7_inRow_43 (by decide) ?_
  refine g_put 9 rfl (by decide) inX7 tyX7 tyX7_ok nmX7 7 (by decide) fl_X7_45 rfl dX7_inRow_44 h0 rfl rfl ?_
  refine g_aload_n dX7_inRow_47 rfl ?_
  refine g_get 9 rfl (by decide) inX7 7 (by decide) fl_X7_45 dX7_inRow_48 h0 (hu_at _ _ _ _) ?_
  refine g_if_le (tgt := 58) dX7_inRow_51 (by decide) (fun _ => ?_) (fun hq => absurd (Int32.le_refl _) hq)
  have hS : SA sh (hu V m 7 (.int (nI 0))) m S.1 := hB.thr.1
  refine g_aload_n dX7_inRow_58 rfl ?_
  refine g_get 9 rfl (by decide) inX7 0 (by decide) fl_X7_9 dX7_inRow_59 h0 hS.2.2.1 ?_
  refine g_iload_n dX7_inRow_62 rfl ?_
  refine g_iload_n dX7_inRow_63 rfl ?_
  refine g_callSp (Y := YX7_placeIn) ss_X7_123 yn_X7_placeIn dX7_inRow_64 (k_placeIn pR_ok) rfl rfl rfl (Nat.le_of_ble_eq_true rfl) ⟨rfl, rfl⟩ ?_
  obtain ⟨i, hi, rfl⟩ : ∃ i, i < 2 ∧ w = nI i := in_nI b3.1 (Int32.lt_of_le_of_lt b3.2 (by decide)) (by decide)
  refine g_iload_n dX7_inRow_67 rfl ?_
  refine g_iadd dX7_inRow_68 ?_
  rw [nI_add]
  refine g_iaload dX7_inRow_69 hS.2.1 (vp_in_nI (by unfold oR; omega) (by decide)) (hS.rd (k := oR (a * 5 + k) + i) (by unfold oR; omega)) ?_
  rcases (show i = 0 ∨ i = 1 by omega) with rfl | rfl
  · rw [if_pos rfl] at hP
    exact g_iret rfl (nr_int _) dX7_inRow_70 (by decide) (hP.t7 hB (fun _ => rfl))
  · rw [if_neg (by decide)] at hP
    exact g_iret rfl (nr_int _) dX7_inRow_70 (by decide) (hP.t7 hB (fun _ => rfl))
theorem r_why {c d : Int32} (h : MS sh V m S th) (hI : InvB S.1) (hP : RI sh m sz V (sp_why S c d) P) : MC E YX7_why [.ref m, .int c, .int d] sh sz V P := by
  obtain ⟨r, hB⟩ := h
  have h0 := hB.1.1
  have h44 := hI.1.2
  unfold sp_why at hP
  refine MC.of RX7 "why" rfl (by decide +kernel) rfl 0 [_, _, _] rfl (Nat.le_of_ble_eq_true rfl) ?_
  show G E MX7_why _ _ _ _ _ _ _ _ _
  refine g_aload_n dX7_why_0 rfl ?_
  refine g_aload_n dX7_why_1 rfl ?_
  refine g_iload_n dX7_why_2 rfl ?_
  refine g_callVp (Y := YX7_isConvoy) sv_X7_134 rfl yn_X7_isConvoy 9 (by decide) rfl rfl dX7_why_3 (k_isConvoy hB.1 hI pR_ok) h0 rfl rfl rfl (Nat.le_of_ble_eq_true rfl) ⟨rfl, rfl⟩ ?_
  refine g_if_eq (tgt := 13) dX7_why_6 (by decide) (fun b1 => ?_) (fun b1 => ?_)
  · rw [if_neg (bi_eq b1)] at hP
    refine g_iconst (v := nI 1) dX7_why_13 (by decide) ?_
    refine g_put 9 rfl (by decide) inX7 tyX7 tyX7_ok nmX7 7 (by decide) fl_X7_45 rfl dX7_why_14 h0 rfl rfl ?_
    refine g_aload_n dX7_why_17 rfl ?_
    refine g_get 9 rfl (by decide) inX7 7 (by decide) fl_X7_45 dX7_why_18 h0 (hu_at _ _ _ _) ?_
    refine g_if_le (tgt := 26) dX7_why_21 (by decide) (fun hq => absurd hq ((by decide))) (fun _ => ?_)
    refine g_iconst (v := nI 0) dX7_why_24 (by decide) ?_
    exact g_iret rfl (nr_int _) dX7_why_25 (by decide) (hP.t7 hB (fun z => absurd z (Nat.succ_ne_zero _)))
  rw [if_pos (bi_ne b1)] at hP
  obtain ⟨c, hc, rfl⟩ := isC_of hI (bi_ne b1)
  rw [nI_clamp (by omega)] at hP
  obtain ⟨z1, z2, -⟩ := e100_dm (roll_code S.1 (c := c) (by omega))
  refine g_iconst (v := nI 0) dX7_why_9 (by decide) ?_
  refine g_jump (tgt := 14) dX7_why_10 (by decide) ?_
  refine g_put 9 rfl (by decide) inX7 tyX7 tyX7_ok nmX7 7 (by decide) fl_X7_45 rfl dX7_why_14 h0 rfl rfl ?_
  refine g_aload_n dX7_why_17 rfl ?_
  refine g_get 9 rfl (by decide) inX7 7 (by decide) fl_X7_45 dX7_why_18 h0 (hu_at _ _ _ _) ?_
  refine g_if_le (tgt := 26) dX7_why_21 (by decide) (fun _ => ?_) (fun hq => absurd (Int32.le_refl _) hq)
  have hS : SA sh (hu V m 7 (.int (nI 0))) m S.1 := hB.thr.1
  refine g_iload_n dX7_why_26 rfl ?_
  refine g_if_eq (tgt := 41) dX7_why_27 (by decide) (fun b2 => ?_) (fun b2 => ?_)
  · rw [if_pos b2, ← z1] at hP
    refine g_aload_n dX7_why_41 rfl ?_
    refine g_iload_n dX7_why_42 rfl ?_
    refine g_callVp (Y := YX7_whyNot) sv_X7_171 rfl yn_X7_whyNot 9 (by decide) rfl rfl dX7_why_43 (k_whyNot hS hI hc pR_ok) h0 rfl rfl rfl (Nat.le_of_ble_eq_true rfl) ⟨rfl, rfl⟩ ?_
    refine g_bipush (v := nI 100) dX7_why_46 (by decide) ?_
    refine g_idiv dX7_why_48 (by decide) ?_
    exact g_iret rfl (nr_int _) dX7_why_49 (by decide) (hP.t7 hB (fun _ => rfl))
  · rw [if_neg b2, ← z2] at hP
    refine g_aload_n dX7_why_30 rfl ?_
    refine g_iload_n dX7_why_31 rfl ?_
    refine g_callVp (Y := YX7_whyNot) sv_X7_171 rfl yn_X7_whyNot 9 (by decide) rfl rfl dX7_why_32 (k_whyNot hS hI hc pR_ok) h0 rfl rfl rfl (Nat.le_of_ble_eq_true rfl) ⟨rfl, rfl⟩ ?_
    refine g_bipush (v := nI 100) dX7_why_35 (by decide) ?_
    refine g_irem dX7_why_37 (by decide) ?_
    refine g_jump (tgt := 49) dX7_why_38 (by decide) ?_
    exact g_iret rfl (nr_int _) dX7_why_49 (by decide) (hP.t7 hB (fun _ => rfl))
theorem onR_tw {c : Nat} : onR f c = fb_ct (twP f c (nI 0)) (ncv f c) := rfl
theorem arR_tw {c : Nat} : arR f c = fb_ct (twP f c (nI 1)) (ncv f c) := rfl
theorem r_convoyOf {c w : Int32} (h : MS sh V m S th) (hI : InvB S.1) (hP : RI sh m sz V (sp_convoyOf S c w) P) : MC E YX7_convoyOf [.ref m, .int c, .int w] sh sz V P := by
  obtain ⟨r, hB⟩ := h
  have h0 := hB.1.1
  have h44 := hI.1.2
  unfold sp_convoyOf at hP
  refine MC.of RX7 "convoyOf" rfl (by decide +kernel) rfl 0 [_, _, _] rfl (Nat.le_of_ble_eq_true rfl) ?_
  show G E MX7_convoyOf _ _ _ _ _ _ _ _ _
  refine g_aload_n dX7_convoyOf_0 rfl ?_
  refine g_aload_n dX7_convoyOf_1 rfl ?_
  refine g_iload_n dX7_convoyOf_2 rfl ?_
  refine g_callVp (Y := YX7_isConvoy) sv_X7_134 rfl yn_X7_isConvoy 9 (by decide) rfl rfl dX7_convoyOf_3 (k_isConvoy hB.1 hI pR_ok) h0 rfl rfl rfl (Nat.le_of_ble_eq_true rfl) ⟨rfl, rfl⟩ ?_
  refine g_if_ne (tgt := 13) dX7_convoyOf_6 (by decide) (fun b1 => ?_) (fun b1 => ?_)
  rotate_left
  · rw [if_neg (bi_eq b1)] at hP
    refine g_iconst (v := nI 1) dX7_convoyOf_9 (by decide) ?_
    refine g_jump (tgt := 27) dX7_convoyOf_10 (by decide) ?_
    refine g_put 9 rfl (by decide) inX7 tyX7 tyX7_ok nmX7 7 (by decide) fl_X7_45 rfl dX7_convoyOf_27 h0 rfl rfl ?_
    refine g_aload_n dX7_convoyOf_30 rfl ?_
    refine g_get 9 rfl (by decide) inX7 7 (by decide) fl_X7_45 dX7_convoyOf_31 h0 (hu_at _ _ _ _) ?_
    refine g_if_le (tgt := 39) dX7_convoyOf_34 (by decide) (fun hq => absurd hq ((by decide))) (fun _ => ?_)
    refine g_iconst (v := nI 0) dX7_convoyOf_37 (by decide) ?_
    exact g_iret rfl (nr_int _) dX7_convoyOf_38 (by decide) (hP.t7 hB (fun z => absurd z (Nat.succ_ne_zero _)))
  rw [if_pos (bi_ne b1)] at hP
  obtain ⟨c, hc, rfl⟩ := isC_of hI (bi_ne b1)
  rw [nI_clamp (by omega)] at hP
  refine g_iload_n dX7_convoyOf_13 rfl ?_
  refine g_iconst (v := nI 0) dX7_convoyOf_14 (by decide) ?_
  refine g_iconst (v := nI 5) dX7_convoyOf_15 (by decide) ?_
  refine g_callSp (Y := YX7_in) ss_X7_84 yn_X7_in dX7_convoyOf_16 (k_in pR_ok) rfl rfl rfl (Nat.le_of_ble_eq_true rfl) ⟨rfl, rfl⟩ ?_
  rw [in_n w (n := 5) (by decide)]
  refine g_if_ne (tgt := 26) dX7_convoyOf_19 (by decide) (fun b2 => ?_) (fun b2 => ?_)
  rotate_left
  · rw [if_neg (bi_eq b2)] at hP
    refine g_iconst (v := nI 2) dX7_convoyOf_22 (by decide) ?_
    refine g_jump (tgt := 27) dX7_convoyOf_23 (by decide) ?_
    refine g_put 9 rfl (by decide) inX7 tyX7 tyX7_ok nmX7 7 (by decide) fl_X7_45 rfl dX7_convoyOf_27 h0 rfl rfl ?_
    refine g_aload_n dX7_convoyOf_30 rfl ?_
    refine g_get 9 rfl (by decide) inX7 7 (by decide) fl_X7_45 dX7_convoyOf_31 h0 (hu_at _ _ _ _) ?_
    refine g_if_le (tgt := 39) dX7_convoyOf_34 (by decide) (fun hq => absurd hq ((by decide))) (fun _ => ?_)
    refine g_iconst (v := nI 0) dX7_convoyOf_37 (by decide) ?_
    exact g_iret rfl (nr_int _) dX7_convoyOf_38 (by decide) (hP.t7 hB (fun z => absurd z (Nat.succ_ne_zero _)))
  rw [if_pos (bi_ne b2)] at hP
  refine g_iconst (v := nI 0) dX7_convoyOf_26 (by decide) ?_
  refine g_put 9 rfl (by decide) inX7 tyX7 tyX7_ok nmX7 7 (by decide) fl_X7_45 rfl dX7_convoyOf_27 h0 rfl rfl ?_
  refine g_aload_n dX7_convoyOf_30 rfl ?_
  refine g_get 9 rfl (by decide) inX7 7 (by decide) fl_X7_45 dX7_convoyOf_31 h0 (hu_at _ _ _ _) ?_
  refine g_if_le (tgt := 39) dX7_convoyOf_34 (by decide) (fun _ => ?_) (fun hq => absurd (Int32.le_refl _) hq)
  have hS : SA sh (hu V m 7 (.int (nI 0))) m S.1 := hB.thr.1
  refine g_iload_n dX7_convoyOf_39 rfl ?_
  obtain ⟨k, hk, rfl⟩ := in_nI (bi_ne b2).1 (bi_ne b2).2 (by decide)
  unfold cvV at hP
  rcases (show k = 0 ∨ k = 1 ∨ k = 2 ∨ k = 3 ∨ k = 4 ∨ k = 5 by omega) with rfl | rfl | rfl | rfl | rfl | rfl
  · rw [if_pos rfl] at hP
    refine g_tableOut (tgt := 96) dX7_convoyOf_40 (Or.inl (by decide)) (by decide) ?_
    refine g_aload_n dX7_convoyOf_96 rfl ?_
    refine g_iload_n dX7_convoyOf_97 rfl ?_
    refine g_iload_n dX7_convoyOf_98 rfl ?_
    refine g_callVp (Y := YX7_convoy1) sv_X7_81 rfl yn_X7_convoy1 9 (by decide) rfl rfl dX7_convoyOf_99 (k_convoy1 hS (c := c) (k := 0) (by omega) (by decide) pR_ok) h0 rfl rfl rfl (Nat.le_of_ble_eq_true rfl) ⟨rfl, rfl⟩ ?_
    exact g_iret rfl (nr_int _) dX7_convoyOf_102 (by decide) (hP.t7 hB (fun _ => rfl))
  · rw [if_neg (by decide), if_pos rfl] at hP
    refine g_tableOut (tgt := 96) dX7_convoyOf_40 (Or.inl (by decide)) (by decide) ?_
    refine g_aload_n dX7_convoyOf_96 rfl ?_
    refine g_iload_n dX7_convoyOf_97 rfl ?_
    refine g_iload_n dX7_convoyOf_98 rfl ?_
    refine g_callVp (Y := YX7_convoy1) sv_X7_81 rfl yn_X7_convoy1 9 (by decide) rfl rfl dX7_convoyOf_99 (k_convoy1 hS (c := c) (k := 1) (by omega) (by decide) pR_ok) h0 rfl rfl rfl (Nat.le_of_ble_eq_true rfl) ⟨rfl, rfl⟩ ?_
    exact g_iret rfl (nr_int _) dX7_convoyOf_102 (by decide) (hP.t7 hB (fun _ => rfl))
  · rw [if_neg (by decide), if_neg (by decide), if_pos rfl] at hP
    refine g_tableOut (tgt := 96) dX7_convoyOf_40 (Or.inl (by decide)) (by decide) ?_
    refine g_aload_n dX7_convoyOf_96 rfl ?_
    refine g_iload_n dX7_convoyOf_97 rfl ?_
    refine g_iload_n dX7_convoyOf_98 rfl ?_
    refine g_callVp (Y := YX7_convoy1) sv_X7_81 rfl yn_X7_convoy1 9 (by decide) rfl rfl dX7_convoyOf_99 (k_convoy1 hS (c := c) (k := 2) (by omega) (by decide) pR_ok) h0 rfl rfl rfl (Nat.le_of_ble_eq_true rfl) ⟨rfl, rfl⟩ ?_
    exact g_iret rfl (nr_int _) dX7_convoyOf_102 (by decide) (hP.t7 hB (fun _ => rfl))
  · rw [if_neg (by decide), if_neg (by decide), if_neg (by decide), if_pos rfl, onR_tw] at hP
    refine g_tableIn (off := 28) (tgt := 68) dX7_convoyOf_40 (by decide) (by decide) (by decide +kernel) (by decide) ?_
    refine g_aload_n dX7_convoyOf_68 rfl ?_
    refine g_iload_n dX7_convoyOf_69 rfl ?_
    refine g_iconst (v := nI 0) dX7_convoyOf_70 (by decide) ?_
    refine g_callVp (Y := YX7_trucksOf) sv_X7_177 rfl yn_X7_trucksOf 9 (by decide) rfl rfl dX7_convoyOf_71 (k_trucksOf hS hI hc pR_ok) h0 rfl rfl rfl (Nat.le_of_ble_eq_true rfl) ⟨rfl, rfl⟩ ?_
    exact g_iret rfl (nr_int _) dX7_convoyOf_74 (by decide) (hP.t7 hB (fun _ => rfl))
  · rw [if_neg (by decide), if_neg (by decide), if_neg (by decide), if_neg (by decide), if_pos rfl, arR_tw] at hP
    refine g_tableIn (off := 35) (tgt := 75) dX7_convoyOf_40 (by decide) (by decide) (by decide +kernel) (by decide) ?_
    refine g_aload_n dX7_convoyOf_75 rfl ?_
    refine g_iload_n dX7_convoyOf_76 rfl ?_
    refine g_iconst (v := nI 1) dX7_convoyOf_77 (by decide) ?_
    refine g_callVp (Y := YX7_trucksOf) sv_X7_177 rfl yn_X7_trucksOf 9 (by decide) rfl rfl dX7_convoyOf_78 (k_trucksOf hS hI hc pR_ok) h0 rfl rfl rfl (Nat.le_of_ble_eq_true rfl) ⟨rfl, rfl⟩ ?_
    exact g_iret rfl (nr_int _) dX7_convoyOf_81 (by decide) (hP.t7 hB (fun _ => rfl))
  · rw [if_neg (by decide), if_neg (by decide), if_neg (by decide), if_neg (by decide), if_neg (by decide)] at hP
    refine g_tableIn (off := 42) (tgt := 82) dX7_convoyOf_40 (by decide) (by decide) (by decide +kernel) (by decide) ?_
    refine g_aload_n dX7_convoyOf_82 rfl ?_
    refine g_iload_n dX7_convoyOf_83 rfl ?_
    refine g_callVp (Y := YX7_isDone) sv_X7_168 rfl yn_X7_isDone 9 (by decide) rfl rfl dX7_convoyOf_84 (k_isDone hS hI hc pR_ok) h0 rfl rfl rfl (Nat.le_of_ble_eq_true rfl) ⟨rfl, rfl⟩ ?_
    refine g_if_eq (tgt := 94) dX7_convoyOf_87 (by decide) (fun b4 => ?_) (fun b4 => ?_)
    · rw [bi_f (bi_eq b4)] at hP
      refine g_iconst (v := nI 0) dX7_convoyOf_94 (by decide) ?_
      exact g_iret rfl (nr_int _) dX7_convoyOf_95 (by decide) (hP.t7 hB (fun _ => rfl))
    · rw [bi_t (bi_ne b4)] at hP
      refine g_iconst (v := nI 1) dX7_convoyOf_90 (by decide) ?_
      refine g_jump (tgt := 95) dX7_convoyOf_91 (by decide) ?_
      exact g_iret rfl (nr_int _) dX7_convoyOf_95 (by decide) (hP.t7 hB (fun _ => rfl))
theorem r_truckOf {c p w : Int32} (h : MS sh V m S th) (hI : InvB S.1) (hP : RI sh m sz V (sp_truckOf S c p w) P) : MC E YX7_truckOf [.ref m, .int c, .int p, .int w] sh sz V P := by
  obtain ⟨r, hB⟩ := h
  have h0 := hB.1.1
  have h44 := hI.1.2
  unfold sp_truckOf at hP
  refine MC.of RX7 "truckOf" rfl (by decide +kernel) rfl 0 [_, _, _, _] rfl (Nat.le_of_ble_eq_true rfl) ?_
  show G E MX7_truckOf _ _ _ _ _ _ _ _ _
  refine g_aload_n dX7_truckOf_0 rfl ?_
  refine g_aload_n dX7_truckOf_1 rfl ?_
  refine g_iload_n dX7_truckOf_2 rfl ?_
  refine g_iload_n dX7_truckOf_3 rfl ?_
  refine g_callVp (Y := YX7_isTruck) sv_X7_181 rfl yn_X7_isTruck 9 (by decide) rfl rfl dX7_truckOf_4 (k_isTruck hB.1 hI pR_ok) h0 rfl rfl rfl (Nat.le_of_ble_eq_true rfl) ⟨rfl, rfl⟩ ?_
  refine g_if_ne (tgt := 14) dX7_truckOf_7 (by decide) (fun b1 => ?_) (fun b1 => ?_)
  rotate_left
  · rw [if_neg (bi_eq b1)] at hP
    refine g_iconst (v := nI 1) dX7_truckOf_10 (by decide) ?_
    refine g_jump (tgt := 28) dX7_truckOf_11 (by decide) ?_
    refine g_put 9 rfl (by decide) inX7 tyX7 tyX7_ok nmX7 7 (by decide) fl_X7_45 rfl dX7_truckOf_28 h0 rfl rfl ?_
    refine g_aload_n dX7_truckOf_31 rfl ?_
    refine g_get 9 rfl (by decide) inX7 7 (by decide) fl_X7_45 dX7_truckOf_32 h0 (hu_at _ _ _ _) ?_
    refine g_if_le (tgt := 40) dX7_truckOf_35 (by decide) (fun hq => absurd hq ((by decide))) (fun _ => ?_)
    refine g_iconst (v := nI 0) dX7_truckOf_38 (by decide) ?_
    exact g_iret rfl (nr_int _) dX7_truckOf_39 (by decide) (hP.t7 hB (fun z => absurd z (Nat.succ_ne_zero _)))
  have b1 := bi_ne b1
  rw [if_pos b1] at hP
  obtain ⟨c, hc, rfl⟩ := isC_of hI b1.1
  have i2 := (hI.cv hc).2.2.1
  have hT2 := b1.2
  rw [nI_clamp (by omega)] at hT2
  obtain ⟨p, hp, rfl⟩ := in_nI hT2.1 hT2.2 (by omega)
  rw [nI_clamp (by omega), nI_clamp (by omega)] at hP
  refine g_iload_n dX7_truckOf_14 rfl ?_
  refine g_iconst (v := nI 0) dX7_truckOf_15 (by decide) ?_
  refine g_iconst (v := nI 3) dX7_truckOf_16 (by decide) ?_
  refine g_callSp (Y := YX7_in) ss_X7_84 yn_X7_in dX7_truckOf_17 (k_in pR_ok) rfl rfl rfl (Nat.le_of_ble_eq_true rfl) ⟨rfl, rfl⟩ ?_
  rw [in_n w (n := 3) (by decide)]
  refine g_if_ne (tgt := 27) dX7_truckOf_20 (by decide) (fun b2 => ?_) (fun b2 => ?_)
  rotate_left
  · rw [if_neg (bi_eq b2)] at hP
    refine g_iconst (v := nI 2) dX7_truckOf_23 (by decide) ?_
    refine g_jump (tgt := 28) dX7_truckOf_24 (by decide) ?_
    refine g_put 9 rfl (by decide) inX7 tyX7 tyX7_ok nmX7 7 (by decide) fl_X7_45 rfl dX7_truckOf_28 h0 rfl rfl ?_
    refine g_aload_n dX7_truckOf_31 rfl ?_
    refine g_get 9 rfl (by decide) inX7 7 (by decide) fl_X7_45 dX7_truckOf_32 h0 (hu_at _ _ _ _) ?_
    refine g_if_le (tgt := 40) dX7_truckOf_35 (by decide) (fun hq => absurd hq ((by decide))) (fun _ => ?_)
    refine g_iconst (v := nI 0) dX7_truckOf_38 (by decide) ?_
    exact g_iret rfl (nr_int _) dX7_truckOf_39 (by decide) (hP.t7 hB (fun z => absurd z (Nat.succ_ne_zero _)))
  rw [if_pos (bi_ne b2)] at hP
  refine g_iconst (v := nI 0) dX7_truckOf_27 (by decide) ?_
  refine g_put 9 rfl (by decide) inX7 tyX7 tyX7_ok nmX7 7 (by decide) fl_X7_45 rfl dX7_truckOf_28 h0 rfl rfl ?_
  refine g_aload_n dX7_truckOf_31 rfl ?_
  refine g_get 9 rfl (by decide) inX7 7 (by decide) fl_X7_45 dX7_truckOf_32 h0 (hu_at _ _ _ _) ?_
  refine g_if_le (tgt := 40) dX7_truckOf_35 (by decide) (fun _ => ?_) (fun hq => absurd (Int32.le_refl _) hq)
  have hS : SA sh (hu V m 7 (.int (nI 0))) m S.1 := hB.thr.1
  obtain ⟨k, hk, rfl⟩ := in_nI (bi_ne b2).1 (bi_ne b2).2 (by decide)
  unfold tkV at hP
  by_cases h3 : k < 3
  · have e : (if nI k = nI 0 then (tkF S.1 c p).1 else if nI k = nI 1 then (tkF S.1 c p).2.1 else if nI k = nI 2 then (tkF S.1 c p).2.2 else mt (S.1 (oC c 2)) (S.1 (oC c 0)) p) = S.1 (oC c (4 + 3 * p + k)) := by
      rcases (show k = 0 ∨ k = 1 ∨ k = 2 by omega) with rfl | rfl | rfl
      · rw [if_pos rfl]
        rfl
      · rw [if_neg (by decide), if_pos rfl, show 4 + 3 * p + 1 = 5 + 3 * p by omega]
        rfl
      · rw [if_neg (by decide), if_neg (by decide), if_pos rfl, show 4 + 3 * p + 2 = 6 + 3 * p by omega]
        rfl
    rw [e] at hP
    refine g_iload_n dX7_truckOf_40 rfl ?_
    refine g_iconst (v := nI 3) dX7_truckOf_41 (by decide) ?_
    refine g_icmp_ge (tgt := 55) dX7_truckOf_42 (by decide) (fun hq => absurd hq (nI_ge h3 (by decide))) (fun _ => ?_)
    refine g_aload_n dX7_truckOf_45 rfl ?_
    refine g_iload_n dX7_truckOf_46 rfl ?_
    refine g_iload_n dX7_truckOf_47 rfl ?_
    refine g_iload_n dX7_truckOf_48 rfl ?_
    refine g_callVp (Y := YX7_truck1) sv_X7_140 rfl yn_X7_truck1 9 (by decide) rfl rfl dX7_truckOf_49 (k_truck1 hS (c := c) (p := p) (k := k) (by omega) (by omega) h3 pR_ok) h0 rfl rfl rfl (Nat.le_of_ble_eq_true rfl) ⟨rfl, rfl⟩ ?_
    refine g_jump (tgt := 79) dX7_truckOf_52 (by decide) ?_
    exact g_iret rfl (nr_int _) dX7_truckOf_79 (by decide) (hP.t7 hB (fun _ => rfl))
  have hk3 : k = 3 := by omega
  subst hk3
  rw [if_neg (by decide), if_neg (by decide), if_neg (by decide)] at hP
  refine g_iload_n dX7_truckOf_40 rfl ?_
  refine g_iconst (v := nI 3) dX7_truckOf_41 (by decide) ?_
  refine g_icmp_ge (tgt := 55) dX7_truckOf_42 (by decide) (fun _ => ?_) (fun hq => absurd (Int32.le_refl _) hq)
  refine g_aload_n dX7_truckOf_55 rfl ?_
  refine g_iload_n dX7_truckOf_56 rfl ?_
  refine g_callVp (Y := YX7_isStarted) sv_X7_144 rfl yn_X7_isStarted 9 (by decide) rfl rfl dX7_truckOf_57 (k_isStarted hS hI hc pR_ok) h0 rfl rfl rfl (Nat.le_of_ble_eq_true rfl) ⟨rfl, rfl⟩ ?_
  refine g_if_eq (tgt := 78) dX7_truckOf_60 (by decide) (fun b3 => ?_) (fun b3 => ?_)
  · rw [mt_ns (bi_eq b3)] at hP
    refine g_iconst (v := (-1)) dX7_truckOf_78 (by decide) ?_
    exact g_iret rfl (nr_int _) dX7_truckOf_79 (by decide) (hP.t7 hB (fun _ => rfl))
  · rw [mt_st (bi_ne b3)] at hP
    refine g_aload_n dX7_truckOf_63 rfl ?_
    refine g_iload_n dX7_truckOf_64 rfl ?_
    refine g_iload_n dX7_truckOf_65 rfl ?_
    refine g_aload_n dX7_truckOf_66 rfl ?_
    refine g_iload_n dX7_truckOf_67 rfl ?_
    refine g_iconst (v := nI 2) dX7_truckOf_68 (by decide) ?_
    refine g_callVp (Y := YX7_convoy1) sv_X7_81 rfl yn_X7_convoy1 9 (by decide) rfl rfl dX7_truckOf_69 (k_convoy1 hS (c := c) (k := 2) (by omega) (by decide) pR_ok) h0 rfl rfl rfl (Nat.le_of_ble_eq_true rfl) ⟨rfl, rfl⟩ ?_
    refine g_callVp (Y := YX7_mileBy) sv_X7_147 rfl yn_X7_mileBy 9 (by decide) rfl rfl dX7_truckOf_72 (k_mileBy hS (c := c) (p := p) (by omega) pR_ok) h0 rfl rfl rfl (Nat.le_of_ble_eq_true rfl) ⟨rfl, rfl⟩ ?_
    refine g_jump (tgt := 79) dX7_truckOf_75 (by decide) ?_
    exact g_iret rfl (nr_int _) dX7_truckOf_79 (by decide) (hP.t7 hB (fun _ => rfl))
theorem r_load {c p : Int32} (h : MS sh V m S th) (hI : InvB S.1) (hP : RF sh m sz V (sp_load S c p) P) : MC E YX7_load [.ref m, .int c, .int p] sh sz V P := by
  obtain ⟨r, hB⟩ := h
  have h0 := hB.1.1
  have h44 := hI.1.2
  unfold sp_load at hP
  refine MC.of RX7 "load" rfl (by decide +kernel) rfl 0 [_, _, _] rfl (Nat.le_of_ble_eq_true rfl) ?_
  show G E MX7_load _ _ _ _ _ _ _ _ _
  refine g_aload_n dX7_load_0 rfl ?_
  refine g_aload_n dX7_load_1 rfl ?_
  refine g_iload_n dX7_load_2 rfl ?_
  refine g_iload_n dX7_load_3 rfl ?_
  refine g_callVp (Y := YX7_isTruck) sv_X7_181 rfl yn_X7_isTruck 9 (by decide) rfl rfl dX7_load_4 (k_isTruck hB.1 hI pR_ok) h0 rfl rfl rfl (Nat.le_of_ble_eq_true rfl) ⟨rfl, rfl⟩ ?_
  refine g_if_eq (tgt := 14) dX7_load_7 (by decide) (fun b1 => ?_) (fun b1 => ?_)
  · rw [if_neg (bi_eq b1)] at hP
    refine g_iconst (v := nI 1) dX7_load_14 (by decide) ?_
    refine g_put 9 rfl (by decide) inX7 tyX7 tyX7_ok nmX7 7 (by decide) fl_X7_45 rfl dX7_load_15 h0 rfl rfl ?_
    refine g_aload_n dX7_load_18 rfl ?_
    refine g_get 9 rfl (by decide) inX7 7 (by decide) fl_X7_45 dX7_load_19 h0 (hu_at _ _ _ _) ?_
    refine g_if_le (tgt := 29) dX7_load_22 (by decide) (fun hq => absurd hq ((by decide))) (fun _ => ?_)
    refine g_fconst0 dX7_load_25 ?_
    refine g_jump (tgt := 35) dX7_load_26 (by decide) ?_
    exact g_fret rfl dX7_load_35 (by decide) (hP.t7 hB (fun z => absurd z (Nat.succ_ne_zero _)))
  have b1 := bi_ne b1
  rw [if_pos b1] at hP
  obtain ⟨c, hc, rfl⟩ := isC_of hI b1.1
  have i2 := (hI.cv hc).2.2.1
  have hT2 := b1.2
  rw [nI_clamp (by omega)] at hT2
  obtain ⟨p, hp, rfl⟩ := in_nI hT2.1 hT2.2 (by omega)
  rw [nI_clamp (by omega), nI_clamp (by omega)] at hP
  refine g_iconst (v := nI 0) dX7_load_10 (by decide) ?_
  refine g_jump (tgt := 15) dX7_load_11 (by decide) ?_
  refine g_put 9 rfl (by decide) inX7 tyX7 tyX7_ok nmX7 7 (by decide) fl_X7_45 rfl dX7_load_15 h0 rfl rfl ?_
  refine g_aload_n dX7_load_18 rfl ?_
  refine g_get 9 rfl (by decide) inX7 7 (by decide) fl_X7_45 dX7_load_19 h0 (hu_at _ _ _ _) ?_
  refine g_if_le (tgt := 29) dX7_load_22 (by decide) (fun _ => ?_) (fun hq => absurd (Int32.le_refl _) hq)
  have hS : SA sh (hu V m 7 (.int (nI 0))) m S.1 := hB.thr.1
  refine g_aload_n dX7_load_29 rfl ?_
  refine g_iload_n dX7_load_30 rfl ?_
  refine g_iload_n dX7_load_31 rfl ?_
  refine g_callVp (Y := YX7_loadOf) sv_X7_150 rfl yn_X7_loadOf 9 (by decide) rfl rfl dX7_load_32 (k_loadOf hS hI hc hp pR_ok) h0 rfl rfl rfl (Nat.le_of_ble_eq_true rfl) ⟨rfl, rfl⟩ ?_
  exact g_fret rfl dX7_load_35 (by decide) (hP.t7 hB (fun _ => rfl))
theorem r_at {a : Int32} (h : MS sh V m S th) (hI : InvB S.1) (hP : RI sh m sz V (sp_at S a) P) : MC E YX7_at [.ref m, .int a] sh sz V P := by
  obtain ⟨r, hB⟩ := h
  have h0 := hB.1.1
  unfold sp_at at hP
  refine MC.of RX7 "at" rfl (by decide +kernel) rfl 0 [_, _] rfl (Nat.le_of_ble_eq_true rfl) ?_
  show G E MX7_at _ _ _ _ _ _ _ _ _
  refine g_aload_n dX7_at_0 rfl ?_
  refine g_iload_n dX7_at_1 rfl ?_
  refine g_callSp (Y := YX7_isMile) ss_X7_101 yn_X7_isMile dX7_at_2 (k_isMile pR_ok) rfl rfl rfl (Nat.le_of_ble_eq_true rfl) ⟨rfl, rfl⟩ ?_
  refine g_if_ne (tgt := 12) dX7_at_5 (by decide) (fun b1 => ?_) (fun b1 => ?_)
  rotate_left
  · rw [if_neg (bi_eq b1)] at hP
    refine g_iconst (v := nI 1) dX7_at_8 (by decide) ?_
    refine g_jump (tgt := 26) dX7_at_9 (by decide) ?_
    refine g_put 9 rfl (by decide) inX7 tyX7 tyX7_ok nmX7 7 (by decide) fl_X7_45 rfl dX7_at_26 h0 rfl rfl ?_
    refine g_aload_n dX7_at_29 rfl ?_
    refine g_get 9 rfl (by decide) inX7 7 (by decide) fl_X7_45 dX7_at_30 h0 (hu_at _ _ _ _) ?_
    refine g_if_le (tgt := 40) dX7_at_33 (by decide) (fun hq => absurd hq ((by decide))) (fun _ => ?_)
    refine g_iconst (v := nI 0) dX7_at_36 (by decide) ?_
    refine g_jump (tgt := 46) dX7_at_37 (by decide) ?_
    exact g_iret rfl (nr_int _) dX7_at_46 (by decide) (hP.t7 hB (fun z => absurd z (Nat.succ_ne_zero _)))
  rw [if_pos (bi_ne b1)] at hP
  have ha := (bi_ne b1).1
  refine g_aload_n dX7_at_12 rfl ?_
  refine g_iload_n dX7_at_13 rfl ?_
  refine g_iconst (v := (-1)) dX7_at_14 (by decide) ?_
  refine g_callVp (Y := YX7_whoIsAt) sv_X7_120 rfl yn_X7_whoIsAt 9 (by decide) rfl rfl dX7_at_15 (k_whoIsAt hB.1 hI ha pR_ok) h0 rfl rfl rfl (Nat.le_of_ble_eq_true rfl) ⟨rfl, rfl⟩ ?_
  refine g_if_ge (tgt := 25) dX7_at_18 (by decide) (fun b2 => ?_) (fun b2 => ?_)
  rotate_left
  · rw [if_neg ((whoV_neg hI).mp (Int32.not_le.mp b2))] at hP
    refine g_iconst (v := nI 2) dX7_at_21 (by decide) ?_
    refine g_jump (tgt := 26) dX7_at_22 (by decide) ?_
    refine g_put 9 rfl (by decide) inX7 tyX7 tyX7_ok nmX7 7 (by decide) fl_X7_45 rfl dX7_at_26 h0 rfl rfl ?_
    refine g_aload_n dX7_at_29 rfl ?_
    refine g_get 9 rfl (by decide) inX7 7 (by decide) fl_X7_45 dX7_at_30 h0 (hu_at _ _ _ _) ?_
    refine g_if_le (tgt := 40) dX7_at_33 (by decide) (fun hq => absurd hq ((by decide))) (fun _ => ?_)
    refine g_iconst (v := nI 0) dX7_at_36 (by decide) ?_
    refine g_jump (tgt := 46) dX7_at_37 (by decide) ?_
    exact g_iret rfl (nr_int _) dX7_at_46 (by decide) (hP.t7 hB (fun z => absurd z (Nat.succ_ne_zero _)))
  rw [if_pos (Classical.byContradiction fun q => absurd ((whoV_neg hI).mpr q) (Int32.not_lt.mpr b2))] at hP
  refine g_iconst (v := nI 0) dX7_at_25 (by decide) ?_
  refine g_put 9 rfl (by decide) inX7 tyX7 tyX7_ok nmX7 7 (by decide) fl_X7_45 rfl dX7_at_26 h0 rfl rfl ?_
  refine g_aload_n dX7_at_29 rfl ?_
  refine g_get 9 rfl (by decide) inX7 7 (by decide) fl_X7_45 dX7_at_30 h0 (hu_at _ _ _ _) ?_
  refine g_if_le (tgt := 40) dX7_at_33 (by decide) (fun _ => ?_) (fun hq => absurd (Int32.le_refl _) hq)
  have hS : SA sh (hu V m 7 (.int (nI 0))) m S.1 := hB.thr.1
  refine g_aload_n dX7_at_40 rfl ?_
  refine g_iload_n dX7_at_41 rfl ?_
  refine g_iconst (v := (-1)) dX7_at_42 (by decide) ?_
  refine g_callVp (Y := YX7_whoIsAt) sv_X7_120 rfl yn_X7_whoIsAt 9 (by decide) rfl rfl dX7_at_43 (k_whoIsAt hS hI ha pR_ok) h0 rfl rfl rfl (Nat.le_of_ble_eq_true rfl) ⟨rfl, rfl⟩ ?_
  exact g_iret rfl (nr_int _) dX7_at_46 (by decide) (hP.t7 hB (fun _ => rfl))
end REF13

