/-! THE REFERENCE: what its small methods read -/
section REF1
/-- the row of numbers -/
def SA (sh : Sh) (V : Vl) (m : Nat) (f : Fl) : Prop := (sh m).1 = 10 ∧ sh (m + 1) = (20, 164) ∧ V m 0 = .ref (m + 1) ∧ ∀ k, k < 164 → V (m + 1) k = .int (f k)
variable {E : gE} {M : gM} {P : gP} {sh : Sh} {sz : Nat} {V V' : Vl} {cu su pc : Nat} {L : List (Option Value)} {rest : List Value} {m : Nat} {f : Fl}
theorem SA.rd {k : Nat} (h : SA sh V m f) (hk : k < 164) : V (m + 1) (nI k).toNatClampNeg = .int (f k) := at_nI (by omega) (h.2.2.2 k hk)
theorem SA.wr {k : Nat} {x : Int32} (h : SA sh V m f) : SA sh (hu V (m + 1) k (.int x)) m (upd f k x) := by
  obtain ⟨h1, h2, h3, h4⟩ := h
  refine ⟨h1, h2, (congrFun (hu_ne _ _ _ (by omega)) _).trans h3, fun j hj => ?_⟩
  by_cases e : j = k
  · rw [e, hu_at, pk_us]
  · rw [hu_at_ne _ _ _ e, pk_un e]
    exact h4 j hj
theorem ix_M (j k : Nat) : nI 8 + nI 6 * nI j + nI k = nI (oM j k) := by rw [pk_mul, nI_add, nI_add]; rfl
theorem ix_C (c k : Nat) : nI 100 + nI 16 * nI c + nI k = nI (oC c k) := by rw [pk_mul, nI_add, nI_add]; rfl
theorem k_get {j k : Nat} (h : SA sh V m f) (hj : j < 12) (hk : k < 6) (hP : P (.inl (some (.int (f (oM j k))))) sh sz V) : MC E YX7_get [.ref m, .int (nI j), .int (nI k)] sh sz V P := by
  refine MC.of RX7 "get" rfl (by decide +kernel) rfl 0 [_, _, _] rfl (Nat.le_of_ble_eq_true rfl) ?_
  show G E MX7_get _ _ _ _ _ _ _ _ _
  refine g_aload_n dX7_get_0 rfl ?_
  refine g_get 9 rfl (by decide) inX7 0 (by decide) fl_X7_9 dX7_get_1 h.1 h.2.2.1 ?_
  refine g_bipush (v := nI 8) dX7_get_4 (by decide) ?_
  refine g_bipush (v := nI 6) dX7_get_6 (by decide) ?_
  refine g_iload_n dX7_get_8 rfl ?_
  refine g_imul dX7_get_9 ?_
  refine g_iadd dX7_get_10 ?_
  refine g_iload_n dX7_get_11 rfl ?_
  refine g_iadd dX7_get_12 ?_
  rw [ix_M]
  refine g_iaload dX7_get_13 h.2.1 (vp_in_nI (by unfold oM; omega) (by decide)) (h.rd (by unfold oM; omega)) ?_
  exact g_iret rfl (nr_int _) dX7_get_14 (by decide) hP
theorem k_set {j k : Nat} {x : Int32} (h : SA sh V m f) (hj : j < 12) (hk : k < 6) (hP : P (.inl none) sh sz (hu V (m + 1) (oM j k) (.int x))) : MC E YX7_set [.ref m, .int (nI j), .int (nI k), .int x] sh sz V P := by
  refine MC.of RX7 "set" rfl (by decide +kernel) rfl 0 [_, _, _, _] rfl (Nat.le_of_ble_eq_true rfl) ?_
  show G E MX7_set _ _ _ _ _ _ _ _ _
  refine g_aload_n dX7_set_0 rfl ?_
  refine g_get 9 rfl (by decide) inX7 0 (by decide) fl_X7_9 dX7_set_1 h.1 h.2.2.1 ?_
  refine g_bipush (v := nI 8) dX7_set_4 (by decide) ?_
  refine g_bipush (v := nI 6) dX7_set_6 (by decide) ?_
  refine g_iload_n dX7_set_8 rfl ?_
  refine g_imul dX7_set_9 ?_
  refine g_iadd dX7_set_10 ?_
  refine g_iload_n dX7_set_11 rfl ?_
  refine g_iadd dX7_set_12 ?_
  refine g_iload_n dX7_set_13 rfl ?_
  rw [ix_M]
  refine g_iastore dX7_set_14 h.2.1 (vp_in_nI (by unfold oM; omega) (by decide)) ?_
  rw [nI_clamp (by unfold oM; omega)]
  exact g_vret rfl dX7_set_15 (by decide) hP
theorem k_convoy1 {c k : Nat} (h : SA sh V m f) (hc : c < 4) (hk : k < 16) (hP : P (.inl (some (.int (f (oC c k))))) sh sz V) : MC E YX7_convoy1 [.ref m, .int (nI c), .int (nI k)] sh sz V P := by
  refine MC.of RX7 "convoy1" rfl (by decide +kernel) rfl 0 [_, _, _] rfl (Nat.le_of_ble_eq_true rfl) ?_
  show G E MX7_convoy1 _ _ _ _ _ _ _ _ _
  refine g_aload_n dX7_convoy1_0 rfl ?_
  refine g_get 9 rfl (by decide) inX7 0 (by decide) fl_X7_9 dX7_convoy1_1 h.1 h.2.2.1 ?_
  refine g_bipush (v := nI 100) dX7_convoy1_4 (by decide) ?_
  refine g_bipush (v := nI 16) dX7_convoy1_6 (by decide) ?_
  refine g_iload_n dX7_convoy1_8 rfl ?_
  refine g_imul dX7_convoy1_9 ?_
  refine g_iadd dX7_convoy1_10 ?_
  refine g_iload_n dX7_convoy1_11 rfl ?_
  refine g_iadd dX7_convoy1_12 ?_
  rw [ix_C]
  refine g_iaload dX7_convoy1_13 h.2.1 (vp_in_nI (by unfold oC; omega) (by decide)) (h.rd (by unfold oC; omega)) ?_
  exact g_iret rfl (nr_int _) dX7_convoy1_14 (by decide) hP
theorem k_truck1 {c p k : Nat} (h : SA sh V m f) (hc : c < 4) (hp : p < 4) (hk : k < 3) (hP : P (.inl (some (.int (f (oC c (4 + 3 * p + k)))))) sh sz V) : MC E YX7_truck1 [.ref m, .int (nI c), .int (nI p), .int (nI k)] sh sz V P := by
  refine MC.of RX7 "truck1" rfl (by decide +kernel) rfl 0 [_, _, _, _] rfl (Nat.le_of_ble_eq_true rfl) ?_
  show G E MX7_truck1 _ _ _ _ _ _ _ _ _
  refine g_aload_n dX7_truck1_0 rfl ?_
  refine g_iload_n dX7_truck1_1 rfl ?_
  refine g_iconst (v := nI 4) dX7_truck1_2 (by decide) ?_
  refine g_iconst (v := nI 3) dX7_truck1_3 (by decide) ?_
  refine g_iload_n dX7_truck1_4 rfl ?_
  refine g_imul dX7_truck1_5 ?_
  refine g_iadd dX7_truck1_6 ?_
  refine g_iload_n dX7_truck1_7 rfl ?_
  refine g_iadd dX7_truck1_8 ?_
  rw [pk_mul, nI_add, nI_add]
  refine g_callVp (Y := YX7_convoy1) sv_X7_81 rfl yn_X7_convoy1 9 (by decide) rfl rfl dX7_truck1_9 (k_convoy1 h hc (by omega) pR_ok) h.1 rfl rfl rfl (Nat.le_of_ble_eq_true rfl) ⟨rfl, rfl⟩ ?_
  exact g_iret rfl (nr_int _) dX7_truck1_12 (by decide) hP
theorem k_in {x a b : Int32} (hP : P (.inl (some (.int (bi (a ≤ x ∧ x ≤ b))))) sh sz V) : MC E YX7_in [.int x, .int a, .int b] sh sz V P := by
  refine MC.of RX7 "in" rfl (by decide +kernel) rfl 0 [_, _, _] rfl (Nat.le_of_ble_eq_true rfl) ?_
  show G E MX7_in _ _ _ _ _ _ _ _ _
  refine g_iload_n dX7_in_0 rfl ?_
  refine g_iload_n dX7_in_1 rfl ?_
  refine g_icmp_lt (tgt := 14) dX7_in_2 (by decide) (fun b1 => ?_) (fun b1 => ?_)
  · rw [bi_f (p := a ≤ x ∧ x ≤ b) (fun q => absurd q.1 (Int32.not_le.mpr b1))] at hP
    refine g_iconst (v := nI 0) dX7_in_14 (by decide) ?_
    exact g_iret rfl nz0 dX7_in_15 (by decide) hP
  refine g_iload_n dX7_in_5 rfl ?_
  refine g_iload_n dX7_in_6 rfl ?_
  refine g_icmp_gt (tgt := 14) dX7_in_7 (by decide) (fun b2 => ?_) (fun b2 => ?_)
  · rw [bi_f (p := a ≤ x ∧ x ≤ b) (fun q => absurd q.2 (Int32.not_le.mpr b2))] at hP
    refine g_iconst (v := nI 0) dX7_in_14 (by decide) ?_
    exact g_iret rfl nz0 dX7_in_15 (by decide) hP
  · rw [bi_t (p := a ≤ x ∧ x ≤ b) ⟨Int32.not_lt.mp b1, Int32.not_lt.mp b2⟩] at hP
    refine g_iconst (v := nI 1) dX7_in_10 (by decide) ?_
    refine g_jump (tgt := 15) dX7_in_11 (by decide) ?_
    exact g_iret rfl nz1 dX7_in_15 (by decide) hP
theorem le_lt {x : Int32} {n : Nat} (hn : n + 1 < 2 ^ 31) : x ≤ nI n ↔ x < nI (n + 1) := by
  rw [fa_le, fa_lt]
  have h1 : (nI n).toInt = n := nI_toInt (by omega)
  have h2 : (nI (n + 1)).toInt = (n : Int) + 1 := by rw [nI_toInt (by omega)]; omega
  rw [h1, h2]
  omega
theorem k_isMile {x : Int32} (hP : P (.inl (some (.int (bi (isM x))))) sh sz V) : MC E YX7_isMile [.int x] sh sz V P := by
  refine MC.of RX7 "isMile" rfl (by decide +kernel) rfl 0 [_] rfl (Nat.le_of_ble_eq_true rfl) ?_
  show G E MX7_isMile _ _ _ _ _ _ _ _ _
  refine g_iload_n dX7_isMile_0 rfl ?_
  refine g_iconst (v := nI 0) dX7_isMile_1 (by decide) ?_
  refine g_bipush (v := nI 11) dX7_isMile_2 (by decide) ?_
  refine g_callSp (Y := YX7_in) ss_X7_84 yn_X7_in dX7_isMile_4 (k_in pR_ok) rfl rfl rfl (Nat.le_of_ble_eq_true rfl) ⟨rfl, rfl⟩ ?_
  have e : bi (nI 0 ≤ x ∧ x ≤ nI 11) = bi (isM x) := bi_iff ⟨fun q => ⟨q.1, (le_lt (by decide)).mp q.2⟩, fun q => ⟨q.1, (le_lt (by decide)).mpr q.2⟩⟩
  rw [e]
  exact g_iret rfl (bi_nar _) dX7_isMile_7 (by decide) hP
theorem le_m1 {x : Int32} {n : Nat} (hn : n < 2 ^ 30) : x ≤ nI n - nI 1 ↔ x < nI n := by
  rw [fa_le, fa_lt, pk_sub_toInt hn (by decide), nI_toInt (by omega)]
  omega
theorem k_isConvoy {x : Int32} (h : SA sh V m f) (hI : InvB f) (hP : P (.inl (some (.int (bi (isC f x))))) sh sz V) : MC E YX7_isConvoy [.ref m, .int x] sh sz V P := by
  obtain ⟨i1, i2⟩ := hI.1
  have h1 := h.rd (k := 1) (by decide)
  rw [i1] at h1
  refine MC.of RX7 "isConvoy" rfl (by decide +kernel) rfl 0 [_, _] rfl (Nat.le_of_ble_eq_true rfl) ?_
  show G E MX7_isConvoy _ _ _ _ _ _ _ _ _
  refine g_iload_n dX7_isConvoy_0 rfl ?_
  refine g_iconst (v := nI 0) dX7_isConvoy_1 (by decide) ?_
  refine g_aload_n dX7_isConvoy_2 rfl ?_
  refine g_get 9 rfl (by decide) inX7 0 (by decide) fl_X7_9 dX7_isConvoy_3 h.1 h.2.2.1 ?_
  refine g_iconst (v := nI 1) dX7_isConvoy_6 (by decide) ?_
  refine g_iaload dX7_isConvoy_7 h.2.1 (vp_in_nI (by decide) (by decide)) h1 ?_
  refine g_iconst (v := nI 1) dX7_isConvoy_8 (by decide) ?_
  refine g_isub dX7_isConvoy_9 ?_
  refine g_callSp (Y := YX7_in) ss_X7_84 yn_X7_in dX7_isConvoy_10 (k_in pR_ok) rfl rfl rfl (Nat.le_of_ble_eq_true rfl) ⟨rfl, rfl⟩ ?_
  have e : bi (nI 0 ≤ x ∧ x ≤ nI (cnt f) - nI 1) = bi (isC f x) := bi_iff ⟨fun q => ⟨q.1, (le_m1 (by omega)).mp q.2⟩, fun q => ⟨q.1, (le_m1 (by omega)).mpr q.2⟩⟩
  rw [e]
  exact g_iret rfl (bi_nar _) dX7_isConvoy_13 (by decide) hP
theorem k_iceOf {j : Nat} (h : SA sh V m f) (hj : j < 12) (hx : okI (f (oM j 0)).toUInt32) (hP : P (.inl (some (.float (f (oM j 0)).toUInt32))) sh sz V) : MC E YX7_iceOf [.ref m, .int (nI j)] sh sz V P := by
  refine MC.of RX7 "iceOf" rfl (by decide +kernel) rfl 0 [_, _] rfl (Nat.le_of_ble_eq_true rfl) ?_
  show G E MX7_iceOf _ _ _ _ _ _ _ _ _
  refine g_aload_n dX7_iceOf_0 rfl ?_
  refine g_iload_n dX7_iceOf_1 rfl ?_
  refine g_iconst (v := nI 0) dX7_iceOf_2 (by decide) ?_
  refine g_callVp (Y := YX7_get) sv_X7_67 rfl yn_X7_get 9 (by decide) rfl rfl dX7_iceOf_3 (k_get h hj (k := 0) (by decide) pR_ok) h.1 rfl rfl rfl (Nat.le_of_ble_eq_true rfl) ⟨rfl, rfl⟩ ?_
  refine g_i2fb ml_X7_71 wn_i2fb wt_i2fb wi_flo dX7_iceOf_6 (sn_ok hx.n) (Nat.le_of_ble_eq_true rfl) (Nat.le_of_ble_eq_true rfl) ?_
  exact g_fret rfl dX7_iceOf_9 (by decide) hP
theorem k_setIce {j : Nat} {x : UInt32} (h : SA sh V m f) (hj : j < 12) (hx : okN x) (hP : P (.inl none) sh sz (hu V (m + 1) (oM j 0) (.int x.toInt32))) : MC E YX7_setIce [.ref m, .int (nI j), .float x] sh sz V P := by
  refine MC.of RX7 "setIce" rfl (by decide +kernel) rfl 0 [_, _, _] rfl (Nat.le_of_ble_eq_true rfl) ?_
  show G E MX7_setIce _ _ _ _ _ _ _ _ _
  refine g_aload_n dX7_setIce_0 rfl ?_
  refine g_iload_n dX7_setIce_1 rfl ?_
  refine g_iconst (v := nI 0) dX7_setIce_2 (by decide) ?_
  refine g_fload_n dX7_setIce_3 rfl ?_
  refine g_callSp (Y := YJxf58ca_floatToIntBits_5c35a) ss_X7_77 yn_Jxf58ca_floatToIntBits_5c35a dX7_setIce_4 (c_ftib hx pR_ok) rfl rfl rfl (Nat.le_of_ble_eq_true rfl) ⟨rfl, rfl⟩ ?_
  refine g_callVv (Y := YX7_set) sv_X7_41 rfl yn_X7_set 9 (by decide) rfl rfl dX7_setIce_7 (k_set (P := pV (fun V' => V' = hu V (m + 1) (oM j 0) (.int x.toInt32)) sh sz) h hj (k := 0) (by decide) ⟨rfl, rfl, rfl, rfl⟩) h.1 rfl rfl rfl (Nat.le_of_ble_eq_true rfl) ⟨rfl, rfl⟩ (fun V' q => ?_)
  rw [q]
  exact g_vret rfl dX7_setIce_10 (by decide) hP
theorem k_isGood {j : Nat} (h : SA sh V m f) (hj : j < 12) (hP : P (.inl (some (.int (bgd f j)))) sh sz V) : MC E YX7_isGood [.ref m, .int (nI j)] sh sz V P := by
  refine MC.of RX7 "isGood" rfl (by decide +kernel) rfl 0 [_, _] rfl (Nat.le_of_ble_eq_true rfl) ?_
  show G E MX7_isGood _ _ _ _ _ _ _ _ _
  refine g_aload_n dX7_isGood_0 rfl ?_
  refine g_iload_n dX7_isGood_1 rfl ?_
  refine g_iconst (v := nI 4) dX7_isGood_2 (by decide) ?_
  refine g_callVp (Y := YX7_get) sv_X7_67 rfl yn_X7_get 9 (by decide) rfl rfl dX7_isGood_3 (k_get h hj (k := 4) (by decide) pR_ok) h.1 rfl rfl rfl (Nat.le_of_ble_eq_true rfl) ⟨rfl, rfl⟩ ?_
  refine g_if_lt (tgt := 36) dX7_isGood_6 (by decide) (fun b1 => ?_) (fun b1 => ?_)
  · rw [bgd_f (fun q => absurd q.1 (Int32.not_le.mpr b1))] at hP
    refine g_iconst (v := nI 0) dX7_isGood_36 (by decide) ?_
    exact g_iret rfl nz0 dX7_isGood_37 (by decide) hP
  refine g_aload_n dX7_isGood_9 rfl ?_
  refine g_get 9 rfl (by decide) inX7 0 (by decide) fl_X7_9 dX7_isGood_10 h.1 h.2.2.1 ?_
  refine g_iconst (v := nI 0) dX7_isGood_13 (by decide) ?_
  refine g_iaload dX7_isGood_14 h.2.1 (vp_in_nI (by decide) (by decide)) (h.rd (by decide)) ?_
  refine g_aload_n dX7_isGood_15 rfl ?_
  refine g_iload_n dX7_isGood_16 rfl ?_
  refine g_iconst (v := nI 4) dX7_isGood_17 (by decide) ?_
  refine g_callVp (Y := YX7_get) sv_X7_67 rfl yn_X7_get 9 (by decide) rfl rfl dX7_isGood_18 (k_get h hj (k := 4) (by decide) pR_ok) h.1 rfl rfl rfl (Nat.le_of_ble_eq_true rfl) ⟨rfl, rfl⟩ ?_
  refine g_isub dX7_isGood_21 ?_
  refine g_aload_n dX7_isGood_22 rfl ?_
  refine g_get 9 rfl (by decide) inX7 0 (by decide) fl_X7_9 dX7_isGood_23 h.1 h.2.2.1 ?_
  refine g_bipush (v := nI 7) dX7_isGood_26 (by decide) ?_
  refine g_iaload dX7_isGood_28 h.2.1 (vp_in_nI (by decide) (by decide)) (h.rd (by decide)) ?_
  refine g_icmp_gt (tgt := 36) dX7_isGood_29 (by decide) (fun b2 => ?_) (fun b2 => ?_)
  · rw [bgd_f (fun q => absurd q.2 (Int32.not_le.mpr b2))] at hP
    refine g_iconst (v := nI 0) dX7_isGood_36 (by decide) ?_
    exact g_iret rfl nz0 dX7_isGood_37 (by decide) hP
  · rw [bgd_t ⟨Int32.not_lt.mp b1, Int32.not_lt.mp b2⟩] at hP
    refine g_iconst (v := nI 1) dX7_isGood_32 (by decide) ?_
    refine g_jump (tgt := 37) dX7_isGood_33 (by decide) ?_
    exact g_iret rfl nz1 dX7_isGood_37 (by decide) hP
theorem k_bearsOf {j : Nat} (h : SA sh V m f) (hI : InvB f) (hj : j < 12) (hP : P (.inl (some (.float (bd f j)))) sh sz V) : MC E YX7_bearsOf [.ref m, .int (nI j)] sh sz V P := by
  obtain ⟨l, hl, e6⟩ := hI.2.2.1
  obtain ⟨-, i2, ⟨c, hc, e1⟩, -⟩ := hI.2.2.2.1 j hj
  have h6 := h.rd (k := 6) (by decide)
  rw [e6] at h6
  unfold bd bdF at hP
  rw [e1, e6] at hP
  obtain ⟨w1, w2, w3, w4, w5, w6, w7, w8⟩ := fp_bor i2 hc hl
  unfold bor at w7
  refine MC.of RX7 "bearsOf" rfl (by decide +kernel) rfl 3 [_, _, none, none, none] rfl (Nat.le_of_ble_eq_true rfl) ?_
  show G E MX7_bearsOf _ _ _ _ _ _ _ _ _
  refine g_aload_n dX7_bearsOf_0 rfl ?_
  refine g_iload_n dX7_bearsOf_1 rfl ?_
  refine g_callVp (Y := YX7_isGood) sv_X7_108 rfl yn_X7_isGood 9 (by decide) rfl rfl dX7_bearsOf_2 (k_isGood h hj pR_ok) h.1 rfl rfl rfl (Nat.le_of_ble_eq_true rfl) ⟨rfl, rfl⟩ ?_
  refine g_if_ne (tgt := 10) dX7_bearsOf_5 (by decide) (fun b1 => ?_) (fun b1 => ?_)
  rotate_left
  · rw [if_neg (bgd_eq b1)] at hP
    refine g_fconst0 dX7_bearsOf_8 ?_
    exact g_fret rfl dX7_bearsOf_9 (by decide) hP
  rw [if_pos (bgd_ne b1)] at hP
  unfold bor at hP
  refine g_aload_n dX7_bearsOf_10 rfl ?_
  refine g_iload_n dX7_bearsOf_11 rfl ?_
  refine g_iconst (v := nI 3) dX7_bearsOf_12 (by decide) ?_
  refine g_callVp (Y := YX7_get) sv_X7_67 rfl yn_X7_get 9 (by decide) rfl rfl dX7_bearsOf_13 (k_get h hj (k := 3) (by decide) pR_ok) h.1 rfl rfl rfl (Nat.le_of_ble_eq_true rfl) ⟨rfl, rfl⟩ ?_
  refine g_i2fb ml_X7_71 wn_i2fb wt_i2fb wi_flo dX7_bearsOf_16 (sn_ok i2.n) (Nat.le_of_ble_eq_true rfl) (Nat.le_of_ble_eq_true rfl) ?_
  refine g_fstore_n dX7_bearsOf_19 (by decide) rfl ?_
  show G _ _ _ _ _ _ _ _ _ [_, _, _, _, _] _
  refine g_fconst1 dX7_bearsOf_20 ?_
  refine g_ldcf kc_X7_111 dX7_bearsOf_21 ?_
  refine g_aload_n dX7_bearsOf_23 rfl ?_
  refine g_iload_n dX7_bearsOf_24 rfl ?_
  refine g_iconst (v := nI 1) dX7_bearsOf_25 (by decide) ?_
  refine g_callVp (Y := YX7_get) sv_X7_67 rfl yn_X7_get 9 (by decide) rfl rfl dX7_bearsOf_26 (k_get h hj (k := 1) (by decide) pR_ok) h.1 rfl rfl rfl (Nat.le_of_ble_eq_true rfl) ⟨rfl, rfl⟩ ?_
  rw [e1]
  refine g_i2f dX7_bearsOf_29 ?_
  refine g_fmul dX7_bearsOf_30 w3 ?_
  refine g_fsub dX7_bearsOf_31 w4 ?_
  refine g_fstore_n dX7_bearsOf_32 (by decide) rfl ?_
  show G _ _ _ _ _ _ _ _ _ [_, _, _, _, _] _
  refine g_aload_n dX7_bearsOf_33 rfl ?_
  refine g_get 9 rfl (by decide) inX7 0 (by decide) fl_X7_9 dX7_bearsOf_34 h.1 h.2.2.1 ?_
  refine g_bipush (v := nI 6) dX7_bearsOf_37 (by decide) ?_
  refine g_iaload dX7_bearsOf_39 h.2.1 (vp_in_nI (by decide) (by decide)) h6 ?_
  refine g_i2f dX7_bearsOf_40 ?_
  refine g_ldcf kc_X7_112 dX7_bearsOf_41 ?_
  refine g_fdiv dX7_bearsOf_43 w6 ?_
  refine g_fstore dX7_bearsOf_44 (by decide) rfl ?_
  show G _ _ _ _ _ _ _ _ _ [_, _, _, _, _] _
  refine g_fload_n dX7_bearsOf_46 rfl ?_
  refine g_fload_n dX7_bearsOf_47 rfl ?_
  refine g_fmul dX7_bearsOf_48 w1 ?_
  refine g_ldcf kc_X7_113 dX7_bearsOf_49 ?_
  refine g_fmul dX7_bearsOf_51 w2 ?_
  refine g_fload_n dX7_bearsOf_52 rfl ?_
  refine g_fmul dX7_bearsOf_53 w5 ?_
  refine g_fload dX7_bearsOf_54 rfl ?_
  refine g_fmul dX7_bearsOf_56 w7 ?_
  exact g_fret rfl dX7_bearsOf_57 (by decide) hP
theorem k_placeIn {a k : Nat} (hP : P (.inl (some (.int (nI (oR (a * 5 + k)))))) sh sz V) : MC E YX7_placeIn [.int (nI a), .int (nI k)] sh sz V P := by
  refine MC.of RX7 "placeIn" rfl (by decide +kernel) rfl 0 [_, _] rfl (Nat.le_of_ble_eq_true rfl) ?_
  show G E MX7_placeIn _ _ _ _ _ _ _ _ _
  refine g_bipush (v := nI 80) dX7_placeIn_0 (by decide) ?_
  refine g_iconst (v := nI 2) dX7_placeIn_2 (by decide) ?_
  refine g_iconst (v := nI 5) dX7_placeIn_3 (by decide) ?_
  refine g_iload_n dX7_placeIn_4 rfl ?_
  refine g_imul dX7_placeIn_5 ?_
  refine g_iload_n dX7_placeIn_6 rfl ?_
  refine g_iadd dX7_placeIn_7 ?_
  refine g_imul dX7_placeIn_8 ?_
  refine g_iadd dX7_placeIn_9 ?_
  rw [pk_mul, nI_add, pk_mul, nI_add, show 80 + 2 * (5 * a + k) = oR (a * 5 + k) by unfold oR; omega]
  exact g_iret rfl (nr_int _) dX7_placeIn_10 (by decide) hP
theorem k_isPlace {y z : Int32} (hP : P (.inl (some (.int (bi (isPl y z))))) sh sz V) : MC E YX7_isPlace [.int y, .int z] sh sz V P := by
  have e1 : bi (nI 0 ≤ y ∧ y ≤ nI 1) = bi (0 ≤ y ∧ y < nI 2) := bi_iff ⟨fun q => ⟨q.1, (le_lt (by decide)).mp q.2⟩, fun q => ⟨q.1, (le_lt (by decide)).mpr q.2⟩⟩
  have e2 : bi (nI 0 ≤ z ∧ z ≤ nI 4) = bi (0 ≤ z ∧ z < nI 5) := bi_iff ⟨fun q => ⟨q.1, (le_lt (by decide)).mp q.2⟩, fun q => ⟨q.1, (le_lt (by decide)).mpr q.2⟩⟩
  refine MC.of RX7 "isPlace" rfl (by decide +kernel) rfl 0 [_, _] rfl (Nat.le_of_ble_eq_true rfl) ?_
  show G E MX7_isPlace _ _ _ _ _ _ _ _ _
  refine g_iload_n dX7_isPlace_0 rfl ?_
  refine g_iconst (v := nI 0) dX7_isPlace_1 (by decide) ?_
  refine g_iconst (v := nI 1) dX7_isPlace_2 (by decide) ?_
  refine g_callSp (Y := YX7_in) ss_X7_84 yn_X7_in dX7_isPlace_3 (k_in pR_ok) rfl rfl rfl (Nat.le_of_ble_eq_true rfl) ⟨rfl, rfl⟩ ?_
  rw [e1]
  refine g_if_eq (tgt := 22) dX7_isPlace_6 (by decide) (fun b1 => ?_) (fun b1 => ?_)
  · rw [bi_f (p := isPl y z) (fun q => bi_eq b1 q.1)] at hP
    refine g_iconst (v := nI 0) dX7_isPlace_22 (by decide) ?_
    exact g_iret rfl nz0 dX7_isPlace_23 (by decide) hP
  refine g_iload_n dX7_isPlace_9 rfl ?_
  refine g_iconst (v := nI 0) dX7_isPlace_10 (by decide) ?_
  refine g_iconst (v := nI 4) dX7_isPlace_11 (by decide) ?_
  refine g_callSp (Y := YX7_in) ss_X7_84 yn_X7_in dX7_isPlace_12 (k_in pR_ok) rfl rfl rfl (Nat.le_of_ble_eq_true rfl) ⟨rfl, rfl⟩ ?_
  rw [e2]
  refine g_if_eq (tgt := 22) dX7_isPlace_15 (by decide) (fun b2 => ?_) (fun b2 => ?_)
  · rw [bi_f (p := isPl y z) (fun q => bi_eq b2 q.2)] at hP
    refine g_iconst (v := nI 0) dX7_isPlace_22 (by decide) ?_
    exact g_iret rfl nz0 dX7_isPlace_23 (by decide) hP
  · rw [bi_t (p := isPl y z) ⟨bi_ne b1, bi_ne b2⟩] at hP
    refine g_iconst (v := nI 1) dX7_isPlace_18 (by decide) ?_
    refine g_jump (tgt := 23) dX7_isPlace_19 (by decide) ?_
    exact g_iret rfl nz1 dX7_isPlace_23 (by decide) hP
theorem k_loadOf {c p : Nat} (h : SA sh V m f) (hI : InvB f) (hc : c < cnt f) (hp : p < ncv f c) (hP : P (.inl (some (.float (bud (tkF f c p))))) sh sz V) : MC E YX7_loadOf [.ref m, .int (nI c), .int (nI p)] sh sz V P := by
  have h44 := hI.1.2
  obtain ⟨-, -, i2, -, i4⟩ := hI.cv hc
  obtain ⟨t1, ⟨w, hw1, hw2, ew⟩, ⟨x, hx1, hx2, ex⟩⟩ := i4 p hp
  have ew : f (oC c (4 + 3 * p + 1)) = nI w := by rw [show 4 + 3 * p + 1 = 5 + 3 * p by omega]; exact ew
  have ex : f (oC c (4 + 3 * p + 2)) = nI x := by rw [show 4 + 3 * p + 2 = 6 + 3 * p by omega]; exact ex
  have et : tkF f c p = (f (oC c (4 + 3 * p + 0)), nI w, nI x) := by
    unfold tkF
    rw [← ew, ← ex, show 5 + 3 * p = 4 + 3 * p + 1 by omega, show 6 + 3 * p = 4 + 3 * p + 2 by omega]
    rfl
  have t1 : f (oC c (4 + 3 * p + 0)) = nI 0 ∨ f (oC c (4 + 3 * p + 0)) = nI 1 := t1
  obtain ⟨q1, q2⟩ := fp_bud w (by omega) x (by omega)
  rw [et] at hP
  unfold bud at hP
  refine MC.of RX7 "loadOf" rfl (by decide +kernel) rfl 1 [_, _, _, none] rfl (Nat.le_of_ble_eq_true rfl) ?_
  show G E MX7_loadOf _ _ _ _ _ _ _ _ _
  refine g_aload_n dX7_loadOf_0 rfl ?_
  refine g_iload_n dX7_loadOf_1 rfl ?_
  refine g_iload_n dX7_loadOf_2 rfl ?_
  refine g_iconst (v := nI 1) dX7_loadOf_3 (by decide) ?_
  refine g_callVp (Y := YX7_truck1) sv_X7_140 rfl yn_X7_truck1 9 (by decide) rfl rfl dX7_loadOf_4 (k_truck1 h (c := c) (p := p) (k := 1) (by omega) (by omega) (by decide) pR_ok) h.1 rfl rfl rfl (Nat.le_of_ble_eq_true rfl) ⟨rfl, rfl⟩ ?_
  rw [ew]
  refine g_i2f dX7_loadOf_7 ?_
  refine g_fstore_n dX7_loadOf_8 (by decide) rfl ?_
  show G _ _ _ _ _ _ _ _ _ [_, _, _, _] _
  refine g_aload_n dX7_loadOf_9 rfl ?_
  refine g_iload_n dX7_loadOf_10 rfl ?_
  refine g_iload_n dX7_loadOf_11 rfl ?_
  refine g_iconst (v := nI 0) dX7_loadOf_12 (by decide) ?_
  refine g_callVp (Y := YX7_truck1) sv_X7_140 rfl yn_X7_truck1 9 (by decide) rfl rfl dX7_loadOf_13 (k_truck1 h (c := c) (p := p) (k := 0) (by omega) (by omega) (by decide) pR_ok) h.1 rfl rfl rfl (Nat.le_of_ble_eq_true rfl) ⟨rfl, rfl⟩ ?_
  refine g_iconst (v := nI 1) dX7_loadOf_16 (by decide) ?_
  refine g_icmp_ne (tgt := 36) dX7_loadOf_17 (by decide) (fun b1 => ?_) (fun b1 => ?_)
  · have : f (oC c (4 + 3 * p + 0)) = 0 := by
      rcases t1 with q | q
      · exact q
      · exact absurd q b1
    rw [if_pos this] at hP
    refine g_fload_n dX7_loadOf_36 rfl ?_
    exact g_fret rfl dX7_loadOf_37 (by decide) hP
  · rw [if_neg (by show ¬ f (oC c (4 + 3 * p + 0)) = 0; rw [b1]; decide)] at hP
    refine g_fload_n dX7_loadOf_20 rfl ?_
    refine g_ldcf kc_X7_143 dX7_loadOf_21 ?_
    refine g_aload_n dX7_loadOf_23 rfl ?_
    refine g_iload_n dX7_loadOf_24 rfl ?_
    refine g_iload_n dX7_loadOf_25 rfl ?_
    refine g_iconst (v := nI 2) dX7_loadOf_26 (by decide) ?_
    refine g_callVp (Y := YX7_truck1) sv_X7_140 rfl yn_X7_truck1 9 (by decide) rfl rfl dX7_loadOf_27 (k_truck1 h (c := c) (p := p) (k := 2) (by omega) (by omega) (by decide) pR_ok) h.1 rfl rfl rfl (Nat.le_of_ble_eq_true rfl) ⟨rfl, rfl⟩ ?_
    rw [ex]
    refine g_i2f dX7_loadOf_30 ?_
    refine g_fmul dX7_loadOf_31 q1 ?_
    refine g_fadd dX7_loadOf_32 q2 ?_
    refine g_jump (tgt := 37) dX7_loadOf_33 (by decide) ?_
    exact g_fret rfl dX7_loadOf_37 (by decide) hP
theorem k_mileBy {c p : Nat} {ld : Int32} (h : SA sh V m f) (hc : c < 4) (hP : P (.inl (some (.int (mw ld (f (oC c 0)) p)))) sh sz V) : MC E YX7_mileBy [.ref m, .int (nI c), .int (nI p), .int ld] sh sz V P := by
  refine MC.of RX7 "mileBy" rfl (by decide +kernel) rfl 0 [_, _, _, _] rfl (Nat.le_of_ble_eq_true rfl) ?_
  show G E MX7_mileBy _ _ _ _ _ _ _ _ _
  refine g_iload_n dX7_mileBy_0 rfl ?_
  refine g_iload_n dX7_mileBy_1 rfl ?_
  refine g_aload_n dX7_mileBy_2 rfl ?_
  refine g_iload_n dX7_mileBy_3 rfl ?_
  refine g_iconst (v := nI 0) dX7_mileBy_4 (by decide) ?_
  refine g_callVp (Y := YX7_convoy1) sv_X7_81 rfl yn_X7_convoy1 9 (by decide) rfl rfl dX7_mileBy_5 (k_convoy1 h hc (k := 0) (by decide) pR_ok) h.1 rfl rfl rfl (Nat.le_of_ble_eq_true rfl) ⟨rfl, rfl⟩ ?_
  refine g_iconst (v := nI 1) dX7_mileBy_8 (by decide) ?_
  refine g_iadd dX7_mileBy_9 ?_
  refine g_imul dX7_mileBy_10 ?_
  refine g_isub dX7_mileBy_11 ?_
  exact g_iret rfl (nr_int _) dX7_mileBy_12 (by decide) hP
theorem st_iff {c : Nat} (h : iC f c) : f (oC c 3) = nI 1 ↔ 0 ≤ f (oC c 2) := by
  obtain ⟨-, -, -, st, -⟩ := h
  rcases st with ⟨a, b⟩ | ⟨a, -, l, hl, b⟩
  · rw [a, b]
    exact ⟨fun q => absurd q (by decide), fun q => absurd q (by decide)⟩
  · rw [a, b]
    exact ⟨fun _ => nI_pos' (by omega), fun _ => rfl⟩
theorem k_isStarted {c : Nat} (h : SA sh V m f) (hI : InvB f) (hc : c < cnt f) (hP : P (.inl (some (.int (bi (0 ≤ f (oC c 2)))))) sh sz V) : MC E YX7_isStarted [.ref m, .int (nI c)] sh sz V P := by
  have h44 := hI.1.2
  have hs := st_iff (hI.cv hc)
  refine MC.of RX7 "isStarted" rfl (by decide +kernel) rfl 0 [_, _] rfl (Nat.le_of_ble_eq_true rfl) ?_
  show G E MX7_isStarted _ _ _ _ _ _ _ _ _
  refine g_aload_n dX7_isStarted_0 rfl ?_
  refine g_iload_n dX7_isStarted_1 rfl ?_
  refine g_iconst (v := nI 3) dX7_isStarted_2 (by decide) ?_
  refine g_callVp (Y := YX7_convoy1) sv_X7_81 rfl yn_X7_convoy1 9 (by decide) rfl rfl dX7_isStarted_3 (k_convoy1 h (c := c) (k := 3) (by omega) (by decide) pR_ok) h.1 rfl rfl rfl (Nat.le_of_ble_eq_true rfl) ⟨rfl, rfl⟩ ?_
  refine g_iconst (v := nI 1) dX7_isStarted_6 (by decide) ?_
  refine g_icmp_ne (tgt := 14) dX7_isStarted_7 (by decide) (fun b1 => ?_) (fun b1 => ?_)
  · rw [bi_f (fun q => b1 (hs.mpr q))] at hP
    refine g_iconst (v := nI 0) dX7_isStarted_14 (by decide) ?_
    exact g_iret rfl nz0 dX7_isStarted_15 (by decide) hP
  · rw [bi_t (hs.mp b1)] at hP
    refine g_iconst (v := nI 1) dX7_isStarted_10 (by decide) ?_
    refine g_jump (tgt := 15) dX7_isStarted_11 (by decide) ?_
    exact g_iret rfl nz1 dX7_isStarted_15 (by decide) hP
end REF1

