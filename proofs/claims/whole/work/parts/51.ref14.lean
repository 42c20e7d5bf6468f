/-! the reference's calls that look ahead; accounts; snapshots -/
section REF14
variable {E : gE} {M : gM} {P : gP} {sh : Sh} {sz : Nat} {V V' V1 V2 : Vl} {cu su pc : Nat} {L : List (Option Value)} {rest : List Value} {m : Nat} {f g b : Fl} {th r : Int32} {S : St}
theorem MB.aside (h : MB sh V m f th r S) (hV : ∀ a, a ≠ m + 3 → V' a = V a) : MB sh V' m f th r S :=
  ⟨h.1.keep (congrFun (hV m (by omega)) 0) (hV _ (by omega)), h.2.1.keep (fun j _ _ _ _ _ => congrFun (hV m (by omega)) j) (hV _ (by omega)) (hV _ (by omega)) (hV _ (by omega)), (congrFun (hV m (by omega)) 7).trans h.2.2.1, (congrFun (hV m (by omega)) 10).trans h.2.2.2⟩
theorem RI.re {v : Value} {w : Int32} (hP : RI sh m sz V (0, v, S) P) (hv : v = .int w) : ∀ V', Mf V V' m → MB sh V' m S.1 0 r S → P (.inl (some (.int w))) sh sz V' := fun V' h1 h2 => hP V' w h1 (fun _ => hv) ⟨r, h2⟩
set_option maxRecDepth 100000 in
theorem r_rolls {c : Int32} (h : MS sh V m S th) (hI : InvB S.1) (hP : RI sh m sz V (sp_rolls S c) P) : MC E YX7_rolls [.ref m, .int c] sh sz V P := by
  obtain ⟨r, hB⟩ := h
  have h0 := hB.1.1
  have h44 := hI.1.2
  unfold sp_rolls at hP
  refine MC.of RX7 "rolls" rfl (by decide +kernel) rfl 2 [_, _, none, none] rfl (Nat.le_of_ble_eq_true rfl) ?_
  show G E MX7_rolls _ _ _ _ _ _ _ _ _
  refine g_aload_n dX7_rolls_0 rfl ?_
  refine g_aload_n dX7_rolls_1 rfl ?_
  refine g_iload_n dX7_rolls_2 rfl ?_
  refine g_callVp (Y := YX7_isConvoy) sv_X7_134 rfl yn_X7_isConvoy 9 (by decide) rfl rfl dX7_rolls_3 (k_isConvoy hB.1 hI pR_ok) h0 rfl rfl rfl (Nat.le_of_ble_eq_true rfl) ⟨rfl, rfl⟩ ?_
  refine g_if_eq (tgt := 13) dX7_rolls_6 (by decide) (fun b1 => ?_) (fun b1 => ?_)
  · rw [if_neg (bi_eq b1)] at hP
    refine g_iconst (v := nI 1) dX7_rolls_13 (by decide) ?_
    refine g_put 9 rfl (by decide) inX7 tyX7 tyX7_ok nmX7 7 (by decide) fl_X7_45 rfl dX7_rolls_14 h0 rfl rfl ?_
    refine g_aload_n dX7_rolls_17 rfl ?_
    refine g_get 9 rfl (by decide) inX7 7 (by decide) fl_X7_45 dX7_rolls_18 h0 (hu_at _ _ _ _) ?_
    refine g_if_le (tgt := 26) dX7_rolls_21 (by decide) (fun hq => absurd hq ((by decide))) (fun _ => ?_)
    refine g_iconst (v := nI 0) dX7_rolls_24 (by decide) ?_
    exact g_iret rfl (nr_int _) dX7_rolls_25 (by decide) (hP.t7 hB (fun z => absurd z (Nat.succ_ne_zero _)))
  rw [if_pos (bi_ne b1)] at hP
  obtain ⟨c, hc, rfl⟩ := isC_of hI (bi_ne b1)
  rw [nI_clamp (by omega)] at hP
  refine g_iconst (v := nI 0) dX7_rolls_9 (by decide) ?_
  refine g_jump (tgt := 14) dX7_rolls_10 (by decide) ?_
  refine g_put 9 rfl (by decide) inX7 tyX7 tyX7_ok nmX7 7 (by decide) fl_X7_45 rfl dX7_rolls_14 h0 rfl rfl ?_
  refine g_aload_n dX7_rolls_17 rfl ?_
  refine g_get 9 rfl (by decide) inX7 7 (by decide) fl_X7_45 dX7_rolls_18 h0 (hu_at _ _ _ _) ?_
  refine g_if_le (tgt := 26) dX7_rolls_21 (by decide) (fun _ => ?_) (fun hq => absurd (Int32.le_refl _) hq)
  have hM : MB sh (hu V m 7 (.int (nI 0))) m S.1 0 r S := hB.thr
  have hw : Mf V (hu V m 7 (.int (nI 0))) m := fun a ha => hu_ne _ _ _ (by omega)
  generalize hu V m 7 (.int (nI 0)) = V1 at hM hw ⊢
  obtain ⟨⟨-, h1, h2, h3⟩, hR, -⟩ := id hM
  obtain ⟨⟨s2, s3, s4, s5, s6, s7⟩, ⟨v1, v2, v3, v4, v5, v6, v8, v9, v11, v12, v15, v16⟩, -⟩ := id hR
  refine g_aload_n dX7_rolls_26 rfl ?_
  refine g_get 9 rfl (by decide) inX7 0 (by decide) fl_X7_9 dX7_rolls_27 h0 h2 ?_
  refine g_iconst (v := nI 0) dX7_rolls_30 (by decide) ?_
  refine g_aload_n dX7_rolls_31 rfl ?_
  refine g_get 9 rfl (by decide) inX7 2 (by decide) fl_X7_16 dX7_rolls_32 h0 v2 ?_
  refine g_iconst (v := nI 0) dX7_rolls_35 (by decide) ?_
  refine g_sipush (v := nI 164) dX7_rolls_36 (by decide) ?_
  refine g_acopy (sp := 0) (dp := 0) (n := 164) ml_X7_48 wn_acopy wt_acopy wi_sys dX7_rolls_39 h1 s3 (by omega) (by omega) (by decide) (by decide) (fun i hi => ⟨S.1 i, by rw [Nat.zero_add]; exact h3 i hi⟩) (Nat.le_of_ble_eq_true rfl) (Nat.le_of_ble_eq_true rfl) ?_
  have e : ∀ x, x ≠ m + 3 → hn V1 (m + 3) (va_cpy (V1 (m + 1)) (V1 (m + 3)) 0 0 164) x = V1 x := fun x hx => hn_ne _ _ hx
  have hM2 := hM.aside e
  have hw2 : Mf V (hn V1 (m + 3) (va_cpy (V1 (m + 1)) (V1 (m + 3)) 0 0 164)) m := hw.trans (fun a ha => e a (by omega))
  have hA : ∀ k, k < 164 → hn V1 (m + 3) (va_cpy (V1 (m + 1)) (V1 (m + 3)) 0 0 164) (m + 3) k = .int (S.1 k) := fun k hk => by rw [hn_at, cpy_in (by omega) (by omega), show 0 + (k - 0) = k by omega]; exact h3 k hk
  have x1 : hn V1 (m + 3) (va_cpy (V1 (m + 1)) (V1 (m + 3)) 0 0 164) m 0 = .ref (m + 1) := hM2.1.2.2.1
  have x2 : hn V1 (m + 3) (va_cpy (V1 (m + 1)) (V1 (m + 3)) 0 0 164) m 2 = .ref (m + 3) := hM2.2.1.2.1.2.1
  generalize hn V1 (m + 3) (va_cpy (V1 (m + 1)) (V1 (m + 3)) 0 0 164) = V2 at hM2 hw2 hA x1 x2 ⊢
  refine g_iconst (v := nI 0) dX7_rolls_42 (by decide) ?_
  refine g_istore_n dX7_rolls_43 (by decide) rfl ?_
  show G _ _ _ _ _ _ _ _ _ [_, _, _, _] _
  have hN := rollN_le hI hc
  suffices K : ∀ (n i : Nat), i + n = rollN S.1 c → ∀ V3 z, Mw V2 V3 m → SA sh V3 m (rollS S.1 c i) → G E MX7_rolls P sh sz V3 0 0 44 [some (.ref m), some (.int (nI c)), some (.int (nI i)), z] [] from K (rollN S.1 c) 0 (Nat.zero_add _) V2 _ Mw.rf hM2.1
  intro n
  induction n with
  | zero =>
    intro i hi V3 z hw3 hS
    have hi : i = rollN S.1 c := by omega
    rw [hi] at hS ⊢
    obtain ⟨i1, i2, i3⟩ := rollS_all hI hc (d := rollN S.1 c) (Nat.le_refl _)
    have hz := roll_code (rollS S.1 c (rollN S.1 c)) (c := c) (by omega)
    have hne : rollO (rollS S.1 c (rollN S.1 c)) c ≠ (nI 0, nI 0) := cb_iff.mp (fa_first_yes (fun d => cb (rollO (rollS S.1 c d) c ≠ (nI 0, nI 0))) 60 (by show rollN S.1 c < 60; omega))
    have hp := (e100_dm hz).2.2.1 hne
    refine g_aload_n dX7_rolls_44 rfl ?_
    refine g_iload_n dX7_rolls_45 rfl ?_
    refine g_callVp (Y := YX7_whyNot) sv_X7_171 rfl yn_X7_whyNot 9 (by decide) rfl rfl dX7_rolls_46 (k_whyNot hS i1 (c := c) (by rw [i2]; exact hc) pR_ok) h0 rfl rfl rfl (Nat.le_of_ble_eq_true rfl) ⟨rfl, rfl⟩ ?_
    refine g_if_ne (tgt := 72) dX7_rolls_49 (by decide) (fun _ => ?_) (fun hq => absurd hq ((fun q => by rw [q] at hp; exact absurd hp (by decide))))
    refine g_aload_n dX7_rolls_72 rfl ?_
    refine g_get 9 rfl (by decide) inX7 2 (by decide) fl_X7_16 dX7_rolls_73 h0 ((congrFun (hw3 m (by omega)) 2).trans x2) ?_
    refine g_iconst (v := nI 0) dX7_rolls_76 (by decide) ?_
    refine g_aload_n dX7_rolls_77 rfl ?_
    refine g_get 9 rfl (by decide) inX7 0 (by decide) fl_X7_9 dX7_rolls_78 h0 hS.2.2.1 ?_
    refine g_iconst (v := nI 0) dX7_rolls_81 (by decide) ?_
    refine g_sipush (v := nI 164) dX7_rolls_82 (by decide) ?_
    refine g_acopy (sp := 0) (dp := 0) (n := 164) ml_X7_48 wn_acopy wt_acopy wi_sys dX7_rolls_85 s3 h1 (by omega) (by omega) (by decide) (by decide) (fun i hi => ⟨S.1 i, by rw [Nat.zero_add, hw3 _ (by omega)]; exact hA i hi⟩) (Nat.le_of_ble_eq_true rfl) (Nat.le_of_ble_eq_true rfl) ?_
    have hS4 := hS.copy (a := m + 3) (b := S.1) (by omega) (fun k hk => by rw [hw3 _ (by omega)]; exact hA k hk)
    have hw4 : Mw V2 (hn V3 (m + 1) (va_cpy (V3 (m + 3)) (V3 (m + 1)) 0 0 164)) m := fun a ha => (hn_ne _ _ ha).trans (hw3 a ha)
    refine g_iload_n dX7_rolls_88 rfl ?_
    exact g_iret rfl (nr_int _) dX7_rolls_89 (by decide) (hP.re rfl _ (hw2.trans (fun a ha => hw4 a (by omega))) (hM2.row hw4 hS4))
  | succ n ih =>
    intro i hi V3 z hw3 hS
    obtain ⟨i1, i2, i3⟩ := rollS_all hI hc (d := i) (by omega)
    have hc2 : c < cnt (rollS S.1 c i) := by rw [i2]; exact hc
    have hz := roll_code (rollS S.1 c i) (c := c) (by omega)
    have he : rollO (rollS S.1 c i) c = (nI 0, nI 0) := by
      have := fa_first_no (fun d => cb (rollO (rollS S.1 c d) c ≠ (nI 0, nI 0))) 60 i (by show i < rollN S.1 c; omega)
      exact Classical.byContradiction fun q => by
        have t : cb (rollO (rollS S.1 c i) c ≠ (nI 0, nI 0)) = true := cb_t q
        rw [t] at this
        cases this
    have hp := (e100_dm hz).2.2.2 he
    obtain ⟨j0, j1, j2, j3, j4⟩ := i1.cv hc2
    refine g_aload_n dX7_rolls_44 rfl ?_
    refine g_iload_n dX7_rolls_45 rfl ?_
    refine g_callVp (Y := YX7_whyNot) sv_X7_171 rfl yn_X7_whyNot 9 (by decide) rfl rfl dX7_rolls_46 (k_whyNot hS i1 (c := c) hc2 pR_ok) h0 rfl rfl rfl (Nat.le_of_ble_eq_true rfl) ⟨rfl, rfl⟩ ?_
    rw [hp]
    refine g_if_ne (tgt := 72) dX7_rolls_49 (by decide) (fun hq => absurd hq ((fun q => q rfl))) (fun _ => ?_)
    refine g_aload_n dX7_rolls_52 rfl ?_
    refine g_iload_n dX7_rolls_53 rfl ?_
    refine g_aload_n dX7_rolls_54 rfl ?_
    refine g_iload_n dX7_rolls_55 rfl ?_
    refine g_iconst (v := nI 2) dX7_rolls_56 (by decide) ?_
    refine g_callVp (Y := YX7_convoy1) sv_X7_81 rfl yn_X7_convoy1 9 (by decide) rfl rfl dX7_rolls_57 (k_convoy1 hS (c := c) (k := 2) (by omega) (by decide) pR_ok) h0 rfl rfl rfl (Nat.le_of_ble_eq_true rfl) ⟨rfl, rfl⟩ ?_
    refine g_iconst (v := nI 1) dX7_rolls_60 (by decide) ?_
    refine g_iadd dX7_rolls_61 ?_
    refine g_callVw (Y := YX7_comesTo) sv_X7_162 rfl yn_X7_comesTo 9 (by decide) rfl rfl dX7_rolls_62 (k_comesTo (P := pW (fun v V4 => (∃ x : Int32, v = .int x) ∧ Mw V3 V4 m ∧ SA sh V4 m (rollS S.1 c (i + 1))) sh sz) hS (by omega) j2 j1 (fun V4 q1 q2 => ⟨_, rfl, rfl, rfl, ⟨_, rfl⟩, q1, q2⟩)) h0 rfl rfl rfl (Nat.le_of_ble_eq_true rfl) ⟨rfl, rfl⟩ (fun v V4 q => ?_)
    obtain ⟨⟨x, rfl⟩, q1, q2⟩ := q
    have ih := ih (i + 1) (by omega) V4 (some (.int x)) (hw3.trans q1) q2
    refine g_istore_n dX7_rolls_65 (by decide) rfl ?_
    show G _ _ _ _ _ _ _ _ _ [_, _, _, _] _
    refine g_iinc dX7_rolls_66 rfl (by first | exact nI_inc _ | rfl) (by decide) rfl ?_
    show G _ _ _ _ _ _ _ _ _ [_, _, _, _] _
    refine g_jump (tgt := 44) dX7_rolls_69 (by decide) ?_
    exact ih
theorem r_rollsAgain {c : Int32} (h : MS sh V m S th) (hI : InvB S.1) (hP : RI sh m sz V (sp_rolls S c) P) : MC E YX7_rollsAgain [.ref m, .int c] sh sz V P := by
  have h0 : (sh m).1 = 10 := by obtain ⟨r, hB⟩ := h; exact hB.1.1
  refine MC.of RX7 "rollsAgain" rfl (by decide +kernel) rfl 0 [_, _] rfl (Nat.le_of_ble_eq_true rfl) ?_
  show G E MX7_rollsAgain _ _ _ _ _ _ _ _ _
  refine g_aload_n dX7_rollsAgain_0 rfl ?_
  refine g_iload_n dX7_rollsAgain_1 rfl ?_
  refine g_callVw (Y := YX7_rolls) sv_X7_184 rfl yn_X7_rolls 9 (by decide) rfl rfl dX7_rollsAgain_2 (r_rolls (P := pW (fun v V3 => P (.inl (some v)) sh sz V3 ∧ ∃ x, v = .int x) sh sz) h hI (fun V' w a b c => ⟨_, rfl, rfl, rfl, hP V' w a b c, _, rfl⟩)) h0 rfl rfl rfl (Nat.le_of_ble_eq_true rfl) ⟨rfl, rfl⟩ (fun v V3 q => ?_)
  obtain ⟨q, x, rfl⟩ := q
  exact g_iret rfl (nr_int _) dX7_rollsAgain_5 (by decide) q
theorem r_iceIn {a d : Int32} (h : MS sh V m S th) (hI : InvB S.1) (hP : RI sh m sz V (sp_iceIn S a d) P) : MC E YX7_iceIn [.ref m, .int a, .int d] sh sz V P := by
  obtain ⟨r, hB⟩ := h
  have h0 := hB.1.1
  unfold sp_iceIn at hP
  refine MC.of RX7 "iceIn" rfl (by decide +kernel) rfl 2 [_, _, _, none, none] rfl (Nat.le_of_ble_eq_true rfl) ?_
  show G E MX7_iceIn _ _ _ _ _ _ _ _ _
  refine g_aload_n dX7_iceIn_0 rfl ?_
  refine g_iload_n dX7_iceIn_1 rfl ?_
  refine g_callSp (Y := YX7_isMile) ss_X7_101 yn_X7_isMile dX7_iceIn_2 (k_isMile pR_ok) rfl rfl rfl (Nat.le_of_ble_eq_true rfl) ⟨rfl, rfl⟩ ?_
  refine g_if_ne (tgt := 12) dX7_iceIn_5 (by decide) (fun b1 => ?_) (fun b1 => ?_)
  rotate_left
  · rw [if_neg (bi_eq b1)] at hP
    refine g_iconst (v := nI 1) dX7_iceIn_8 (by decide) ?_
    refine g_jump (tgt := 27) dX7_iceIn_9 (by decide) ?_
    refine g_put 9 rfl (by decide) inX7 tyX7 tyX7_ok nmX7 7 (by decide) fl_X7_45 rfl dX7_iceIn_27 h0 rfl rfl ?_
    refine g_aload_n dX7_iceIn_30 rfl ?_
    refine g_get 9 rfl (by decide) inX7 7 (by decide) fl_X7_45 dX7_iceIn_31 h0 (hu_at _ _ _ _) ?_
    refine g_if_le (tgt := 39) dX7_iceIn_34 (by decide) (fun hq => absurd hq ((by decide))) (fun _ => ?_)
    refine g_iconst (v := nI 0) dX7_iceIn_37 (by decide) ?_
    exact g_iret rfl (nr_int _) dX7_iceIn_38 (by decide) (hP.t7 hB (fun z => absurd z (Nat.succ_ne_zero _)))
  rw [if_pos (bi_ne b1)] at hP
  obtain ⟨j, hj, rfl⟩ := isM_nI (bi_ne b1)
  rw [nI_clamp (by omega)] at hP
  refine g_iload_n dX7_iceIn_12 rfl ?_
  refine g_iconst (v := nI 0) dX7_iceIn_13 (by decide) ?_
  refine g_bipush (v := nI 60) dX7_iceIn_14 (by decide) ?_
  refine g_callSp (Y := YX7_in) ss_X7_84 yn_X7_in dX7_iceIn_16 (k_in pR_ok) rfl rfl rfl (Nat.le_of_ble_eq_true rfl) ⟨rfl, rfl⟩ ?_
  refine g_if_ne (tgt := 26) dX7_iceIn_19 (by decide) (fun b2 => ?_) (fun b2 => ?_)
  rotate_left
  · rw [if_neg (show ¬ (0 ≤ d ∧ d ≤ nI 60) from bi_eq b2)] at hP
    refine g_iconst (v := nI 2) dX7_iceIn_22 (by decide) ?_
    refine g_jump (tgt := 27) dX7_iceIn_23 (by decide) ?_
    refine g_put 9 rfl (by decide) inX7 tyX7 tyX7_ok nmX7 7 (by decide) fl_X7_45 rfl dX7_iceIn_27 h0 rfl rfl ?_
    refine g_aload_n dX7_iceIn_30 rfl ?_
    refine g_get 9 rfl (by decide) inX7 7 (by decide) fl_X7_45 dX7_iceIn_31 h0 (hu_at _ _ _ _) ?_
    refine g_if_le (tgt := 39) dX7_iceIn_34 (by decide) (fun hq => absurd hq ((by decide))) (fun _ => ?_)
    refine g_iconst (v := nI 0) dX7_iceIn_37 (by decide) ?_
    exact g_iret rfl (nr_int _) dX7_iceIn_38 (by decide) (hP.t7 hB (fun z => absurd z (Nat.succ_ne_zero _)))
  have b2 := bi_ne b2
  rw [if_pos (show 0 ≤ d ∧ d ≤ nI 60 from b2)] at hP
  obtain ⟨n, hn, rfl⟩ : ∃ n, n < 61 ∧ d = nI n := in_nI b2.1 (Int32.lt_of_le_of_lt b2.2 (by decide)) (by decide)
  rw [nI_clamp (by omega)] at hP
  refine g_iconst (v := nI 0) dX7_iceIn_26 (by decide) ?_
  refine g_put 9 rfl (by decide) inX7 tyX7 tyX7_ok nmX7 7 (by decide) fl_X7_45 rfl dX7_iceIn_27 h0 rfl rfl ?_
  refine g_aload_n dX7_iceIn_30 rfl ?_
  refine g_get 9 rfl (by decide) inX7 7 (by decide) fl_X7_45 dX7_iceIn_31 h0 (hu_at _ _ _ _) ?_
  refine g_if_le (tgt := 39) dX7_iceIn_34 (by decide) (fun _ => ?_) (fun hq => absurd (Int32.le_refl _) hq)
  have hM : MB sh (hu V m 7 (.int (nI 0))) m S.1 0 r S := hB.thr
  have hw : Mf V (hu V m 7 (.int (nI 0))) m := fun a ha => hu_ne _ _ _ (by omega)
  generalize hu V m 7 (.int (nI 0)) = V1 at hM hw ⊢
  have hS := hM.1
  refine g_aload_n dX7_iceIn_39 rfl ?_
  refine g_iload_n dX7_iceIn_40 rfl ?_
  refine g_callVp (Y := YX7_iceOf) sv_X7_114 rfl yn_X7_iceOf 9 (by decide) rfl rfl dX7_iceIn_41 (k_iceOf hS hj (hI.2.2.2.1 j hj).1 pR_ok) h0 rfl rfl rfl (Nat.le_of_ble_eq_true rfl) ⟨rfl, rfl⟩ ?_
  refine g_fstore_n dX7_iceIn_44 (by decide) rfl ?_
  show G _ _ _ _ _ _ _ _ _ [_, _, _, _, _] _
  refine g_iconst (v := nI 0) dX7_iceIn_45 (by decide) ?_
  refine g_istore dX7_iceIn_46 (by decide) rfl ?_
  show G _ _ _ _ _ _ _ _ _ [_, _, _, _, _] _
  suffices K : ∀ (k i : Nat), i + k = n → G E MX7_iceIn P sh sz V1 0 0 48 [some (.ref m), some (.int (nI j)), some (.int (nI n)), some (.float (iceN (S.1 (oM j 0)).toUInt32 (S.1 5) i)), some (.int (nI i))] [] from K n 0 (by omega)
  intro k
  induction k with
  | zero =>
    intro i hi
    have hi : i = n := by omega
    subst hi
    refine g_iload dX7_iceIn_48 rfl ?_
    refine g_iload_n dX7_iceIn_50 rfl ?_
    refine g_icmp_ge (tgt := 66) dX7_iceIn_51 (by decide) (fun _ => ?_) (fun hq => absurd (Int32.le_refl _) hq)
    refine g_fload_n dX7_iceIn_66 rfl ?_
    refine g_callSp (Y := YJxf58ca_floatToIntBits_5c35a) ss_X7_77 yn_Jxf58ca_floatToIntBits_5c35a dX7_iceIn_67 (c_ftib (okI.n (ice_ok hI hj i)) pR_ok) rfl rfl rfl (Nat.le_of_ble_eq_true rfl) ⟨rfl, rfl⟩ ?_
    exact g_iret rfl (nr_int _) dX7_iceIn_70 (by decide) (hP.re rfl _ hw hM)
  | succ k ih =>
    intro i hi
    refine g_iload dX7_iceIn_48 rfl ?_
    refine g_iload_n dX7_iceIn_50 rfl ?_
    refine g_icmp_ge (tgt := 66) dX7_iceIn_51 (by decide) (fun hq => absurd hq (nI_ge (by omega) (by omega))) (fun _ => ?_)
    refine g_aload_n dX7_iceIn_54 rfl ?_
    refine g_fload_n dX7_iceIn_55 rfl ?_
    refine g_callVp (Y := YX7_iceBehind) sv_X7_194 rfl yn_X7_iceBehind 9 (by decide) rfl rfl dX7_iceIn_56 (k_iceBehind hS hI (ice_ok hI hj i) pR_ok) h0 rfl rfl rfl (Nat.le_of_ble_eq_true rfl) ⟨rfl, rfl⟩ ?_
    refine g_fstore_n dX7_iceIn_59 (by decide) rfl ?_
    show G _ _ _ _ _ _ _ _ _ [_, _, _, _, _] _
    refine g_iinc dX7_iceIn_60 rfl (by first | exact nI_inc _ | rfl) (by decide) rfl ?_
    show G _ _ _ _ _ _ _ _ _ [_, _, _, _, _] _
    refine g_jump (tgt := 48) dX7_iceIn_63 (by decide) ?_
    exact ih (i + 1) (by omega)
theorem r_bearsIn {a t : Int32} (h : MS sh V m S th) (hI : InvB S.1) (hP : RI sh m sz V (sp_bearsIn S a t) P) : MC E YX7_bearsIn [.ref m, .int a, .int t] sh sz V P := by
  obtain ⟨r, hB⟩ := h
  have h0 := hB.1.1
  unfold sp_bearsIn at hP
  refine MC.of RX7 "bearsIn" rfl (by decide +kernel) rfl 2 [_, _, _, none, none] rfl (Nat.le_of_ble_eq_true rfl) ?_
  show G E MX7_bearsIn _ _ _ _ _ _ _ _ _
  refine g_aload_n dX7_bearsIn_0 rfl ?_
  refine g_iload_n dX7_bearsIn_1 rfl ?_
  refine g_callSp (Y := YX7_isMile) ss_X7_101 yn_X7_isMile dX7_bearsIn_2 (k_isMile pR_ok) rfl rfl rfl (Nat.le_of_ble_eq_true rfl) ⟨rfl, rfl⟩ ?_
  refine g_if_ne (tgt := 12) dX7_bearsIn_5 (by decide) (fun b1 => ?_) (fun b1 => ?_)
  rotate_left
  · rw [if_neg (bi_eq b1)] at hP
    refine g_iconst (v := nI 1) dX7_bearsIn_8 (by decide) ?_
    refine g_jump (tgt := 27) dX7_bearsIn_9 (by decide) ?_
    refine g_put 9 rfl (by decide) inX7 tyX7 tyX7_ok nmX7 7 (by decide) fl_X7_45 rfl dX7_bearsIn_27 h0 rfl rfl ?_
    refine g_aload_n dX7_bearsIn_30 rfl ?_
    refine g_get 9 rfl (by decide) inX7 7 (by decide) fl_X7_45 dX7_bearsIn_31 h0 (hu_at _ _ _ _) ?_
    refine g_if_le (tgt := 39) dX7_bearsIn_34 (by decide) (fun hq => absurd hq ((by decide))) (fun _ => ?_)
    refine g_iconst (v := nI 0) dX7_bearsIn_37 (by decide) ?_
    exact g_iret rfl (nr_int _) dX7_bearsIn_38 (by decide) (hP.t7 hB (fun z => absurd z (Nat.succ_ne_zero _)))
  rw [if_pos (bi_ne b1)] at hP
  obtain ⟨j, hj, rfl⟩ := isM_nI (bi_ne b1)
  rw [nI_clamp (by omega)] at hP
  refine g_iload_n dX7_bearsIn_12 rfl ?_
  refine g_iconst (v := nI 1) dX7_bearsIn_13 (by decide) ?_
  refine g_bipush (v := nI 99) dX7_bearsIn_14 (by decide) ?_
  refine g_callSp (Y := YX7_in) ss_X7_84 yn_X7_in dX7_bearsIn_16 (k_in pR_ok) rfl rfl rfl (Nat.le_of_ble_eq_true rfl) ⟨rfl, rfl⟩ ?_
  refine g_if_ne (tgt := 26) dX7_bearsIn_19 (by decide) (fun b2 => ?_) (fun b2 => ?_)
  rotate_left
  · rw [if_neg (bi_eq b2)] at hP
    refine g_iconst (v := nI 2) dX7_bearsIn_22 (by decide) ?_
    refine g_jump (tgt := 27) dX7_bearsIn_23 (by decide) ?_
    refine g_put 9 rfl (by decide) inX7 tyX7 tyX7_ok nmX7 7 (by decide) fl_X7_45 rfl dX7_bearsIn_27 h0 rfl rfl ?_
    refine g_aload_n dX7_bearsIn_30 rfl ?_
    refine g_get 9 rfl (by decide) inX7 7 (by decide) fl_X7_45 dX7_bearsIn_31 h0 (hu_at _ _ _ _) ?_
    refine g_if_le (tgt := 39) dX7_bearsIn_34 (by decide) (fun hq => absurd hq ((by decide))) (fun _ => ?_)
    refine g_iconst (v := nI 0) dX7_bearsIn_37 (by decide) ?_
    exact g_iret rfl (nr_int _) dX7_bearsIn_38 (by decide) (hP.t7 hB (fun z => absurd z (Nat.succ_ne_zero _)))
  have b2 := bi_ne b2
  rw [if_pos b2] at hP
  refine g_iconst (v := nI 0) dX7_bearsIn_26 (by decide) ?_
  refine g_put 9 rfl (by decide) inX7 tyX7 tyX7_ok nmX7 7 (by decide) fl_X7_45 rfl dX7_bearsIn_27 h0 rfl rfl ?_
  refine g_aload_n dX7_bearsIn_30 rfl ?_
  refine g_get 9 rfl (by decide) inX7 7 (by decide) fl_X7_45 dX7_bearsIn_31 h0 (hu_at _ _ _ _) ?_
  refine g_if_le (tgt := 39) dX7_bearsIn_34 (by decide) (fun _ => ?_) (fun hq => absurd (Int32.le_refl _) hq)
  have hM : MB sh (hu V m 7 (.int (nI 0))) m S.1 0 r S := hB.thr
  have hw : Mf V (hu V m 7 (.int (nI 0))) m := fun a ha => hu_ne _ _ _ (by omega)
  generalize hu V m 7 (.int (nI 0)) = V1 at hM hw ⊢
  have hS := hM.1
  refine g_aload_n dX7_bearsIn_39 rfl ?_
  refine g_iload_n dX7_bearsIn_40 rfl ?_
  refine g_callVp (Y := YX7_iceOf) sv_X7_114 rfl yn_X7_iceOf 9 (by decide) rfl rfl dX7_bearsIn_41 (k_iceOf hS hj (hI.2.2.2.1 j hj).1 pR_ok) h0 rfl rfl rfl (Nat.le_of_ble_eq_true rfl) ⟨rfl, rfl⟩ ?_
  refine g_fstore_n dX7_bearsIn_44 (by decide) rfl ?_
  show G _ _ _ _ _ _ _ _ _ [_, _, _, _, _] _
  refine g_iconst (v := nI 0) dX7_bearsIn_45 (by decide) ?_
  refine g_istore dX7_bearsIn_46 (by decide) rfl ?_
  show G _ _ _ _ _ _ _ _ _ [_, _, _, _, _] _
  suffices K : ∀ (k i : Nat), i + k = 91 → (∀ e, e < i → ¬ brg (iceN (S.1 (oM j 0)).toUInt32 (S.1 5) e) t) → G E MX7_bearsIn P sh sz V1 0 0 48 [some (.ref m), some (.int (nI j)), some (.int t), some (.float (iceN (S.1 (oM j 0)).toUInt32 (S.1 5) i)), some (.int (nI i))] [] from K 91 0 (by omega) (fun e he => absurd he (Nat.not_lt_zero e))
  intro k
  induction k with
  | zero =>
    intro i hi hno
    have hi : i = 91 := by omega
    subst hi
    have : ¬ brN (S.1 (oM j 0)).toUInt32 (S.1 5) t < 91 := fa_first_none (fun k hk => cb_f (hno k hk))
    rw [if_neg this] at hP
    refine g_iload dX7_bearsIn_48 rfl ?_
    refine g_bipush (v := nI 90) dX7_bearsIn_50 (by decide) ?_
    refine g_icmp_gt (tgt := 79) dX7_bearsIn_52 (by decide) (fun _ => ?_) (fun hq => absurd ((by decide)) hq)
    refine g_iload dX7_bearsIn_79 rfl ?_
    refine g_bipush (v := nI 90) dX7_bearsIn_81 (by decide) ?_
    refine g_icmp_le (tgt := 94) dX7_bearsIn_83 (by decide) (fun hq => absurd hq ((by decide))) (fun _ => ?_)
    refine g_aload_n dX7_bearsIn_86 rfl ?_
    refine g_iconst (v := nI 3) dX7_bearsIn_87 (by decide) ?_
    refine g_callVw (Y := YX7_fails) sv_X7_88 rfl yn_X7_fails 9 (by decide) rfl rfl dX7_bearsIn_88 (k_fails (P := pW (fun v V' => v = .int (nI 0) ∧ V' = hu V1 m 7 (.int (nI 3))) sh sz) h0 ⟨_, rfl, rfl, rfl, rfl, rfl⟩) h0 rfl rfl rfl (Nat.le_of_ble_eq_true rfl) ⟨rfl, rfl⟩ (fun v V' q => ?_)
    obtain ⟨rfl, rfl⟩ := q
    refine g_jump (tgt := 96) dX7_bearsIn_91 (by decide) ?_
    exact g_iret rfl (nr_int _) dX7_bearsIn_96 (by decide) (hP.no2 hw hM)
  | succ k ih =>
    intro i hi hno
    have hb := fp_brg (ice_ok hI hj i)
    have hgl := fp_gl (ice_ok hI hj i) b2.1 b2.2
    have hle : nI i ≤ nI 90 := nI_le (by omega) (by decide)
    refine g_iload dX7_bearsIn_48 rfl ?_
    refine g_bipush (v := nI 90) dX7_bearsIn_50 (by decide) ?_
    refine g_icmp_gt (tgt := 79) dX7_bearsIn_52 (by decide) (fun hq => absurd hq ((fun q => absurd q (Int32.not_lt.mpr hle)))) (fun _ => ?_)
    refine g_fload_n dX7_bearsIn_55 rfl ?_
    refine g_fload_n dX7_bearsIn_56 rfl ?_
    refine g_fmul dX7_bearsIn_57 hb.1 ?_
    refine g_ldcf kc_X7_113 dX7_bearsIn_58 ?_
    refine g_fmul dX7_bearsIn_60 hb.2 ?_
    refine g_iload_n dX7_bearsIn_61 rfl ?_
    refine g_i2f dX7_bearsIn_62 ?_
    refine g_fcmp dX7_bearsIn_63 ?_
    rw [hgl]
    refine g_if_ge (tgt := 79) dX7_bearsIn_64 (by decide) (fun b4 => ?_) (fun b4 => ?_)
    rotate_left
    · have := ih (i + 1) (by omega) (fun e he => by
        rcases Nat.lt_or_ge e i with z | z
        · exact hno e z
        · rw [show e = i by omega]
          exact b4)
      refine g_aload_n dX7_bearsIn_67 rfl ?_
      refine g_fload_n dX7_bearsIn_68 rfl ?_
      refine g_callVp (Y := YX7_iceBehind) sv_X7_194 rfl yn_X7_iceBehind 9 (by decide) rfl rfl dX7_bearsIn_69 (k_iceBehind hS hI (ice_ok hI hj i) pR_ok) h0 rfl rfl rfl (Nat.le_of_ble_eq_true rfl) ⟨rfl, rfl⟩ ?_
      refine g_fstore_n dX7_bearsIn_72 (by decide) rfl ?_
      show G _ _ _ _ _ _ _ _ _ [_, _, _, _, _] _
      refine g_iinc dX7_bearsIn_73 rfl (by first | exact nI_inc _ | rfl) (by decide) rfl ?_
      show G _ _ _ _ _ _ _ _ _ [_, _, _, _, _] _
      refine g_jump (tgt := 48) dX7_bearsIn_76 (by decide) ?_
      exact this
    · have hn : brN (S.1 (oM j 0)).toUInt32 (S.1 5) t = i := fa_first_eq (by omega) (cb_t b4) (fun k hk => cb_f (hno k hk))
      rw [hn, if_pos (by omega)] at hP
      refine g_iload dX7_bearsIn_79 rfl ?_
      refine g_bipush (v := nI 90) dX7_bearsIn_81 (by decide) ?_
      refine g_icmp_le (tgt := 94) dX7_bearsIn_83 (by decide) (fun _ => ?_) (fun hq => absurd (hle) hq)
      refine g_iload dX7_bearsIn_94 rfl ?_
      exact g_iret rfl (nr_int _) dX7_bearsIn_96 (by decide) (hP.re rfl _ hw hM)
theorem r_append {c : Int32} (hc : vp_nar .char c = c) (h : MS sh V m S th) (hP : RI sh m sz V (sp_append S c) P) : MC E YX7_append [.ref m, .int c] sh sz V P := by
  obtain ⟨r, hB⟩ := h
  have h0 := hB.1.1
  have v12 := hB.2.1.2.1.2.2.2.2.2.2.2.2.2.1
  have hl := hB.2.1.2.2.2.2.2.2
  unfold sp_append at hP
  refine MC.of RX7 "append" rfl (by decide +kernel) rfl 0 [_, _] rfl (Nat.le_of_ble_eq_true rfl) ?_
  show G E MX7_append _ _ _ _ _ _ _ _ _
  refine g_aload_n dX7_append_0 rfl ?_
  refine g_aload_n dX7_append_1 rfl ?_
  refine g_get 9 rfl (by decide) inX7 12 (by decide) fl_X7_211 dX7_append_2 h0 v12 ?_
  refine g_bipush (v := nI 60) dX7_append_5 (by decide) ?_
  refine g_icmp_ne (tgt := 14) dX7_append_7 (by decide) (fun b1 => ?_) (fun b1 => ?_)
  rotate_left
  · have e : S.2.2.2.2.2.1 = 60 := (nI_eq (by omega) (by decide)).mp b1
    rw [if_neg (by omega)] at hP
    refine g_iconst (v := nI 1) dX7_append_10 (by decide) ?_
    refine g_jump (tgt := 15) dX7_append_11 (by decide) ?_
    refine g_put 9 rfl (by decide) inX7 tyX7 tyX7_ok nmX7 7 (by decide) fl_X7_45 rfl dX7_append_15 h0 rfl rfl ?_
    refine g_aload_n dX7_append_18 rfl ?_
    refine g_get 9 rfl (by decide) inX7 7 (by decide) fl_X7_45 dX7_append_19 h0 (hu_at _ _ _ _) ?_
    refine g_if_le (tgt := 27) dX7_append_22 (by decide) (fun hq => absurd hq ((by decide))) (fun _ => ?_)
    refine g_iconst (v := nI 0) dX7_append_25 (by decide) ?_
    exact g_iret rfl (nr_int _) dX7_append_26 (by decide) (hP.t7 hB (fun z => absurd z (Nat.succ_ne_zero _)))
  have h6 : S.2.2.2.2.2.1 < 60 := by
    rcases Nat.lt_or_ge S.2.2.2.2.2.1 60 with q | q
    · exact q
    · exact absurd (by rw [show S.2.2.2.2.2.1 = 60 by omega]) b1
  rw [if_pos h6] at hP
  refine g_iconst (v := nI 0) dX7_append_14 (by decide) ?_
  refine g_put 9 rfl (by decide) inX7 tyX7 tyX7_ok nmX7 7 (by decide) fl_X7_45 rfl dX7_append_15 h0 rfl rfl ?_
  refine g_aload_n dX7_append_18 rfl ?_
  refine g_get 9 rfl (by decide) inX7 7 (by decide) fl_X7_45 dX7_append_19 h0 (hu_at _ _ _ _) ?_
  refine g_if_le (tgt := 27) dX7_append_22 (by decide) (fun _ => ?_) (fun hq => absurd (Int32.le_refl _) hq)
  have hM : MB sh (hu V m 7 (.int (nI 0))) m S.1 0 r S := hB.thr
  have hw : Mf V (hu V m 7 (.int (nI 0))) m := fun a ha => hu_ne _ _ _ (by omega)
  generalize hu V m 7 (.int (nI 0)) = V1 at hM hw ⊢
  obtain ⟨⟨s2, s3, s4, s5, s6, s7⟩, ⟨v1, v2, v3, v4, v5, v6, v8, v9, v11, v12, v15, v16⟩, ha, hp, ht, hc8, hl⟩ := id hM.2.1
  refine g_aload_n dX7_append_27 rfl ?_
  refine g_get 9 rfl (by decide) inX7 11 (by decide) fl_X7_25 dX7_append_28 h0 v11 ?_
  refine g_aload_n dX7_append_31 rfl ?_
  refine g_get 9 rfl (by decide) inX7 12 (by decide) fl_X7_211 dX7_append_32 h0 v12 ?_
  refine g_iload_n dX7_append_35 rfl ?_
  refine g_castore dX7_append_36 s6 (vp_in_nI h6 (by decide)) ?_
  rw [nI_clamp (by omega), hc]
  have e : ∀ a, a ≠ m + 6 → hu V1 (m + 6) S.2.2.2.2.2.1 (.int c) a = V1 a := fun a ha => hu_ne _ _ _ ha
  refine g_aload_n dX7_append_37 rfl ?_
  refine g_dup dX7_append_38 rfl ?_
  refine g_get 9 rfl (by decide) inX7 12 (by decide) fl_X7_211 dX7_append_39 h0 ((congrFun (e m (by omega)) 12).trans v12) ?_
  refine g_iconst (v := nI 1) dX7_append_42 (by decide) ?_
  refine g_iadd dX7_append_43 ?_
  rw [nI_add]
  refine g_put 9 rfl (by decide) inX7 tyX7 tyX7_ok nmX7 12 (by decide) fl_X7_211 rfl dX7_append_44 h0 rfl rfl ?_
  have x0 : ∀ a, a ≠ m → a ≠ m + 6 → hu (hu V1 (m + 6) S.2.2.2.2.2.1 (.int c)) m 12 (.int (nI (S.2.2.2.2.2.1 + 1))) a = V1 a := fun a q1 q2 => (hu_ne _ _ _ q1).trans (e a q2)
  have xm : ∀ j, j ≠ 12 → hu (hu V1 (m + 6) S.2.2.2.2.2.1 (.int c)) m 12 (.int (nI (S.2.2.2.2.2.1 + 1))) m j = V1 m j := fun j q => (hu_at_ne _ _ _ q).trans (congrFun (e m (by omega)) j)
  have x6 : ∀ k, k < S.2.2.2.2.2.1 + 1 → hu (hu V1 (m + 6) S.2.2.2.2.2.1 (.int c)) m 12 (.int (nI (S.2.2.2.2.2.1 + 1))) (m + 6) k = .int (upd S.2.2.2.2.1 S.2.2.2.2.2.1 c k) := fun k hk => by
    rw [hu_ne _ _ _ (by omega)]
    by_cases z : k = S.2.2.2.2.2.1
    · rw [z, hu_at, pk_us]
    · rw [hu_at_ne _ _ _ z, pk_un z]
      exact ht k (by omega)
  have x12 : hu (hu V1 (m + 6) S.2.2.2.2.2.1 (.int c)) m 12 (.int (nI (S.2.2.2.2.2.1 + 1))) m 12 = .int (nI (S.2.2.2.2.2.1 + 1)) := hu_at _ _ _ _
  generalize hu (hu V1 (m + 6) S.2.2.2.2.2.1 (.int c)) m 12 (.int (nI (S.2.2.2.2.2.1 + 1))) = V2 at x0 xm x6 x12 ⊢
  have hM2 : MB sh V2 m S.1 0 r (S.1, S.2.1, S.2.2.1, S.2.2.2.1, upd S.2.2.2.2.1 S.2.2.2.2.2.1 c, S.2.2.2.2.2.1 + 1, S.2.2.2.2.2.2) := by
    refine ⟨hM.1.keep (xm 0 (by decide)) (x0 _ (by omega) (by omega)), ⟨⟨s2, s3, s4, s5, s6, s7⟩, ⟨?_, ?_, ?_, ?_, ?_, ?_, ?_, ?_, ?_, x12, ?_, ?_⟩, by rw [x0 _ (by omega) (by omega)]; exact ha, by rw [x0 _ (by omega) (by omega)]; exact hp, x6, hc8, h6⟩, (xm 7 (by decide)).trans hM.2.2.1, (xm 10 (by decide)).trans hM.2.2.2⟩
    all_goals rw [xm _ (by decide)]; assumption
  refine g_aload_n dX7_append_47 rfl ?_
  refine g_get 9 rfl (by decide) inX7 12 (by decide) fl_X7_211 dX7_append_48 h0 x12 ?_
  exact g_iret rfl (nr_int _) dX7_append_51 (by decide) (hP V2 _ (hw.trans (fun a ha => x0 a (by omega) (by omega))) (fun _ => rfl) ⟨r, hM2⟩)
theorem r_errorPosition (h : MS sh V m S th) (hP : RI sh m sz V (sp_errorPosition S) P) : MC E YX7_errorPosition [.ref m] sh sz V P := by
  obtain ⟨r, hB⟩ := h
  have h0 := hB.1.1
  unfold sp_errorPosition at hP
  have hP := hP.t7 (w := S.2.2.2.2.2.2.1) hB (fun _ => rfl)
  have hM : MB sh (hu V m 7 (.int (nI 0))) m S.1 0 r S := hB.thr
  refine MC.of RX7 "errorPosition" rfl (by decide +kernel) rfl 0 [_] rfl (Nat.le_of_ble_eq_true rfl) ?_
  show G E MX7_errorPosition _ _ _ _ _ _ _ _ _
  refine g_aload_n dX7_errorPosition_0 rfl ?_
  refine g_iconst (v := nI 0) dX7_errorPosition_1 (by decide) ?_
  refine g_put 9 rfl (by decide) inX7 tyX7 tyX7_ok nmX7 7 (by decide) fl_X7_45 rfl dX7_errorPosition_2 h0 rfl rfl ?_
  refine g_aload_n dX7_errorPosition_5 rfl ?_
  refine g_get 9 rfl (by decide) inX7 15 (by decide) fl_X7_29 dX7_errorPosition_6 h0 hM.2.1.2.1.2.2.2.2.2.2.2.2.2.2.1 ?_
  exact g_iret rfl (nr_int _) dX7_errorPosition_9 (by decide) hP
theorem r_refusal {d : Int32} (h : MS sh V m S th) (hP : RI sh m sz V (sp_refusal S d) P) : MC E YX7_refusal [.ref m, .int d] sh sz V P := by
  obtain ⟨r, hB⟩ := h
  have h0 := hB.1.1
  have v8 := hB.2.1.2.1.2.2.2.2.2.2.1
  unfold sp_refusal at hP
  refine MC.of RX7 "refusal" rfl (by decide +kernel) rfl 0 [_, _] rfl (Nat.le_of_ble_eq_true rfl) ?_
  show G E MX7_refusal _ _ _ _ _ _ _ _ _
  refine g_aload_n dX7_refusal_0 rfl ?_
  refine g_aload_n dX7_refusal_1 rfl ?_
  refine g_get 9 rfl (by decide) inX7 8 (by decide) fl_X7_57 dX7_refusal_2 h0 v8 ?_
  refine g_if_ne (tgt := 12) dX7_refusal_5 (by decide) (fun b1 => ?_) (fun b1 => ?_)
  rotate_left
  · rw [if_pos (show S.2.2.2.2.2.2.2.1 = nI 0 from b1)] at hP
    refine g_iconst (v := nI 1) dX7_refusal_8 (by decide) ?_
    refine g_jump (tgt := 13) dX7_refusal_9 (by decide) ?_
    refine g_put 9 rfl (by decide) inX7 tyX7 tyX7_ok nmX7 7 (by decide) fl_X7_45 rfl dX7_refusal_13 h0 rfl rfl ?_
    refine g_aload_n dX7_refusal_16 rfl ?_
    refine g_get 9 rfl (by decide) inX7 7 (by decide) fl_X7_45 dX7_refusal_17 h0 (hu_at _ _ _ _) ?_
    refine g_if_le (tgt := 27) dX7_refusal_20 (by decide) (fun hq => absurd hq ((by decide))) (fun _ => ?_)
    refine g_iconst (v := nI 0) dX7_refusal_23 (by decide) ?_
    refine g_jump (tgt := 42) dX7_refusal_24 (by decide) ?_
    exact g_iret rfl (nr_int _) dX7_refusal_42 (by decide) (hP.t7 hB (fun z => absurd z (Nat.succ_ne_zero _)))
  rw [if_neg (show ¬ S.2.2.2.2.2.2.2.1 = nI 0 from b1)] at hP
  refine g_iconst (v := nI 0) dX7_refusal_12 (by decide) ?_
  refine g_put 9 rfl (by decide) inX7 tyX7 tyX7_ok nmX7 7 (by decide) fl_X7_45 rfl dX7_refusal_13 h0 rfl rfl ?_
  refine g_aload_n dX7_refusal_16 rfl ?_
  refine g_get 9 rfl (by decide) inX7 7 (by decide) fl_X7_45 dX7_refusal_17 h0 (hu_at _ _ _ _) ?_
  refine g_if_le (tgt := 27) dX7_refusal_20 (by decide) (fun _ => ?_) (fun hq => absurd (Int32.le_refl _) hq)
  have hM : MB sh (hu V m 7 (.int (nI 0))) m S.1 0 r S := hB.thr
  refine g_iload_n dX7_refusal_27 rfl ?_
  refine g_if_eq (tgt := 38) dX7_refusal_28 (by decide) (fun b2 => ?_) (fun b2 => ?_)
  · rw [if_pos b2] at hP
    refine g_aload_n dX7_refusal_38 rfl ?_
    refine g_get 9 rfl (by decide) inX7 8 (by decide) fl_X7_57 dX7_refusal_39 h0 hM.2.1.2.1.2.2.2.2.2.2.1 ?_
    exact g_iret rfl (nr_int _) dX7_refusal_42 (by decide) (hP.t7 hB (fun _ => rfl))
  · rw [if_neg b2] at hP
    refine g_aload_n dX7_refusal_31 rfl ?_
    refine g_get 9 rfl (by decide) inX7 9 (by decide) fl_X7_60 dX7_refusal_32 h0 hM.2.1.2.1.2.2.2.2.2.2.2.1 ?_
    refine g_jump (tgt := 42) dX7_refusal_35 (by decide) ?_
    exact g_iret rfl (nr_int _) dX7_refusal_42 (by decide) (hP.t7 hB (fun _ => rfl))
end REF14

