/-! the reference: the mean, undo, snapshots -/
section REF16
variable {E : gE} {M : gM} {P : gP} {sh : Sh} {sz : Nat} {V V' V1 V2 : Vl} {cu su pc : Nat} {L : List (Option Value)} {rest : List Value} {m : Nat} {f g b : Fl} {th r : Int32} {S : St}
def RLo (sh : Sh) (m sz : Nat) (V : Vl) (q : Sp) (P : gP) : Prop := ∀ V' (w : Int64), Mf V V' m → (q.1 = 0 → q.2.1 = .long w) → MS sh V' m q.2.2 (nI q.1) → P (.inl (some (.long w))) sh sz V'
theorem r_meanBits (h : MS sh V m S th) (hI : InvB S.1) (hP : RLo sh m sz V (sp_meanBits S) P) : MC E YX7_meanBits [.ref m] sh sz V P := by
  obtain ⟨r, hB⟩ := h
  have h0 := hB.1.1
  unfold sp_meanBits at hP
  refine MC.of RX7 "meanBits" rfl (by decide +kernel) rfl 3 [_, none, none, none] rfl (Nat.le_of_ble_eq_true rfl) ?_
  show G E MX7_meanBits _ _ _ _ _ _ _ _ _
  refine g_aload_n dX7_meanBits_0 rfl ?_
  refine g_iconst (v := nI 0) dX7_meanBits_1 (by decide) ?_
  refine g_put 9 rfl (by decide) inX7 tyX7 tyX7_ok nmX7 7 (by decide) fl_X7_45 rfl dX7_meanBits_2 h0 rfl rfl ?_
  have hM : MB sh (hu V m 7 (.int (nI 0))) m S.1 0 r S := hB.thr
  have hw : Mf V (hu V m 7 (.int (nI 0))) m := fun a ha => hu_ne _ _ _ (by omega)
  generalize hu V m 7 (.int (nI 0)) = V1 at hM hw ⊢
  have hS := hM.1
  refine g_dconst0 dX7_meanBits_5 ?_
  refine g_dstore_n dX7_meanBits_6 (by decide) rfl rfl ?_
  show G _ _ _ _ _ _ _ _ _ [_, _, _, _] _
  refine g_iconst (v := nI 0) dX7_meanBits_7 (by decide) ?_
  refine g_istore_n dX7_meanBits_8 (by decide) rfl ?_
  show G _ _ _ _ _ _ _ _ _ [_, _, _, _] _
  suffices K : ∀ (k i : Nat), i + k = 12 → G E MX7_meanBits P sh sz V1 0 0 9 [some (.ref m), some (.double (dsum S.1 i)), none, some (.int (nI i))] [] from K 12 0 (by omega)
  intro k
  induction k with
  | zero =>
    intro i hi
    have hi : i = 12 := by omega
    subst hi
    obtain ⟨w1, w2⟩ := fp_mean hI
    unfold meanD at w1
    refine g_iload_n dX7_meanBits_9 rfl ?_
    refine g_bipush (v := nI 12) dX7_meanBits_10 (by decide) ?_
    refine g_icmp_ge (tgt := 30) dX7_meanBits_12 (by decide) (fun _ => ?_) (fun hq => absurd (Int32.le_refl _) hq)
    refine g_dload_n dX7_meanBits_30 rfl ?_
    refine g_ldc2d kc_X7_270 dX7_meanBits_31 ?_
    refine g_ddiv dX7_meanBits_34 w1 ?_
    refine g_callSp (Y := YJxe99ae_doubleToLongBits_ccdee) ss_X7_272 yn_Jxe99ae_doubleToLongBits_ccdee dX7_meanBits_35 (c_dtlb w2 pR_ok) rfl rfl rfl (Nat.le_of_ble_eq_true rfl) ⟨rfl, rfl⟩ ?_
    exact g_lret rfl dX7_meanBits_38 (by decide) (hP V1 _ hw (fun _ => rfl) ⟨r, hM⟩)
  | succ k ih =>
    intro i hi
    obtain ⟨w1, w2⟩ := fp_dsum hI (j := i) (by omega)
    refine g_iload_n dX7_meanBits_9 rfl ?_
    refine g_bipush (v := nI 12) dX7_meanBits_10 (by decide) ?_
    refine g_icmp_ge (tgt := 30) dX7_meanBits_12 (by decide) (fun hq => absurd hq (nI_ge (by omega) (by omega))) (fun _ => ?_)
    refine g_dload_n dX7_meanBits_15 rfl ?_
    refine g_aload_n dX7_meanBits_16 rfl ?_
    refine g_iload_n dX7_meanBits_17 rfl ?_
    refine g_callVp (Y := YX7_iceOf) sv_X7_114 rfl yn_X7_iceOf 9 (by decide) rfl rfl dX7_meanBits_18 (k_iceOf hS (j := i) (by omega) (hI.2.2.2.1 i (by omega)).1 pR_ok) h0 rfl rfl rfl (Nat.le_of_ble_eq_true rfl) ⟨rfl, rfl⟩ ?_
    refine g_f2d dX7_meanBits_21 w1 ?_
    refine g_dadd dX7_meanBits_22 w2 ?_
    refine g_dstore_n dX7_meanBits_23 (by decide) rfl rfl ?_
    show G _ _ _ _ _ _ _ _ _ [_, _, _, _] _
    refine g_iinc dX7_meanBits_24 rfl (by first | exact nI_inc _ | rfl) (by decide) rfl ?_
    show G _ _ _ _ _ _ _ _ _ [_, _, _, _] _
    refine g_jump (tgt := 9) dX7_meanBits_27 (by decide) ?_
    exact ih (i + 1) (by omega)
theorem r_share (h : MS sh V m S th) (hP : RF sh m sz V (sp_share S) P) : MC E YX7_share [.ref m] sh sz V P := by
  obtain ⟨r, hB⟩ := h
  have h0 := hB.1.1
  unfold sp_share at hP
  refine MC.of RX7 "share" rfl (by decide +kernel) rfl 0 [_] rfl (Nat.le_of_ble_eq_true rfl) ?_
  show G E MX7_share _ _ _ _ _ _ _ _ _
  refine g_aload_n dX7_share_0 rfl ?_
  refine g_aload_n dX7_share_1 rfl ?_
  refine g_get 9 rfl (by decide) inX7 0 (by decide) fl_X7_9 dX7_share_2 h0 hB.1.2.2.1 ?_
  refine g_iconst (v := nI 3) dX7_share_5 (by decide) ?_
  refine g_iaload dX7_share_6 hB.1.2.1 (vp_in_nI (by decide) (by decide)) (hB.1.rd (k := 3) (by decide)) ?_
  refine g_if_ne (tgt := 14) dX7_share_7 (by decide) (fun b1 => ?_) (fun b1 => ?_)
  rotate_left
  · rw [if_pos b1] at hP
    refine g_iconst (v := nI 1) dX7_share_10 (by decide) ?_
    refine g_jump (tgt := 15) dX7_share_11 (by decide) ?_
    refine g_put 9 rfl (by decide) inX7 tyX7 tyX7_ok nmX7 7 (by decide) fl_X7_45 rfl dX7_share_15 h0 rfl rfl ?_
    refine g_aload_n dX7_share_18 rfl ?_
    refine g_get 9 rfl (by decide) inX7 7 (by decide) fl_X7_45 dX7_share_19 h0 (hu_at _ _ _ _) ?_
    refine g_if_le (tgt := 29) dX7_share_22 (by decide) (fun hq => absurd hq ((by decide))) (fun _ => ?_)
    refine g_fconst0 dX7_share_25 ?_
    refine g_jump (tgt := 44) dX7_share_26 (by decide) ?_
    exact g_fret rfl dX7_share_44 (by decide) (hP.t7 hB (fun z => absurd z (Nat.succ_ne_zero _)))
  rw [if_neg b1] at hP
  refine g_iconst (v := nI 0) dX7_share_14 (by decide) ?_
  refine g_put 9 rfl (by decide) inX7 tyX7 tyX7_ok nmX7 7 (by decide) fl_X7_45 rfl dX7_share_15 h0 rfl rfl ?_
  refine g_aload_n dX7_share_18 rfl ?_
  refine g_get 9 rfl (by decide) inX7 7 (by decide) fl_X7_45 dX7_share_19 h0 (hu_at _ _ _ _) ?_
  refine g_if_le (tgt := 29) dX7_share_22 (by decide) (fun _ => ?_) (fun hq => absurd (Int32.le_refl _) hq)
  have hM : MB sh (hu V m 7 (.int (nI 0))) m S.1 0 r S := hB.thr
  have hS := hM.1
  refine g_aload_n dX7_share_29 rfl ?_
  refine g_get 9 rfl (by decide) inX7 0 (by decide) fl_X7_9 dX7_share_30 h0 hS.2.2.1 ?_
  refine g_iconst (v := nI 4) dX7_share_33 (by decide) ?_
  refine g_iaload dX7_share_34 hS.2.1 (vp_in_nI (by decide) (by decide)) (hS.rd (k := 4) (by decide)) ?_
  refine g_i2f dX7_share_35 ?_
  refine g_aload_n dX7_share_36 rfl ?_
  refine g_get 9 rfl (by decide) inX7 0 (by decide) fl_X7_9 dX7_share_37 h0 hS.2.2.1 ?_
  refine g_iconst (v := nI 3) dX7_share_40 (by decide) ?_
  refine g_iaload dX7_share_41 hS.2.1 (vp_in_nI (by decide) (by decide)) (hS.rd (k := 3) (by decide)) ?_
  refine g_i2f dX7_share_42 ?_
  refine g_fdiv dX7_share_43 (fp_share b1) ?_
  exact g_fret rfl dX7_share_44 (by decide) (hP.t7 hB (fun _ => rfl))
/-- as many of the past less -/
theorem MR.less {n : Nat} (h : MR sh V m S) (hn : n ≤ S.2.2.2.1) (h6 : V' m 6 = .int (nI n)) (hj : ∀ j, j ≠ 6 → V' m j = V m j) (ho : ∀ a, a ≠ m → a ≠ m + 1 → V' a = V a) : MR sh V' m (S.1, S.2.1, S.2.2.1, n, S.2.2.2.2) := by
  obtain ⟨s, ⟨v1, v2, v3, v4, v5, v6, v8, v9, v11, v12, v15, v16⟩, a, b', c, d1, d2⟩ := h
  refine ⟨s, ⟨?_, ?_, ?_, ?_, ?_, h6, ?_, ?_, ?_, ?_, ?_, ?_⟩, by rw [ho _ (by omega) (by omega)]; exact a, fun i hi => by rw [ho _ (by omega) (by omega)]; exact b' i (by have : i < n := hi; omega), by rw [ho _ (by omega) (by omega)]; exact c, by show n ≤ 8; omega, d2⟩
  all_goals rw [hj _ (by decide)]; assumption
set_option maxRecDepth 100000 in
theorem r_undo (h : MS sh V m S th) (hP : RI sh m sz V (sp_undo S) P) : MC E YX7_undo [.ref m] sh sz V P := by
  obtain ⟨r, hB⟩ := h
  have h0 := hB.1.1
  have v6 := hB.2.1.2.1.2.2.2.2.2.1
  have hc8 := hB.2.1.2.2.2.2.2.1
  unfold sp_undo at hP
  refine MC.of RX7 "undo" rfl (by decide +kernel) rfl 0 [_] rfl (Nat.le_of_ble_eq_true rfl) ?_
  show G E MX7_undo _ _ _ _ _ _ _ _ _
  refine g_aload_n dX7_undo_0 rfl ?_
  refine g_aload_n dX7_undo_1 rfl ?_
  refine g_get 9 rfl (by decide) inX7 6 (by decide) fl_X7_54 dX7_undo_2 h0 v6 ?_
  refine g_if_ne (tgt := 12) dX7_undo_5 (by decide) (fun b1 => ?_) (fun b1 => ?_)
  rotate_left
  · rw [if_pos ((nI_eq (b := 0) (by omega) (by decide)).mp b1)] at hP
    refine g_iconst (v := nI 1) dX7_undo_8 (by decide) ?_
    refine g_jump (tgt := 13) dX7_undo_9 (by decide) ?_
    refine g_put 9 rfl (by decide) inX7 tyX7 tyX7_ok nmX7 7 (by decide) fl_X7_45 rfl dX7_undo_13 h0 rfl rfl ?_
    refine g_aload_n dX7_undo_16 rfl ?_
    refine g_get 9 rfl (by decide) inX7 7 (by decide) fl_X7_45 dX7_undo_17 h0 (hu_at _ _ _ _) ?_
    refine g_if_le (tgt := 25) dX7_undo_20 (by decide) (fun hq => absurd hq ((by decide))) (fun _ => ?_)
    refine g_iconst (v := nI 0) dX7_undo_23 (by decide) ?_
    exact g_iret rfl (nr_int _) dX7_undo_24 (by decide) (hP.t7 hB (fun z => absurd z (Nat.succ_ne_zero _)))
  have hne : ¬ S.2.2.2.1 = 0 := fun q => b1 (by rw [q]; rfl)
  rw [if_neg hne] at hP
  refine g_iconst (v := nI 0) dX7_undo_12 (by decide) ?_
  refine g_put 9 rfl (by decide) inX7 tyX7 tyX7_ok nmX7 7 (by decide) fl_X7_45 rfl dX7_undo_13 h0 rfl rfl ?_
  refine g_aload_n dX7_undo_16 rfl ?_
  refine g_get 9 rfl (by decide) inX7 7 (by decide) fl_X7_45 dX7_undo_17 h0 (hu_at _ _ _ _) ?_
  refine g_if_le (tgt := 25) dX7_undo_20 (by decide) (fun _ => ?_) (fun hq => absurd (Int32.le_refl _) hq)
  have hM : MB sh (hu V m 7 (.int (nI 0))) m S.1 0 r S := hB.thr
  have hw : Mf V (hu V m 7 (.int (nI 0))) m := fun a ha => hu_ne _ _ _ (by omega)
  generalize hu V m 7 (.int (nI 0)) = V1 at hM hw ⊢
  obtain ⟨⟨-, h1, h2, h3⟩, hR, h7, h10⟩ := id hM
  obtain ⟨⟨s2, s3, s4, s5, s6, s7⟩, ⟨v1, v2, v3, v4, v5, v6, v8, v9, v11, v12, v15, v16⟩, ha, hp, ht, hc, hl⟩ := id hR
  refine g_aload_n dX7_undo_25 rfl ?_
  refine g_dup dX7_undo_26 rfl ?_
  refine g_get 9 rfl (by decide) inX7 6 (by decide) fl_X7_54 dX7_undo_27 h0 v6 ?_
  refine g_iconst (v := nI 1) dX7_undo_30 (by decide) ?_
  refine g_isub dX7_undo_31 ?_
  rw [nI_m1n (by omega) (by omega)]
  refine g_put 9 rfl (by decide) inX7 tyX7 tyX7_ok nmX7 6 (by decide) fl_X7_54 rfl dX7_undo_32 h0 rfl rfl ?_
  have x6 : hu V1 m 6 (.int (nI (S.2.2.2.1 - 1))) m 6 = .int (nI (S.2.2.2.1 - 1)) := hu_at _ _ _ _
  have xj : ∀ j, j ≠ 6 → hu V1 m 6 (.int (nI (S.2.2.2.1 - 1))) m j = V1 m j := fun j q => hu_at_ne _ _ _ q
  have xo : ∀ a, a ≠ m → hu V1 m 6 (.int (nI (S.2.2.2.1 - 1))) a = V1 a := fun a q => hu_ne _ _ _ q
  generalize hu V1 m 6 (.int (nI (S.2.2.2.1 - 1))) = V2 at x6 xj xo ⊢
  refine g_aload_n dX7_undo_35 rfl ?_
  refine g_get 9 rfl (by decide) inX7 5 (by decide) fl_X7_22 dX7_undo_36 h0 ((xj 5 (by decide)).trans v5) ?_
  refine g_sipush (v := nI 164) dX7_undo_39 (by decide) ?_
  refine g_aload_n dX7_undo_42 rfl ?_
  refine g_get 9 rfl (by decide) inX7 6 (by decide) fl_X7_54 dX7_undo_43 h0 x6 ?_
  refine g_imul dX7_undo_46 ?_
  refine g_aload_n dX7_undo_47 rfl ?_
  rw [pk_mul]
  refine g_get 9 rfl (by decide) inX7 0 (by decide) fl_X7_9 dX7_undo_48 h0 ((xj 0 (by decide)).trans h2) ?_
  have hpp : ∀ k, k < 164 → V2 (m + 5) (164 * (S.2.2.2.1 - 1) + k) = .int (S.2.2.1 (S.2.2.2.1 - 1) k) := fun k hk => by
    rw [xo _ (by omega)]
    exact hp _ (by omega) k hk
  refine g_iconst (v := nI 0) dX7_undo_51 (by decide) ?_
  refine g_sipush (v := nI 164) dX7_undo_52 (by decide) ?_
  refine g_acopy (sp := (164 * (S.2.2.2.1 - 1))) (dp := 0) (n := 164) ml_X7_48 wn_acopy wt_acopy wi_sys dX7_undo_55 s5 h1 (by omega) (by omega) (by decide) (by decide) (fun i hi => ⟨_, hpp i hi⟩) (Nat.le_of_ble_eq_true rfl) (Nat.le_of_ble_eq_true rfl) ?_
  have e : ∀ x, x ≠ m + 1 → hn V2 (m + 1) (va_cpy (V2 (m + 5)) (V2 (m + 1)) (164 * (S.2.2.2.1 - 1)) 0 164) x = V2 x := fun x hx => hn_ne _ _ hx
  have y1 : ∀ k, k < 164 → hn V2 (m + 1) (va_cpy (V2 (m + 5)) (V2 (m + 1)) (164 * (S.2.2.2.1 - 1)) 0 164) (m + 1) k = .int (S.2.2.1 (S.2.2.2.1 - 1) k) := fun k hk => by
    rw [hn_at, cpy_in (by omega) (by omega), show 164 * (S.2.2.2.1 - 1) + (k - 0) = 164 * (S.2.2.2.1 - 1) + k by omega]
    exact hpp k hk
  generalize hn V2 (m + 1) (va_cpy (V2 (m + 5)) (V2 (m + 1)) (164 * (S.2.2.2.1 - 1)) 0 164) = V3 at e y1 ⊢
  have em : ∀ j, V3 m j = V2 m j := fun j => congrFun (e m (by omega)) j
  have hR3 := MR.less (n := S.2.2.2.1 - 1) (V' := V3) hR (by omega) ((em 6).trans x6) (fun j q => (em j).trans (xj j q)) (fun a q1 q2 => (e a q2).trans (xo a q1))
  have hM3 : MB sh V3 m (S.2.2.1 (S.2.2.2.1 - 1)) 0 r (S.2.2.1 (S.2.2.2.1 - 1), S.2.1, S.2.2.1, S.2.2.2.1 - 1, S.2.2.2.2) := ⟨⟨h0, h1, (em 0).trans ((xj 0 (by decide)).trans h2), y1⟩, hR3, (em 7).trans ((xj 7 (by decide)).trans h7), (em 10).trans ((xj 10 (by decide)).trans h10)⟩
  refine g_aload_n dX7_undo_58 rfl ?_
  refine g_get 9 rfl (by decide) inX7 6 (by decide) fl_X7_54 dX7_undo_59 h0 ((em 6).trans x6) ?_
  exact g_iret rfl (nr_int _) dX7_undo_62 (by decide) (hP V3 _ (hw.trans (fun a ha => (e a (by omega)).trans (xo a (by omega)))) (fun _ => rfl) ⟨r, hM3⟩)
set_option maxRecDepth 100000 in
theorem r_save (h : MS sh V m S th) (hP : RI sh m sz V (sp_save S) P) : MC E YX7_save [.ref m] sh sz V P := by
  obtain ⟨r, hB⟩ := h
  have h0 := hB.1.1
  unfold sp_save at hP
  refine MC.of RX7 "save" rfl (by decide +kernel) rfl 0 [_] rfl (Nat.le_of_ble_eq_true rfl) ?_
  show G E MX7_save _ _ _ _ _ _ _ _ _
  refine g_aload_n dX7_save_0 rfl ?_
  refine g_iconst (v := nI 0) dX7_save_1 (by decide) ?_
  refine g_put 9 rfl (by decide) inX7 tyX7 tyX7_ok nmX7 7 (by decide) fl_X7_45 rfl dX7_save_2 h0 rfl rfl ?_
  have hM : MB sh (hu V m 7 (.int (nI 0))) m S.1 0 r S := hB.thr
  have hw : Mf V (hu V m 7 (.int (nI 0))) m := fun a ha => hu_ne _ _ _ (by omega)
  generalize hu V m 7 (.int (nI 0)) = V1 at hM hw ⊢
  obtain ⟨⟨-, h1, h2, h3⟩, hR, h7, h10⟩ := id hM
  obtain ⟨⟨s2, s3, s4, s5, s6, s7⟩, ⟨v1, v2, v3, v4, v5, v6, v8, v9, v11, v12, v15, v16⟩, ha, hp, ht, hc, hl⟩ := id hR
  refine g_aload_n dX7_save_5 rfl ?_
  refine g_get 9 rfl (by decide) inX7 0 (by decide) fl_X7_9 dX7_save_6 h0 h2 ?_
  refine g_iconst (v := nI 0) dX7_save_9 (by decide) ?_
  refine g_aload_n dX7_save_10 rfl ?_
  refine g_get 9 rfl (by decide) inX7 3 (by decide) fl_X7_19 dX7_save_11 h0 v3 ?_
  refine g_iconst (v := nI 0) dX7_save_14 (by decide) ?_
  refine g_sipush (v := nI 164) dX7_save_15 (by decide) ?_
  refine g_acopy (sp := 0) (dp := 0) (n := 164) ml_X7_48 wn_acopy wt_acopy wi_sys dX7_save_18 h1 s4 (by omega) (by omega) (by decide) (by decide) (fun i hi => ⟨S.1 i, by rw [Nat.zero_add]; exact h3 i hi⟩) (Nat.le_of_ble_eq_true rfl) (Nat.le_of_ble_eq_true rfl) ?_
  have e : ∀ x, x ≠ m + 4 → hn V1 (m + 4) (va_cpy (V1 (m + 1)) (V1 (m + 4)) 0 0 164) x = V1 x := fun x hx => hn_ne _ _ hx
  have y1 : ∀ k, k < 164 → hn V1 (m + 4) (va_cpy (V1 (m + 1)) (V1 (m + 4)) 0 0 164) (m + 4) k = .int (S.1 k) := fun k hk => by
    rw [hn_at, cpy_in (by omega) (by omega), show 0 + (k - 0) = k by omega]
    exact h3 k hk
  generalize hn V1 (m + 4) (va_cpy (V1 (m + 1)) (V1 (m + 4)) 0 0 164) = V2 at e y1 ⊢
  refine g_aload_n dX7_save_21 rfl ?_
  refine g_iconst (v := nI 1) dX7_save_22 (by decide) ?_
  refine g_put 9 rfl (by decide) inX7 tyX7 tyX7_ok nmX7 4 (by decide) fl_X7_278 rfl dX7_save_23 h0 rfl rfl ?_
  have x4 : hu V2 m 4 (.int (nI 1)) m 4 = .int (nI 1) := hu_at _ _ _ _
  have xj : ∀ j, j ≠ 4 → hu V2 m 4 (.int (nI 1)) m j = V1 m j := fun j q => (hu_at_ne _ _ _ q).trans (congrFun (e m (by omega)) j)
  have xo : ∀ a, a ≠ m → a ≠ m + 4 → hu V2 m 4 (.int (nI 1)) a = V1 a := fun a q1 q2 => (hu_ne _ _ _ q1).trans (e a q2)
  have y2 : ∀ k, k < 164 → hu V2 m 4 (.int (nI 1)) (m + 4) k = .int (S.1 k) := fun k hk => by rw [hu_ne _ _ _ (by omega)]; exact y1 k hk
  generalize hu V2 m 4 (.int (nI 1)) = V3 at x4 xj xo y2 ⊢
  have hM3 : MB sh V3 m S.1 0 r (S.1, some S.1, S.2.2) := by
    refine ⟨⟨h0, h1, (xj 0 (by decide)).trans h2, fun k hk => by rw [xo _ (by omega) (by omega)]; exact h3 k hk⟩, ⟨⟨s2, s3, s4, s5, s6, s7⟩, ⟨?_, ?_, ?_, x4, ?_, ?_, ?_, ?_, ?_, ?_, ?_, ?_⟩, fun g hg k hk => by cases hg; exact y2 k hk, by rw [xo _ (by omega) (by omega)]; exact hp, by rw [xo _ (by omega) (by omega)]; exact ht, hc, hl⟩, (xj 7 (by decide)).trans h7, (xj 10 (by decide)).trans h10⟩
    all_goals rw [xj _ (by decide)]; assumption
  refine g_aload_n dX7_save_26 rfl ?_
  refine g_get 9 rfl (by decide) inX7 0 (by decide) fl_X7_9 dX7_save_27 h0 hM3.1.2.2.1 ?_
  refine g_iconst (v := nI 1) dX7_save_30 (by decide) ?_
  refine g_iaload dX7_save_31 h1 (vp_in_nI (by decide) (by decide)) (hM3.1.rd (k := 1) (by decide)) ?_
  exact g_iret rfl (nr_int _) dX7_save_32 (by decide) (hP V3 _ (hw.trans (fun a ha => xo a (by omega) (by omega))) (fun _ => rfl) ⟨r, hM3⟩)
set_option maxRecDepth 100000 in
theorem r_restore (h : MS sh V m S th) (hP : RI sh m sz V (sp_restore S) P) : MC E YX7_restore [.ref m] sh sz V P := by
  obtain ⟨r, hB⟩ := h
  have h0 := hB.1.1
  have v4 := hB.2.1.2.1.2.2.2.1
  unfold sp_restore at hP
  refine MC.of RX7 "restore" rfl (by decide +kernel) rfl 0 [_] rfl (Nat.le_of_ble_eq_true rfl) ?_
  show G E MX7_restore _ _ _ _ _ _ _ _ _
  refine g_aload_n dX7_restore_0 rfl ?_
  refine g_aload_n dX7_restore_1 rfl ?_
  refine g_get 9 rfl (by decide) inX7 4 (by decide) fl_X7_278 dX7_restore_2 h0 v4 ?_
  cases hsn : S.2.1 with
  | none =>
    rw [hsn] at hP
    refine g_if_eq (tgt := 12) dX7_restore_5 (by decide) (fun _ => ?_) (fun hq => absurd (rfl) hq)
    refine g_iconst (v := nI 1) dX7_restore_12 (by decide) ?_
    refine g_put 9 rfl (by decide) inX7 tyX7 tyX7_ok nmX7 7 (by decide) fl_X7_45 rfl dX7_restore_13 h0 rfl rfl ?_
    refine g_aload_n dX7_restore_16 rfl ?_
    refine g_get 9 rfl (by decide) inX7 7 (by decide) fl_X7_45 dX7_restore_17 h0 (hu_at _ _ _ _) ?_
    refine g_if_le (tgt := 25) dX7_restore_20 (by decide) (fun hq => absurd hq ((by decide))) (fun _ => ?_)
    refine g_iconst (v := nI 0) dX7_restore_23 (by decide) ?_
    exact g_iret rfl (nr_int _) dX7_restore_24 (by decide) (hP.t7 hB (fun z => absurd z (Nat.succ_ne_zero _)))
  | some g =>
    rw [hsn] at hP
    refine g_if_eq (tgt := 12) dX7_restore_5 (by decide) (fun hq => absurd hq ((fun q => absurd ((bi_t (p := (some g).isSome = true) rfl).symm.trans q) (by decide)))) (fun _ => ?_)
    refine g_iconst (v := nI 0) dX7_restore_8 (by decide) ?_
    refine g_jump (tgt := 13) dX7_restore_9 (by decide) ?_
    refine g_put 9 rfl (by decide) inX7 tyX7 tyX7_ok nmX7 7 (by decide) fl_X7_45 rfl dX7_restore_13 h0 rfl rfl ?_
    refine g_aload_n dX7_restore_16 rfl ?_
    refine g_get 9 rfl (by decide) inX7 7 (by decide) fl_X7_45 dX7_restore_17 h0 (hu_at _ _ _ _) ?_
    refine g_if_le (tgt := 25) dX7_restore_20 (by decide) (fun _ => ?_) (fun hq => absurd (Int32.le_refl _) hq)
    have hM : MB sh (hu V m 7 (.int (nI 0))) m S.1 0 r S := hB.thr
    have hw : Mf V (hu V m 7 (.int (nI 0))) m := fun a ha => hu_ne _ _ _ (by omega)
    generalize hu V m 7 (.int (nI 0)) = V1 at hM hw ⊢
    obtain ⟨⟨-, h1, h2, h3⟩, hR, h7, h10⟩ := id hM
    obtain ⟨⟨s2, s3, s4, s5, s6, s7⟩, ⟨v1, v2, v3, v4, v5, v6, v8, v9, v11, v12, v15, v16⟩, ha, hp, ht, hc, hl⟩ := id hR
    have ha := ha g hsn
    refine g_aload_n dX7_restore_25 rfl ?_
    refine g_get 9 rfl (by decide) inX7 3 (by decide) fl_X7_19 dX7_restore_26 h0 v3 ?_
    refine g_iconst (v := nI 0) dX7_restore_29 (by decide) ?_
    refine g_aload_n dX7_restore_30 rfl ?_
    refine g_get 9 rfl (by decide) inX7 0 (by decide) fl_X7_9 dX7_restore_31 h0 h2 ?_
    refine g_iconst (v := nI 0) dX7_restore_34 (by decide) ?_
    refine g_sipush (v := nI 164) dX7_restore_35 (by decide) ?_
    refine g_acopy (sp := 0) (dp := 0) (n := 164) ml_X7_48 wn_acopy wt_acopy wi_sys dX7_restore_38 s4 h1 (by omega) (by omega) (by decide) (by decide) (fun i hi => ⟨g i, by rw [Nat.zero_add]; exact ha i hi⟩) (Nat.le_of_ble_eq_true rfl) (Nat.le_of_ble_eq_true rfl) ?_
    have e : ∀ x, x ≠ m + 1 → hn V1 (m + 1) (va_cpy (V1 (m + 4)) (V1 (m + 1)) 0 0 164) x = V1 x := fun x hx => hn_ne _ _ hx
    have y1 : ∀ k, k < 164 → hn V1 (m + 1) (va_cpy (V1 (m + 4)) (V1 (m + 1)) 0 0 164) (m + 1) k = .int (g k) := fun k hk => by
      rw [hn_at, cpy_in (by omega) (by omega), show 0 + (k - 0) = k by omega]
      exact ha k hk
    generalize hn V1 (m + 1) (va_cpy (V1 (m + 4)) (V1 (m + 1)) 0 0 164) = V2 at e y1 ⊢
    refine g_aload_n dX7_restore_41 rfl ?_
    refine g_iconst (v := nI 0) dX7_restore_42 (by decide) ?_
    refine g_put 9 rfl (by decide) inX7 tyX7 tyX7_ok nmX7 6 (by decide) fl_X7_54 rfl dX7_restore_43 h0 rfl rfl ?_
    have x6 : hu V2 m 6 (.int (nI 0)) m 6 = .int (nI 0) := hu_at _ _ _ _
    have xj : ∀ j, j ≠ 6 → hu V2 m 6 (.int (nI 0)) m j = V1 m j := fun j q => (hu_at_ne _ _ _ q).trans (congrFun (e m (by omega)) j)
    have xo : ∀ a, a ≠ m → a ≠ m + 1 → hu V2 m 6 (.int (nI 0)) a = V1 a := fun a q1 q2 => (hu_ne _ _ _ q1).trans (e a q2)
    have y2 : ∀ k, k < 164 → hu V2 m 6 (.int (nI 0)) (m + 1) k = .int (g k) := fun k hk => by rw [hu_ne _ _ _ (by omega)]; exact y1 k hk
    generalize hu V2 m 6 (.int (nI 0)) = V3 at x6 xj xo y2 ⊢
    have hR3 := MR.less (n := 0) (V' := V3) hR (Nat.zero_le _) x6 xj xo
    have hM3 : MB sh V3 m g 0 r (g, some g, S.2.2.1, 0, S.2.2.2.2) := by
      rw [hsn] at hR3
      exact ⟨⟨h0, h1, (xj 0 (by decide)).trans h2, y2⟩, hR3, (xj 7 (by decide)).trans h7, (xj 10 (by decide)).trans h10⟩
    refine g_aload_n dX7_restore_46 rfl ?_
    refine g_get 9 rfl (by decide) inX7 0 (by decide) fl_X7_9 dX7_restore_47 h0 hM3.1.2.2.1 ?_
    refine g_iconst (v := nI 1) dX7_restore_50 (by decide) ?_
    refine g_iaload dX7_restore_51 h1 (vp_in_nI (by decide) (by decide)) (hM3.1.rd (k := 1) (by decide)) ?_
    exact g_iret rfl (nr_int _) dX7_restore_52 (by decide) (hP V3 _ (hw.trans (fun a ha => xo a (by omega) (by omega))) (fun _ => rfl) ⟨r, hM3⟩)
end REF16

