/-! the reference: start, roll, pass -/
section REF10
variable {E : gE} {M : gM} {P : gP} {sh : Sh} {sz : Nat} {V V' : Vl} {cu su pc : Nat} {L : List (Option Value)} {rest : List Value} {m : Nat} {f g b : Fl} {th r : Int32} {S : St}
noncomputable def do_start (f : Fl) (c : Int32) : Dq := if isC f c then (if startO f c.toNatClampNeg = (nI 0, nI 0) then (0, nI (ncv f c.toNatClampNeg), startF f c.toNatClampNeg, none) else (2, nI 0, f, some (startO f c.toNatClampNeg))) else (1, nI 0, f, none)
set_option maxRecDepth 100000 in
theorem k_doStart {c : Int32} (h : MB sh V m f 0 r S) (hI : InvB f) (hP : DP sh m sz V r S (do_start f c) P) : MC E YX7_doStart [.ref m, .int c] sh sz V P := by
  have h0 := h.1.1
  have hS := h.1
  have h44 := hI.1.2
  unfold do_start at hP
  refine MC.of RX7 "doStart" rfl (by decide +kernel) rfl 2 [_, _, none, none] rfl (Nat.le_of_ble_eq_true rfl) ?_
  show G E MX7_doStart _ _ _ _ _ _ _ _ _
  refine g_aload_n dX7_doStart_0 rfl ?_
  refine g_iload_n dX7_doStart_1 rfl ?_
  refine g_callVp (Y := YX7_isConvoy) sv_X7_134 rfl yn_X7_isConvoy 9 (by decide) rfl rfl dX7_doStart_2 (k_isConvoy hS hI pR_ok) h0 rfl rfl rfl (Nat.le_of_ble_eq_true rfl) ⟨rfl, rfl⟩ ?_
  refine g_if_ne (tgt := 14) dX7_doStart_5 (by decide) (fun b1 => ?_) (fun b1 => ?_)
  rotate_left
  · rw [if_neg (bi_eq b1)] at hP
    refine g_aload_n dX7_doStart_8 rfl ?_
    refine g_iconst (v := nI 1) dX7_doStart_9 (by decide) ?_
    refine g_callVw (Y := YX7_fails) sv_X7_88 rfl yn_X7_fails 9 (by decide) rfl rfl dX7_doStart_10 (k_fails (P := pW (fun v V' => v = .int (nI 0) ∧ V' = hu V m 7 (.int (nI 1))) sh sz) h0 ⟨_, rfl, rfl, rfl, rfl, rfl⟩) h0 rfl rfl rfl (Nat.le_of_ble_eq_true rfl) ⟨rfl, rfl⟩ (fun v V' q => ?_)
    obtain ⟨rfl, rfl⟩ := q
    exact g_iret rfl (nr_int _) dX7_doStart_13 (by decide) (hP.fail h)
  rw [if_pos (bi_ne b1)] at hP
  obtain ⟨c, hc, rfl⟩ := isC_of hI (bi_ne b1)
  rw [nI_clamp (by omega)] at hP
  obtain ⟨i0, i1, i2, i3, i4⟩ := id (hI.cv hc)
  refine g_aload_n dX7_doStart_14 rfl ?_
  refine g_iload_n dX7_doStart_15 rfl ?_
  refine g_callVp (Y := YX7_isStarted) sv_X7_144 rfl yn_X7_isStarted 9 (by decide) rfl rfl dX7_doStart_16 (k_isStarted hS hI hc pR_ok) h0 rfl rfl rfl (Nat.le_of_ble_eq_true rfl) ⟨rfl, rfl⟩ ?_
  refine g_if_eq (tgt := 30) dX7_doStart_19 (by decide) (fun b2 => ?_) (fun b2 => ?_)
  rotate_left
  · have e : startO f c = (nI 4, nI c) := if_pos (bi_ne b2)
    rw [e, if_neg (ne_code (by decide) (by decide))] at hP
    refine g_aload_n dX7_doStart_22 rfl ?_
    refine g_iconst (v := nI 2) dX7_doStart_23 (by decide) ?_
    refine g_iconst (v := nI 4) dX7_doStart_24 (by decide) ?_
    refine g_iload_n dX7_doStart_25 rfl ?_
    refine g_callVw (Y := YX7_refuse) sv_X7_126 rfl yn_X7_refuse 9 (by decide) rfl rfl dX7_doStart_26 (k_refuse (P := pW (fun v V' => v = .int (nI 0) ∧ P (.inl (some (.int (nI 0)))) sh sz V') sh sz) h (fun V' q1 q2 q3 => ⟨_, rfl, rfl, rfl, rfl, hP.ref V' q1 q2 q3⟩)) h0 rfl rfl rfl (Nat.le_of_ble_eq_true rfl) ⟨rfl, rfl⟩ (fun v V' q => ?_)
    obtain ⟨rfl, q⟩ := q
    exact g_iret rfl (nr_int _) dX7_doStart_29 (by decide) q
  have b2 := bi_eq b2
  have el : f (oC c 2) = -1 := by
    rcases i3 with ⟨-, q⟩ | ⟨-, -, l, hl, q⟩
    · exact q
    · rw [q] at b2
      exact absurd (nI_pos' (by omega)) b2
  refine g_aload_n dX7_doStart_30 rfl ?_
  refine g_iload_n dX7_doStart_31 rfl ?_
  refine g_iconst (v := nI 1) dX7_doStart_32 (by decide) ?_
  refine g_callVp (Y := YX7_convoy1) sv_X7_81 rfl yn_X7_convoy1 9 (by decide) rfl rfl dX7_doStart_33 (k_convoy1 hS (c := c) (k := 1) (by omega) (by decide) pR_ok) h0 rfl rfl rfl (Nat.le_of_ble_eq_true rfl) ⟨rfl, rfl⟩ ?_
  rw [i1]
  refine g_if_ne (tgt := 47) dX7_doStart_36 (by decide) (fun b3 => ?_) (fun b3 => ?_)
  rotate_left
  · have e : startO f c = (nI 5, nI c) := by
      unfold startO
      rw [if_neg b2, if_pos ((nI_eq (b := 0) (by omega) (by decide)).mp b3)]
    rw [e, if_neg (ne_code (by decide) (by decide))] at hP
    refine g_aload_n dX7_doStart_39 rfl ?_
    refine g_iconst (v := nI 2) dX7_doStart_40 (by decide) ?_
    refine g_iconst (v := nI 5) dX7_doStart_41 (by decide) ?_
    refine g_iload_n dX7_doStart_42 rfl ?_
    refine g_callVw (Y := YX7_refuse) sv_X7_126 rfl yn_X7_refuse 9 (by decide) rfl rfl dX7_doStart_43 (k_refuse (P := pW (fun v V' => v = .int (nI 0) ∧ P (.inl (some (.int (nI 0)))) sh sz V') sh sz) h (fun V' q1 q2 q3 => ⟨_, rfl, rfl, rfl, rfl, hP.ref V' q1 q2 q3⟩)) h0 rfl rfl rfl (Nat.le_of_ble_eq_true rfl) ⟨rfl, rfl⟩ (fun v V' q => ?_)
    obtain ⟨rfl, q⟩ := q
    exact g_iret rfl (nr_int _) dX7_doStart_46 (by decide) q
  have hn : ¬ ncv f c = 0 := fun q => b3 (by rw [q]; rfl)
  have e : startO f c = way f c (nI 0) := by
    unfold startO
    rw [if_neg b2, if_neg hn, el]
    rfl
  have hz := way_code f c (nI 0)
  obtain ⟨z1, z2, z3, z4⟩ := e100_dm hz
  rw [e] at hP
  refine g_aload_n dX7_doStart_47 rfl ?_
  refine g_iload_n dX7_doStart_48 rfl ?_
  refine g_iconst (v := nI 0) dX7_doStart_49 (by decide) ?_
  refine g_callVp (Y := YX7_barred) sv_X7_159 rfl yn_X7_barred 9 (by decide) rfl rfl dX7_doStart_50 (k_barred hS hI hc pR_ok) h0 rfl rfl rfl (Nat.le_of_ble_eq_true rfl) ⟨rfl, rfl⟩ ?_
  refine g_istore_n dX7_doStart_53 (by decide) rfl ?_
  show G _ _ _ _ _ _ _ _ _ [_, _, _, _] _
  refine g_iload_n dX7_doStart_54 rfl ?_
  refine g_if_le (tgt := 72) dX7_doStart_55 (by decide) (fun b4 => ?_) (fun b4 => ?_)
  rotate_left
  · have hne : ¬ way f c (nI 0) = (nI 0, nI 0) := fun q => b4 (by rw [z4 q]; exact Int32.le_refl _)
    rw [if_neg hne] at hP
    refine g_aload_n dX7_doStart_58 rfl ?_
    refine g_iconst (v := nI 2) dX7_doStart_59 (by decide) ?_
    refine g_iload_n dX7_doStart_60 rfl ?_
    refine g_bipush (v := nI 100) dX7_doStart_61 (by decide) ?_
    refine g_idiv dX7_doStart_63 (by decide) ?_
    refine g_iload_n dX7_doStart_64 rfl ?_
    refine g_bipush (v := nI 100) dX7_doStart_65 (by decide) ?_
    refine g_irem dX7_doStart_67 (by decide) ?_
    rw [z2, z1]
    refine g_callVw (Y := YX7_refuse) sv_X7_126 rfl yn_X7_refuse 9 (by decide) rfl rfl dX7_doStart_68 (k_refuse (P := pW (fun v V' => v = .int (nI 0) ∧ P (.inl (some (.int (nI 0)))) sh sz V') sh sz) h (fun V' q1 q2 q3 => ⟨_, rfl, rfl, rfl, rfl, hP.ref V' q1 q2 q3⟩)) h0 rfl rfl rfl (Nat.le_of_ble_eq_true rfl) ⟨rfl, rfl⟩ (fun v V' q => ?_)
    obtain ⟨rfl, q⟩ := q
    exact g_iret rfl (nr_int _) dX7_doStart_71 (by decide) q
  have he : way f c (nI 0) = (nI 0, nI 0) := Classical.byContradiction fun q => absurd b4 (Int32.not_le.mpr (z3 q))
  rw [if_pos he] at hP
  refine g_aload_n dX7_doStart_72 rfl ?_
  refine g_get 9 rfl (by decide) inX7 0 (by decide) fl_X7_9 dX7_doStart_73 h0 hS.2.2.1 ?_
  refine g_bipush (v := nI 100) dX7_doStart_76 (by decide) ?_
  refine g_bipush (v := nI 16) dX7_doStart_78 (by decide) ?_
  refine g_iload_n dX7_doStart_80 rfl ?_
  refine g_imul dX7_doStart_81 ?_
  refine g_iadd dX7_doStart_82 ?_
  refine g_iconst (v := nI 3) dX7_doStart_83 (by decide) ?_
  refine g_iadd dX7_doStart_84 ?_
  refine g_iconst (v := nI 1) dX7_doStart_85 (by decide) ?_
  rw [ix_C]
  refine g_iastore dX7_doStart_86 hS.2.1 (vp_in_nI (by unfold oC; omega) (by decide)) ?_
  rw [nI_clamp (by unfold oC; omega)]
  have hS2 := SA.wr (k := oC c 3) (x := nI 1) hS
  have hw2 := (Mw.rf (V := V) (m := m)).put (k := oC c 3) (v := .int (nI 1))
  generalize hu V (m + 1) (oC c 3) (.int (nI 1)) = V2 at hS2 hw2 ⊢
  have g2 : upd f (oC c 3) (nI 1) (oC c 2) + nI 1 = nI 0 := by
    rw [u3_out (by unfold oC; omega), el]
    rfl
  have g1 : upd f (oC c 3) (nI 1) (oC c 1) = nI (ncv (upd f (oC c 3) (nI 1)) c) := by rw [u3_ncv, u3_out (by unfold oC; omega), i1]
  refine g_aload_n dX7_doStart_87 rfl ?_
  refine g_iload_n dX7_doStart_88 rfl ?_
  refine g_iconst (v := nI 0) dX7_doStart_89 (by decide) ?_
  rw [← g2]
  refine g_callVw (Y := YX7_comesTo) sv_X7_162 rfl yn_X7_comesTo 9 (by decide) rfl rfl dX7_doStart_90 (k_comesTo (P := pW (fun v V' => (∃ x : Int32, v = .int x) ∧ Mw V2 V' m ∧ SA sh V' m (startF f c)) sh sz) hS2 (by omega) (by rw [u3_ncv]; exact i2) g1 (fun V' q1 q2 => ⟨_, rfl, rfl, rfl, ⟨_, rfl⟩, q1, q2⟩)) h0 rfl rfl rfl (Nat.le_of_ble_eq_true rfl) ⟨rfl, rfl⟩ (fun v V3 q => ?_)
  obtain ⟨⟨x, rfl⟩, q1, q2⟩ := q
  have e1 : startF f c (oC c 1) = nI (ncv f c) := by
    unfold startF advF
    rw [advN_c (Or.inr (by decide)) (by decide), u3_out (by unfold oC; omega), i1]
  refine g_istore_n dX7_doStart_93 (by decide) rfl ?_
  show G _ _ _ _ _ _ _ _ _ [_, _, _, _] _
  refine g_aload_n dX7_doStart_94 rfl ?_
  refine g_iload_n dX7_doStart_95 rfl ?_
  refine g_iconst (v := nI 1) dX7_doStart_96 (by decide) ?_
  refine g_callVp (Y := YX7_convoy1) sv_X7_81 rfl yn_X7_convoy1 9 (by decide) rfl rfl dX7_doStart_97 (k_convoy1 q2 (c := c) (k := 1) (by omega) (by decide) pR_ok) h0 rfl rfl rfl (Nat.le_of_ble_eq_true rfl) ⟨rfl, rfl⟩ ?_
  rw [e1]
  exact g_iret rfl (nr_int _) dX7_doStart_100 (by decide) (hP.row h (hw2.trans q1) q2)
noncomputable def do_roll (f : Fl) (c : Int32) : Dq := if isC f c then (if rollO f c.toNatClampNeg = (nI 0, nI 0) then (0, nI (onR (advF f c.toNatClampNeg) c.toNatClampNeg), advF f c.toNatClampNeg, none) else (2, nI 0, f, some (rollO f c.toNatClampNeg))) else (1, nI 0, f, none)
set_option maxRecDepth 100000 in
theorem k_doRoll {c : Int32} (h : MB sh V m f 0 r S) (hI : InvB f) (hP : DP sh m sz V r S (do_roll f c) P) : MC E YX7_doRoll [.ref m, .int c] sh sz V P := by
  have h0 := h.1.1
  have hS := h.1
  have h44 := hI.1.2
  unfold do_roll at hP
  refine MC.of RX7 "doRoll" rfl (by decide +kernel) rfl 1 [_, _, none] rfl (Nat.le_of_ble_eq_true rfl) ?_
  show G E MX7_doRoll _ _ _ _ _ _ _ _ _
  refine g_aload_n dX7_doRoll_0 rfl ?_
  refine g_iload_n dX7_doRoll_1 rfl ?_
  refine g_callVp (Y := YX7_isConvoy) sv_X7_134 rfl yn_X7_isConvoy 9 (by decide) rfl rfl dX7_doRoll_2 (k_isConvoy hS hI pR_ok) h0 rfl rfl rfl (Nat.le_of_ble_eq_true rfl) ⟨rfl, rfl⟩ ?_
  refine g_if_ne (tgt := 14) dX7_doRoll_5 (by decide) (fun b1 => ?_) (fun b1 => ?_)
  rotate_left
  · rw [if_neg (bi_eq b1)] at hP
    refine g_aload_n dX7_doRoll_8 rfl ?_
    refine g_iconst (v := nI 1) dX7_doRoll_9 (by decide) ?_
    refine g_callVw (Y := YX7_fails) sv_X7_88 rfl yn_X7_fails 9 (by decide) rfl rfl dX7_doRoll_10 (k_fails (P := pW (fun v V' => v = .int (nI 0) ∧ V' = hu V m 7 (.int (nI 1))) sh sz) h0 ⟨_, rfl, rfl, rfl, rfl, rfl⟩) h0 rfl rfl rfl (Nat.le_of_ble_eq_true rfl) ⟨rfl, rfl⟩ (fun v V' q => ?_)
    obtain ⟨rfl, rfl⟩ := q
    exact g_iret rfl (nr_int _) dX7_doRoll_13 (by decide) (hP.fail h)
  rw [if_pos (bi_ne b1)] at hP
  obtain ⟨c, hc, rfl⟩ := isC_of hI (bi_ne b1)
  rw [nI_clamp (by omega)] at hP
  obtain ⟨i0, i1, i2, i3, i4⟩ := id (hI.cv hc)
  have hz := roll_code f (c := c) (by omega)
  obtain ⟨z1, z2, z3, z4⟩ := e100_dm hz
  refine g_aload_n dX7_doRoll_14 rfl ?_
  refine g_iload_n dX7_doRoll_15 rfl ?_
  refine g_callVp (Y := YX7_whyNot) sv_X7_171 rfl yn_X7_whyNot 9 (by decide) rfl rfl dX7_doRoll_16 (k_whyNot hS hI hc pR_ok) h0 rfl rfl rfl (Nat.le_of_ble_eq_true rfl) ⟨rfl, rfl⟩ ?_
  refine g_istore_n dX7_doRoll_19 (by decide) rfl ?_
  show G _ _ _ _ _ _ _ _ _ [_, _, _] _
  refine g_iload_n dX7_doRoll_20 rfl ?_
  refine g_if_le (tgt := 40) dX7_doRoll_21 (by decide) (fun b4 => ?_) (fun b4 => ?_)
  rotate_left
  · have hne : ¬ rollO f c = (nI 0, nI 0) := fun q => b4 (by rw [z4 q]; exact Int32.le_refl _)
    rw [if_neg hne] at hP
    refine g_aload_n dX7_doRoll_24 rfl ?_
    refine g_iconst (v := nI 2) dX7_doRoll_25 (by decide) ?_
    refine g_iload_n dX7_doRoll_26 rfl ?_
    refine g_bipush (v := nI 100) dX7_doRoll_27 (by decide) ?_
    refine g_idiv dX7_doRoll_29 (by decide) ?_
    refine g_iload_n dX7_doRoll_30 rfl ?_
    refine g_bipush (v := nI 100) dX7_doRoll_31 (by decide) ?_
    refine g_irem dX7_doRoll_33 (by decide) ?_
    rw [z2, z1]
    refine g_callVw (Y := YX7_refuse) sv_X7_126 rfl yn_X7_refuse 9 (by decide) rfl rfl dX7_doRoll_34 (k_refuse (P := pW (fun v V' => v = .int (nI 0) ∧ P (.inl (some (.int (nI 0)))) sh sz V') sh sz) h (fun V' q1 q2 q3 => ⟨_, rfl, rfl, rfl, rfl, hP.ref V' q1 q2 q3⟩)) h0 rfl rfl rfl (Nat.le_of_ble_eq_true rfl) ⟨rfl, rfl⟩ (fun v V' q => ?_)
    obtain ⟨rfl, q⟩ := q
    refine g_jump (tgt := 53) dX7_doRoll_37 (by decide) ?_
    exact g_iret rfl (nr_int _) dX7_doRoll_53 (by decide) q
  have he : rollO f c = (nI 0, nI 0) := Classical.byContradiction fun q => absurd b4 (Int32.not_le.mpr (z3 q))
  rw [if_pos he] at hP
  obtain ⟨l0, hd, -⟩ := roll_0 hI hc he
  obtain ⟨l, hl, el⟩ := roll_lead hI hc l0 hd
  have hlp : 0 ≤ f (oC c 2) + nI 1 := by rw [el, nI_add]; exact nI_pos' (by omega)
  rw [onR_adv hlp] at hP
  refine g_aload_n dX7_doRoll_40 rfl ?_
  refine g_iload_n dX7_doRoll_41 rfl ?_
  refine g_aload_n dX7_doRoll_42 rfl ?_
  refine g_iload_n dX7_doRoll_43 rfl ?_
  refine g_iconst (v := nI 2) dX7_doRoll_44 (by decide) ?_
  refine g_callVp (Y := YX7_convoy1) sv_X7_81 rfl yn_X7_convoy1 9 (by decide) rfl rfl dX7_doRoll_45 (k_convoy1 hS (c := c) (k := 2) (by omega) (by decide) pR_ok) h0 rfl rfl rfl (Nat.le_of_ble_eq_true rfl) ⟨rfl, rfl⟩ ?_
  refine g_iconst (v := nI 1) dX7_doRoll_48 (by decide) ?_
  refine g_iadd dX7_doRoll_49 ?_
  refine g_callVw (Y := YX7_comesTo) sv_X7_162 rfl yn_X7_comesTo 9 (by decide) rfl rfl dX7_doRoll_50 (k_comesTo (P := pW (fun v V' => v = .int (nI (fb_ct (fun k => decide (isM (mw (f (oC c 2) + nI 1) (f (oC c 0)) k))) (ncv f c))) ∧ Mw V V' m ∧ SA sh V' m (advF f c)) sh sz) hS (by omega) i2 i1 (fun V' q1 q2 => ⟨_, rfl, rfl, rfl, rfl, q1, q2⟩)) h0 rfl rfl rfl (Nat.le_of_ble_eq_true rfl) ⟨rfl, rfl⟩ (fun v V3 q => ?_)
  obtain ⟨rfl, q1, q2⟩ := q
  exact g_iret rfl (nr_int _) dX7_doRoll_53 (by decide) (hP.row h q1 q2)
noncomputable def do_pass (f : Fl) (d : Int32) : Dq := if isDay d then (0, goodN f - goodN (passF f d.toNatClampNeg), passF f d.toNatClampNeg, none) else (1, nI 0, f, none)
theorem k_doPass {d : Int32} (h : MB sh V m f 0 r S) (hI : InvB f) (hP : DP sh m sz V r S (do_pass f d) P) : MC E YX7_doPass [.ref m, .int d] sh sz V P := by
  have h0 := h.1.1
  have hS := h.1
  unfold do_pass at hP
  refine MC.of RX7 "doPass" rfl (by decide +kernel) rfl 2 [_, _, none, none] rfl (Nat.le_of_ble_eq_true rfl) ?_
  show G E MX7_doPass _ _ _ _ _ _ _ _ _
  refine g_iload_n dX7_doPass_0 rfl ?_
  refine g_iconst (v := nI 1) dX7_doPass_1 (by decide) ?_
  refine g_bipush (v := nI 30) dX7_doPass_2 (by decide) ?_
  refine g_callSp (Y := YX7_in) ss_X7_84 yn_X7_in dX7_doPass_4 (k_in pR_ok) rfl rfl rfl (Nat.le_of_ble_eq_true rfl) ⟨rfl, rfl⟩ ?_
  refine g_if_ne (tgt := 16) dX7_doPass_7 (by decide) (fun b1 => ?_) (fun b1 => ?_)
  rotate_left
  · rw [if_neg (bi_eq b1)] at hP
    refine g_aload_n dX7_doPass_10 rfl ?_
    refine g_iconst (v := nI 1) dX7_doPass_11 (by decide) ?_
    refine g_callVw (Y := YX7_fails) sv_X7_88 rfl yn_X7_fails 9 (by decide) rfl rfl dX7_doPass_12 (k_fails (P := pW (fun v V' => v = .int (nI 0) ∧ V' = hu V m 7 (.int (nI 1))) sh sz) h0 ⟨_, rfl, rfl, rfl, rfl, rfl⟩) h0 rfl rfl rfl (Nat.le_of_ble_eq_true rfl) ⟨rfl, rfl⟩ (fun v V' q => ?_)
    obtain ⟨rfl, rfl⟩ := q
    exact g_iret rfl (nr_int _) dX7_doPass_15 (by decide) (hP.fail h)
  have b2 := bi_ne b1
  rw [if_pos b2] at hP
  obtain ⟨n, hn, rfl⟩ : ∃ n, n < 31 ∧ d = nI n := in_nI (Int32.le_trans (by decide) b2.1) (Int32.lt_of_le_of_lt b2.2 (by decide)) (by decide)
  rw [nI_clamp (by omega)] at hP
  refine g_aload_n dX7_doPass_16 rfl ?_
  refine g_callVp (Y := YX7_goodMany) sv_X7_201 rfl yn_X7_goodMany 9 (by decide) rfl rfl dX7_doPass_17 (k_goodMany hS pR_ok) h0 rfl rfl rfl (Nat.le_of_ble_eq_true rfl) ⟨rfl, rfl⟩ ?_
  refine g_istore_n dX7_doPass_20 (by decide) rfl ?_
  show G _ _ _ _ _ _ _ _ _ [_, _, _, _] _
  refine g_iconst (v := nI 0) dX7_doPass_21 (by decide) ?_
  refine g_istore_n dX7_doPass_22 (by decide) rfl ?_
  show G _ _ _ _ _ _ _ _ _ [_, _, _, _] _
  suffices K : ∀ (e i : Nat), i + e = n → ∀ V1, Mw V V1 m → SA sh V1 m (passF f i) → G E MX7_doPass P sh sz V1 0 0 23 [some (.ref m), some (.int (nI n)), some (.int (goodN f)), some (.int (nI i))] [] from K n 0 (Nat.zero_add _) V Mw.rf hS
  intro e
  induction e with
  | zero =>
    intro i hi V1 hw hS1
    have hi : i = n := by omega
    subst hi
    refine g_iload_n dX7_doPass_23 rfl ?_
    refine g_iload_n dX7_doPass_24 rfl ?_
    refine g_icmp_ge (tgt := 38) dX7_doPass_25 (by decide) (fun _ => ?_) (fun hq => absurd (Int32.le_refl _) hq)
    refine g_iload_n dX7_doPass_38 rfl ?_
    refine g_aload_n dX7_doPass_39 rfl ?_
    refine g_callVp (Y := YX7_goodMany) sv_X7_201 rfl yn_X7_goodMany 9 (by decide) rfl rfl dX7_doPass_40 (k_goodMany hS1 pR_ok) h0 rfl rfl rfl (Nat.le_of_ble_eq_true rfl) ⟨rfl, rfl⟩ ?_
    refine g_isub dX7_doPass_43 ?_
    exact g_iret rfl (nr_int _) dX7_doPass_44 (by decide) (hP.row h hw hS1)
  | succ e ih =>
    intro i hi V1 hw hS1
    refine g_iload_n dX7_doPass_23 rfl ?_
    refine g_iload_n dX7_doPass_24 rfl ?_
    refine g_icmp_ge (tgt := 38) dX7_doPass_25 (by decide) (fun hq => absurd hq (nI_ge (by omega) (by omega))) (fun _ => ?_)
    refine g_aload_n dX7_doPass_28 rfl ?_
    refine g_callVv (Y := YX7_goDay) (Q := (fun V2 => Mw V1 V2 m ∧ SA sh V2 m (passF f (i + 1)))) sv_X7_205 rfl yn_X7_goDay 9 (by decide) rfl rfl dX7_doPass_29 (k_goDay hS1 (passF_inv hI) (fun V2 q1 q2 => ⟨rfl, rfl, rfl, q1, q2⟩)) h0 rfl rfl rfl (Nat.le_of_ble_eq_true rfl) ⟨rfl, rfl⟩ (fun V2 q => ?_)
    refine g_iinc dX7_doPass_32 rfl (by first | exact nI_inc _ | rfl) (by decide) rfl ?_
    show G _ _ _ _ _ _ _ _ _ [_, _, _, _] _
    refine g_jump (tgt := 23) dX7_doPass_35 (by decide) ?_
    exact ih (i + 1) (by omega) V2 (hw.trans q.1) q.2
end REF10

