/-! the class' methods: trucks and convoys (1) -/
section METH2
variable {E : gE} {M : gM} {P : gP} {sh sh' : Sh} {sz : Nat} {V V' : Vl} {cu su pc : Nat} {L : List (Option Value)} {rest : List Value} {x : Nat} {S : St} {f : Fl} {sn : Option Fl} {H : Nat → Fl} {cn : Nat} {tx : Nat → Int32} {ln : Nat} {er : Int32} {rf : Int32 × Int32}
theorem CAt.in (hC : CAt sh V x f sn H cn tx ln er rf) (hW : Wf sh sz) : x + 284 ≤ sz := by
  obtain ⟨-, -, -, -, -, ⟨⟨-, -, -, -, -, h5⟩, -⟩⟩ := hC
  refine Nat.le_of_not_lt fun q => ?_
  have := hW (x + 278 + 5) (by omega)
  rw [h5] at this
  cases this
/-- the heap has grown -/
theorem CAt.grow (hC : CAt sh V x f sn H cn tx ln er rf) (hW : Wf sh sz) (he : ∀ a, a < sz → sh' a = sh a ∧ V' a = V a) : CAt sh' V' x f sn H cn tx ln er rf := by
  have hz := hC.in hW
  obtain ⟨hO, hR0, ⟨g1, hT1⟩, ⟨g2, hS2, hS3⟩, ⟨K, nx, hH, hr⟩, hOr⟩ := hC
  have ht : ∀ q, (sh q).1 = 8 → sh' q = sh q ∧ V' q = V q := fun q hq => he q (Nat.lt_of_not_le fun z => by
    rw [hW q z] at hq
    cases hq)
  have mv : ∀ {r g}, RoadAt sh V r g → r + 25 ≤ x + 284 → RoadAt sh' V' r g := fun h hr => h.move (fun a h1 h2 => he a (by omega)) ht
  refine ⟨?_, mv hR0 (by omega), ⟨g1, mv hT1 (by omega)⟩, ⟨g2, mv hS2 (by omega), hS3⟩, ⟨K, nx, ?_, hr⟩, ?_⟩
  · unfold ObAt at hO ⊢
    rw [(he x (by omega)).1, (he x (by omega)).2]
    exact hO
  · obtain ⟨s0, s1, v0, v1, v2, hn, hc, hq⟩ := hH
    exact ⟨by rw [(he _ (by omega)).1]; exact s0, by rw [(he _ (by omega)).1]; exact s1, by rw [(he _ (by omega)).2]; exact v0, by rw [(he _ (by omega)).2]; exact v1, by rw [(he _ (by omega)).2]; exact v2, hn, hc, fun i hi => ⟨by rw [(he _ (by omega)).2]; exact (hq i hi).1, mv (hq i hi).2 (by omega)⟩⟩
  · obtain ⟨⟨s0, s1, s2, s3, s4, s5⟩, ⟨v0, v1, v4, v5, v6, v7⟩, hn, ht⟩ := hOr
    refine ⟨⟨?_, ?_, ?_, ?_, ?_, ?_⟩, ⟨?_, ?_, ?_, ?_, ?_, ?_⟩, hn, fun k hk => ?_⟩
    all_goals first | rw [(he _ (by omega)).1]; assumption | rw [(he _ (by omega)).2]; first | assumption | exact ht k hk
theorem Wf.new {t : Nat × Nat} (hW : Wf sh sz) : Wf (hs sh sz t) (sz + 1) := fun a ha => by
  rw [hs_ne _ _ (by omega)]
  exact hW a (by omega)
theorem trF_out {k i : Nat} {w ax : Int32} (h1 : i ≠ oR k) (h2 : i ≠ oR k + 1) (h3 : i ≠ 3) : trF f k w ax i = f i := by
  unfold trF
  rw [pk_un h3, pk_un h2, pk_un h1]
theorem free_of {a : Nat} (h : ¬ freeF f a < 0) : ∃ k, k < 5 ∧ freeF f a = nI k ∧ f (oR (a * 5 + k)) = 0 := by
  unfold freeF fstI at h ⊢
  by_cases q : fa_first (fun k => decide (f (oR (a * 5 + k)) = 0)) 5 < 5
  · rw [if_pos q]
    exact ⟨_, q, rfl, of_decide_eq_true (fa_first_yes (fun k => decide (f (oR (a * 5 + k)) = 0)) 5 q)⟩
  · rw [if_neg q] at h
    exact absurd (by decide) h
theorem isTk_w {kd w ax : Int32} (h : isTk kd w ax) : ¬ w = 0 := fun q => by
  have := h.2.1.1
  rw [q] at this
  exact absurd this (by decide)
set_option maxRecDepth 100000 in
theorem m_truck {kd w ax r : Int32} (hC : CS sh V x S) (hW : Wf sh sz) (hP : CP x sh sz V [xIO, xIA, xUO] (sp_truck S kd w ax r) P) : MC E YX6_truck [.ref x, .int kd, .int w, .int ax, .int r] sh sz V P := by
  obtain ⟨o0, o1, o2, o3, o4, o5, o6, o7, o8⟩ := hC.1
  have hR0 : RoadAt sh V (x + 1) S.1 := hC.2.1
  have hz : x + 284 ≤ sz := CAt.in hC hW
  unfold sp_truck at hP
  refine MC.of RX6 "truck" rfl (by decide +kernel) rfl 1 [_, _, _, _, _, none] rfl (Nat.le_of_ble_eq_true rfl) ?_
  show G E MX6_truck _ _ _ _ _ _ _ _ _
  refine g_iload dX6_truck_0 rfl ?_
  refine g_callSp (Y := YX6_isRow) ss_X6_132 yn_X6_isRow dX6_truck_2 (c_isRow pR_ok) rfl rfl rfl (Nat.le_of_ble_eq_true rfl) ⟨rfl, rfl⟩ ?_
  refine g_if_ne (tgt := 18) dX6_truck_5 (by decide) (fun b1 => ?_) (fun b1 => ?_)
  rotate_left
  · rw [if_neg (bi_eq b1)] at hP
    refine g_throw (names := tn_IndexOutOfBoundsException) (text := "no such row") rfl (by decide +kernel) cl_X6_75 ini_IndexOutOfBoundsException (by decide +kernel) ta_X6_79 to_X6_79 dX6_truck_8 dX6_truck_11 dX6_truck_12 dX6_truck_14 dX6_truck_17 rfl (by decide) (by decide) (by decide) (hP.thr hW hC rfl)
  have b2 := bi_ne b1
  rw [if_pos b2] at hP
  obtain ⟨a, ha, rfl⟩ := in_nI b2.1 b2.2 (by decide)
  rw [nI_clamp (by omega)] at hP
  have K : ¬ isTk kd w ax → G E MX6_truck P sh sz V 0 0 49 [some (.ref x), some (.int kd), some (.int w), some (.int ax), some (.int (nI a)), none] [] := by
    intro q
    rw [if_neg q] at hP
    refine g_throw (names := tn_IllegalArgumentException) (text := "the kind, the weight or the axles are out of range") rfl (by decide +kernel) cl_X6_51 ini_IllegalArgumentException (by decide +kernel) ta_X6_55 to_X6_55 dX6_truck_49 dX6_truck_52 dX6_truck_53 dX6_truck_55 dX6_truck_58 rfl (by decide) (by decide) (by decide) (hP.thr hW hC rfl)
  refine g_iload_n dX6_truck_18 rfl ?_
  refine g_if_lt (tgt := 49) dX6_truck_19 (by decide) (fun c1 => ?_) (fun c1 => ?_)
  · exact K (fun q => absurd q.1.1 (Int32.not_le.mpr c1))
  refine g_iload_n dX6_truck_22 rfl ?_
  refine g_iconst (v := nI 1) dX6_truck_23 (by decide) ?_
  refine g_icmp_gt (tgt := 49) dX6_truck_24 (by decide) (fun c2 => ?_) (fun c2 => ?_)
  · exact K (fun q => absurd q.1.2 (Int32.not_le.mpr c2))
  refine g_iload_n dX6_truck_27 rfl ?_
  refine g_iconst (v := nI 5) dX6_truck_28 (by decide) ?_
  refine g_icmp_lt (tgt := 49) dX6_truck_29 (by decide) (fun c3 => ?_) (fun c3 => ?_)
  · exact K (fun q => absurd q.2.1.1 (Int32.not_le.mpr c3))
  refine g_iload_n dX6_truck_32 rfl ?_
  refine g_bipush (v := nI 60) dX6_truck_33 (by decide) ?_
  refine g_icmp_gt (tgt := 49) dX6_truck_35 (by decide) (fun c4 => ?_) (fun c4 => ?_)
  · exact K (fun q => absurd q.2.1.2 (Int32.not_le.mpr c4))
  refine g_iload_n dX6_truck_38 rfl ?_
  refine g_iconst (v := nI 2) dX6_truck_39 (by decide) ?_
  refine g_icmp_lt (tgt := 49) dX6_truck_40 (by decide) (fun c5 => ?_) (fun c5 => ?_)
  · exact K (fun q => absurd q.2.2.1 (Int32.not_le.mpr c5))
  refine g_iload_n dX6_truck_43 rfl ?_
  refine g_bipush (v := nI 6) dX6_truck_44 (by decide) ?_
  refine g_icmp_le (tgt := 59) dX6_truck_46 (by decide) (fun c6 => ?_) (fun c6 => ?_)
  rotate_left
  · exact K (fun q => absurd q.2.2.2 c6)
  have tk : isTk kd w ax := ⟨⟨Int32.not_lt.mp c1, Int32.not_lt.mp c2⟩, ⟨Int32.not_lt.mp c3, Int32.not_lt.mp c4⟩, ⟨Int32.not_lt.mp c5, c6⟩⟩
  rw [if_pos tk] at hP
  refine g_aload_n dX6_truck_59 rfl ?_
  refine g_get 8 rfl (by decide) inX6 0 (by decide) fl_X6_12 dX6_truck_60 o0 o1 ?_
  refine g_iload dX6_truck_63 rfl ?_
  refine g_callVp (Y := YX4_freePlace) sv_X6_139 rfl yn_X4_freePlace 6 (by decide) rfl rfl dX6_truck_65 (c_freePlace hR0 ha pR_ok) hR0.1.1 rfl rfl rfl (Nat.le_of_ble_eq_true rfl) ⟨rfl, rfl⟩ ?_
  refine g_istore dX6_truck_68 (by decide) rfl ?_
  show G _ _ _ _ _ _ _ _ _ [_, _, _, _, _, _] _
  refine g_iload dX6_truck_70 rfl ?_
  refine g_if_ge (tgt := 95) dX6_truck_72 (by decide) (fun d1 => ?_) (fun d1 => ?_)
  rotate_left
  · rw [if_pos (Int32.not_le.mp d1)] at hP
    refine g_aload_n dX6_truck_75 rfl ?_
    refine g_iconst (v := nI 2) dX6_truck_76 (by decide) ?_
    refine g_iload dX6_truck_77 rfl ?_
    refine g_callSp (Y := YX6_refusalFor) ss_X6_142 yn_X6_refusalFor dX6_truck_79 (c_refusalFor pR_ok) rfl rfl rfl (Nat.le_of_ble_eq_true rfl) ⟨rfl, rfl⟩ ?_
    refine g_put 8 rfl (by decide) inX6 tyX6 tyX6_ok nmX6 7 (by decide) fl_X6_44 rfl dX6_truck_82 o0 rfl rfl ?_
    have hC2 := CAt.ref (z := (nI 2, nI a)) hC
    refine g_throw (names := tn_UnsupportedOperationException) (text := "the row is full") rfl (by decide +kernel) cl_X6_146 ini_UnsupportedOperationException (by decide +kernel) ta_X6_150 to_X6_150 dX6_truck_85 dX6_truck_88 dX6_truck_89 dX6_truck_91 dX6_truck_94 rfl (by decide) (by decide) (by decide) (hP.thrW hW (fun b hb => hu_ne _ _ _ (by omega)) hC2 rfl)
  obtain ⟨k, hk, ek, h0⟩ := free_of (Int32.not_lt.mpr d1)
  rw [if_neg (Int32.not_lt.mpr d1)] at hP
  rw [ek] at hP ⊢
  rw [nI_clamp (by omega)] at hP
  refine g_iload_n dX6_truck_95 rfl ?_
  refine g_iload dX6_truck_96 rfl ?_
  refine g_icmp_eq (tgt := 121) dX6_truck_98 (by decide) (fun d2 => ?_) (fun d2 => ?_)
  rotate_left
  · rw [if_neg d2] at hP
    refine g_aload_n dX6_truck_101 rfl ?_
    refine g_iconst (v := nI 3) dX6_truck_102 (by decide) ?_
    refine g_iload dX6_truck_103 rfl ?_
    refine g_callSp (Y := YX6_refusalFor) ss_X6_142 yn_X6_refusalFor dX6_truck_105 (c_refusalFor pR_ok) rfl rfl rfl (Nat.le_of_ble_eq_true rfl) ⟨rfl, rfl⟩ ?_
    refine g_put 8 rfl (by decide) inX6 tyX6 tyX6_ok nmX6 7 (by decide) fl_X6_44 rfl dX6_truck_108 o0 rfl rfl ?_
    have hC2 := CAt.ref (z := (nI 3, nI a)) hC
    refine g_throw (names := tn_UnsupportedOperationException) (text := "the row is for the other kind") rfl (by decide +kernel) cl_X6_146 ini_UnsupportedOperationException (by decide +kernel) ta_X6_150 to_X6_150 dX6_truck_111 dX6_truck_114 dX6_truck_115 dX6_truck_117 dX6_truck_120 rfl (by decide) (by decide) (by decide) (hP.thrW hW (fun b hb => hu_ne _ _ _ (by omega)) hC2 rfl)
  subst d2
  rw [if_pos rfl] at hP
  refine g_aload_n dX6_truck_121 rfl ?_
  refine g_get 8 rfl (by decide) inX6 4 (by decide) fl_X6_29 dX6_truck_122 o0 o5 ?_
  refine g_aload_n dX6_truck_125 rfl ?_
  refine g_get 8 rfl (by decide) inX6 0 (by decide) fl_X6_12 dX6_truck_126 o0 o1 ?_
  refine g_callVv (Y := YX1_keep) (Q := (fun V1 => (∀ a, ¬ (x ≤ a ∧ a < x + 284) → V1 a = V a) ∧ CS sh V1 x (S.1, S.2.1, pH S.2.2.1 S.2.2.2.1 S.1, pC S.2.2.2.1, S.2.2.2.2))) sv_X6_58 rfl yn_X1_keep 3 (by decide) rfl rfl dX6_truck_129 (c_keepC hC (fun V1 q1 q2 => ⟨rfl, rfl, rfl, q1, q2⟩)) (by obtain ⟨-, -, -, -, ⟨K, nx, hH, -⟩, -⟩ := hC; exact hH.1) rfl rfl rfl (Nat.le_of_ble_eq_true rfl) ⟨rfl, rfl⟩ (fun V1 q => ?_)
  obtain ⟨q1, q2⟩ := q
  obtain ⟨p0, p1, p2, p3, p4, p5, p6, p7, p8⟩ := q2.1
  have hR : RoadAt sh V1 (x + 1) S.1 := q2.2.1
  refine g_aload_n dX6_truck_132 rfl ?_
  refine g_get 8 rfl (by decide) inX6 0 (by decide) fl_X6_12 dX6_truck_133 p0 p1 ?_
  refine g_get 6 rfl (by decide) inX4 3 (by decide) fl_X6_153 dX6_truck_136 hR.1.1 hR.2.1.2.2.2.1 ?_
  refine g_iload dX6_truck_139 rfl ?_
  refine g_iconst (v := nI 5) dX6_truck_141 (by decide) ?_
  refine g_imul dX6_truck_142 ?_
  refine g_iload dX6_truck_143 rfl ?_
  refine g_iadd dX6_truck_145 ?_
  refine g_new 7 rfl (by decide) inX5 tyX5 tyX5_ok cl_X6_157 new_X5 ini_X5 dX6_truck_146 (by decide) ?_
  have ex : (hs sh sz (8, 3) sz).1 = 8 := by rw [hs_at]
  refine g_dup dX6_truck_149 rfl ?_
  refine g_iload_n dX6_truck_150 rfl ?_
  refine g_iload_n dX6_truck_151 rfl ?_
  refine g_iload_n dX6_truck_152 rfl ?_
  refine g_callI (Y := YX5_init) rfl wc_X5_init ml_X6_159 wi_X5_init ini_X5 rfl yn_X5_init dX6_truck_153 (c_Truck_init (P := fun o sh' sz' V' => o = .inl none ∧ sh' = hs sh sz (8, 3) ∧ sz' = sz + 1 ∧ (∀ a, a ≠ sz → V' a = V1 a) ∧ TrAt (hs sh sz (8, 3)) V' sz (nI a, w, ax)) ex (fun V' q1 q2 => ⟨rfl, rfl, rfl, fun a ha => (q1 a ha).trans (hn_ne _ _ ha), q2⟩)) rfl rfl (gRoom_of rfl) (Nat.le_of_ble_eq_true rfl) (fun _ _ _ _ q => by rw [q.2.2.1]; omega) (fun _ _ _ _ q => nomatch q.1) (fun v sh' sz' V2 q => ?_)
  obtain ⟨q0, rfl, rfl, r1, r2⟩ := q
  cases q0
  have hG : CAt (hs sh sz (8, 3)) V2 x S.1 S.2.1 (pH S.2.2.1 S.2.2.2.1 S.1) (pC S.2.2.2.1) S.2.2.2.2.1 S.2.2.2.2.2.1 S.2.2.2.2.2.2.1 S.2.2.2.2.2.2.2 := CAt.grow q2 hW (fun b hb => ⟨hs_ne _ _ (by omega), r1 b (by omega)⟩)
  obtain ⟨p0, p1, p2, p3, p4, p5, p6, p7, p8⟩ := hG.1
  have hR : RoadAt (hs sh sz (8, 3)) V2 (x + 1) S.1 := hG.2.1
  rw [ix5]
  refine g_aastore 24 7 rfl (by decide) rfl (by decide) (by decide) dX6_truck_156 hR.1.2.2.2.1 ex (vp_in_nI (by omega) (by decide)) ?_
  rw [nI_clamp (by omega)]
  have hR1 : RoadAt (hs sh sz (8, 3)) (hu V2 (x + 1 + 3) (a * 5 + k) (.ref sz)) (x + 1) (upd (upd S.1 (oR (a * 5 + k)) w) (oR (a * 5 + k) + 1) ax) := by
    have e1 : upd (upd S.1 (oR (a * 5 + k)) w) (oR (a * 5 + k) + 1) ax (oR (a * 5 + k)) = w := by rw [pk_un (by omega), pk_us]
    refine RoadAt.row hR (k := a * 5 + k) (by omega) (fun b hb => hu_ne _ _ _ hb) (fun j hj => hu_at_ne _ _ _ hj) ⟨fun q => absurd (e1.symm.trans q) (isTk_w tk), fun _ => ⟨sz, hu_at _ _ _ _, ?_⟩⟩ (fun i h1 h2 => by rw [pk_un h2, pk_un h1])
    rw [e1, pk_us, show (a * 5 + k) / 5 = a by omega]
    obtain ⟨t0, t1, t2, t3⟩ := r2
    have e : hu V2 (x + 1 + 3) (a * 5 + k) (.ref sz) sz = V2 sz := hu_ne _ _ _ (by omega)
    exact ⟨t0, by rw [e]; exact t1, by rw [e]; exact t2, by rw [e]; exact t3⟩
  have hF : Fr V2 (hu V2 (x + 1 + 3) (a * 5 + k) (.ref sz)) (x + 1) := Fr.rf.put (by omega) (by omega)
  generalize hu V2 (x + 1 + 3) (a * 5 + k) (.ref sz) = V3 at hR1 hF ⊢
  have v3x : V3 x = V2 x := hF x (by omega)
  rw [← v3x] at p1
  refine g_aload_n dX6_truck_157 rfl ?_
  refine g_get 8 rfl (by decide) inX6 0 (by decide) fl_X6_12 dX6_truck_158 p0 p1 ?_
  refine g_dup dX6_truck_161 rfl ?_
  refine g_get 6 rfl (by decide) inX4 7 (by decide) fl_X6_162 dX6_truck_162 hR1.1.1 hR1.2.1.2.2.2.2.2.2.2.1 ?_
  refine g_iload_n dX6_truck_165 rfl ?_
  refine g_iadd dX6_truck_166 ?_
  refine g_put 6 rfl (by decide) inX4 tyX4 tyX4_ok nmX4 7 (by decide) fl_X6_162 rfl dX6_truck_167 hR1.1.1 rfl rfl ?_
  have e3 : upd (upd S.1 (oR (a * 5 + k)) w) (oR (a * 5 + k) + 1) ax 3 = S.1 3 := by rw [pk_un (by unfold oR; omega), pk_un (by unfold oR; omega)]
  rw [e3]
  have hR2 := RoadAt.fld (i := 3) (s := 7) (x := S.1 3 + w) (by omega) hR1
  have hP := (hP (hs sh sz (8, 3)) (sz + 1) (hu V3 (x + 1) 7 (.int (S.1 3 + w))) ⟨by omega, fun b hb => ⟨hs_ne _ _ (by omega), fun hb2 => (hu_ne _ _ _ (by omega)).trans ((hF b (by omega)).trans ((r1 b (by omega)).trans (q1 b hb2)))⟩, hW.new⟩ (CAt.now hG (hF.put (by omega) (by omega)) hR2)).1 rfl
  refine g_iload dX6_truck_170 rfl ?_
  exact g_iret rfl (nr_int _) dX6_truck_172 (by decide) hP
theorem m_inRow {r p w : Int32} (hC : CS sh V x S) (hW : Wf sh sz) (hP : CP x sh sz V [xIO, nsC, xIA] (sp_inRow S r p w) P) : MC E YX6_inRow [.ref x, .int r, .int p, .int w] sh sz V P := by
  obtain ⟨o0, o1, o2, o3, o4, o5, o6, o7, o8⟩ := hC.1
  have hR : RoadAt sh V (x + 1) S.1 := hC.2.1
  unfold sp_inRow at hP
  refine MC.of RX6 "inRow" rfl (by decide +kernel) rfl 1 [_, _, _, _, none] rfl (Nat.le_of_ble_eq_true rfl) ?_
  show G E MX6_inRow _ _ _ _ _ _ _ _ _
  have K : ¬ isPl r p → G E MX6_inRow P sh sz V 0 0 14 [some (.ref x), some (.int r), some (.int p), some (.int w), none] [] := by
    intro q
    rw [if_neg q] at hP
    refine g_throw (names := tn_IndexOutOfBoundsException) (text := "no such row or place") rfl (by decide +kernel) cl_X6_75 ini_IndexOutOfBoundsException (by decide +kernel) ta_X6_79 to_X6_79 dX6_inRow_14 dX6_inRow_17 dX6_inRow_18 dX6_inRow_20 dX6_inRow_23 rfl (by decide) (by decide) (by decide) (hP.thr hW hC rfl)
  refine g_iload_n dX6_inRow_0 rfl ?_
  refine g_callSp (Y := YX6_isRow) ss_X6_132 yn_X6_isRow dX6_inRow_1 (c_isRow pR_ok) rfl rfl rfl (Nat.le_of_ble_eq_true rfl) ⟨rfl, rfl⟩ ?_
  refine g_if_eq (tgt := 14) dX6_inRow_4 (by decide) (fun b1 => ?_) (fun b1 => ?_)
  · exact K (fun q => bi_eq b1 q.1)
  refine g_iload_n dX6_inRow_7 rfl ?_
  refine g_callSp (Y := YX6_isPlace) ss_X6_165 yn_X6_isPlace dX6_inRow_8 (c_isPlace pR_ok) rfl rfl rfl (Nat.le_of_ble_eq_true rfl) ⟨rfl, rfl⟩ ?_
  refine g_if_ne (tgt := 24) dX6_inRow_11 (by decide) (fun b2 => ?_) (fun b2 => ?_)
  rotate_left
  · exact K (fun q => bi_eq b2 q.2)
  have b3 := bi_ne b1
  have b4 := bi_ne b2
  rw [if_pos (show isPl r p from ⟨b3, b4⟩)] at hP
  obtain ⟨a, ha, rfl⟩ := in_nI b3.1 b3.2 (by decide)
  obtain ⟨k, hk, rfl⟩ := in_nI b4.1 b4.2 (by decide)
  rw [nI_clamp (by omega), nI_clamp (by omega)] at hP
  refine g_aload_n dX6_inRow_24 rfl ?_
  refine g_get 8 rfl (by decide) inX6 0 (by decide) fl_X6_12 dX6_inRow_25 o0 o1 ?_
  refine g_get 6 rfl (by decide) inX4 3 (by decide) fl_X6_153 dX6_inRow_28 hR.1.1 hR.2.1.2.2.2.1 ?_
  refine g_iload_n dX6_inRow_31 rfl ?_
  refine g_iconst (v := nI 5) dX6_inRow_32 (by decide) ?_
  refine g_imul dX6_inRow_33 ?_
  refine g_iload_n dX6_inRow_34 rfl ?_
  refine g_iadd dX6_inRow_35 ?_
  rw [ix5]
  by_cases h0 : S.1 (oR (a * 5 + k)) = 0
  · rw [if_pos h0] at hP
    refine g_aaload _ dX6_inRow_36 hR.1.2.2.2.1 (by decide) (by decide) (vp_in_nI (by omega) (by decide)) (hR.rw0 (by omega) h0) ?_
    refine g_astoreN dX6_inRow_37 (by decide) rfl ?_
    show G _ _ _ _ _ _ _ _ _ [_, _, _, _, _] _
    refine g_aloadN dX6_inRow_39 rfl ?_
    refine g_ifnonnullN dX6_inRow_41 ?_
    refine g_throwN (text := "no truck is at the place") rfl cl_X6_101 (by decide +kernel) dX6_inRow_44 dX6_inRow_47 dX6_inRow_48 dX6_inRow_50 dX6_inRow_53 rfl (by decide) (by decide) (by decide) (hP.thr hW hC rfl)
  · rw [if_neg h0] at hP
    obtain ⟨t, e1, e2⟩ := hR.rw1 (k := a * 5 + k) (by omega) h0
    refine g_aaload _ dX6_inRow_36 hR.1.2.2.2.1 (by decide) (by decide) (vp_in_nI (by omega) (by decide)) e1 ?_
    refine g_astore dX6_inRow_37 (by decide) rfl ?_
    show G _ _ _ _ _ _ _ _ _ [_, _, _, _, _] _
    refine g_aload dX6_inRow_39 rfl ?_
    refine g_ifnonnull (tgt := 54) dX6_inRow_41 (by decide) ?_
    have K2 : ¬ (0 ≤ w ∧ w ≤ nI 1) → G E MX6_inRow P sh sz V 0 0 63 [some (.ref x), some (.int (nI a)), some (.int (nI k)), some (.int w), some (.ref t)] [] := by
      intro q
      rw [if_neg q] at hP
      refine g_throw (names := tn_IllegalArgumentException) (text := "no such number of a truck") rfl (by decide +kernel) cl_X6_51 ini_IllegalArgumentException (by decide +kernel) ta_X6_55 to_X6_55 dX6_inRow_63 dX6_inRow_66 dX6_inRow_67 dX6_inRow_69 dX6_inRow_72 rfl (by decide) (by decide) (by decide) (hP.thr hW hC rfl)
    refine g_iload_n dX6_inRow_54 rfl ?_
    refine g_if_lt (tgt := 63) dX6_inRow_55 (by decide) (fun c1 => ?_) (fun c1 => ?_)
    · exact K2 (fun q => absurd q.1 (Int32.not_le.mpr c1))
    refine g_iload_n dX6_inRow_58 rfl ?_
    refine g_iconst (v := nI 1) dX6_inRow_59 (by decide) ?_
    refine g_icmp_le (tgt := 73) dX6_inRow_60 (by decide) (fun c2 => ?_) (fun c2 => ?_)
    rotate_left
    · exact K2 (fun q => absurd q.2 c2)
    rw [if_pos (show 0 ≤ w ∧ w ≤ nI 1 from ⟨Int32.not_lt.mp c1, c2⟩)] at hP
    refine g_iload_n dX6_inRow_73 rfl ?_
    refine g_if_ne (tgt := 85) dX6_inRow_74 (by decide) (fun c3 => ?_) (fun c3 => ?_)
    · rw [if_neg (show ¬ w = nI 0 from c3)] at hP
      refine g_aload dX6_inRow_85 rfl ?_
      refine g_get 7 rfl (by decide) inX5 2 (by decide) fl_X6_177 dX6_inRow_87 e2.1 e2.2.2.2 ?_
      exact g_iret rfl (nr_int _) dX6_inRow_90 (by decide) (hP.ret hW hC)
    · rw [if_pos (show w = nI 0 from c3)] at hP
      refine g_aload dX6_inRow_77 rfl ?_
      refine g_get 7 rfl (by decide) inX5 1 (by decide) fl_X6_174 dX6_inRow_79 e2.1 e2.2.2.1 ?_
      refine g_jump (tgt := 90) dX6_inRow_82 (by decide) ?_
      exact g_iret rfl (nr_int _) dX6_inRow_90 (by decide) (hP.ret hW hC)
theorem cvF_out {g : Int32} {k : Nat} (h1 : k ≠ 1) (h2 : ¬ (100 + 16 * cnt f ≤ k ∧ k < 116 + 16 * cnt f)) : cvF f g k = f k := by
  unfold cvF
  rw [if_neg h2, if_neg h1]
theorem cvF_1 {g : Int32} : cvF f g 1 = nI (cnt f + 1) := by
  unfold cvF
  rw [if_neg (by omega), if_pos rfl]
theorem cvF_cnt {g : Int32} (h : cnt f < 4) : cnt (cvF f g) = cnt f + 1 := by
  show (cvF f g 1).toNatClampNeg = _
  rw [cvF_1, nI_clamp (by omega)]
theorem cvF_in {g : Int32} {i : Nat} (hi : i < 16) : cvF f g (oC (cnt f) i) = if i = 0 then g else if i = 2 then -1 else nI 0 := by
  unfold cvF
  rw [if_pos (by unfold oC; omega)]
  by_cases h0 : i = 0
  · rw [if_pos (by rw [h0]), if_pos h0]
  · rw [if_neg (by unfold oC; omega), if_neg h0]
    by_cases h2 : i = 2
    · rw [if_pos (by rw [h2]), if_pos h2]
    · rw [if_neg (by unfold oC; omega), if_neg h2]
theorem cvF_ncv {g : Int32} : ncv (cvF f g) (cnt f) = 0 := by
  unfold ncv
  rw [cvF_in (by decide)]
  rfl
theorem RoadAt.newcv {r : Nat} {g : Int32} (h : RoadAt sh V r f) (hc : cnt f < 4) : RoadAt sh (hu (hu V (r + 17 + 2 * cnt f) 0 (.int g)) r 5 (.int (nI (cnt f + 1)))) r (cvF f g) := by
  have hF : Fr V (hu (hu V (r + 17 + 2 * cnt f) 0 (.int g)) r 5 (.int (nI (cnt f + 1)))) r := (Fr.rf.put (by omega) (by omega)).put (by omega) (by omega)
  have hT := h.tr hF
  have lo : ∀ k, k ≠ 1 → k < 100 → cvF f g k = f k := fun k h1 h2 => cvF_out h1 (by omega)
  have v : ∀ a, a ≠ r → a ≠ r + 17 + 2 * cnt f → hu (hu V (r + 17 + 2 * cnt f) 0 (.int g)) r 5 (.int (nI (cnt f + 1))) a = V a := fun a h1 h2 => (hu_ne _ _ _ h1).trans (hu_ne _ _ _ h2)
  have vr : ∀ k, k ≠ 5 → hu (hu V (r + 17 + 2 * cnt f) 0 (.int g)) r 5 (.int (nI (cnt f + 1))) r k = V r k := fun k hk => (hu_at_ne _ _ _ hk).trans (congrFun (hu_ne _ _ _ (by omega)) _)
  obtain ⟨b0, b1, b2, b3, b4, b5, b6, b7, b8⟩ := h.2.1
  refine ⟨h.1, ⟨by rw [vr _ (by decide)]; exact b0, by rw [vr _ (by decide), lo _ (by decide) (by decide)]; exact b1, by rw [vr _ (by decide)]; exact b2, by rw [vr _ (by decide)]; exact b3, by rw [vr _ (by decide)]; exact b4, by rw [hu_at, cvF_1], by rw [vr _ (by decide), lo _ (by decide) (by decide)]; exact b6, by rw [vr _ (by decide), lo _ (by decide) (by decide)]; exact b7, by rw [vr _ (by decide), lo _ (by decide) (by decide)]; exact b8⟩, rC.keep h.2.2.1 (v _ (by omega) (by omega)) (fun k hk => lo _ (by omega) (by omega)), rD.keep h.2.2.2.1 (v _ (by omega) (by omega)) (fun j hj => v _ (by omega) (by omega)) (fun k h1 h2 => lo k (by omega) (by omega)), rE.keep h.2.2.2.2.1 hT (v _ (by omega) (by omega)) (fun k h1 h2 => lo k (by omega) h2), fun c hc4 => ?_⟩
  by_cases z : c = cnt f
  · subst z
    have w := h.2.2.2.2.2 (cnt f) hc4
    rw [v _ (by omega) (by omega)]
    refine ⟨w.1, g, ?_, fun _ => by rw [cvF_in (by decide), if_pos rfl]⟩
    obtain ⟨g1, ⟨c0, ca, c1, c2, c3, c4, c5, c6, c7⟩, -⟩ := w.2
    have e1 : ldF (cvF f g) (cnt f) = -1 := by
      unfold ldF
      rw [cvF_cnt hc, if_pos (by omega), cvF_in (by decide)]
      rfl
    have e2 : nF (cvF f g) (cnt f) = 0 := by
      unfold nF
      rw [cvF_cnt hc, if_pos (by omega), cvF_ncv]
    have e3 : nF f (cnt f) = 0 := if_neg (by omega)
    have e4 : ldF f (cnt f) = -1 := if_neg (by omega)
    rw [e3] at c3 c7
    rw [e4] at c2
    rw [e1, e2]
    have y : ∀ k, k ≠ 0 → hu (hu V (r + 17 + 2 * cnt f) 0 (.int g)) r 5 (.int (nI (cnt f + 1))) (r + 17 + 2 * cnt f) k = V (r + 17 + 2 * cnt f) k := fun k hk => (congrFun (hu_ne _ _ _ (by omega)) _).trans (hu_at_ne _ _ _ hk)
    exact ⟨c0, ca, (congrFun (hu_ne _ _ _ (by omega)) _).trans (hu_at _ _ _ _), by rw [y _ (by decide)]; exact c2, by rw [y _ (by decide)]; exact c3, by rw [y _ (by decide)]; exact c4, by omega, fun k hk => absurd hk (Nat.not_lt_zero k), fun k hk hk4 => by rw [v _ (by omega) (by omega)]; exact c7 k hk hk4⟩
  · exact rF_one (h.2.2.2.2.2 c hc4) hT (v _ (by omega) (by omega)) (v _ (by omega) (by omega)) (v _ (by omega) (by omega)) (by rw [cvF_cnt hc]; omega) (fun i hi _ => cvF_out (by unfold oC; omega) (by unfold oC; omega))
theorem m_convoy {g : Int32} (hC : CS sh V x S) (hI : InvB S.1) (hW : Wf sh sz) (hP : CP x sh sz V [xIA, xUO] (sp_convoy S g) P) : MC E YX6_convoy [.ref x, .int g] sh sz V P := by
  obtain ⟨o0, o1, o2, o3, o4, o5, o6, o7, o8⟩ := hC.1
  have hR0 : RoadAt sh V (x + 1) S.1 := hC.2.1
  have h44 := hI.1.2
  unfold sp_convoy at hP
  refine MC.of RX6 "convoy" rfl (by decide +kernel) rfl 1 [_, _, none] rfl (Nat.le_of_ble_eq_true rfl) ?_
  show G E MX6_convoy _ _ _ _ _ _ _ _ _
  have K : ¬ (nI 1 ≤ g ∧ g ≤ nI 3) → G E MX6_convoy P sh sz V 0 0 10 [some (.ref x), some (.int g), none] [] := by
    intro q
    rw [if_neg q] at hP
    refine g_throw (names := tn_IllegalArgumentException) (text := "the gap is out of range") rfl (by decide +kernel) cl_X6_51 ini_IllegalArgumentException (by decide +kernel) ta_X6_55 to_X6_55 dX6_convoy_10 dX6_convoy_13 dX6_convoy_14 dX6_convoy_16 dX6_convoy_19 rfl (by decide) (by decide) (by decide) (hP.thr hW hC rfl)
  refine g_iload_n dX6_convoy_0 rfl ?_
  refine g_iconst (v := nI 1) dX6_convoy_1 (by decide) ?_
  refine g_icmp_lt (tgt := 10) dX6_convoy_2 (by decide) (fun b1 => ?_) (fun b1 => ?_)
  · exact K (fun q => absurd q.1 (Int32.not_le.mpr b1))
  refine g_iload_n dX6_convoy_5 rfl ?_
  refine g_iconst (v := nI 3) dX6_convoy_6 (by decide) ?_
  refine g_icmp_le (tgt := 20) dX6_convoy_7 (by decide) (fun b2 => ?_) (fun b2 => ?_)
  rotate_left
  · exact K (fun q => absurd q.2 b2)
  rw [if_pos (show nI 1 ≤ g ∧ g ≤ nI 3 from ⟨Int32.not_lt.mp b1, b2⟩)] at hP
  refine g_aload_n dX6_convoy_20 rfl ?_
  refine g_get 8 rfl (by decide) inX6 0 (by decide) fl_X6_12 dX6_convoy_21 o0 o1 ?_
  refine g_get 6 rfl (by decide) inX4 5 (by decide) fl_X6_182 dX6_convoy_24 hR0.1.1 (hR0.many hI) ?_
  refine g_istore_n dX6_convoy_27 (by decide) rfl ?_
  show G _ _ _ _ _ _ _ _ _ [_, _, _] _
  refine g_iload_n dX6_convoy_28 rfl ?_
  refine g_iconst (v := nI 4) dX6_convoy_29 (by decide) ?_
  by_cases h4 : cnt S.1 < 4
  rotate_left
  · rw [if_neg h4] at hP
    refine g_icmp_lt (tgt := 52) dX6_convoy_30 (by decide) (fun hq => absurd hq (nI_nlt (by omega) (by omega))) (fun _ => ?_)
    refine g_aload_n dX6_convoy_33 rfl ?_
    refine g_iconst (v := nI 1) dX6_convoy_34 (by decide) ?_
    refine g_iconst (v := nI 4) dX6_convoy_35 (by decide) ?_
    refine g_callSp (Y := YX6_refusalFor) ss_X6_142 yn_X6_refusalFor dX6_convoy_36 (c_refusalFor pR_ok) rfl rfl rfl (Nat.le_of_ble_eq_true rfl) ⟨rfl, rfl⟩ ?_
    refine g_put 8 rfl (by decide) inX6 tyX6 tyX6_ok nmX6 7 (by decide) fl_X6_44 rfl dX6_convoy_39 o0 rfl rfl ?_
    have hC2 := CAt.ref (z := (nI 1, nI 4)) hC
    refine g_throw (names := tn_UnsupportedOperationException) (text := "there are 4 convoys") rfl (by decide +kernel) cl_X6_146 ini_UnsupportedOperationException (by decide +kernel) ta_X6_150 to_X6_150 dX6_convoy_42 dX6_convoy_45 dX6_convoy_46 dX6_convoy_48 dX6_convoy_51 rfl (by decide) (by decide) (by decide) (hP.thrW hW (fun b hb => hu_ne _ _ _ (by omega)) hC2 rfl)
  rw [if_pos h4] at hP
  refine g_icmp_lt (tgt := 52) dX6_convoy_30 (by decide) (fun _ => ?_) (fun hq => absurd (nI_lt h4 (by decide)) hq)
  refine g_aload_n dX6_convoy_52 rfl ?_
  refine g_get 8 rfl (by decide) inX6 4 (by decide) fl_X6_29 dX6_convoy_53 o0 o5 ?_
  refine g_aload_n dX6_convoy_56 rfl ?_
  refine g_get 8 rfl (by decide) inX6 0 (by decide) fl_X6_12 dX6_convoy_57 o0 o1 ?_
  refine g_callVv (Y := YX1_keep) (Q := (fun V1 => (∀ a, ¬ (x ≤ a ∧ a < x + 284) → V1 a = V a) ∧ CS sh V1 x (S.1, S.2.1, pH S.2.2.1 S.2.2.2.1 S.1, pC S.2.2.2.1, S.2.2.2.2))) sv_X6_58 rfl yn_X1_keep 3 (by decide) rfl rfl dX6_convoy_60 (c_keepC hC (fun V1 q1 q2 => ⟨rfl, rfl, rfl, q1, q2⟩)) (by obtain ⟨-, -, -, -, ⟨K, nx, hH, -⟩, -⟩ := hC; exact hH.1) rfl rfl rfl (Nat.le_of_ble_eq_true rfl) ⟨rfl, rfl⟩ (fun V1 q => ?_)
  obtain ⟨q1, q2⟩ := q
  obtain ⟨p0, p1, p2, p3, p4, p5, p6, p7, p8⟩ := q2.1
  have hR : RoadAt sh V1 (x + 1) S.1 := q2.2.1
  refine g_aload_n dX6_convoy_63 rfl ?_
  refine g_get 8 rfl (by decide) inX6 0 (by decide) fl_X6_12 dX6_convoy_64 p0 p1 ?_
  refine g_get 6 rfl (by decide) inX4 4 (by decide) fl_X6_187 dX6_convoy_67 hR.1.1 hR.2.1.2.2.2.2.1 ?_
  refine g_iload_n dX6_convoy_70 rfl ?_
  refine g_aaload _ dX6_convoy_71 hR.1.2.2.2.2 (by decide) (by decide) (vp_in_nI (by omega) (by decide)) (hR.cvr h4) ?_
  obtain ⟨c0, -⟩ := (hR.2.2.2.2.2 _ h4).2.choose_spec.1
  refine g_iload_n dX6_convoy_72 rfl ?_
  refine g_put 2 rfl (by decide) inX0 tyX0 tyX0_ok nmX0 0 (by decide) fl_X6_191 rfl dX6_convoy_73 c0 rfl rfl ?_
  have v1x : hu V1 (x + 1 + 17 + 2 * cnt S.1) 0 (.int g) x = V1 x := hu_ne _ _ _ (by omega)
  rw [← v1x] at p1
  refine g_aload_n dX6_convoy_76 rfl ?_
  refine g_get 8 rfl (by decide) inX6 0 (by decide) fl_X6_12 dX6_convoy_77 p0 p1 ?_
  refine g_iload_n dX6_convoy_80 rfl ?_
  refine g_iconst (v := nI 1) dX6_convoy_81 (by decide) ?_
  refine g_iadd dX6_convoy_82 ?_
  refine g_put 6 rfl (by decide) inX4 tyX4 tyX4_ok nmX4 5 (by decide) fl_X6_182 rfl dX6_convoy_83 hR.1.1 rfl rfl ?_
  rw [nI_add]
  have hP := hP.retW hW (V' := hu (hu V1 (x + 1 + 17 + 2 * cnt S.1) 0 (.int g)) (x + 1) 5 (.int (nI (cnt S.1 + 1)))) (fun a ha => (hu_ne _ _ _ (by omega)).trans ((hu_ne _ _ _ (by omega)).trans (q1 a ha))) (CAt.now q2 ((Fr.rf.put (by omega) (by omega)).put (by omega) (by omega)) (RoadAt.newcv hR h4))
  refine g_iload_n dX6_convoy_86 rfl ?_
  exact g_iret rfl (nr_int _) dX6_convoy_87 (by decide) hP
end METH2

