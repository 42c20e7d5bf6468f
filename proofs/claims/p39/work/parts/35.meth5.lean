/-! the class reads its text -/
section METH5
variable {E : gE} {M : gM} {P : gP} {sh sh' : Sh} {sz : Nat} {V V' : Vl} {cu su pc : Nat} {L : List (Option Value)} {rest : List Value} {x : Nat} {S : St} {f : Fl}
theorem kk_of {tx : Nat → Int32} {n kk : Nat} (hn : n ≤ 60) (h : lastO tx n kk) : kkF tx n = kk ∧ kk ≤ 20 := by
  obtain ⟨h1, h2⟩ := pK_le h.1
  exact ⟨fa_first_eq (by omega) (cb_t h.2) (fun k hk => cb_f (fun q => q (h.1 k hk))), by omega⟩
theorem c_keepT {sn : Option Fl} {H : Nat → Fl} {cn : Nat} {tx : Nat → Int32} {ln : Nat} {er : Int32} {rf : Int32 × Int32} (hC : CAt sh V x f sn H cn tx ln er rf) (hP : ∀ V', (∀ a, ¬ (x + 76 ≤ a ∧ a < x + 278) → V' a = V a) → Tr sh V V' → CAt sh V' x f sn (pH H cn f) (pC cn) tx ln er rf → P (.inl none) sh sz V') : MC E YX1_keep [.ref (x + 76), .ref (x + 1)] sh sz V P := by
  obtain ⟨hO, hR0, ⟨g1, hT1⟩, ⟨g2, hS2, hS3⟩, ⟨K, nx, hH, hr⟩, hOr⟩ := hC
  refine c_keep hH hR0 (by omega) (fun V' hF hH' => ?_)
  have hT : Tr sh V V' := fun q hq => by
    by_cases z : q < x + 76 ∨ x + 76 + 202 ≤ q
    · exact hF q z
    · exact absurd hq (hH.ne8 (by omega) (by omega))
  refine hP V' (fun a ha => hF a (by omega)) hT ⟨?_, hR0.keep (fun a h1 h2 => hF a (by omega)) hT, ⟨g1, hT1.keep (fun a h1 h2 => hF a (by omega)) hT⟩, ⟨g2, hS2.keep (fun a h1 h2 => hF a (by omega)) hT, hS3⟩, ⟨_, _, hH', ring_push hr hH.2.2.2.2.2.1 hH.2.2.2.2.2.2.1⟩, hOr.keep (fun a h1 h2 => hF a (by omega))⟩
  unfold ObAt at hO ⊢
  rw [hF x (by omega)]
  exact hO
set_option maxRecDepth 100000 in
theorem m_read (hC : CS sh V x S) (hI : InvB S.1) (hW : Wf sh sz) (hP : CP x sh sz V [xIA, xUO] (sp_read S) P) : MC E YX6_read [.ref x] sh sz V P := by
  obtain ⟨o0, o1, o2, o3, o4, o5, o6, o7, o8⟩ := id hC.1
  have hO : OrAt sh V (x + 278) S.2.2.2.2.1 S.2.2.2.2.2.1 := hC.2.2.2.2.2
  have hn60 : S.2.2.2.2.2.1 ≤ 60 := hO.2.2.1
  have s0 := hO.1.1
  refine MC.of RX6 "read" rfl (by decide +kernel) rfl 2 [_, none, none] rfl (Nat.le_of_ble_eq_true rfl) ?_
  show G E MX6_read _ _ _ _ _ _ _ _ _
  refine g_aload_n dX6_read_0 rfl ?_
  refine g_aload_n dX6_read_1 rfl ?_
  refine g_get 8 rfl (by decide) inX6 5 (by decide) fl_X6_36 dX6_read_2 o0 o6 ?_
  refine g_callVw (Y := YX3_parse) sv_X6_306 rfl yn_X3_parse 5 (by decide) rfl rfl dX6_read_5 (c_parse (P := pW (fun v V1 => ∃ kk, lastO S.2.2.2.2.1 S.2.2.2.2.2.1 kk ∧ v = .int (errI S.2.2.2.2.1 S.2.2.2.2.2.1 kk) ∧ Fo V V1 (x + 278) ∧ (fine S.2.2.2.2.1 S.2.2.2.2.2.1 kk → V1 (x + 278) 3 = .int (nI (kk + 1)) ∧ kk < 20 ∧ ∀ k, k ≤ kk → OrdAt V1 (x + 278) k (oK S.2.2.2.2.1 S.2.2.2.2.2.1 (pK S.2.2.2.2.1 S.2.2.2.2.2.1 k)).2.2)) sh sz) hO (fun V1 kk q1 q2 q3 => ⟨_, rfl, rfl, rfl, kk, q1, rfl, q2, q3⟩)) s0 rfl rfl rfl (Nat.le_of_ble_eq_true rfl) ⟨rfl, rfl⟩ (fun v V1 q => ?_)
  obtain ⟨kk, hl, rfl, hF, hf⟩ := q
  obtain ⟨ek, -⟩ := kk_of hn60 hl
  unfold sp_read at hP
  unfold rdS at hP
  rw [ek] at hP
  have hC1 : CAt sh V1 x S.1 S.2.1 S.2.2.1 S.2.2.2.1 S.2.2.2.2.1 S.2.2.2.2.2.1 S.2.2.2.2.2.2.1 S.2.2.2.2.2.2.2 := CAt.ord hC (fun a ha => hF.1 a (by omega)) (hO.fo hF)
  refine g_put 8 rfl (by decide) inX6 tyX6 tyX6_ok nmX6 6 (by decide) fl_X6_40 rfl dX6_read_8 o0 rfl rfl ?_
  have hC2 := CAt.err (z := errI S.2.2.2.2.1 S.2.2.2.2.2.1 kk) hC1
  have hO2 : OrAt sh (hu V1 x 6 (.int (errI S.2.2.2.2.1 S.2.2.2.2.2.1 kk))) (x + 278) S.2.2.2.2.1 S.2.2.2.2.2.1 := hC2.2.2.2.2.2
  have e2 : ∀ a, a ≠ x → hu V1 x 6 (.int (errI S.2.2.2.2.1 S.2.2.2.2.2.1 kk)) a = V1 a := fun a ha => hu_ne _ _ _ ha
  have hf2 : fine S.2.2.2.2.1 S.2.2.2.2.2.1 kk → hu V1 x 6 (.int (errI S.2.2.2.2.1 S.2.2.2.2.2.1 kk)) (x + 278) 3 = .int (nI (kk + 1)) ∧ kk < 20 ∧ ∀ k, k ≤ kk → OrdAt (hu V1 x 6 (.int (errI S.2.2.2.2.1 S.2.2.2.2.2.1 kk))) (x + 278) k (oK S.2.2.2.2.1 S.2.2.2.2.2.1 (pK S.2.2.2.2.1 S.2.2.2.2.2.1 k)).2.2 := fun q => by
    obtain ⟨f1, f2, f3⟩ := hf q
    exact ⟨(congrFun (e2 _ (by omega)) 3).trans f1, f2, fun k hk => (f3 k hk).row (congrFun (e2 _ (by omega)) k) (congrFun (e2 _ (by omega)) k) (congrFun (e2 _ (by omega)) k) (congrFun (e2 _ (by omega)) k)⟩
  have hV2 : ∀ a, ¬ (x ≤ a ∧ a < x + 284) → hu V1 x 6 (.int (errI S.2.2.2.2.1 S.2.2.2.2.2.1 kk)) a = V a := fun a ha => (e2 a (by omega)).trans (hF.1 a (by omega))
  generalize hu V1 x 6 (.int (errI S.2.2.2.2.1 S.2.2.2.2.2.1 kk)) = V2 at hC2 hO2 hf2 hV2 ⊢
  clear hf hC1 hF e2 V1
  obtain ⟨p0, p1, p2, p3, p4, p5, p6, p7, p8⟩ := id hC2.1
  obtain ⟨⟨s0, s1, s2, s3, s4, s5⟩, ⟨v0, v1, v4, v5, v6, v7⟩, -, ht⟩ := id hO2
  refine g_aload_n dX6_read_11 rfl ?_
  refine g_get 8 rfl (by decide) inX6 5 (by decide) fl_X6_36 dX6_read_12 p0 p6 ?_
  refine g_iconst (v := nI 0) dX6_read_15 (by decide) ?_
  refine g_put 5 rfl (by decide) inX3 tyX3 tyX3_ok nmX3 1 (by decide) fl_X6_294 rfl dX6_read_16 s0 rfl rfl ?_
  have e3 : ∀ a, a ≠ x + 278 → hu V2 (x + 278) 1 (.int (nI 0)) a = V2 a := fun a ha => hu_ne _ _ _ ha
  have hC3 : CAt sh (hu V2 (x + 278) 1 (.int (nI 0))) x S.1 S.2.1 S.2.2.1 S.2.2.2.1 S.2.2.2.2.1 0 (errI S.2.2.2.2.1 S.2.2.2.2.2.1 kk) S.2.2.2.2.2.2.2 := by
    refine CAt.ord hC2 (fun a ha => e3 a (by omega)) ⟨⟨s0, s1, s2, s3, s4, s5⟩, ⟨?_, hu_at _ _ _ _, ?_, ?_, ?_, ?_⟩, by omega, fun k hk => absurd hk (Nat.not_lt_zero k)⟩
    · exact (hu_at_ne _ _ _ (by decide)).trans v0
    · exact (hu_at_ne _ _ _ (by decide)).trans v4
    · exact (hu_at_ne _ _ _ (by decide)).trans v5
    · exact (hu_at_ne _ _ _ (by decide)).trans v6
    · exact (hu_at_ne _ _ _ (by decide)).trans v7
  have hf3 : fine S.2.2.2.2.1 S.2.2.2.2.2.1 kk → hu V2 (x + 278) 1 (.int (nI 0)) (x + 278) 3 = .int (nI (kk + 1)) ∧ kk < 20 ∧ ∀ k, k ≤ kk → OrdAt (hu V2 (x + 278) 1 (.int (nI 0))) (x + 278) k (ordK S.2.2.2.2.1 S.2.2.2.2.2.1 k) := fun q => by
    obtain ⟨f1, f2, f3⟩ := hf2 q
    exact ⟨(hu_at_ne _ _ _ (by decide)).trans f1, f2, fun k hk => (f3 k hk).u⟩
  have hV3 : ∀ a, ¬ (x ≤ a ∧ a < x + 284) → hu V2 (x + 278) 1 (.int (nI 0)) a = V a := fun a ha => (e3 a (by omega)).trans (hV2 a ha)
  generalize hu V2 (x + 278) 1 (.int (nI 0)) = V3 at hC3 hf3 hV3 ⊢
  clear hf2 hC2 hO2 hV2 e3 p0 p1 p2 p3 p4 p5 p6 p7 p8 v0 v1 v4 v5 v6 v7 ht V2
  obtain ⟨p0, p1, p2, p3, p4, p5, p6, p7, p8⟩ := id hC3.1
  refine g_aload_n dX6_read_19 rfl ?_
  refine g_get 8 rfl (by decide) inX6 6 (by decide) fl_X6_40 dX6_read_20 p0 p7 ?_
  by_cases hfine : fine S.2.2.2.2.1 S.2.2.2.2.2.1 kk
  rotate_left
  · rw [if_neg hfine] at hP
    have e : errI S.2.2.2.2.1 S.2.2.2.2.2.1 kk = nI (oK S.2.2.2.2.1 S.2.2.2.2.2.1 (pK S.2.2.2.2.1 S.2.2.2.2.2.1 kk)).2.1 := errI_f hfine
    have := (oK_end (tx := S.2.2.2.2.1) (pK_le hl.1).1).1
    refine g_if_lt (tgt := 37) dX6_read_23 (by decide) (fun hq => absurd hq ((by rw [e]; exact nI_pos (by omega)))) (fun _ => ?_)
    refine g_throwW (names := tn_IllegalArgumentException) (text := "the text has an error") rfl (by decide +kernel) cl_X6_51 ini_IllegalArgumentException (by decide +kernel) ta_X6_55 to_X6_55 dX6_read_26 dX6_read_29 dX6_read_30 dX6_read_33 dX6_read_36 rfl (by decide) (by decide) (by decide) (hP.thrW hW hV3 hC3 rfl)
  rw [if_pos hfine] at hP
  obtain ⟨f1, f2, f3⟩ := hf3 hfine
  have hR : RoadAt sh V3 (x + 1) S.1 := hC3.2.1
  obtain ⟨gt, hT⟩ := id hC3.2.2.1
  refine g_if_lt (tgt := 37) dX6_read_23 (by decide) (fun _ => ?_) (fun hq => absurd ((by rw [errI_t hfine]; decide)) hq)
  refine g_aload_n dX6_read_37 rfl ?_
  refine g_get 8 rfl (by decide) inX6 1 (by decide) fl_X6_16 dX6_read_38 p0 p2 ?_
  refine g_aload_n dX6_read_41 rfl ?_
  refine g_get 8 rfl (by decide) inX6 0 (by decide) fl_X6_12 dX6_read_42 p0 p1 ?_
  refine g_callVv (Y := YX4_copyFrom) (Q := (fun V4 => Fr V3 V4 (x + 26) ∧ RoadAt sh V4 (x + 26) S.1)) sv_X6_270 rfl yn_X4_copyFrom 6 (by decide) rfl rfl dX6_read_45 (c_Road_copyFrom hT hR (by omega) (fun V2 q1 q2 => ⟨rfl, rfl, rfl, q1, q2⟩)) hT.1.1 rfl rfl rfl (Nat.le_of_ble_eq_true rfl) ⟨rfl, rfl⟩ (fun V4 q => ?_)
  obtain ⟨q1, q2⟩ := q
  refine g_iconst (v := nI 0) dX6_read_48 (by decide) ?_
  refine g_istore_n dX6_read_49 (by decide) rfl ?_
  show G _ _ _ _ _ _ _ _ _ [_, _, _] _
  suffices K : ∀ (m i : Nat), i + m = kk + 1 → (∀ j, j < i → exO (rowsK S.1 S.2.2.2.2.1 S.2.2.2.2.2.1 j) (ordK S.2.2.2.2.1 S.2.2.2.2.2.1 j) = nI 0) → InvB (rowsK S.1 S.2.2.2.2.1 S.2.2.2.2.2.1 i) → ∀ V4 z, Fr V3 V4 (x + 26) → RoadAt sh V4 (x + 26) (rowsK S.1 S.2.2.2.2.1 S.2.2.2.2.2.1 i) → G E MX6_read P sh sz V4 0 0 50 [some (.ref x), some (.int (nI i)), z] [] from K (kk + 1) 0 (Nat.zero_add _) (fun j hj => absurd hj (Nat.not_lt_zero j)) hI V4 _ q1 q2
  clear q1 q2 V4
  intro m
  induction m with
  | zero =>
    intro i hi hall hIi V4 z q1 q2
    have hi : i = kk + 1 := by omega
    rw [hi] at hIi q2 ⊢
    have hb : ¬ badK S.1 S.2.2.2.2.1 S.2.2.2.2.2.1 < kk + 1 := by
      unfold badK
      rw [ek]
      exact fa_first_none (fun k hk => cb_f (fun q => q (hall k (by omega))))
    rw [if_neg hb] at hP
    have hC4 := CAt.trial hC3 q1 q2
    obtain ⟨r0, r1, r2, r3, r4, r5, r6, r7, r8⟩ := id hC4.1
    refine g_iload_n dX6_read_50 rfl ?_
    refine g_aload_n dX6_read_51 rfl ?_
    refine g_get 8 rfl (by decide) inX6 5 (by decide) fl_X6_36 dX6_read_52 r0 r6 ?_
    refine g_get 5 rfl (by decide) inX3 3 (by decide) fl_X6_311 dX6_read_55 s0 ((congrFun (q1 (x + 278) (by omega)) 3).trans f1) ?_
    refine g_icmp_ge (tgt := 115) dX6_read_58 (by decide) (fun _ => ?_) (fun hq => absurd (Int32.le_refl _) hq)
    refine g_aload_n dX6_read_115 rfl ?_
    refine g_get 8 rfl (by decide) inX6 4 (by decide) fl_X6_29 dX6_read_116 r0 r5 ?_
    refine g_aload_n dX6_read_119 rfl ?_
    refine g_get 8 rfl (by decide) inX6 0 (by decide) fl_X6_12 dX6_read_120 r0 r1 ?_
    refine g_callVv (Y := YX1_keep) (Q := (fun V5 => (∀ a, ¬ (x + 76 ≤ a ∧ a < x + 278) → V5 a = V4 a) ∧ Tr sh V4 V5 ∧ CAt sh V5 x S.1 S.2.1 (pH S.2.2.1 S.2.2.2.1 S.1) (pC S.2.2.2.1) S.2.2.2.2.1 0 (errI S.2.2.2.2.1 S.2.2.2.2.2.1 kk) S.2.2.2.2.2.2.2)) sv_X6_58 rfl yn_X1_keep 3 (by decide) rfl rfl dX6_read_123 (c_keepT hC4 (fun V1 q1 q2 q3 => ⟨rfl, rfl, rfl, q1, q2, q3⟩)) (by obtain ⟨-, -, -, -, ⟨K, nx, hH, -⟩, -⟩ := hC4; exact hH.1) rfl rfl rfl (Nat.le_of_ble_eq_true rfl) ⟨rfl, rfl⟩ (fun V5 q => ?_)
    obtain ⟨u1, u2, u3⟩ := q
    have q5 := q2.keep (fun a h1 h2 => u1 a (by omega)) u2
    obtain ⟨r0, r1, r2, r3, r4, r5, r6, r7, r8⟩ := id u3.1
    refine g_aload_n dX6_read_126 rfl ?_
    refine g_get 8 rfl (by decide) inX6 0 (by decide) fl_X6_12 dX6_read_127 r0 r1 ?_
    refine g_aload_n dX6_read_130 rfl ?_
    refine g_get 8 rfl (by decide) inX6 1 (by decide) fl_X6_16 dX6_read_131 r0 r2 ?_
    refine g_callVv (Y := YX4_copyFrom) (Q := (fun V6 => Fr V5 V6 (x + 1) ∧ RoadAt sh V6 (x + 1) (rowsK S.1 S.2.2.2.2.1 S.2.2.2.2.2.1 (kk + 1)))) sv_X6_270 rfl yn_X4_copyFrom 6 (by decide) rfl rfl dX6_read_134 (c_Road_copyFrom u3.2.1 q5 (by omega) (fun V6 q1 q2 => ⟨rfl, rfl, rfl, q1, q2⟩)) u3.2.1.1.1 rfl rfl rfl (Nat.le_of_ble_eq_true rfl) ⟨rfl, rfl⟩ (fun V6 q => ?_)
    obtain ⟨w1, w2⟩ := q
    have hC6 := CAt.now u3 w1 w2
    obtain ⟨r0, r1, r2, r3, r4, r5, r6, r7, r8⟩ := id hC6.1
    refine g_aload_n dX6_read_137 rfl ?_
    refine g_get 8 rfl (by decide) inX6 5 (by decide) fl_X6_36 dX6_read_138 r0 r6 ?_
    refine g_get 5 rfl (by decide) inX3 3 (by decide) fl_X6_311 dX6_read_141 s0 ((congrFun (w1 (x + 278) (by omega)) 3).trans ((congrFun (u1 (x + 278) (by omega)) 3).trans ((congrFun (q1 (x + 278) (by omega)) 3).trans f1))) ?_
    have hP := hP.retW hW (V' := V6) (fun a ha => (w1 a (by omega)).trans ((u1 a (by omega)).trans ((q1 a (by omega)).trans (hV3 a ha)))) hC6
    exact g_iret rfl (nr_int _) dX6_read_144 (by decide) hP
  | succ m ih =>
    intro i hi hall hIi V4 z q1 q2
    have hC4 := CAt.trial hC3 q1 q2
    have hO4 : OrAt sh V4 (x + 278) S.2.2.2.2.1 0 := hC4.2.2.2.2.2
    obtain ⟨r0, r1, r2, r3, r4, r5, r6, r7, r8⟩ := id hC4.1
    have hord : OrdAt V4 (x + 278) i (ordK S.2.2.2.2.1 S.2.2.2.2.2.1 i) := (f3 i (by omega)).row (congrFun (q1 _ (by omega)) i) (congrFun (q1 _ (by omega)) i) (congrFun (q1 _ (by omega)) i) (congrFun (q1 _ (by omega)) i)
    have hL : isL (ordK S.2.2.2.2.1 S.2.2.2.2.2.1 i).1 := by
      refine oK_let ?_
      rcases Nat.lt_or_ge i kk with y | y
      · exact (hl.1 i y).1
      · rw [show i = kk by omega]
        exact hfine.1
    refine g_iload_n dX6_read_50 rfl ?_
    refine g_aload_n dX6_read_51 rfl ?_
    refine g_get 8 rfl (by decide) inX6 5 (by decide) fl_X6_36 dX6_read_52 r0 r6 ?_
    refine g_get 5 rfl (by decide) inX3 3 (by decide) fl_X6_311 dX6_read_55 s0 ((congrFun (q1 (x + 278) (by omega)) 3).trans f1) ?_
    refine g_icmp_ge (tgt := 115) dX6_read_58 (by decide) (fun hq => absurd hq (nI_ge (by omega) (by omega))) (fun _ => ?_)
    refine g_aload_n dX6_read_61 rfl ?_
    refine g_get 8 rfl (by decide) inX6 5 (by decide) fl_X6_36 dX6_read_62 r0 r6 ?_
    refine g_iload_n dX6_read_65 rfl ?_
    refine g_aload_n dX6_read_66 rfl ?_
    refine g_get 8 rfl (by decide) inX6 1 (by decide) fl_X6_16 dX6_read_67 r0 r2 ?_
    refine g_callVw (Y := YX3_carryOut) sv_X6_314 rfl yn_X3_carryOut 5 (by decide) rfl rfl dX6_read_70 (c_carryOut (P := pW (fun v V5 => (exO (rowsK S.1 S.2.2.2.2.1 S.2.2.2.2.2.1 i) (ordK S.2.2.2.2.1 S.2.2.2.2.2.1 i) ≠ nI 0 ∧ v = .int (exO (rowsK S.1 S.2.2.2.2.1 S.2.2.2.2.2.1 i) (ordK S.2.2.2.2.1 S.2.2.2.2.2.1 i)) ∧ V5 = V4) ∨ (exO (rowsK S.1 S.2.2.2.2.1 S.2.2.2.2.2.1 i) (ordK S.2.2.2.2.1 S.2.2.2.2.2.1 i) = nI 0 ∧ v = .int (nI 0) ∧ Fr V4 V5 (x + 26) ∧ RoadAt sh V5 (x + 26) (rowsK S.1 S.2.2.2.2.1 S.2.2.2.2.2.1 (i + 1)))) sh sz) q2 hIi hO4 (k := i) (by omega) hord hL (by omega) (fun w => ⟨_, rfl, rfl, rfl, Or.inl ⟨w, rfl, rfl⟩⟩) (fun V5 w w1 w2 => ⟨_, rfl, rfl, rfl, Or.inr ⟨w, rfl, w1, w2⟩⟩)) s0 rfl rfl rfl (Nat.le_of_ble_eq_true rfl) ⟨rfl, rfl⟩ (fun v V5 w => ?_)
    rcases w with ⟨w0, rfl, rfl⟩ | ⟨w0, rfl, w1, w2⟩
    · have hb : badK S.1 S.2.2.2.2.1 S.2.2.2.2.2.1 = i := by
        unfold badK
        rw [ek]
        exact fa_first_eq (by omega) (cb_t w0) (fun k hk => cb_f (fun q => q (hall k hk)))
      rw [hb, if_pos (by omega)] at hP
      have hV4 : ∀ a, ¬ (x ≤ a ∧ a < x + 284) → V5 a = V a := fun a ha => (q1 a (by omega)).trans (hV3 a ha)
      rcases ex_ref hIi hL w0 with y | ⟨y, y1, y2⟩
      · rw [if_pos y] at hP
        refine g_istore_n dX6_read_73 (by decide) rfl ?_
        show G _ _ _ _ _ _ _ _ _ [_, _, _] _
        refine g_iload_n dX6_read_74 rfl ?_
        refine g_if_ge (tgt := 89) dX6_read_75 (by decide) (fun hq => absurd hq (Int32.not_le.mpr y)) (fun _ => ?_)
        refine g_throwW (names := tn_IllegalArgumentException) (text := "an order of the text cannot be carried out") rfl (by decide +kernel) cl_X6_51 ini_IllegalArgumentException (by decide +kernel) ta_X6_55 to_X6_55 dX6_read_78 dX6_read_81 dX6_read_82 dX6_read_85 dX6_read_88 rfl (by decide) (by decide) (by decide) (hP.thrW hW hV4 hC4 rfl)
      · rw [if_neg (fun q => Int32.lt_irrefl (Int32.lt_trans q y))] at hP
        have hC5 := CAt.ref (z := exZ (rowsK S.1 S.2.2.2.2.1 S.2.2.2.2.2.1 i) (ordK S.2.2.2.2.1 S.2.2.2.2.2.1 i)) hC4
        rw [← y2] at hC5
        refine g_istore_n dX6_read_73 (by decide) rfl ?_
        show G _ _ _ _ _ _ _ _ _ [_, _, _] _
        refine g_iload_n dX6_read_74 rfl ?_
        refine g_if_ge (tgt := 89) dX6_read_75 (by decide) (fun _ => ?_) (fun hq => absurd (Int32.le_of_lt y) hq)
        refine g_iload_n dX6_read_89 rfl ?_
        refine g_if_le (tgt := 109) dX6_read_90 (by decide) (fun hq => absurd hq (Int32.not_le.mpr y)) (fun _ => ?_)
        refine g_aload_n dX6_read_93 rfl ?_
        refine g_iload_n dX6_read_94 rfl ?_
        refine g_put 8 rfl (by decide) inX6 tyX6 tyX6_ok nmX6 7 (by decide) fl_X6_44 rfl dX6_read_95 r0 rfl rfl ?_
        refine g_throwW (names := tn_UnsupportedOperationException) (text := "an order of the text is refused") rfl (by decide +kernel) cl_X6_146 ini_UnsupportedOperationException (by decide +kernel) ta_X6_150 to_X6_150 dX6_read_98 dX6_read_101 dX6_read_102 dX6_read_105 dX6_read_108 rfl (by decide) (by decide) (by decide) (hP.thrW hW (fun a ha => (hu_ne _ _ _ (by omega)).trans (hV4 a ha)) hC5 rfl)
    · have ih := ih (i + 1) (by omega) (fun j hj => by
        rcases Nat.lt_or_ge j i with y | y
        · exact hall j y
        · rw [show j = i by omega]
          exact w0) (exF_inv hIi hL w0) V5 (some (.int (nI 0))) (q1.trans w1) w2
      refine g_istore_n dX6_read_73 (by decide) rfl ?_
      show G _ _ _ _ _ _ _ _ _ [_, _, _] _
      refine g_iload_n dX6_read_74 rfl ?_
      refine g_if_ge (tgt := 89) dX6_read_75 (by decide) (fun _ => ?_) (fun hq => absurd (Int32.le_refl _) hq)
      refine g_iload_n dX6_read_89 rfl ?_
      refine g_if_le (tgt := 109) dX6_read_90 (by decide) (fun _ => ?_) (fun hq => absurd (Int32.le_refl _) hq)
      refine g_iinc dX6_read_109 rfl (by first | exact nI_inc _ | rfl) (by decide) rfl ?_
      show G _ _ _ _ _ _ _ _ _ [_, _, _] _
      refine g_jump (tgt := 50) dX6_read_112 (by decide) ?_
      exact ih
end METH5

