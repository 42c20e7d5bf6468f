/-! orders carried out on a road -/
section DOES
theorem enc_0' {z : Int32 × Int32} (h : codeOk z) (q : enc z = nI 0) : z = (nI 0, nI 0) := (enc_0 h).mp q
theorem u3_road {sh : Sh} {V : Vl} {r c : Nat} {f : Fl} {x : Int32} (h : RoadAt sh V r f) (hc : c < 4) : RoadAt sh V r (upd f (oC c 3) x) :=
  h.same (fun k hk => u3_out (by unfold oC; omega)) (fun d i hd hi h3 => u3_out (by unfold oC; omega))
variable {E : gE} {M : gM} {P : gP} {sh : Sh} {sz : Nat} {V : Vl} {cu su pc : Nat} {L : List (Option Value)} {rest : List Value} {o n i k r : Nat} {tx : Nat → Int32} {f : Fl}
/-- convoy c starts: the class' own way -/
theorem c_advanceS {c : Nat} (h : RoadAt sh V r f) (hI : InvB f) (hc : c < cnt f) (h0 : startO f c = (nI 0, nI 0)) (hP : ∀ V', Fr V V' r → RoadAt sh V' r (startF f c) → P (.inl none) sh sz V') : MC E YX4_advance [.ref r, .ref (r + 17 + 2 * c)] sh sz V P := by
  have h4 := hI.1.2
  obtain ⟨e1, -, -, -⟩ := start_0 hI hc h0
  exact c_advance (u3_road h (by omega)) (by rw [u3_cnt]; exact h4) (by rw [u3_cnt]; exact hc) (by rw [u3_out (by unfold oC; omega), e1]; decide) hP
theorem c_advanceR {c : Nat} (h : RoadAt sh V r f) (hI : InvB f) (hc : c < cnt f) (h0 : rollO f c = (nI 0, nI 0)) (hP : ∀ V', Fr V V' r → RoadAt sh V' r (advF f c) → P (.inl none) sh sz V') : MC E YX4_advance [.ref r, .ref (r + 17 + 2 * c)] sh sz V P := by
  have h4 := hI.1.2
  obtain ⟨e1, e2, -⟩ := roll_0 hI hc h0
  obtain ⟨l, hl, el⟩ := roll_lead hI hc e1 e2
  exact c_advance h h4 hc (by rw [el, nI_add]; exact nI_pos' (by omega)) hP
theorem c_carryOutDrill {a : Int32} (h : RoadAt sh V r f) (hP1 : ¬ isM a → P (.inl (some (.int (-1)))) sh sz V) (hP2 : ∀ V', isM a → Fr V V' r → RoadAt sh V' r (drF f a.toNatClampNeg) → P (.inl (some (.int (nI 0)))) sh sz V') : MC E YX3_carryOutDrill [.int a, .ref r] sh sz V P := by
  refine MC.of RX3 "carryOutDrill" rfl (by decide +kernel) rfl 0 [_, _] rfl (Nat.le_of_ble_eq_true rfl) ?_
  show G E MX3_carryOutDrill _ _ _ _ _ _ _ _ _
  refine g_iload_n dX3_carryOutDrill_0 rfl ?_
  refine g_callSNp (Y := YX6_isMile) wc_X6_isMile mn_X3_85 wt_X6_isMile ini_X6 yn_X6_isMile dX3_carryOutDrill_1 (c_isMile pR_ok) rfl rfl rfl (Nat.le_of_ble_eq_true rfl) ⟨rfl, rfl⟩ ?_
  refine g_if_ne (tgt := 9) dX3_carryOutDrill_4 (by decide) (fun b1 => ?_) (fun b1 => ?_)
  · have b2 := bi_ne b1
    obtain ⟨j, hj, rfl⟩ := isM_nI b2
    rw [nI_clamp (by omega)] at hP2
    refine g_aload_n dX3_carryOutDrill_9 rfl ?_
    refine g_aload_n dX3_carryOutDrill_10 rfl ?_
    refine g_get 6 rfl (by decide) inX4 2 (by decide) fl_X3_89 dX3_carryOutDrill_11 h.1.1 h.2.1.2.2.1 ?_
    refine g_iload_n dX3_carryOutDrill_14 rfl ?_
    refine g_aaload _ dX3_carryOutDrill_15 h.1.2.2.1 (by decide) (by decide) (vp_in_nI (by omega) (by decide)) (h.mir hj) ?_
    refine g_callVv (Y := YX4_noteIce) (Q := (fun V2 => Fr V V2 r ∧ RoadAt sh V2 r (drF f j))) sv_X3_93 rfl yn_X4_noteIce 6 (by decide) rfl rfl dX3_carryOutDrill_16 (c_noteIce h hj (fun V2 q1 q2 => ⟨rfl, rfl, rfl, q1, q2⟩)) h.1.1 rfl rfl rfl (Nat.le_of_ble_eq_true rfl) ⟨rfl, rfl⟩ (fun V2 q => ?_)
    have hP := hP2 V2 b2 q.1 q.2
    refine g_iconst (v := nI 0) dX3_carryOutDrill_19 (by decide) ?_
    exact g_iret rfl (nr_int _) dX3_carryOutDrill_20 (by decide) hP
  · have hP := hP1 (bi_eq b1)
    refine g_iconst (v := (-1)) dX3_carryOutDrill_7 (by decide) ?_
    exact g_iret rfl (nr_int _) dX3_carryOutDrill_8 (by decide) hP
theorem c_carryOutTemperature {a : Int32} (h : RoadAt sh V r f) (hP1 : ¬ isSV 0 a → P (.inl (some (.int (-3)))) sh sz V) (hP2 : ∀ V', isSV 0 a → Fr V V' r → RoadAt sh V' r (upd f 5 a) → P (.inl (some (.int (nI 0)))) sh sz V') : MC E YX3_carryOutTemperature [.int a, .ref r] sh sz V P := by
  refine MC.of RX3 "carryOutTemperature" rfl (by decide +kernel) rfl 0 [_, _] rfl (Nat.le_of_ble_eq_true rfl) ?_
  show G E MX3_carryOutTemperature _ _ _ _ _ _ _ _ _
  refine g_iconst (v := nI 0) dX3_carryOutTemperature_0 (by decide) ?_
  refine g_iload_n dX3_carryOutTemperature_1 rfl ?_
  refine g_callSNp (Y := YX6_isSettingValue) wc_X6_isSettingValue mn_X3_105 wt_X6_isSettingValue ini_X6 yn_X6_isSettingValue dX3_carryOutTemperature_2 (c_isSettingValue pR_ok) rfl rfl rfl (Nat.le_of_ble_eq_true rfl) ⟨rfl, rfl⟩ ?_
  refine g_if_ne (tgt := 11) dX3_carryOutTemperature_5 (by decide) (fun b1 => ?_) (fun b1 => ?_)
  · have b2 := bi_ne b1
    have hP := hP2 (hu V (r + 1) (nI 0).toNatClampNeg (.int a)) b2 (Fr.rf.put (by omega) (by omega)) (RoadAt.sett (k := 0) (by decide) h)
    refine g_aload_n dX3_carryOutTemperature_11 rfl ?_
    refine g_get 6 rfl (by decide) inX4 0 (by decide) fl_X3_109 dX3_carryOutTemperature_12 h.1.1 h.2.1.1 ?_
    refine g_iconst (v := nI 0) dX3_carryOutTemperature_15 (by decide) ?_
    refine g_iload_n dX3_carryOutTemperature_16 rfl ?_
    refine g_iastore dX3_carryOutTemperature_17 h.1.2.1 (vp_in_nI (by decide) (by decide)) ?_
    refine g_iconst (v := nI 0) dX3_carryOutTemperature_18 (by decide) ?_
    exact g_iret rfl (nr_int _) dX3_carryOutTemperature_19 (by decide) hP
  · have hP := hP1 (bi_eq b1)
    refine g_bipush (v := (-3)) dX3_carryOutTemperature_8 (by decide) ?_
    exact g_iret rfl (nr_int _) dX3_carryOutTemperature_10 (by decide) hP
theorem c_carryOutDays {a : Int32} (h : RoadAt sh V r f) (hI : InvB f) (hP1 : ¬ isDay a → P (.inl (some (.int (-3)))) sh sz V) (hP2 : ∀ V', isDay a → Fr V V' r → RoadAt sh V' r (passF f a.toNatClampNeg) → P (.inl (some (.int (nI 0)))) sh sz V') : MC E YX3_carryOutDays [.int a, .ref r] sh sz V P := by
  refine MC.of RX3 "carryOutDays" rfl (by decide +kernel) rfl 0 [_, _] rfl (Nat.le_of_ble_eq_true rfl) ?_
  show G E MX3_carryOutDays _ _ _ _ _ _ _ _ _
  refine g_iload_n dX3_carryOutDays_0 rfl ?_
  refine g_callSNp (Y := YX6_isDaysToPass) wc_X6_isDaysToPass mn_X3_120 wt_X6_isDaysToPass ini_X6 yn_X6_isDaysToPass dX3_carryOutDays_1 (c_isDaysToPass pR_ok) rfl rfl rfl (Nat.le_of_ble_eq_true rfl) ⟨rfl, rfl⟩ ?_
  refine g_if_ne (tgt := 10) dX3_carryOutDays_4 (by decide) (fun b1 => ?_) (fun b1 => ?_)
  · have b2 := bi_ne b1
    have b3 := b2
    obtain ⟨d, hd, rfl⟩ := nI_of2 (M := nI 30) (n := 30) (by decide) (fun z => absurd (Int32.le_trans b2.1 (Int32.le_of_lt z)) (by decide)) b2.2
    rw [nI_clamp (by omega)] at hP2
    refine g_aload_n dX3_carryOutDays_10 rfl ?_
    refine g_iload_n dX3_carryOutDays_11 rfl ?_
    refine g_callVv (Y := YX4_letDaysGoBy) (Q := (fun V2 => Fr V V2 r ∧ RoadAt sh V2 r (passF f d))) sv_X3_123 rfl yn_X4_letDaysGoBy 6 (by decide) rfl rfl dX3_carryOutDays_12 (c_letDaysGoBy h hI (by omega) (fun V2 q1 q2 => ⟨rfl, rfl, rfl, q1, q2⟩)) h.1.1 rfl rfl rfl (Nat.le_of_ble_eq_true rfl) ⟨rfl, rfl⟩ (fun V2 q => ?_)
    have hP := hP2 V2 b3 q.1 q.2
    refine g_iconst (v := nI 0) dX3_carryOutDays_15 (by decide) ?_
    exact g_iret rfl (nr_int _) dX3_carryOutDays_16 (by decide) hP
  · have hP := hP1 (bi_eq b1)
    refine g_bipush (v := (-3)) dX3_carryOutDays_7 (by decide) ?_
    exact g_iret rfl (nr_int _) dX3_carryOutDays_9 (by decide) hP
/-- starting or rolling in a text, behind what stands in the way -/
theorem c_carryOutMove {x ob : Int32} {g : Fl} (h : RoadAt sh V r f) (h1 : ob = nI 0 → ∃ c, x = nI c ∧ c < 4 ∧ ∀ P' : gP, (∀ V', Fr V V' r → RoadAt sh V' r g → P' (.inl none) sh sz V') → MC E YX4_advance [.ref r, .ref (r + 17 + 2 * c)] sh sz V P') (hP1 : ob ≠ nI 0 → P (.inl (some (.int ob))) sh sz V) (hP2 : ∀ V', ob = nI 0 → Fr V V' r → RoadAt sh V' r g → P (.inl (some (.int (nI 0)))) sh sz V') : MC E YX3_carryOutMove [.int x, .int ob, .ref r] sh sz V P := by
  refine MC.of RX3 "carryOutMove" rfl (by decide +kernel) rfl 0 [_, _, _] rfl (Nat.le_of_ble_eq_true rfl) ?_
  show G E MX3_carryOutMove _ _ _ _ _ _ _ _ _
  refine g_iload_n dX3_carryOutMove_0 rfl ?_
  refine g_if_ne (tgt := 14) dX3_carryOutMove_1 (by decide) (fun b1 => ?_) (fun b1 => ?_)
  · have hP := hP1 b1
    refine g_iload_n dX3_carryOutMove_14 rfl ?_
    exact g_iret rfl (nr_int _) dX3_carryOutMove_15 (by decide) hP
  · have b2 : ob = nI 0 := b1
    obtain ⟨c, rfl, hc, hadv⟩ := h1 b2
    refine g_aload_n dX3_carryOutMove_4 rfl ?_
    refine g_aload_n dX3_carryOutMove_5 rfl ?_
    refine g_get 6 rfl (by decide) inX4 4 (by decide) fl_X3_97 dX3_carryOutMove_6 h.1.1 h.2.1.2.2.2.2.1 ?_
    refine g_iload_n dX3_carryOutMove_9 rfl ?_
    refine g_aaload _ dX3_carryOutMove_10 h.1.2.2.2.2 (by decide) (by decide) (vp_in_nI (by omega) (by decide)) (h.cvr hc) ?_
    refine g_callVv (Y := YX4_advance) (Q := (fun V2 => Fr V V2 r ∧ RoadAt sh V2 r g)) sv_X3_101 rfl yn_X4_advance 6 (by decide) rfl rfl dX3_carryOutMove_11 (hadv _ (fun V2 q1 q2 => ⟨rfl, rfl, rfl, q1, q2⟩)) h.1.1 rfl rfl rfl (Nat.le_of_ble_eq_true rfl) ⟨rfl, rfl⟩ (fun V2 q => ?_)
    have hP := hP2 V2 b2 q.1 q.2
    rw [b2]
    refine g_iload_n dX3_carryOutMove_14 rfl ?_
    exact g_iret rfl (nr_int _) dX3_carryOutMove_15 (by decide) hP
theorem c_carryOutJoin {x y z : Int32} (h : RoadAt sh V r f) (hI : InvB f) (hO : OrAt sh V o tx n) (hk : k < 20) (e3 : V (o + 3) k = .int x) (e4 : V (o + 4) k = .int y) (e5 : V (o + 5) k = .int z) (hd : o + 6 ≤ r ∨ r + 25 ≤ o) (hP1 : joinA f x y z ≠ nI 0 → P (.inl (some (.int (joinA f x y z)))) sh sz V) (hP2 : ∀ V', joinA f x y z = nI 0 → Fr V V' r → RoadAt sh V' r (jnF f x.toNatClampNeg (y.toNatClampNeg * 5 + z.toNatClampNeg)) → P (.inl (some (.int (nI 0)))) sh sz V') : MC E YX3_carryOutJoin [.ref o, .int (nI k), .ref r] sh sz V P := by
  have hI1 := hI.1.2
  have hvk := vp_in_nI (n := k) (N := 20) hk (by decide)
  obtain ⟨⟨s0, s1, s2, s3, s4, s5⟩, ⟨v0, v1, v4, v5, v6, v7⟩, hn, ht⟩ := hO
  refine MC.of RX3 "carryOutJoin" rfl (by decide +kernel) rfl 1 [_, _, _, none] rfl (Nat.le_of_ble_eq_true rfl) ?_
  show G E MX3_carryOutJoin _ _ _ _ _ _ _ _ _
  refine g_aload_n dX3_carryOutJoin_0 rfl ?_
  refine g_aload_n dX3_carryOutJoin_1 rfl ?_
  refine g_get 5 rfl (by decide) inX3 5 (by decide) fl_X3_29 dX3_carryOutJoin_2 s0 v5 ?_
  refine g_iload_n dX3_carryOutJoin_5 rfl ?_
  refine g_iaload dX3_carryOutJoin_6 s3 hvk (at_nI (by omega) e3) ?_
  refine g_aload_n dX3_carryOutJoin_7 rfl ?_
  refine g_get 5 rfl (by decide) inX3 6 (by decide) fl_X3_32 dX3_carryOutJoin_8 s0 v6 ?_
  refine g_iload_n dX3_carryOutJoin_11 rfl ?_
  refine g_iaload dX3_carryOutJoin_12 s4 hvk (at_nI (by omega) e4) ?_
  refine g_aload_n dX3_carryOutJoin_13 rfl ?_
  refine g_get 5 rfl (by decide) inX3 7 (by decide) fl_X3_35 dX3_carryOutJoin_14 s0 v7 ?_
  refine g_iload_n dX3_carryOutJoin_17 rfl ?_
  refine g_iaload dX3_carryOutJoin_18 s5 hvk (at_nI (by omega) e5) ?_
  refine g_callVp (Y := YX4_joinObstacle) sv_X3_112 rfl yn_X4_joinObstacle 6 (by decide) rfl rfl dX3_carryOutJoin_19 (c_joinObstacle h hI pR_ok) h.1.1 rfl rfl rfl (Nat.le_of_ble_eq_true rfl) ⟨rfl, rfl⟩ ?_
  refine g_istore_n dX3_carryOutJoin_22 (by decide) rfl ?_
  show G _ _ _ _ _ _ _ _ _ [_, _, _, _] _
  refine g_iload_n dX3_carryOutJoin_23 rfl ?_
  refine g_if_ne (tgt := 57) dX3_carryOutJoin_24 (by decide) (fun b1 => ?_) (fun b1 => ?_)
  · have hP := hP1 b1
    refine g_iload_n dX3_carryOutJoin_57 rfl ?_
    exact g_iret rfl (nr_int _) dX3_carryOutJoin_58 (by decide) hP
  · have b2 : joinA f x y z = nI 0 := b1
    have hin : isC f x ∧ isPl y z := Classical.byContradiction fun q => by
      rw [joinA_f q] at b2
      exact absurd b2 (by decide)
    obtain ⟨c, hc, rfl⟩ := isC_of hI hin.1
    obtain ⟨a, ha, rfl⟩ := in_nI hin.2.1.1 hin.2.1.2 (by decide)
    obtain ⟨b, hb, rfl⟩ := in_nI hin.2.2.1 hin.2.2.2 (by decide)
    rw [nI_clamp (by omega), nI_clamp (by omega), nI_clamp (by omega)] at hP2
    have b3 := b2
    rw [joinA_t hI hc ha hb] at b2
    have h0 : ¬ f (oR (a * 5 + b)) = 0 := fun q => by
      rw [if_pos q] at b2
      exact absurd b2 (by decide)
    rw [if_neg h0] at b2
    have j0 := enc_0' (join_code f (c := c) (by omega)) b2
    have hn4 : ncv f c < 4 := Classical.byContradiction fun q => by
      unfold joinO at j0
      by_cases w : 0 ≤ f (oC c 2)
      · rw [if_pos w] at j0
        exact absurd (Prod.mk.inj j0).1 (by decide)
      · rw [if_neg w, if_neg q] at j0
        exact absurd (Prod.mk.inj j0).1 (by decide)
    rw [b3]
    refine g_aload_n dX3_carryOutJoin_27 rfl ?_
    refine g_aload_n dX3_carryOutJoin_28 rfl ?_
    refine g_get 6 rfl (by decide) inX4 4 (by decide) fl_X3_97 dX3_carryOutJoin_29 h.1.1 h.2.1.2.2.2.2.1 ?_
    refine g_aload_n dX3_carryOutJoin_32 rfl ?_
    refine g_get 5 rfl (by decide) inX3 5 (by decide) fl_X3_29 dX3_carryOutJoin_33 s0 v5 ?_
    refine g_iload_n dX3_carryOutJoin_36 rfl ?_
    refine g_iaload dX3_carryOutJoin_37 s3 hvk (at_nI (by omega) e3) ?_
    refine g_aaload _ dX3_carryOutJoin_38 h.1.2.2.2.2 (by decide) (by decide) (vp_in_nI (by omega) (by decide)) (h.cvr (by omega)) ?_
    refine g_aload_n dX3_carryOutJoin_39 rfl ?_
    refine g_get 5 rfl (by decide) inX3 6 (by decide) fl_X3_32 dX3_carryOutJoin_40 s0 v6 ?_
    refine g_iload_n dX3_carryOutJoin_43 rfl ?_
    refine g_iaload dX3_carryOutJoin_44 s4 hvk (at_nI (by omega) e4) ?_
    refine g_iconst (v := nI 5) dX3_carryOutJoin_45 (by decide) ?_
    refine g_imul dX3_carryOutJoin_46 ?_
    refine g_aload_n dX3_carryOutJoin_47 rfl ?_
    refine g_get 5 rfl (by decide) inX3 7 (by decide) fl_X3_35 dX3_carryOutJoin_48 s0 v7 ?_
    refine g_iload_n dX3_carryOutJoin_51 rfl ?_
    refine g_iaload dX3_carryOutJoin_52 s5 hvk (at_nI (by omega) e5) ?_
    refine g_iadd dX3_carryOutJoin_53 ?_
    rw [ix5]
    refine g_callVv (Y := YX4_letJoin) (Q := (fun V2 => Fr V V2 r ∧ RoadAt sh V2 r (jnF f c (a * 5 + b)))) sv_X3_116 rfl yn_X4_letJoin 6 (by decide) rfl rfl dX3_carryOutJoin_54 (c_letJoin h hI hc hn4 (by omega) h0 (fun V2 q1 q2 => ⟨rfl, rfl, rfl, q1, q2⟩)) h.1.1 rfl rfl rfl (Nat.le_of_ble_eq_true rfl) ⟨rfl, rfl⟩ (fun V2 q => ?_)
    have hP := hP2 V2 b3 q.1 q.2
    refine g_iload_n dX3_carryOutJoin_57 rfl ?_
    exact g_iret rfl (nr_int _) dX3_carryOutJoin_58 (by decide) hP
theorem c_carryOut {q : Int32 × Int32 × Int32 × Int32} (h : RoadAt sh V r f) (hI : InvB f) (hO : OrAt sh V o tx n) (hk : k < 20) (hq : OrdAt V o k q) (hL : isL q.1) (hd : o + 6 ≤ r ∨ r + 25 ≤ o) (hP1 : exO f q ≠ nI 0 → P (.inl (some (.int (exO f q)))) sh sz V) (hP2 : ∀ V', exO f q = nI 0 → Fr V V' r → RoadAt sh V' r (exF f q) → P (.inl (some (.int (nI 0)))) sh sz V') : MC E YX3_carryOut [.ref o, .int (nI k), .ref r] sh sz V P := by
  obtain ⟨l, a, b, c⟩ := q
  have hI1 := hI.1.2
  have hvk := vp_in_nI (n := k) (N := 20) hk (by decide)
  obtain ⟨⟨s0, s1, s2, s3, s4, s5⟩, ⟨v0, v1, v4, v5, v6, v7⟩, hn, ht⟩ := id hO
  obtain ⟨e2, e3, e45⟩ := hq
  have e2 : V (o + 2) k = .int l := e2
  have e3 : V (o + 3) k = .int a := e3
  have e45 : l = nI 106 → V (o + 4) k = .int b ∧ V (o + 5) k = .int c := e45
  refine MC.of RX3 "carryOut" rfl (by decide +kernel) rfl 1 [_, _, _, none] rfl (Nat.le_of_ble_eq_true rfl) ?_
  show G E MX3_carryOut _ _ _ _ _ _ _ _ _
  refine g_aload_n dX3_carryOut_0 rfl ?_
  refine g_get 5 rfl (by decide) inX3 5 (by decide) fl_X3_29 dX3_carryOut_1 s0 v5 ?_
  refine g_iload_n dX3_carryOut_4 rfl ?_
  refine g_iaload dX3_carryOut_5 s3 hvk (at_nI (by omega) e3) ?_
  refine g_istore_n dX3_carryOut_6 (by decide) rfl ?_
  show G _ _ _ _ _ _ _ _ _ [_, _, _, _] _
  refine g_aload_n dX3_carryOut_7 rfl ?_
  refine g_get 5 rfl (by decide) inX3 4 (by decide) fl_X3_25 dX3_carryOut_8 s0 v4 ?_
  refine g_iload_n dX3_carryOut_11 rfl ?_
  refine g_iaload dX3_carryOut_12 s2 hvk (at_nI (by omega) e2) ?_
  unfold exO exF at *
  rcases hL with rfl | rfl | rfl | rfl | rfl | rfl
  · refine g_tableIn (off := 83) (tgt := 96) dX3_carryOut_13 (by decide) (by decide) (by decide +kernel) (by decide) ?_
    have hP1 : (if isM a then nI 0 else -1 : Int32) ≠ nI 0 → P (.inl (some (.int (if isM a then nI 0 else -1)))) sh sz V := hP1
    have hP2 : ∀ V', (if isM a then nI 0 else -1 : Int32) = nI 0 → Fr V V' r → RoadAt sh V' r (drF f a.toNatClampNeg) → P (.inl (some (.int (nI 0)))) sh sz V' := hP2
    refine g_iload_n dX3_carryOut_96 rfl ?_
    refine g_aload_n dX3_carryOut_97 rfl ?_
    refine g_callSw (Y := YX3_carryOutDrill) ss_X3_59 yn_X3_carryOutDrill dX3_carryOut_98 (c_carryOutDrill (P := pW (fun v V2 => ∃ w : Int32, v = .int w ∧ P (.inl (some (.int w))) sh sz V2) sh sz) h (fun z => ⟨_, rfl, rfl, rfl, _, rfl, ?_⟩) (fun V2 z z1 z2 => ⟨_, rfl, rfl, rfl, _, rfl, ?_⟩)) rfl rfl rfl (Nat.le_of_ble_eq_true rfl) ⟨rfl, rfl⟩ (fun v V2 z => ?_)
    · rw [if_neg z] at hP1
      exact hP1 (by decide)
    · rw [if_pos z] at hP2
      exact hP2 V2 rfl z1 z2
    · obtain ⟨w, rfl, hP⟩ := z
      exact g_iret rfl (nr_int _) dX3_carryOut_101 (by decide) hP
  · refine g_tableIn (off := 89) (tgt := 102) dX3_carryOut_13 (by decide) (by decide) (by decide +kernel) (by decide) ?_
    have hP1 : obs f a (startO f) ≠ nI 0 → P (.inl (some (.int (obs f a (startO f))))) sh sz V := hP1
    have hP2 : ∀ V', obs f a (startO f) = nI 0 → Fr V V' r → RoadAt sh V' r (startF f a.toNatClampNeg) → P (.inl (some (.int (nI 0)))) sh sz V' := hP2
    refine g_iload_n dX3_carryOut_102 rfl ?_
    refine g_aload_n dX3_carryOut_103 rfl ?_
    refine g_iload_n dX3_carryOut_104 rfl ?_
    refine g_callVp (Y := YX4_startObstacle) sv_X3_63 rfl yn_X4_startObstacle 6 (by decide) rfl rfl dX3_carryOut_105 (c_startObstacle h hI pR_ok) h.1.1 rfl rfl rfl (Nat.le_of_ble_eq_true rfl) ⟨rfl, rfl⟩ ?_
    refine g_aload_n dX3_carryOut_108 rfl ?_
    refine g_callSw (Y := YX3_carryOutMove) ss_X3_69 yn_X3_carryOutMove dX3_carryOut_109 (c_carryOutMove (g := startF f a.toNatClampNeg) (P := pW (fun v V2 => ∃ w : Int32, v = .int w ∧ P (.inl (some (.int w))) sh sz V2) sh sz) h (fun z => ?_) (fun z => ⟨_, rfl, rfl, rfl, _, rfl, hP1 z⟩) (fun V2 z z1 z2 => ⟨_, rfl, rfl, rfl, _, rfl, hP2 V2 z z1 z2⟩)) rfl rfl rfl (Nat.le_of_ble_eq_true rfl) ⟨rfl, rfl⟩ (fun v V2 z => ?_)
    · have hin : isC f a := Classical.byContradiction fun w => by
        rw [obs_f w] at z
        exact absurd z (by decide)
      obtain ⟨d, hd, rfl⟩ := isC_of hI hin
      rw [obs_t hI hd] at z
      have z0 := enc_0' (start_code f (c := d) (by omega)) z
      refine ⟨d, rfl, by omega, fun P' hP' => c_advanceS h hI hd z0 (fun V' w1 w2 => hP' V' w1 ?_)⟩
      rw [nI_clamp (by omega)]
      exact w2
    · obtain ⟨w, rfl, hP⟩ := z
      exact g_iret rfl (nr_int _) dX3_carryOut_112 (by decide) hP
  · refine g_tableIn (off := 100) (tgt := 113) dX3_carryOut_13 (by decide) (by decide) (by decide +kernel) (by decide) ?_
    have hP1 : obs f a (rollO f) ≠ nI 0 → P (.inl (some (.int (obs f a (rollO f))))) sh sz V := hP1
    have hP2 : ∀ V', obs f a (rollO f) = nI 0 → Fr V V' r → RoadAt sh V' r (advF f a.toNatClampNeg) → P (.inl (some (.int (nI 0)))) sh sz V' := hP2
    refine g_iload_n dX3_carryOut_113 rfl ?_
    refine g_aload_n dX3_carryOut_114 rfl ?_
    refine g_iload_n dX3_carryOut_115 rfl ?_
    refine g_callVp (Y := YX4_rollObstacle) sv_X3_73 rfl yn_X4_rollObstacle 6 (by decide) rfl rfl dX3_carryOut_116 (c_rollObstacle h hI pR_ok) h.1.1 rfl rfl rfl (Nat.le_of_ble_eq_true rfl) ⟨rfl, rfl⟩ ?_
    refine g_aload_n dX3_carryOut_119 rfl ?_
    refine g_callSw (Y := YX3_carryOutMove) ss_X3_69 yn_X3_carryOutMove dX3_carryOut_120 (c_carryOutMove (g := advF f a.toNatClampNeg) (P := pW (fun v V2 => ∃ w : Int32, v = .int w ∧ P (.inl (some (.int w))) sh sz V2) sh sz) h (fun z => ?_) (fun z => ⟨_, rfl, rfl, rfl, _, rfl, hP1 z⟩) (fun V2 z z1 z2 => ⟨_, rfl, rfl, rfl, _, rfl, hP2 V2 z z1 z2⟩)) rfl rfl rfl (Nat.le_of_ble_eq_true rfl) ⟨rfl, rfl⟩ (fun v V2 z => ?_)
    · have hin : isC f a := Classical.byContradiction fun w => by
        rw [obs_f w] at z
        exact absurd z (by decide)
      obtain ⟨d, hd, rfl⟩ := isC_of hI hin
      rw [obs_t hI hd] at z
      have z0 := enc_0' (roll_code f (c := d) (by omega)) z
      refine ⟨d, rfl, by omega, fun P' hP' => c_advanceR h hI hd z0 (fun V' w1 w2 => hP' V' w1 ?_)⟩
      rw [nI_clamp (by omega)]
      exact w2
    · obtain ⟨w, rfl, hP⟩ := z
      exact g_iret rfl (nr_int _) dX3_carryOut_123 (by decide) hP
  · refine g_tableIn (off := 111) (tgt := 124) dX3_carryOut_13 (by decide) (by decide) (by decide +kernel) (by decide) ?_
    have hP1 : (if isSV 0 a then nI 0 else -3 : Int32) ≠ nI 0 → P (.inl (some (.int (if isSV 0 a then nI 0 else -3)))) sh sz V := hP1
    have hP2 : ∀ V', (if isSV 0 a then nI 0 else -3 : Int32) = nI 0 → Fr V V' r → RoadAt sh V' r (upd f 5 a) → P (.inl (some (.int (nI 0)))) sh sz V' := hP2
    refine g_iload_n dX3_carryOut_124 rfl ?_
    refine g_aload_n dX3_carryOut_125 rfl ?_
    refine g_callSw (Y := YX3_carryOutTemperature) ss_X3_76 yn_X3_carryOutTemperature dX3_carryOut_126 (c_carryOutTemperature (P := pW (fun v V2 => ∃ w : Int32, v = .int w ∧ P (.inl (some (.int w))) sh sz V2) sh sz) h (fun z => ⟨_, rfl, rfl, rfl, _, rfl, ?_⟩) (fun V2 z z1 z2 => ⟨_, rfl, rfl, rfl, _, rfl, ?_⟩)) rfl rfl rfl (Nat.le_of_ble_eq_true rfl) ⟨rfl, rfl⟩ (fun v V2 z => ?_)
    · rw [if_neg z] at hP1
      exact hP1 (by decide)
    · rw [if_pos z] at hP2
      exact hP2 V2 rfl z1 z2
    · obtain ⟨w, rfl, hP⟩ := z
      exact g_iret rfl (nr_int _) dX3_carryOut_129 (by decide) hP
  · refine g_tableIn (off := 117) (tgt := 130) dX3_carryOut_13 (by decide) (by decide) (by decide +kernel) (by decide) ?_
    obtain ⟨e4, e5⟩ := e45 rfl
    have hP1 : joinA f a b c ≠ nI 0 → P (.inl (some (.int (joinA f a b c)))) sh sz V := hP1
    have hP2 : ∀ V', joinA f a b c = nI 0 → Fr V V' r → RoadAt sh V' r (jnF f a.toNatClampNeg (b.toNatClampNeg * 5 + c.toNatClampNeg)) → P (.inl (some (.int (nI 0)))) sh sz V' := hP2
    refine g_aload_n dX3_carryOut_130 rfl ?_
    refine g_iload_n dX3_carryOut_131 rfl ?_
    refine g_aload_n dX3_carryOut_132 rfl ?_
    refine g_callVw (Y := YX3_carryOutJoin) sv_X3_79 rfl yn_X3_carryOutJoin 5 (by decide) rfl rfl dX3_carryOut_133 (c_carryOutJoin (P := pW (fun v V2 => ∃ w : Int32, v = .int w ∧ P (.inl (some (.int w))) sh sz V2) sh sz) h hI hO hk e3 e4 e5 hd (fun z => ⟨_, rfl, rfl, rfl, _, rfl, hP1 z⟩) (fun V2 z z1 z2 => ⟨_, rfl, rfl, rfl, _, rfl, hP2 V2 z z1 z2⟩)) s0 rfl rfl rfl (Nat.le_of_ble_eq_true rfl) ⟨rfl, rfl⟩ (fun v V2 z => ?_)
    obtain ⟨w, rfl, hP⟩ := z
    exact g_iret rfl (nr_int _) dX3_carryOut_136 (by decide) hP
  · refine g_tableIn (off := 124) (tgt := 137) dX3_carryOut_13 (by decide) (by decide) (by decide +kernel) (by decide) ?_
    have hP1 : (if isDay a then nI 0 else -3 : Int32) ≠ nI 0 → P (.inl (some (.int (if isDay a then nI 0 else -3)))) sh sz V := hP1
    have hP2 : ∀ V', (if isDay a then nI 0 else -3 : Int32) = nI 0 → Fr V V' r → RoadAt sh V' r (passF f a.toNatClampNeg) → P (.inl (some (.int (nI 0)))) sh sz V' := hP2
    refine g_iload_n dX3_carryOut_137 rfl ?_
    refine g_aload_n dX3_carryOut_138 rfl ?_
    refine g_callSw (Y := YX3_carryOutDays) ss_X3_82 yn_X3_carryOutDays dX3_carryOut_139 (c_carryOutDays (P := pW (fun v V2 => ∃ w : Int32, v = .int w ∧ P (.inl (some (.int w))) sh sz V2) sh sz) h hI (fun z => ⟨_, rfl, rfl, rfl, _, rfl, ?_⟩) (fun V2 z z1 z2 => ⟨_, rfl, rfl, rfl, _, rfl, ?_⟩)) rfl rfl rfl (Nat.le_of_ble_eq_true rfl) ⟨rfl, rfl⟩ (fun v V2 z => ?_)
    · rw [if_neg z] at hP1
      exact hP1 (by decide)
    · rw [if_pos z] at hP2
      exact hP2 V2 rfl z1 z2
    · obtain ⟨w, rfl, hP⟩ := z
      exact g_iret rfl (nr_int _) dX3_carryOut_142 (by decide) hP
end DOES

