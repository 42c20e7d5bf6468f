/-! the class' methods: trucks and convoys (2) -/
section METH2B
variable {E : gE} {M : gM} {P : gP} {sh sh' : Sh} {sz : Nat} {V V' : Vl} {cu su pc : Nat} {L : List (Option Value)} {rest : List Value} {x : Nat} {S : St} {f : Fl}
theorem jnF_out {c k i : Nat} (hn : ncv f c < 4) (h1 : i ≠ oR k) (h2 : i ≠ oR k + 1) (h3 : ¬ (100 + 16 * c ≤ i ∧ i < 116 + 16 * c)) : jnF f c k i = f i := by
  unfold jnF
  rw [pk_un h2, pk_un h1, jn1_out hn h3]
theorem jnF_cnt {c k : Nat} (hn : ncv f c < 4) : cnt (jnF f c k) = cnt f := by
  unfold cnt
  rw [jnF_out hn (by unfold oR; omega) (by unfold oR; omega) (by omega)]
theorem jnF_d {c d k i : Nat} (hn : ncv f c < 4) (hk : k < 10) (hd : d ≠ c) (hi : i < 16) : jnF f c k (oC d i) = f (oC d i) := jnF_out hn (by unfold oR oC; omega) (by unfold oR oC; omega) (by unfold oC; omega)
theorem jnF_c {c k i : Nat} (hk : k < 10) (h1 : i ≠ 1) (h4 : i ≠ 4 + 3 * ncv f c) (h5 : i ≠ 5 + 3 * ncv f c) (h6 : i ≠ 6 + 3 * ncv f c) : jnF f c k (oC c i) = f (oC c i) := by
  have w1 : oC c i ≠ oC c 1 := by unfold oC; omega
  have w4 : oC c i ≠ oC c (4 + 3 * ncv f c) := by unfold oC; omega
  have w5 : oC c i ≠ oC c (5 + 3 * ncv f c) := by unfold oC; omega
  have w6 : oC c i ≠ oC c (6 + 3 * ncv f c) := by unfold oC; omega
  unfold jnF
  rw [pk_un (by unfold oC oR; omega), pk_un (by unfold oC oR; omega)]
  simp only [jn1, upd, w1, w4, w5, w6, if_false]
theorem jnF_1 {c k : Nat} (hk : k < 10) (h13 : f (oC c 1) = nI (ncv f c)) : jnF f c k (oC c 1) = nI (ncv f c + 1) := by
  unfold jnF
  rw [pk_un (by unfold oC oR; omega), pk_un (by unfold oC oR; omega)]
  unfold jn1
  rw [pk_us, h13, nI_add]
theorem jnF_ncv {c k : Nat} (hk : k < 10) (h13 : f (oC c 1) = nI (ncv f c)) (hn : ncv f c < 4) : ncv (jnF f c k) c = ncv f c + 1 := by
  show (jnF f c k (oC c 1)).toNatClampNeg = _
  rw [jnF_1 hk h13, nI_clamp (by omega)]
theorem enc_no {z : Int32 × Int32} (h : codeOk z) : enc z ≠ -1 ∧ enc z ≠ -2 := by
  have h0 : (0 : Int32) ≤ enc z := by
    by_cases q : z = (nI 0, nI 0)
    · rw [(enc_0 h).mpr q]
      exact Int32.le_refl _
    · exact Int32.le_of_lt (enc_pos h q).1
  constructor
  · intro e
    rw [e] at h0
    exact absurd h0 (by decide)
  · intro e
    rw [e] at h0
    exact absurd h0 (by decide)
theorem m_join {c r p : Int32} (hC : CS sh V x S) (hI : InvB S.1) (hW : Wf sh sz) (hP : CP x sh sz V [xIO, nsC, xUO] (sp_join S c r p) P) : MC E YX6_join [.ref x, .int c, .int r, .int p] sh sz V P := by
  obtain ⟨o0, o1, o2, o3, o4, o5, o6, o7, o8⟩ := hC.1
  have hR0 : RoadAt sh V (x + 1) S.1 := hC.2.1
  have h44 := hI.1.2
  unfold sp_join at hP
  refine MC.of RX6 "join" rfl (by decide +kernel) rfl 1 [_, _, _, _, none] rfl (Nat.le_of_ble_eq_true rfl) ?_
  show G E MX6_join _ _ _ _ _ _ _ _ _
  refine g_aload_n dX6_join_0 rfl ?_
  refine g_get 8 rfl (by decide) inX6 0 (by decide) fl_X6_12 dX6_join_1 o0 o1 ?_
  refine g_iload_n dX6_join_4 rfl ?_
  refine g_iload_n dX6_join_5 rfl ?_
  refine g_iload_n dX6_join_6 rfl ?_
  refine g_callVp (Y := YX4_joinObstacle) sv_X6_196 rfl yn_X4_joinObstacle 6 (by decide) rfl rfl dX6_join_7 (c_joinObstacle hR0 hI pR_ok) hR0.1.1 rfl rfl rfl (Nat.le_of_ble_eq_true rfl) ⟨rfl, rfl⟩ ?_
  by_cases b1 : isC S.1 c ∧ isPl r p
  rotate_left
  · rw [if_neg b1] at hP
    rw [joinA_f b1]
    refine g_istore dX6_join_10 (by decide) rfl ?_
    show G _ _ _ _ _ _ _ _ _ [_, _, _, _, _] _
    refine g_iload dX6_join_12 rfl ?_
    refine g_iconst (v := (-1)) dX6_join_14 (by decide) ?_
    refine g_icmp_ne (tgt := 28) dX6_join_15 (by decide) (fun hq => absurd hq ((fun q => q rfl))) (fun _ => ?_)
    refine g_throw (names := tn_IndexOutOfBoundsException) (text := "no such convoy, row or place") rfl (by decide +kernel) cl_X6_75 ini_IndexOutOfBoundsException (by decide +kernel) ta_X6_79 to_X6_79 dX6_join_18 dX6_join_21 dX6_join_22 dX6_join_24 dX6_join_27 rfl (by decide) (by decide) (by decide) (hP.thr hW hC rfl)
  rw [if_pos b1] at hP
  obtain ⟨c, hc, rfl⟩ := isC_of hI b1.1
  obtain ⟨a, ha, rfl⟩ := in_nI b1.2.1.1 b1.2.1.2 (by decide)
  obtain ⟨k, hk, rfl⟩ := in_nI b1.2.2.1 b1.2.2.2 (by decide)
  obtain ⟨i0, i1, i2, i3, i4⟩ := hI.cv hc
  rw [joinA_t hI hc ha hk]
  rw [nI_clamp (by omega), nI_clamp (by omega), nI_clamp (by omega)] at hP
  by_cases h0 : S.1 (oR (a * 5 + k)) = 0
  · rw [if_pos h0] at hP ⊢
    refine g_istore dX6_join_10 (by decide) rfl ?_
    show G _ _ _ _ _ _ _ _ _ [_, _, _, _, _] _
    refine g_iload dX6_join_12 rfl ?_
    refine g_iconst (v := (-1)) dX6_join_14 (by decide) ?_
    refine g_icmp_ne (tgt := 28) dX6_join_15 (by decide) (fun _ => ?_) (fun hq => absurd hq ((by decide)))
    refine g_iload dX6_join_28 rfl ?_
    refine g_bipush (v := (-2)) dX6_join_30 (by decide) ?_
    refine g_icmp_ne (tgt := 45) dX6_join_32 (by decide) (fun hq => absurd hq ((fun q => q rfl))) (fun _ => ?_)
    refine g_throwN (text := "no truck is at the place") rfl cl_X6_101 (by decide +kernel) dX6_join_35 dX6_join_38 dX6_join_39 dX6_join_41 dX6_join_44 rfl (by decide) (by decide) (by decide) (hP.thr hW hC rfl)
  rw [if_neg h0] at hP ⊢
  have hz := join_code S.1 (c := c) (by omega)
  refine g_istore dX6_join_10 (by decide) rfl ?_
  show G _ _ _ _ _ _ _ _ _ [_, _, _, _, _] _
  refine g_iload dX6_join_12 rfl ?_
  refine g_iconst (v := (-1)) dX6_join_14 (by decide) ?_
  refine g_icmp_ne (tgt := 28) dX6_join_15 (by decide) (fun _ => ?_) (fun hq => absurd hq ((enc_no hz).1))
  refine g_iload dX6_join_28 rfl ?_
  refine g_bipush (v := (-2)) dX6_join_30 (by decide) ?_
  refine g_icmp_ne (tgt := 45) dX6_join_32 (by decide) (fun _ => ?_) (fun hq => absurd hq ((enc_no hz).2))
  by_cases hj : joinO S.1 c = (nI 0, nI 0)
  rotate_left
  · rw [if_neg hj] at hP
    refine g_iload dX6_join_45 rfl ?_
    refine g_if_eq (tgt := 66) dX6_join_47 (by decide) (fun hq => absurd hq ((fun q => hj ((enc_0 hz).mp q)))) (fun _ => ?_)
    refine g_aload_n dX6_join_50 rfl ?_
    refine g_iload dX6_join_51 rfl ?_
    refine g_put 8 rfl (by decide) inX6 tyX6 tyX6_ok nmX6 7 (by decide) fl_X6_44 rfl dX6_join_53 o0 rfl rfl ?_
    have hC2 := CAt.ref (z := joinO S.1 c) hC
    refine g_throw (names := tn_UnsupportedOperationException) (text := "the truck may not join") rfl (by decide +kernel) cl_X6_146 ini_UnsupportedOperationException (by decide +kernel) ta_X6_150 to_X6_150 dX6_join_56 dX6_join_59 dX6_join_60 dX6_join_62 dX6_join_65 rfl (by decide) (by decide) (by decide) (hP.thrW hW (fun b hb => hu_ne _ _ _ (by omega)) hC2 rfl)
  rw [if_pos hj] at hP
  have hn : ncv S.1 c < 4 := by
    refine Classical.byContradiction fun q => ?_
    unfold joinO at hj
    rw [if_neg q] at hj
    split at hj
    · exact absurd (Prod.mk.inj hj).1 (nI_ne0 (by decide) (by decide))
    · exact absurd (Prod.mk.inj hj).1 (by decide)
  have hl : ¬ 0 ≤ S.1 (oC c 2) := by
    intro q
    unfold joinO at hj
    rw [if_pos q] at hj
    exact absurd (Prod.mk.inj hj).1 (by decide)
  refine g_iload dX6_join_45 rfl ?_
  refine g_if_eq (tgt := 66) dX6_join_47 (by decide) (fun _ => ?_) (fun hq => absurd (((enc_0 hz).mpr hj)) hq)
  refine g_aload_n dX6_join_66 rfl ?_
  refine g_get 8 rfl (by decide) inX6 4 (by decide) fl_X6_29 dX6_join_67 o0 o5 ?_
  refine g_aload_n dX6_join_70 rfl ?_
  refine g_get 8 rfl (by decide) inX6 0 (by decide) fl_X6_12 dX6_join_71 o0 o1 ?_
  refine g_callVv (Y := YX1_keep) (Q := (fun V1 => (∀ a, ¬ (x ≤ a ∧ a < x + 284) → V1 a = V a) ∧ CS sh V1 x (S.1, S.2.1, pH S.2.2.1 S.2.2.2.1 S.1, pC S.2.2.2.1, S.2.2.2.2))) sv_X6_58 rfl yn_X1_keep 3 (by decide) rfl rfl dX6_join_74 (c_keepC hC (fun V1 q1 q2 => ⟨rfl, rfl, rfl, q1, q2⟩)) (by obtain ⟨-, -, -, -, ⟨K, nx, hH, -⟩, -⟩ := hC; exact hH.1) rfl rfl rfl (Nat.le_of_ble_eq_true rfl) ⟨rfl, rfl⟩ (fun V1 q => ?_)
  obtain ⟨q1, q2⟩ := q
  obtain ⟨p0, p1, p2, p3, p4, p5, p6, p7, p8⟩ := q2.1
  have hR : RoadAt sh V1 (x + 1) S.1 := q2.2.1
  refine g_aload_n dX6_join_77 rfl ?_
  refine g_get 8 rfl (by decide) inX6 0 (by decide) fl_X6_12 dX6_join_78 p0 p1 ?_
  refine g_aload_n dX6_join_81 rfl ?_
  refine g_get 8 rfl (by decide) inX6 0 (by decide) fl_X6_12 dX6_join_82 p0 p1 ?_
  refine g_get 6 rfl (by decide) inX4 4 (by decide) fl_X6_187 dX6_join_85 hR.1.1 hR.2.1.2.2.2.2.1 ?_
  refine g_iload_n dX6_join_88 rfl ?_
  refine g_aaload _ dX6_join_89 hR.1.2.2.2.2 (by decide) (by decide) (vp_in_nI (by omega) (by decide)) (hR.cvr (c := c) (by omega)) ?_
  refine g_iload_n dX6_join_90 rfl ?_
  refine g_iconst (v := nI 5) dX6_join_91 (by decide) ?_
  refine g_imul dX6_join_92 ?_
  refine g_iload_n dX6_join_93 rfl ?_
  refine g_iadd dX6_join_94 ?_
  rw [ix5]
  refine g_callVv (Y := YX4_letJoin) (Q := (fun V2 => Fr V1 V2 (x + 1) ∧ RoadAt sh V2 (x + 1) (jnF S.1 c (a * 5 + k)))) sv_X6_204 rfl yn_X4_letJoin 6 (by decide) rfl rfl dX6_join_95 (c_letJoin hR hI hc hn (k := a * 5 + k) (by omega) h0 (fun V2 q1 q2 => ⟨rfl, rfl, rfl, q1, q2⟩)) hR.1.1 rfl rfl rfl (Nat.le_of_ble_eq_true rfl) ⟨rfl, rfl⟩ (fun V2 q => ?_)
  obtain ⟨q3, q4⟩ := q
  have hC2 := CAt.now q2 q3 q4
  obtain ⟨r0, r1, r2, r3, r4, r5, r6, r7, r8⟩ := hC2.1
  obtain ⟨c0, ca, c1, c2, c3, -⟩ := q4.cv4 (c := c) (by rw [jnF_cnt hn]; exact h44) (by rw [jnF_cnt hn]; exact hc)
  rw [jnF_ncv (by omega) i1 hn] at c3
  refine g_aload_n dX6_join_98 rfl ?_
  refine g_get 8 rfl (by decide) inX6 0 (by decide) fl_X6_12 dX6_join_99 r0 r1 ?_
  refine g_get 6 rfl (by decide) inX4 4 (by decide) fl_X6_187 dX6_join_102 q4.1.1 q4.2.1.2.2.2.2.1 ?_
  refine g_iload_n dX6_join_105 rfl ?_
  refine g_aaload _ dX6_join_106 q4.1.2.2.2.2 (by decide) (by decide) (vp_in_nI (by omega) (by decide)) (q4.cvr (c := c) (by omega)) ?_
  refine g_get 2 rfl (by decide) inX0 2 (by decide) fl_X6_208 dX6_join_107 c0 c3 ?_
  have hP := hP.retW hW (V' := V2) (fun a ha => (q3 a (by omega)).trans (q1 a ha)) hC2
  exact g_iret rfl (nr_int _) dX6_join_110 (by decide) hP
theorem obs_no {c : Int32} {g : Nat → Int32 × Int32} (hI : InvB f) (hg : ∀ c, c < 4 → codeOk (g c)) (h : isC f c) : obs f c g ≠ -1 := by
  obtain ⟨c, hc, rfl⟩ := isC_of hI h
  rw [obs_t hI hc]
  exact (enc_no (hg c (by have := hI.1.2; omega))).1
theorem m_start {c : Int32} (hC : CS sh V x S) (hI : InvB S.1) (hW : Wf sh sz) (hP : CP x sh sz V [xIO, xUO] (sp_start S c) P) : MC E YX6_start [.ref x, .int c] sh sz V P := by
  obtain ⟨o0, o1, o2, o3, o4, o5, o6, o7, o8⟩ := hC.1
  have hR0 : RoadAt sh V (x + 1) S.1 := hC.2.1
  have h44 := hI.1.2
  unfold sp_start at hP
  refine MC.of RX6 "start" rfl (by decide +kernel) rfl 1 [_, _, none] rfl (Nat.le_of_ble_eq_true rfl) ?_
  show G E MX6_start _ _ _ _ _ _ _ _ _
  refine g_aload_n dX6_start_0 rfl ?_
  refine g_get 8 rfl (by decide) inX6 0 (by decide) fl_X6_12 dX6_start_1 o0 o1 ?_
  refine g_iload_n dX6_start_4 rfl ?_
  refine g_callVp (Y := YX4_startObstacle) sv_X6_211 rfl yn_X4_startObstacle 6 (by decide) rfl rfl dX6_start_5 (c_startObstacle hR0 hI pR_ok) hR0.1.1 rfl rfl rfl (Nat.le_of_ble_eq_true rfl) ⟨rfl, rfl⟩ ?_
  by_cases b1 : isC S.1 c
  rotate_left
  · rw [if_neg b1] at hP
    rw [obs_f b1]
    refine g_istore_n dX6_start_8 (by decide) rfl ?_
    show G _ _ _ _ _ _ _ _ _ [_, _, _] _
    refine g_iload_n dX6_start_9 rfl ?_
    refine g_iconst (v := (-1)) dX6_start_10 (by decide) ?_
    refine g_icmp_ne (tgt := 24) dX6_start_11 (by decide) (fun hq => absurd hq ((fun q => q rfl))) (fun _ => ?_)
    refine g_throw (names := tn_IndexOutOfBoundsException) (text := "no such convoy") rfl (by decide +kernel) cl_X6_75 ini_IndexOutOfBoundsException (by decide +kernel) ta_X6_79 to_X6_79 dX6_start_14 dX6_start_17 dX6_start_18 dX6_start_20 dX6_start_23 rfl (by decide) (by decide) (by decide) (hP.thr hW hC rfl)
  rw [if_pos b1] at hP
  obtain ⟨c, hc, rfl⟩ := isC_of hI b1
  rw [obs_t hI hc]
  rw [nI_clamp (by omega)] at hP
  have hz := start_code S.1 (c := c) (by omega)
  refine g_istore_n dX6_start_8 (by decide) rfl ?_
  show G _ _ _ _ _ _ _ _ _ [_, _, _] _
  refine g_iload_n dX6_start_9 rfl ?_
  refine g_iconst (v := (-1)) dX6_start_10 (by decide) ?_
  refine g_icmp_ne (tgt := 24) dX6_start_11 (by decide) (fun _ => ?_) (fun hq => absurd hq ((enc_no hz).1))
  by_cases hj : startO S.1 c = (nI 0, nI 0)
  rotate_left
  · rw [if_neg hj] at hP
    refine g_iload_n dX6_start_24 rfl ?_
    refine g_if_eq (tgt := 43) dX6_start_25 (by decide) (fun hq => absurd hq ((fun q => hj ((enc_0 hz).mp q)))) (fun _ => ?_)
    refine g_aload_n dX6_start_28 rfl ?_
    refine g_iload_n dX6_start_29 rfl ?_
    refine g_put 8 rfl (by decide) inX6 tyX6 tyX6_ok nmX6 7 (by decide) fl_X6_44 rfl dX6_start_30 o0 rfl rfl ?_
    have hC2 := CAt.ref (z := startO S.1 c) hC
    refine g_throw (names := tn_UnsupportedOperationException) (text := "the convoy may not start") rfl (by decide +kernel) cl_X6_146 ini_UnsupportedOperationException (by decide +kernel) ta_X6_150 to_X6_150 dX6_start_33 dX6_start_36 dX6_start_37 dX6_start_39 dX6_start_42 rfl (by decide) (by decide) (by decide) (hP.thrW hW (fun b hb => hu_ne _ _ _ (by omega)) hC2 rfl)
  rw [if_pos hj] at hP
  refine g_iload_n dX6_start_24 rfl ?_
  refine g_if_eq (tgt := 43) dX6_start_25 (by decide) (fun _ => ?_) (fun hq => absurd (((enc_0 hz).mpr hj)) hq)
  refine g_aload_n dX6_start_43 rfl ?_
  refine g_get 8 rfl (by decide) inX6 4 (by decide) fl_X6_29 dX6_start_44 o0 o5 ?_
  refine g_aload_n dX6_start_47 rfl ?_
  refine g_get 8 rfl (by decide) inX6 0 (by decide) fl_X6_12 dX6_start_48 o0 o1 ?_
  refine g_callVv (Y := YX1_keep) (Q := (fun V1 => (∀ a, ¬ (x ≤ a ∧ a < x + 284) → V1 a = V a) ∧ CS sh V1 x (S.1, S.2.1, pH S.2.2.1 S.2.2.2.1 S.1, pC S.2.2.2.1, S.2.2.2.2))) sv_X6_58 rfl yn_X1_keep 3 (by decide) rfl rfl dX6_start_51 (c_keepC hC (fun V1 q1 q2 => ⟨rfl, rfl, rfl, q1, q2⟩)) (by obtain ⟨-, -, -, -, ⟨K, nx, hH, -⟩, -⟩ := hC; exact hH.1) rfl rfl rfl (Nat.le_of_ble_eq_true rfl) ⟨rfl, rfl⟩ (fun V1 q => ?_)
  obtain ⟨q1, q2⟩ := q
  obtain ⟨p0, p1, p2, p3, p4, p5, p6, p7, p8⟩ := q2.1
  have hR : RoadAt sh V1 (x + 1) S.1 := q2.2.1
  refine g_aload_n dX6_start_54 rfl ?_
  refine g_get 8 rfl (by decide) inX6 0 (by decide) fl_X6_12 dX6_start_55 p0 p1 ?_
  refine g_aload_n dX6_start_58 rfl ?_
  refine g_get 8 rfl (by decide) inX6 0 (by decide) fl_X6_12 dX6_start_59 p0 p1 ?_
  refine g_get 6 rfl (by decide) inX4 4 (by decide) fl_X6_187 dX6_start_62 hR.1.1 hR.2.1.2.2.2.2.1 ?_
  refine g_iload_n dX6_start_65 rfl ?_
  refine g_aaload _ dX6_start_66 hR.1.2.2.2.2 (by decide) (by decide) (vp_in_nI (by omega) (by decide)) (hR.cvr (c := c) (by omega)) ?_
  refine g_callVv (Y := YX4_advance) (Q := (fun V2 => Fr V1 V2 (x + 1) ∧ RoadAt sh V2 (x + 1) (startF S.1 c))) sv_X6_218 rfl yn_X4_advance 6 (by decide) rfl rfl dX6_start_67 (c_advanceS hR hI hc hj (fun V2 q1 q2 => ⟨rfl, rfl, rfl, q1, q2⟩)) hR.1.1 rfl rfl rfl (Nat.le_of_ble_eq_true rfl) ⟨rfl, rfl⟩ (fun V2 q => ?_)
  obtain ⟨q3, q4⟩ := q
  have hC2 := CAt.now q2 q3 q4
  obtain ⟨r0, r1, r2, r3, r4, r5, r6, r7, r8⟩ := hC2.1
  have ec : cnt (startF S.1 c) = cnt S.1 := by
    unfold startF advF
    rw [advN_cnt, u3_cnt]
  have en : ncv (startF S.1 c) c = ncv S.1 c := by
    unfold startF advF
    rw [advN_ncv, u3_ncv]
  obtain ⟨c0, ca, c1, c2, c3, -⟩ := q4.cv4 (c := c) (by rw [ec]; exact h44) (by rw [ec]; exact hc)
  rw [en] at c3
  refine g_aload_n dX6_start_70 rfl ?_
  refine g_get 8 rfl (by decide) inX6 0 (by decide) fl_X6_12 dX6_start_71 r0 r1 ?_
  refine g_get 6 rfl (by decide) inX4 4 (by decide) fl_X6_187 dX6_start_74 q4.1.1 q4.2.1.2.2.2.2.1 ?_
  refine g_iload_n dX6_start_77 rfl ?_
  refine g_aaload _ dX6_start_78 q4.1.2.2.2.2 (by decide) (by decide) (vp_in_nI (by omega) (by decide)) (q4.cvr (c := c) (by omega)) ?_
  refine g_get 2 rfl (by decide) inX0 2 (by decide) fl_X6_208 dX6_start_79 c0 c3 ?_
  have hP := hP.retW hW (V' := V2) (fun a ha => (q3 a (by omega)).trans (q1 a ha)) hC2
  exact g_iret rfl (nr_int _) dX6_start_82 (by decide) hP
theorem m_roll {c : Int32} (hC : CS sh V x S) (hI : InvB S.1) (hW : Wf sh sz) (hP : CP x sh sz V [xIO, xUO] (sp_roll S c) P) : MC E YX6_roll [.ref x, .int c] sh sz V P := by
  obtain ⟨o0, o1, o2, o3, o4, o5, o6, o7, o8⟩ := hC.1
  have hR0 : RoadAt sh V (x + 1) S.1 := hC.2.1
  have h44 := hI.1.2
  unfold sp_roll at hP
  refine MC.of RX6 "roll" rfl (by decide +kernel) rfl 1 [_, _, none] rfl (Nat.le_of_ble_eq_true rfl) ?_
  show G E MX6_roll _ _ _ _ _ _ _ _ _
  refine g_aload_n dX6_roll_0 rfl ?_
  refine g_get 8 rfl (by decide) inX6 0 (by decide) fl_X6_12 dX6_roll_1 o0 o1 ?_
  refine g_iload_n dX6_roll_4 rfl ?_
  refine g_callVp (Y := YX4_rollObstacle) sv_X6_222 rfl yn_X4_rollObstacle 6 (by decide) rfl rfl dX6_roll_5 (c_rollObstacle hR0 hI pR_ok) hR0.1.1 rfl rfl rfl (Nat.le_of_ble_eq_true rfl) ⟨rfl, rfl⟩ ?_
  by_cases b1 : isC S.1 c
  rotate_left
  · rw [if_neg b1] at hP
    rw [obs_f b1]
    refine g_istore_n dX6_roll_8 (by decide) rfl ?_
    show G _ _ _ _ _ _ _ _ _ [_, _, _] _
    refine g_iload_n dX6_roll_9 rfl ?_
    refine g_iconst (v := (-1)) dX6_roll_10 (by decide) ?_
    refine g_icmp_ne (tgt := 24) dX6_roll_11 (by decide) (fun hq => absurd hq ((fun q => q rfl))) (fun _ => ?_)
    refine g_throw (names := tn_IndexOutOfBoundsException) (text := "no such convoy") rfl (by decide +kernel) cl_X6_75 ini_IndexOutOfBoundsException (by decide +kernel) ta_X6_79 to_X6_79 dX6_roll_14 dX6_roll_17 dX6_roll_18 dX6_roll_20 dX6_roll_23 rfl (by decide) (by decide) (by decide) (hP.thr hW hC rfl)
  rw [if_pos b1] at hP
  obtain ⟨c, hc, rfl⟩ := isC_of hI b1
  rw [obs_t hI hc]
  rw [nI_clamp (by omega)] at hP
  have hz := roll_code S.1 (c := c) (by omega)
  refine g_istore_n dX6_roll_8 (by decide) rfl ?_
  show G _ _ _ _ _ _ _ _ _ [_, _, _] _
  refine g_iload_n dX6_roll_9 rfl ?_
  refine g_iconst (v := (-1)) dX6_roll_10 (by decide) ?_
  refine g_icmp_ne (tgt := 24) dX6_roll_11 (by decide) (fun _ => ?_) (fun hq => absurd hq ((enc_no hz).1))
  by_cases hj : rollO S.1 c = (nI 0, nI 0)
  rotate_left
  · rw [if_neg hj] at hP
    refine g_iload_n dX6_roll_24 rfl ?_
    refine g_if_eq (tgt := 43) dX6_roll_25 (by decide) (fun hq => absurd hq ((fun q => hj ((enc_0 hz).mp q)))) (fun _ => ?_)
    refine g_aload_n dX6_roll_28 rfl ?_
    refine g_iload_n dX6_roll_29 rfl ?_
    refine g_put 8 rfl (by decide) inX6 tyX6 tyX6_ok nmX6 7 (by decide) fl_X6_44 rfl dX6_roll_30 o0 rfl rfl ?_
    have hC2 := CAt.ref (z := rollO S.1 c) hC
    refine g_throw (names := tn_UnsupportedOperationException) (text := "the convoy may not roll") rfl (by decide +kernel) cl_X6_146 ini_UnsupportedOperationException (by decide +kernel) ta_X6_150 to_X6_150 dX6_roll_33 dX6_roll_36 dX6_roll_37 dX6_roll_39 dX6_roll_42 rfl (by decide) (by decide) (by decide) (hP.thrW hW (fun b hb => hu_ne _ _ _ (by omega)) hC2 rfl)
  rw [if_pos hj] at hP
  refine g_iload_n dX6_roll_24 rfl ?_
  refine g_if_eq (tgt := 43) dX6_roll_25 (by decide) (fun _ => ?_) (fun hq => absurd (((enc_0 hz).mpr hj)) hq)
  refine g_aload_n dX6_roll_43 rfl ?_
  refine g_get 8 rfl (by decide) inX6 4 (by decide) fl_X6_29 dX6_roll_44 o0 o5 ?_
  refine g_aload_n dX6_roll_47 rfl ?_
  refine g_get 8 rfl (by decide) inX6 0 (by decide) fl_X6_12 dX6_roll_48 o0 o1 ?_
  refine g_callVv (Y := YX1_keep) (Q := (fun V1 => (∀ a, ¬ (x ≤ a ∧ a < x + 284) → V1 a = V a) ∧ CS sh V1 x (S.1, S.2.1, pH S.2.2.1 S.2.2.2.1 S.1, pC S.2.2.2.1, S.2.2.2.2))) sv_X6_58 rfl yn_X1_keep 3 (by decide) rfl rfl dX6_roll_51 (c_keepC hC (fun V1 q1 q2 => ⟨rfl, rfl, rfl, q1, q2⟩)) (by obtain ⟨-, -, -, -, ⟨K, nx, hH, -⟩, -⟩ := hC; exact hH.1) rfl rfl rfl (Nat.le_of_ble_eq_true rfl) ⟨rfl, rfl⟩ (fun V1 q => ?_)
  obtain ⟨q1, q2⟩ := q
  obtain ⟨p0, p1, p2, p3, p4, p5, p6, p7, p8⟩ := q2.1
  have hR : RoadAt sh V1 (x + 1) S.1 := q2.2.1
  refine g_aload_n dX6_roll_54 rfl ?_
  refine g_get 8 rfl (by decide) inX6 0 (by decide) fl_X6_12 dX6_roll_55 p0 p1 ?_
  refine g_aload_n dX6_roll_58 rfl ?_
  refine g_get 8 rfl (by decide) inX6 0 (by decide) fl_X6_12 dX6_roll_59 p0 p1 ?_
  refine g_get 6 rfl (by decide) inX4 4 (by decide) fl_X6_187 dX6_roll_62 hR.1.1 hR.2.1.2.2.2.2.1 ?_
  refine g_iload_n dX6_roll_65 rfl ?_
  refine g_aaload _ dX6_roll_66 hR.1.2.2.2.2 (by decide) (by decide) (vp_in_nI (by omega) (by decide)) (hR.cvr (c := c) (by omega)) ?_
  refine g_callVv (Y := YX4_advance) (Q := (fun V2 => Fr V1 V2 (x + 1) ∧ RoadAt sh V2 (x + 1) (advF S.1 c))) sv_X6_218 rfl yn_X4_advance 6 (by decide) rfl rfl dX6_roll_67 (c_advanceR hR hI hc hj (fun V2 q1 q2 => ⟨rfl, rfl, rfl, q1, q2⟩)) hR.1.1 rfl rfl rfl (Nat.le_of_ble_eq_true rfl) ⟨rfl, rfl⟩ (fun V2 q => ?_)
  obtain ⟨q3, q4⟩ := q
  have hC2 := CAt.now q2 q3 q4
  obtain ⟨r0, r1, r2, r3, r4, r5, r6, r7, r8⟩ := hC2.1
  have ec : cnt (advF S.1 c) = cnt S.1 := by
    unfold advF
    rw [advN_cnt]
  have en : ncv (advF S.1 c) c = ncv S.1 c := by
    unfold advF
    rw [advN_ncv]
  obtain ⟨i0, i1, i2, i3, i4⟩ := hI.cv hc
  obtain ⟨c0, ca, c1, c2, c3, -⟩ := q4.cv4 (c := c) (by rw [ec]; exact h44) (by rw [ec]; exact hc)
  refine g_aload_n dX6_roll_70 rfl ?_
  refine g_get 8 rfl (by decide) inX6 0 (by decide) fl_X6_12 dX6_roll_71 r0 r1 ?_
  refine g_get 6 rfl (by decide) inX4 4 (by decide) fl_X6_187 dX6_roll_74 q4.1.1 q4.2.1.2.2.2.2.1 ?_
  refine g_iload_n dX6_roll_77 rfl ?_
  refine g_aaload _ dX6_roll_78 q4.1.2.2.2.2 (by decide) (by decide) (vp_in_nI (by omega) (by decide)) (q4.cvr (c := c) (by omega)) ?_
  refine g_callVp (Y := YX0_countOnRoad) sv_X6_227 rfl yn_X0_countOnRoad 2 (by decide) rfl rfl dX6_roll_79 (c_countOnRoad c0 c1 c2 c3 (by rw [en]; omega) pR_ok) c0 rfl rfl rfl (Nat.le_of_ble_eq_true rfl) ⟨rfl, rfl⟩ ?_
  have hP := hP.retW hW (V' := V2) (fun a ha => (q3 a (by omega)).trans (q1 a ha)) hC2
  unfold onR at hP
  exact g_iret rfl (nr_int _) dX6_roll_82 (by decide) hP
theorem enc_dm {z : Int32 × Int32} (h : codeOk z) : enc z / nI 16 = z.1 ∧ enc z - enc z / nI 16 * nI 16 = z.2 := by
  rcases h with rfl | ⟨a, b, h1, h2, h3, rfl⟩
  · decide
  · rw [enc_nI, pk_rem (by omega) (by decide) (by decide), pk_div (by omega) (by decide) (by decide)]
    exact ⟨by rw [show (16 * a + b) / 16 = a by omega], by rw [show (16 * a + b) % 16 = b by omega]⟩
theorem m_why {c d : Int32} (hC : CS sh V x S) (hI : InvB S.1) (hW : Wf sh sz) (hP : CP x sh sz V [xIO] (sp_why S c d) P) : MC E YX6_why [.ref x, .int c, .int d] sh sz V P := by
  obtain ⟨o0, o1, o2, o3, o4, o5, o6, o7, o8⟩ := hC.1
  have hR0 : RoadAt sh V (x + 1) S.1 := hC.2.1
  have h44 := hI.1.2
  unfold sp_why at hP
  refine MC.of RX6 "why" rfl (by decide +kernel) rfl 1 [_, _, _, none] rfl (Nat.le_of_ble_eq_true rfl) ?_
  show G E MX6_why _ _ _ _ _ _ _ _ _
  refine g_aload_n dX6_why_0 rfl ?_
  refine g_get 8 rfl (by decide) inX6 0 (by decide) fl_X6_12 dX6_why_1 o0 o1 ?_
  refine g_iload_n dX6_why_4 rfl ?_
  refine g_callVp (Y := YX4_rollObstacle) sv_X6_222 rfl yn_X4_rollObstacle 6 (by decide) rfl rfl dX6_why_5 (c_rollObstacle hR0 hI pR_ok) hR0.1.1 rfl rfl rfl (Nat.le_of_ble_eq_true rfl) ⟨rfl, rfl⟩ ?_
  by_cases b1 : isC S.1 c
  rotate_left
  · rw [if_neg b1] at hP
    rw [obs_f b1]
    refine g_istore_n dX6_why_8 (by decide) rfl ?_
    show G _ _ _ _ _ _ _ _ _ [_, _, _, _] _
    refine g_iload_n dX6_why_9 rfl ?_
    refine g_iconst (v := (-1)) dX6_why_10 (by decide) ?_
    refine g_icmp_ne (tgt := 24) dX6_why_11 (by decide) (fun hq => absurd hq ((fun q => q rfl))) (fun _ => ?_)
    refine g_throw (names := tn_IndexOutOfBoundsException) (text := "no such convoy") rfl (by decide +kernel) cl_X6_75 ini_IndexOutOfBoundsException (by decide +kernel) ta_X6_79 to_X6_79 dX6_why_14 dX6_why_17 dX6_why_18 dX6_why_20 dX6_why_23 rfl (by decide) (by decide) (by decide) (hP.thr hW hC rfl)
  rw [if_pos b1] at hP
  obtain ⟨c, hc, rfl⟩ := isC_of hI b1
  rw [obs_t hI hc]
  rw [nI_clamp (by omega)] at hP
  have hz := roll_code S.1 (c := c) (by omega)
  obtain ⟨z1, z2⟩ := enc_dm hz
  refine g_istore_n dX6_why_8 (by decide) rfl ?_
  show G _ _ _ _ _ _ _ _ _ [_, _, _, _] _
  refine g_iload_n dX6_why_9 rfl ?_
  refine g_iconst (v := (-1)) dX6_why_10 (by decide) ?_
  refine g_icmp_ne (tgt := 24) dX6_why_11 (by decide) (fun _ => ?_) (fun hq => absurd hq ((enc_no hz).1))
  refine g_iload_n dX6_why_24 rfl ?_
  refine g_if_eq (tgt := 35) dX6_why_25 (by decide) (fun b2 => ?_) (fun b2 => ?_)
  · rw [if_pos b2, ← z1] at hP
    refine g_iload_n dX6_why_35 rfl ?_
    refine g_bipush (v := nI 16) dX6_why_36 (by decide) ?_
    refine g_idiv dX6_why_38 (by decide) ?_
    exact g_iret rfl (nr_int _) dX6_why_39 (by decide) (hP.ret hW hC)
  · rw [if_neg b2, ← z2] at hP
    refine g_iload_n dX6_why_28 rfl ?_
    refine g_bipush (v := nI 16) dX6_why_29 (by decide) ?_
    refine g_irem dX6_why_31 (by decide) ?_
    refine g_jump (tgt := 39) dX6_why_32 (by decide) ?_
    exact g_iret rfl (nr_int _) dX6_why_39 (by decide) (hP.ret hW hC)
theorem m_convoyOf {c w : Int32} (hC : CS sh V x S) (hI : InvB S.1) (hW : Wf sh sz) (hP : CP x sh sz V [xIO, xIA] (sp_convoyOf S c w) P) : MC E YX6_convoyOf [.ref x, .int c, .int w] sh sz V P := by
  obtain ⟨o0, o1, o2, o3, o4, o5, o6, o7, o8⟩ := hC.1
  have hR : RoadAt sh V (x + 1) S.1 := hC.2.1
  have h44 := hI.1.2
  unfold sp_convoyOf at hP
  refine MC.of RX6 "convoyOf" rfl (by decide +kernel) rfl 1 [_, _, _, none] rfl (Nat.le_of_ble_eq_true rfl) ?_
  show G E MX6_convoyOf _ _ _ _ _ _ _ _ _
  refine g_aload_n dX6_convoyOf_0 rfl ?_
  refine g_get 8 rfl (by decide) inX6 0 (by decide) fl_X6_12 dX6_convoyOf_1 o0 o1 ?_
  refine g_iload_n dX6_convoyOf_4 rfl ?_
  refine g_callVp (Y := YX4_isConvoy) sv_X6_231 rfl yn_X4_isConvoy 6 (by decide) rfl rfl dX6_convoyOf_5 (c_isConvoy hR hI pR_ok) hR.1.1 rfl rfl rfl (Nat.le_of_ble_eq_true rfl) ⟨rfl, rfl⟩ ?_
  refine g_if_ne (tgt := 21) dX6_convoyOf_8 (by decide) (fun b1 => ?_) (fun b1 => ?_)
  rotate_left
  · rw [if_neg (bi_eq b1)] at hP
    refine g_throw (names := tn_IndexOutOfBoundsException) (text := "no such convoy") rfl (by decide +kernel) cl_X6_75 ini_IndexOutOfBoundsException (by decide +kernel) ta_X6_79 to_X6_79 dX6_convoyOf_11 dX6_convoyOf_14 dX6_convoyOf_15 dX6_convoyOf_17 dX6_convoyOf_20 rfl (by decide) (by decide) (by decide) (hP.thr hW hC rfl)
  have b2 := bi_ne b1
  rw [if_pos b2] at hP
  obtain ⟨c, hc, rfl⟩ := isC_of hI b2
  rw [nI_clamp (by omega)] at hP
  obtain ⟨i0, i1, i2, i3, i4⟩ := hI.cv hc
  obtain ⟨c0, ca, c1, c2, c3, -⟩ := hR.cv hI hc
  refine g_aload_n dX6_convoyOf_21 rfl ?_
  refine g_get 8 rfl (by decide) inX6 0 (by decide) fl_X6_12 dX6_convoyOf_22 o0 o1 ?_
  refine g_get 6 rfl (by decide) inX4 4 (by decide) fl_X6_187 dX6_convoyOf_25 hR.1.1 hR.2.1.2.2.2.2.1 ?_
  refine g_iload_n dX6_convoyOf_28 rfl ?_
  refine g_aaload _ dX6_convoyOf_29 hR.1.2.2.2.2 (by decide) (by decide) (vp_in_nI (by omega) (by decide)) (hR.cvr (c := c) (by omega)) ?_
  refine g_astore_n dX6_convoyOf_30 (by decide) rfl ?_
  show G _ _ _ _ _ _ _ _ _ [_, _, _, _] _
  by_cases b3 : 0 ≤ w ∧ w < nI 6
  · rw [if_pos b3] at hP
    obtain ⟨k, hk, rfl⟩ := in_nI b3.1 b3.2 (by decide)
    unfold cvV at hP
    rcases (show k = 0 ∨ k = 1 ∨ k = 2 ∨ k = 3 ∨ k = 4 ∨ k = 5 by omega) with rfl | rfl | rfl | rfl | rfl | rfl
    · rw [if_pos rfl] at hP
      refine g_iload_n dX6_convoyOf_31 rfl ?_
      refine g_tableIn (off := 40) (tgt := 72) dX6_convoyOf_32 (by decide) (by decide) (by decide +kernel) (by decide) ?_
      refine g_aload_n dX6_convoyOf_72 rfl ?_
      refine g_get 2 rfl (by decide) inX0 0 (by decide) fl_X6_191 dX6_convoyOf_73 c0 c1 ?_
      exact g_iret rfl (nr_int _) dX6_convoyOf_76 (by decide) (hP.ret hW hC)
    · rw [if_neg (by decide), if_pos rfl, i1] at hP
      refine g_iload_n dX6_convoyOf_31 rfl ?_
      refine g_tableIn (off := 45) (tgt := 77) dX6_convoyOf_32 (by decide) (by decide) (by decide +kernel) (by decide) ?_
      refine g_aload_n dX6_convoyOf_77 rfl ?_
      refine g_get 2 rfl (by decide) inX0 2 (by decide) fl_X6_208 dX6_convoyOf_78 c0 c3 ?_
      exact g_iret rfl (nr_int _) dX6_convoyOf_81 (by decide) (hP.ret hW hC)
    · rw [if_neg (by decide), if_neg (by decide), if_pos rfl] at hP
      refine g_iload_n dX6_convoyOf_31 rfl ?_
      refine g_tableIn (off := 50) (tgt := 82) dX6_convoyOf_32 (by decide) (by decide) (by decide +kernel) (by decide) ?_
      refine g_aload_n dX6_convoyOf_82 rfl ?_
      refine g_get 2 rfl (by decide) inX0 1 (by decide) fl_X6_234 dX6_convoyOf_83 c0 c2 ?_
      exact g_iret rfl (nr_int _) dX6_convoyOf_86 (by decide) (hP.ret hW hC)
    · rw [if_neg (by decide), if_neg (by decide), if_neg (by decide), if_pos rfl] at hP
      unfold onR at hP
      refine g_iload_n dX6_convoyOf_31 rfl ?_
      refine g_tableIn (off := 55) (tgt := 87) dX6_convoyOf_32 (by decide) (by decide) (by decide +kernel) (by decide) ?_
      refine g_aload_n dX6_convoyOf_87 rfl ?_
      refine g_callVp (Y := YX0_countOnRoad) sv_X6_227 rfl yn_X0_countOnRoad 2 (by decide) rfl rfl dX6_convoyOf_88 (c_countOnRoad c0 c1 c2 c3 (by omega) pR_ok) c0 rfl rfl rfl (Nat.le_of_ble_eq_true rfl) ⟨rfl, rfl⟩ ?_
      exact g_iret rfl (nr_int _) dX6_convoyOf_91 (by decide) (hP.ret hW hC)
    · rw [if_neg (by decide), if_neg (by decide), if_neg (by decide), if_neg (by decide), if_pos rfl] at hP
      unfold arR at hP
      refine g_iload_n dX6_convoyOf_31 rfl ?_
      refine g_tableIn (off := 60) (tgt := 92) dX6_convoyOf_32 (by decide) (by decide) (by decide +kernel) (by decide) ?_
      refine g_aload_n dX6_convoyOf_92 rfl ?_
      refine g_callVp (Y := YX0_countArrived) sv_X6_237 rfl yn_X0_countArrived 2 (by decide) rfl rfl dX6_convoyOf_93 (c_countArrived c0 c1 c2 c3 (by omega) pR_ok) c0 rfl rfl rfl (Nat.le_of_ble_eq_true rfl) ⟨rfl, rfl⟩ ?_
      exact g_iret rfl (nr_int _) dX6_convoyOf_96 (by decide) (hP.ret hW hC)
    · rw [if_neg (by decide), if_neg (by decide), if_neg (by decide), if_neg (by decide), if_neg (by decide)] at hP
      refine g_iload_n dX6_convoyOf_31 rfl ?_
      refine g_tableIn (off := 65) (tgt := 97) dX6_convoyOf_32 (by decide) (by decide) (by decide +kernel) (by decide) ?_
      refine g_aload_n dX6_convoyOf_97 rfl ?_
      refine g_callVp (Y := YX0_isDone) sv_X6_240 rfl yn_X0_isDone 2 (by decide) rfl rfl dX6_convoyOf_98 (c_isDone c0 c1 c2 c3 (by omega) pR_ok) c0 rfl rfl rfl (Nat.le_of_ble_eq_true rfl) ⟨rfl, rfl⟩ ?_
      refine g_if_eq (tgt := 108) dX6_convoyOf_101 (by decide) (fun b4 => ?_) (fun b4 => ?_)
      · rw [bi_f (bi_eq b4)] at hP
        refine g_iconst (v := nI 0) dX6_convoyOf_108 (by decide) ?_
        exact g_iret rfl (nr_int _) dX6_convoyOf_109 (by decide) (hP.ret hW hC)
      · rw [bi_t (bi_ne b4)] at hP
        refine g_iconst (v := nI 1) dX6_convoyOf_104 (by decide) ?_
        refine g_jump (tgt := 109) dX6_convoyOf_105 (by decide) ?_
        exact g_iret rfl (nr_int _) dX6_convoyOf_109 (by decide) (hP.ret hW hC)
  · rw [if_neg b3] at hP
    refine g_iload_n dX6_convoyOf_31 rfl ?_
    refine g_tableOut (tgt := 110) dX6_convoyOf_32 (sw_out (n := 5) (by decide) (by decide) b3) (by decide) ?_
    refine g_throw (names := tn_IllegalArgumentException) (text := "no such number of a convoy") rfl (by decide +kernel) cl_X6_51 ini_IllegalArgumentException (by decide +kernel) ta_X6_55 to_X6_55 dX6_convoyOf_110 dX6_convoyOf_113 dX6_convoyOf_114 dX6_convoyOf_116 dX6_convoyOf_119 rfl (by decide) (by decide) (by decide) (hP.thr hW hC rfl)
theorem isT_no {c p : Int32} (hI : InvB f) (h : ∀ c' k, c' < cnt f → k < ncv f c' → ¬ (c = nI c' ∧ p = nI k)) : ¬ isT f c p := by
  rintro ⟨h1, h2⟩
  obtain ⟨c, hc, rfl⟩ := isC_of hI h1
  have h44 := hI.1.2
  obtain ⟨-, -, i2, -⟩ := hI.cv hc
  rw [nI_clamp (by omega)] at h2
  obtain ⟨k, hk, rfl⟩ := in_nI h2.1 h2.2 (by omega)
  exact h c k hc hk ⟨rfl, rfl⟩
theorem isT_of {c k : Nat} (hI : InvB f) (hc : c < cnt f) (hk : k < ncv f c) : isT f (nI c) (nI k) := by
  have h44 := hI.1.2
  obtain ⟨-, -, i2, -⟩ := hI.cv hc
  exact ⟨⟨nI_pos' (by omega), nI_lt hc (by omega)⟩, nI_pos' (by omega), by rw [nI_clamp (by omega)]; exact nI_lt hk (by omega)⟩
theorem m_truckOf {c p w : Int32} (hC : CS sh V x S) (hI : InvB S.1) (hW : Wf sh sz) (hP : CP x sh sz V [xIO, xIA] (sp_truckOf S c p w) P) : MC E YX6_truckOf [.ref x, .int c, .int p, .int w] sh sz V P := by
  obtain ⟨o0, o1, o2, o3, o4, o5, o6, o7, o8⟩ := hC.1
  have hR : RoadAt sh V (x + 1) S.1 := hC.2.1
  have h44 := hI.1.2
  unfold sp_truckOf at hP
  refine MC.of RX6 "truckOf" rfl (by decide +kernel) rfl 1 [_, _, _, _, none] rfl (Nat.le_of_ble_eq_true rfl) ?_
  show G E MX6_truckOf _ _ _ _ _ _ _ _ _
  refine g_aload_n dX6_truckOf_0 rfl ?_
  refine g_get 8 rfl (by decide) inX6 0 (by decide) fl_X6_12 dX6_truckOf_1 o0 o1 ?_
  by_cases hT : isT S.1 c p
  rotate_left
  · rw [if_neg hT] at hP
    refine g_iload_n dX6_truckOf_4 rfl ?_
    refine g_iload_n dX6_truckOf_5 rfl ?_
    refine g_callVp (Y := YX4_truckIn) sv_X6_246 rfl yn_X4_truckIn 6 (by decide) rfl rfl dX6_truckOf_6 (c_truckIn (P := pR (some .null) sh sz V) (sz := sz) (x := c) (y := p) hR hI (fun c' k q e1 e2 hc hk _ => absurd (show isT S.1 c p by rw [e1, e2]; exact isT_of hI hc hk) hT) (fun _ => pR_ok)) hR.1.1 rfl rfl rfl (Nat.le_of_ble_eq_true rfl) ⟨rfl, rfl⟩ ?_
    refine g_astoreN dX6_truckOf_9 (by decide) rfl ?_
    show G _ _ _ _ _ _ _ _ _ [_, _, _, _, _] _
    refine g_aloadN dX6_truckOf_11 rfl ?_
    refine g_ifnonnullN dX6_truckOf_13 ?_
    refine g_throw (names := tn_IndexOutOfBoundsException) (text := "no such convoy or place") rfl (by decide +kernel) cl_X6_75 ini_IndexOutOfBoundsException (by decide +kernel) ta_X6_79 to_X6_79 dX6_truckOf_16 dX6_truckOf_19 dX6_truckOf_20 dX6_truckOf_22 dX6_truckOf_25 rfl (by decide) (by decide) (by decide) (hP.thr hW hC rfl)
  rw [if_pos hT] at hP
  obtain ⟨c, hc, rfl⟩ := isC_of hI hT.1
  obtain ⟨i0, i1, i2, i3, i4⟩ := hI.cv hc
  have hT2 := hT.2
  rw [nI_clamp (by omega)] at hT2
  obtain ⟨k, hk, rfl⟩ := in_nI hT2.1 hT2.2 (by omega)
  rw [nI_clamp (by omega), nI_clamp (by omega)] at hP
  obtain ⟨c0, ca, c1, c2, c3, -⟩ := hR.cv hI hc
  refine g_iload_n dX6_truckOf_4 rfl ?_
  refine g_iload_n dX6_truckOf_5 rfl ?_
  refine g_callVw (Y := YX4_truckIn) (Q := (fun v V1 => (∃ q, v = .ref q ∧ TrAt sh V q (tkF S.1 c k)) ∧ V1 = V)) sv_X6_246 rfl yn_X4_truckIn 6 (by decide) rfl rfl dX6_truckOf_6 (c_truckIn hR hI (fun c' k' q e1 e2 hc' hk' t => ⟨_, rfl, rfl, rfl, ⟨q, rfl, by rw [(nI_eq (by omega) (by omega)).mp e1, (nI_eq (by omega) (by have := (hI.cv hc').2.2.1; omega)).mp e2]; exact t⟩, rfl⟩) (fun q => absurd ⟨rfl, rfl⟩ (q c k hc hk))) hR.1.1 rfl rfl rfl (Nat.le_of_ble_eq_true rfl) ⟨rfl, rfl⟩ (fun v V1 q => ?_)
  obtain ⟨⟨t, rfl, t0, t1, t2, t3⟩, rfl⟩ := q
  refine g_astore dX6_truckOf_9 (by decide) rfl ?_
  show G _ _ _ _ _ _ _ _ _ [_, _, _, _, _] _
  refine g_aload dX6_truckOf_11 rfl ?_
  refine g_ifnonnull (tgt := 26) dX6_truckOf_13 (by decide) ?_
  by_cases b3 : 0 ≤ w ∧ w < nI 4
  · rw [if_pos b3] at hP
    obtain ⟨i, hi, rfl⟩ := in_nI b3.1 b3.2 (by decide)
    unfold tkV at hP
    rcases (show i = 0 ∨ i = 1 ∨ i = 2 ∨ i = 3 by omega) with rfl | rfl | rfl | rfl
    · rw [if_pos rfl] at hP
      refine g_iload_n dX6_truckOf_26 rfl ?_
      refine g_tableIn (off := 29) (tgt := 56) dX6_truckOf_27 (by decide) (by decide) (by decide +kernel) (by decide) ?_
      refine g_aload dX6_truckOf_56 rfl ?_
      refine g_get 7 rfl (by decide) inX5 0 (by decide) fl_X6_252 dX6_truckOf_58 t0 t1 ?_
      exact g_iret rfl (nr_int _) dX6_truckOf_61 (by decide) (hP.ret hW hC)
    · rw [if_neg (by decide), if_pos rfl] at hP
      refine g_iload_n dX6_truckOf_26 rfl ?_
      refine g_tableIn (off := 35) (tgt := 62) dX6_truckOf_27 (by decide) (by decide) (by decide +kernel) (by decide) ?_
      refine g_aload dX6_truckOf_62 rfl ?_
      refine g_get 7 rfl (by decide) inX5 1 (by decide) fl_X6_174 dX6_truckOf_64 t0 t2 ?_
      exact g_iret rfl (nr_int _) dX6_truckOf_67 (by decide) (hP.ret hW hC)
    · rw [if_neg (by decide), if_neg (by decide), if_pos rfl] at hP
      refine g_iload_n dX6_truckOf_26 rfl ?_
      refine g_tableIn (off := 41) (tgt := 68) dX6_truckOf_27 (by decide) (by decide) (by decide +kernel) (by decide) ?_
      refine g_aload dX6_truckOf_68 rfl ?_
      refine g_get 7 rfl (by decide) inX5 2 (by decide) fl_X6_177 dX6_truckOf_70 t0 t3 ?_
      exact g_iret rfl (nr_int _) dX6_truckOf_73 (by decide) (hP.ret hW hC)
    · rw [if_neg (by decide), if_neg (by decide), if_neg (by decide)] at hP
      refine g_iload_n dX6_truckOf_26 rfl ?_
      refine g_tableIn (off := 47) (tgt := 74) dX6_truckOf_27 (by decide) (by decide) (by decide +kernel) (by decide) ?_
      refine g_aload_n dX6_truckOf_74 rfl ?_
      refine g_get 8 rfl (by decide) inX6 0 (by decide) fl_X6_12 dX6_truckOf_75 o0 o1 ?_
      refine g_get 6 rfl (by decide) inX4 4 (by decide) fl_X6_187 dX6_truckOf_78 hR.1.1 hR.2.1.2.2.2.2.1 ?_
      refine g_iload_n dX6_truckOf_81 rfl ?_
      refine g_aaload _ dX6_truckOf_82 hR.1.2.2.2.2 (by decide) (by decide) (vp_in_nI (by omega) (by decide)) (hR.cvr (c := c) (by omega)) ?_
      refine g_iload_n dX6_truckOf_83 rfl ?_
      refine g_callVp (Y := YX0_mileOfTruck) sv_X6_255 rfl yn_X0_mileOfTruck 2 (by decide) rfl rfl dX6_truckOf_84 (c_mileOfTruck c0 c1 c2 pR_ok) c0 rfl rfl rfl (Nat.le_of_ble_eq_true rfl) ⟨rfl, rfl⟩ ?_
      exact g_iret rfl (nr_int _) dX6_truckOf_87 (by decide) (hP.ret hW hC)
  · rw [if_neg b3] at hP
    refine g_iload_n dX6_truckOf_26 rfl ?_
    refine g_tableOut (tgt := 88) dX6_truckOf_27 (sw_out (n := 3) (by decide) (by decide) b3) (by decide) ?_
    refine g_throw (names := tn_IllegalArgumentException) (text := "no such number of a truck") rfl (by decide +kernel) cl_X6_51 ini_IllegalArgumentException (by decide +kernel) ta_X6_55 to_X6_55 dX6_truckOf_88 dX6_truckOf_91 dX6_truckOf_92 dX6_truckOf_94 dX6_truckOf_97 rfl (by decide) (by decide) (by decide) (hP.thr hW hC rfl)
theorem m_load {c p : Int32} (hC : CS sh V x S) (hI : InvB S.1) (hW : Wf sh sz) (hP : CP x sh sz V [xIO] (sp_load S c p) P) : MC E YX6_load [.ref x, .int c, .int p] sh sz V P := by
  obtain ⟨o0, o1, o2, o3, o4, o5, o6, o7, o8⟩ := hC.1
  have hR : RoadAt sh V (x + 1) S.1 := hC.2.1
  have h44 := hI.1.2
  unfold sp_load at hP
  refine MC.of RX6 "load" rfl (by decide +kernel) rfl 1 [_, _, _, none] rfl (Nat.le_of_ble_eq_true rfl) ?_
  show G E MX6_load _ _ _ _ _ _ _ _ _
  refine g_aload_n dX6_load_0 rfl ?_
  refine g_get 8 rfl (by decide) inX6 0 (by decide) fl_X6_12 dX6_load_1 o0 o1 ?_
  by_cases hT : isT S.1 c p
  rotate_left
  · rw [if_neg hT] at hP
    refine g_iload_n dX6_load_4 rfl ?_
    refine g_iload_n dX6_load_5 rfl ?_
    refine g_callVp (Y := YX4_truckIn) sv_X6_246 rfl yn_X4_truckIn 6 (by decide) rfl rfl dX6_load_6 (c_truckIn (P := pR (some .null) sh sz V) (sz := sz) (x := c) (y := p) hR hI (fun c' k q e1 e2 hc hk _ => absurd (show isT S.1 c p by rw [e1, e2]; exact isT_of hI hc hk) hT) (fun _ => pR_ok)) hR.1.1 rfl rfl rfl (Nat.le_of_ble_eq_true rfl) ⟨rfl, rfl⟩ ?_
    refine g_astore_nN dX6_load_9 (by decide) rfl ?_
    show G _ _ _ _ _ _ _ _ _ [_, _, _, _] _
    refine g_aload_nN dX6_load_10 rfl ?_
    refine g_ifnonnullN dX6_load_11 ?_
    refine g_throw (names := tn_IndexOutOfBoundsException) (text := "no such convoy or place") rfl (by decide +kernel) cl_X6_75 ini_IndexOutOfBoundsException (by decide +kernel) ta_X6_79 to_X6_79 dX6_load_14 dX6_load_17 dX6_load_18 dX6_load_20 dX6_load_23 rfl (by decide) (by decide) (by decide) (hP.thr hW hC rfl)
  rw [if_pos hT] at hP
  obtain ⟨c, hc, rfl⟩ := isC_of hI hT.1
  obtain ⟨i0, i1, i2, i3, i4⟩ := hI.cv hc
  have hT2 := hT.2
  rw [nI_clamp (by omega)] at hT2
  obtain ⟨k, hk, rfl⟩ := in_nI hT2.1 hT2.2 (by omega)
  rw [nI_clamp (by omega), nI_clamp (by omega)] at hP
  refine g_iload_n dX6_load_4 rfl ?_
  refine g_iload_n dX6_load_5 rfl ?_
  refine g_callVw (Y := YX4_truckIn) (Q := (fun v V1 => (∃ q, v = .ref q ∧ TrAt sh V q (tkF S.1 c k)) ∧ V1 = V)) sv_X6_246 rfl yn_X4_truckIn 6 (by decide) rfl rfl dX6_load_6 (c_truckIn hR hI (fun c' k' q e1 e2 hc' hk' t => ⟨_, rfl, rfl, rfl, ⟨q, rfl, by rw [(nI_eq (by omega) (by omega)).mp e1, (nI_eq (by omega) (by have := (hI.cv hc').2.2.1; omega)).mp e2]; exact t⟩, rfl⟩) (fun q => absurd ⟨rfl, rfl⟩ (q c k hc hk))) hR.1.1 rfl rfl rfl (Nat.le_of_ble_eq_true rfl) ⟨rfl, rfl⟩ (fun v V1 q => ?_)
  obtain ⟨⟨t, rfl, ht⟩, rfl⟩ := q
  refine g_astore_n dX6_load_9 (by decide) rfl ?_
  show G _ _ _ _ _ _ _ _ _ [_, _, _, _] _
  refine g_aload_n dX6_load_10 rfl ?_
  refine g_ifnonnull (tgt := 24) dX6_load_11 (by decide) ?_
  refine g_aload_n dX6_load_24 rfl ?_
  refine g_callVp (Y := YX5_burden) sv_X6_258 rfl yn_X5_burden 7 (by decide) rfl rfl dX6_load_25 (c_burdenT ht (i4 k hk) pR_ok) ht.1 rfl rfl rfl (Nat.le_of_ble_eq_true rfl) ⟨rfl, rfl⟩ ?_
  exact g_fret rfl dX6_load_28 (by decide) (hP.ret hW hC)
end METH2B

