/-! the class' methods: looking ahead, days, accounts -/
section METH3
variable {E : gE} {M : gM} {P : gP} {sh sh' : Sh} {sz : Nat} {V V' : Vl} {cu su pc : Nat} {L : List (Option Value)} {rest : List Value} {x : Nat} {S : St} {f : Fl}
theorem fa_first_cong {p q : Nat → Bool} {n : Nat} (h : ∀ k, k < n → p k = q k) : fa_first p n = fa_first q n := by
  by_cases z : fa_first q n < n
  · exact fa_first_eq z ((h _ z).trans (fa_first_yes q n z)) (fun k hk => (h k (by omega)).trans (fa_first_no q n k hk))
  · have h1 := fa_first_le q n
    have : ¬ fa_first p n < n := fa_first_none (fun k hk => (h k hk).trans (fa_first_no q n k (by omega)))
    have h2 := fa_first_le p n
    omega
theorem m_at {a : Int32} (hC : CS sh V x S) (hI : InvB S.1) (hW : Wf sh sz) (hP : CP x sh sz V [xIO, nsC] (sp_at S a) P) : MC E YX6_at [.ref x, .int a] sh sz V P := by
  obtain ⟨o0, o1, o2, o3, o4, o5, o6, o7, o8⟩ := hC.1
  have hR : RoadAt sh V (x + 1) S.1 := hC.2.1
  have h44 := hI.1.2
  unfold sp_at at hP
  refine MC.of RX6 "at" rfl (by decide +kernel) rfl 1 [_, _, none] rfl (Nat.le_of_ble_eq_true rfl) ?_
  show G E MX6_at _ _ _ _ _ _ _ _ _
  refine g_iload_n dX6_at_0 rfl ?_
  refine g_callSp (Y := YX6_isMile) ss_X6_72 yn_X6_isMile dX6_at_1 (c_isMile pR_ok) rfl rfl rfl (Nat.le_of_ble_eq_true rfl) ⟨rfl, rfl⟩ ?_
  refine g_if_ne (tgt := 17) dX6_at_4 (by decide) (fun b1 => ?_) (fun b1 => ?_)
  rotate_left
  · rw [if_neg (bi_eq b1)] at hP
    refine g_throw (names := tn_IndexOutOfBoundsException) (text := "no such mile") rfl (by decide +kernel) cl_X6_75 ini_IndexOutOfBoundsException (by decide +kernel) ta_X6_79 to_X6_79 dX6_at_7 dX6_at_10 dX6_at_11 dX6_at_13 dX6_at_16 rfl (by decide) (by decide) (by decide) (hP.thr hW hC rfl)
  rw [if_pos (bi_ne b1)] at hP
  refine g_aload_n dX6_at_17 rfl ?_
  refine g_get 8 rfl (by decide) inX6 0 (by decide) fl_X6_12 dX6_at_18 o0 o1 ?_
  refine g_iload_n dX6_at_21 rfl ?_
  refine g_callVp (Y := YX4_convoyAt) sv_X6_128 rfl yn_X4_convoyAt 6 (by decide) rfl rfl dX6_at_22 (c_convoyAt hR hI pR_ok) hR.1.1 rfl rfl rfl (Nat.le_of_ble_eq_true rfl) ⟨rfl, rfl⟩ ?_
  refine g_istore_n dX6_at_25 (by decide) rfl ?_
  show G _ _ _ _ _ _ _ _ _ [_, _, _] _
  refine g_iload_n dX6_at_26 rfl ?_
  refine g_if_ge (tgt := 41) dX6_at_27 (by decide) (fun b3 => ?_) (fun b3 => ?_)
  rotate_left
  · rw [if_neg (fun q => (tkn_fst hI).mpr q (Int32.not_le.mp b3))] at hP
    refine g_throwNW (text := "no truck is at the mile") rfl cl_X6_101 (by decide +kernel) dX6_at_30 dX6_at_33 dX6_at_34 dX6_at_37 dX6_at_40 rfl (by decide) (by decide) (by decide) (hP.thr hW hC rfl)
  rw [if_pos ((tkn_fst hI).mp (Int32.not_lt.mpr b3))] at hP
  have e : fa_first (fun c => cb (nI c ≠ -1 ∧ 0 ≤ paF S.1 c a)) (cnt S.1) = fa_first (fun c => decide (0 ≤ paF S.1 c a)) (cnt S.1) := fa_first_cong (fun k hk => by
    by_cases z : 0 ≤ paF S.1 k a
    · rw [cb_t ⟨nI_m1 (by omega), z⟩, decide_eq_true z]
    · rw [cb_f (fun q => z q.2), decide_eq_false z])
  unfold whoV at hP
  rw [e] at hP
  unfold fstI at b3 ⊢
  by_cases hc : fa_first (fun c => decide (0 ≤ paF S.1 c a)) (cnt S.1) < cnt S.1
  rotate_left
  · rw [if_neg hc] at b3
    exact absurd b3 (by decide)
  rw [if_pos hc] at hP ⊢
  generalize fa_first (fun c => decide (0 ≤ paF S.1 c a)) (cnt S.1) = c at hc hP ⊢
  obtain ⟨i0, i1, i2, i3, i4⟩ := hI.cv hc
  obtain ⟨c0, ca, c1, c2, c3, -⟩ := hR.cv hI hc
  refine g_bipush (v := nI 10) dX6_at_41 (by decide) ?_
  refine g_iload_n dX6_at_43 rfl ?_
  refine g_imul dX6_at_44 ?_
  refine g_aload_n dX6_at_45 rfl ?_
  refine g_get 8 rfl (by decide) inX6 0 (by decide) fl_X6_12 dX6_at_46 o0 o1 ?_
  refine g_get 6 rfl (by decide) inX4 4 (by decide) fl_X6_187 dX6_at_49 hR.1.1 hR.2.1.2.2.2.2.1 ?_
  refine g_iload_n dX6_at_52 rfl ?_
  refine g_aaload _ dX6_at_53 hR.1.2.2.2.2 (by decide) (by decide) (vp_in_nI (by omega) (by decide)) (hR.cvr (c := c) (by omega)) ?_
  refine g_iload_n dX6_at_54 rfl ?_
  refine g_callVp (Y := YX0_placeAt) sv_X6_264 rfl yn_X0_placeAt 2 (by decide) rfl rfl dX6_at_55 (c_placeAt c0 c1 c2 c3 (by omega) pR_ok) c0 rfl rfl rfl (Nat.le_of_ble_eq_true rfl) ⟨rfl, rfl⟩ ?_
  refine g_iadd dX6_at_58 ?_
  exact g_iret rfl (nr_int _) dX6_at_59 (by decide) (hP.ret hW hC)
theorem m_rollsAgain {c : Int32} (hC : CS sh V x S) (hI : InvB S.1) (hW : Wf sh sz) (hP : CP x sh sz V [xIO] (sp_rolls S c) P) : MC E YX6_rollsAgain [.ref x, .int c] sh sz V P := by
  obtain ⟨o0, o1, o2, o3, o4, o5, o6, o7, o8⟩ := id hC.1
  have hR : RoadAt sh V (x + 1) S.1 := hC.2.1
  have h44 := hI.1.2
  unfold sp_rolls at hP
  refine MC.of RX6 "rollsAgain" rfl (by decide +kernel) rfl 1 [_, _, none] rfl (Nat.le_of_ble_eq_true rfl) ?_
  show G E MX6_rollsAgain _ _ _ _ _ _ _ _ _
  refine g_aload_n dX6_rollsAgain_0 rfl ?_
  refine g_get 8 rfl (by decide) inX6 0 (by decide) fl_X6_12 dX6_rollsAgain_1 o0 o1 ?_
  refine g_iload_n dX6_rollsAgain_4 rfl ?_
  refine g_callVp (Y := YX4_isConvoy) sv_X6_231 rfl yn_X4_isConvoy 6 (by decide) rfl rfl dX6_rollsAgain_5 (c_isConvoy hR hI pR_ok) hR.1.1 rfl rfl rfl (Nat.le_of_ble_eq_true rfl) ⟨rfl, rfl⟩ ?_
  refine g_if_ne (tgt := 21) dX6_rollsAgain_8 (by decide) (fun b1 => ?_) (fun b1 => ?_)
  rotate_left
  · rw [if_neg (bi_eq b1)] at hP
    refine g_throw (names := tn_IndexOutOfBoundsException) (text := "no such convoy") rfl (by decide +kernel) cl_X6_75 ini_IndexOutOfBoundsException (by decide +kernel) ta_X6_79 to_X6_79 dX6_rollsAgain_11 dX6_rollsAgain_14 dX6_rollsAgain_15 dX6_rollsAgain_17 dX6_rollsAgain_20 rfl (by decide) (by decide) (by decide) (hP.thr hW hC rfl)
  rw [if_pos (bi_ne b1)] at hP
  obtain ⟨c, hc, rfl⟩ := isC_of hI (bi_ne b1)
  rw [nI_clamp (by omega)] at hP
  obtain ⟨gt, hT⟩ := id hC.2.2.1
  refine g_aload_n dX6_rollsAgain_21 rfl ?_
  refine g_get 8 rfl (by decide) inX6 1 (by decide) fl_X6_16 dX6_rollsAgain_22 o0 o2 ?_
  refine g_aload_n dX6_rollsAgain_25 rfl ?_
  refine g_get 8 rfl (by decide) inX6 0 (by decide) fl_X6_12 dX6_rollsAgain_26 o0 o1 ?_
  refine g_callVv (Y := YX4_copyFrom) (Q := (fun V2 => Fr V V2 (x + 26) ∧ RoadAt sh V2 (x + 26) S.1)) sv_X6_270 rfl yn_X4_copyFrom 6 (by decide) rfl rfl dX6_rollsAgain_29 (c_Road_copyFrom hT hR (by omega) (fun V2 q1 q2 => ⟨rfl, rfl, rfl, q1, q2⟩)) hT.1.1 rfl rfl rfl (Nat.le_of_ble_eq_true rfl) ⟨rfl, rfl⟩ (fun V2 q => ?_)
  obtain ⟨q1, q2⟩ := q
  have hC2 := CAt.trial hC q1 q2
  refine g_iconst (v := nI 0) dX6_rollsAgain_32 (by decide) ?_
  refine g_istore_n dX6_rollsAgain_33 (by decide) rfl ?_
  show G _ _ _ _ _ _ _ _ _ [_, _, _] _
  have hN := rollN_le hI hc
  suffices K : ∀ (n i : Nat), i + n = rollN S.1 c → ∀ V2, Fr V V2 (x + 26) → RoadAt sh V2 (x + 26) (rollS S.1 c i) → G E MX6_rollsAgain P sh sz V2 0 0 34 [some (.ref x), some (.int (nI c)), some (.int (nI i))] [] from K (rollN S.1 c) 0 (Nat.zero_add _) V2 q1 q2
  clear hC2 q1 q2 V2
  intro n
  induction n with
  | zero =>
    intro i hi V2 q1 q2
    have hC2 := CAt.trial hC q1 q2
    have hP := hP.retW hW (V' := V2) (fun a ha => q1 a (by omega)) hC2
    have hi : i = rollN S.1 c := by omega
    rw [hi] at q2 ⊢
    obtain ⟨i1, i2, i3⟩ := rollS_all hI hc (d := rollN S.1 c) (Nat.le_refl _)
    obtain ⟨p0, p1, p2, p3, p4, p5, p6, p7, p8⟩ := hC2.1
    by_cases z : rollN S.1 c < 24
    rotate_left
    · refine g_iload_n dX6_rollsAgain_34 rfl ?_
      refine g_bipush (v := nI 24) dX6_rollsAgain_35 (by decide) ?_
      refine g_icmp_ge (tgt := 73) dX6_rollsAgain_37 (by decide) (fun _ => ?_) (fun hq => absurd (nI_le (by omega) (by omega)) hq)
      refine g_iload_n dX6_rollsAgain_73 rfl ?_
      exact g_iret rfl (nr_int _) dX6_rollsAgain_74 (by decide) hP
    · refine g_iload_n dX6_rollsAgain_34 rfl ?_
      refine g_bipush (v := nI 24) dX6_rollsAgain_35 (by decide) ?_
      refine g_icmp_ge (tgt := 73) dX6_rollsAgain_37 (by decide) (fun hq => absurd hq (nI_ge z (by omega))) (fun _ => ?_)
      refine g_aload_n dX6_rollsAgain_40 rfl ?_
      refine g_get 8 rfl (by decide) inX6 1 (by decide) fl_X6_16 dX6_rollsAgain_41 p0 p2 ?_
      refine g_iload_n dX6_rollsAgain_44 rfl ?_
      refine g_callVp (Y := YX4_rollObstacle) sv_X6_222 rfl yn_X4_rollObstacle 6 (by decide) rfl rfl dX6_rollsAgain_45 (c_rollObstacle q2 i1 pR_ok) q2.1.1 rfl rfl rfl (Nat.le_of_ble_eq_true rfl) ⟨rfl, rfl⟩ ?_
      have hz := roll_code (rollS S.1 c (rollN S.1 c)) (c := c) (by omega)
      have hne : rollO (rollS S.1 c (rollN S.1 c)) c ≠ (nI 0, nI 0) := cb_iff.mp (fa_first_yes (fun d => cb (rollO (rollS S.1 c d) c ≠ (nI 0, nI 0))) 60 (by show rollN S.1 c < 60; omega))
      rw [obs_t i1 (by rw [i2]; exact hc)]
      refine g_if_ne (tgt := 73) dX6_rollsAgain_48 (by decide) (fun _ => ?_) (fun hq => absurd hq ((fun q => hne ((enc_0 hz).mp q))))
      refine g_iload_n dX6_rollsAgain_73 rfl ?_
      exact g_iret rfl (nr_int _) dX6_rollsAgain_74 (by decide) hP
  | succ n ih =>
    intro i hi V2 q1 q2
    have hC2 := CAt.trial hC q1 q2
    obtain ⟨i1, i2, i3⟩ := rollS_all hI hc (d := i) (by omega)
    obtain ⟨p0, p1, p2, p3, p4, p5, p6, p7, p8⟩ := hC2.1
    have he : rollO (rollS S.1 c i) c = (nI 0, nI 0) := by
      have := fa_first_no (fun d => cb (rollO (rollS S.1 c d) c ≠ (nI 0, nI 0))) 60 i (by show i < rollN S.1 c; omega)
      exact Classical.byContradiction fun q => by
        have t : cb (rollO (rollS S.1 c i) c ≠ (nI 0, nI 0)) = true := cb_t q
        rw [t] at this
        cases this
    refine g_iload_n dX6_rollsAgain_34 rfl ?_
    refine g_bipush (v := nI 24) dX6_rollsAgain_35 (by decide) ?_
    refine g_icmp_ge (tgt := 73) dX6_rollsAgain_37 (by decide) (fun hq => absurd hq (nI_ge (by omega) (by omega))) (fun _ => ?_)
    refine g_aload_n dX6_rollsAgain_40 rfl ?_
    refine g_get 8 rfl (by decide) inX6 1 (by decide) fl_X6_16 dX6_rollsAgain_41 p0 p2 ?_
    refine g_iload_n dX6_rollsAgain_44 rfl ?_
    refine g_callVp (Y := YX4_rollObstacle) sv_X6_222 rfl yn_X4_rollObstacle 6 (by decide) rfl rfl dX6_rollsAgain_45 (c_rollObstacle q2 i1 pR_ok) q2.1.1 rfl rfl rfl (Nat.le_of_ble_eq_true rfl) ⟨rfl, rfl⟩ ?_
    rw [obs_t i1 (by rw [i2]; exact hc), he, enc0]
    refine g_if_ne (tgt := 73) dX6_rollsAgain_48 (by decide) (fun hq => absurd hq ((fun q => q rfl))) (fun _ => ?_)
    refine g_aload_n dX6_rollsAgain_51 rfl ?_
    refine g_get 8 rfl (by decide) inX6 1 (by decide) fl_X6_16 dX6_rollsAgain_52 p0 p2 ?_
    refine g_aload_n dX6_rollsAgain_55 rfl ?_
    refine g_get 8 rfl (by decide) inX6 1 (by decide) fl_X6_16 dX6_rollsAgain_56 p0 p2 ?_
    refine g_get 6 rfl (by decide) inX4 4 (by decide) fl_X6_187 dX6_rollsAgain_59 q2.1.1 q2.2.1.2.2.2.2.1 ?_
    refine g_iload_n dX6_rollsAgain_62 rfl ?_
    refine g_aaload _ dX6_rollsAgain_63 q2.1.2.2.2.2 (by decide) (by decide) (vp_in_nI (by omega) (by decide)) (q2.cvr (c := c) (by omega)) ?_
    refine g_callVv (Y := YX4_advance) (Q := (fun V3 => Fr V2 V3 (x + 26) ∧ RoadAt sh V3 (x + 26) (rollS S.1 c (i + 1)))) sv_X6_218 rfl yn_X4_advance 6 (by decide) rfl rfl dX6_rollsAgain_64 (c_advanceR q2 i1 (by rw [i2]; exact hc) he (fun V3 r1 r2 => ⟨rfl, rfl, rfl, r1, r2⟩)) q2.1.1 rfl rfl rfl (Nat.le_of_ble_eq_true rfl) ⟨rfl, rfl⟩ (fun V3 q => ?_)
    refine g_iinc dX6_rollsAgain_67 rfl (by first | exact nI_inc _ | rfl) (by decide) rfl ?_
    show G _ _ _ _ _ _ _ _ _ [_, _, _] _
    refine g_jump (tgt := 34) dX6_rollsAgain_70 (by decide) ?_
    exact ih (i + 1) (by omega) V3 (q1.trans q.1) q.2
theorem ice_ok (hI : InvB f) {j : Nat} (hj : j < 12) : ∀ n, okI (iceN (f (oM j 0)).toUInt32 (f 5) n)
  | 0 => (hI.2.2.2.1 j hj).1
  | n + 1 => okI_niF (ice_ok hI hj n) hI.2.1.1 hI.2.1.2
theorem m_iceIn {a d : Int32} (hC : CS sh V x S) (hI : InvB S.1) (hW : Wf sh sz) (hP : CP x sh sz V [xIO, xIA] (sp_iceIn S a d) P) : MC E YX6_iceIn [.ref x, .int a, .int d] sh sz V P := by
  obtain ⟨o0, o1, o2, o3, o4, o5, o6, o7, o8⟩ := hC.1
  have hR : RoadAt sh V (x + 1) S.1 := hC.2.1
  unfold sp_iceIn at hP
  refine MC.of RX6 "iceIn" rfl (by decide +kernel) rfl 2 [_, _, _, none, none] rfl (Nat.le_of_ble_eq_true rfl) ?_
  show G E MX6_iceIn _ _ _ _ _ _ _ _ _
  refine g_iload_n dX6_iceIn_0 rfl ?_
  refine g_callSp (Y := YX6_isMile) ss_X6_72 yn_X6_isMile dX6_iceIn_1 (c_isMile pR_ok) rfl rfl rfl (Nat.le_of_ble_eq_true rfl) ⟨rfl, rfl⟩ ?_
  refine g_if_ne (tgt := 17) dX6_iceIn_4 (by decide) (fun b1 => ?_) (fun b1 => ?_)
  rotate_left
  · rw [if_neg (bi_eq b1)] at hP
    refine g_throw (names := tn_IndexOutOfBoundsException) (text := "no such mile") rfl (by decide +kernel) cl_X6_75 ini_IndexOutOfBoundsException (by decide +kernel) ta_X6_79 to_X6_79 dX6_iceIn_7 dX6_iceIn_10 dX6_iceIn_11 dX6_iceIn_13 dX6_iceIn_16 rfl (by decide) (by decide) (by decide) (hP.thr hW hC rfl)
  rw [if_pos (bi_ne b1)] at hP
  obtain ⟨j, hj, rfl⟩ := isM_nI (bi_ne b1)
  rw [nI_clamp (by omega)] at hP
  have K : ¬ (0 ≤ d ∧ d ≤ nI 60) → G E MX6_iceIn P sh sz V 0 0 27 [some (.ref x), some (.int (nI j)), some (.int d), none, none] [] := by
    intro q
    rw [if_neg q] at hP
    refine g_throwW (names := tn_IllegalArgumentException) (text := "the number of days is out of range") rfl (by decide +kernel) cl_X6_51 ini_IllegalArgumentException (by decide +kernel) ta_X6_55 to_X6_55 dX6_iceIn_27 dX6_iceIn_30 dX6_iceIn_31 dX6_iceIn_34 dX6_iceIn_37 rfl (by decide) (by decide) (by decide) (hP.thr hW hC rfl)
  refine g_iload_n dX6_iceIn_17 rfl ?_
  refine g_if_lt (tgt := 27) dX6_iceIn_18 (by decide) (fun c1 => ?_) (fun c1 => ?_)
  · exact K (fun q => absurd q.1 (Int32.not_le.mpr c1))
  refine g_iload_n dX6_iceIn_21 rfl ?_
  refine g_bipush (v := nI 60) dX6_iceIn_22 (by decide) ?_
  refine g_icmp_le (tgt := 38) dX6_iceIn_24 (by decide) (fun c2 => ?_) (fun c2 => ?_)
  rotate_left
  · exact K (fun q => absurd q.2 c2)
  rw [if_pos (show 0 ≤ d ∧ d ≤ nI 60 from ⟨Int32.not_lt.mp c1, c2⟩)] at hP
  obtain ⟨n, hn, rfl⟩ : ∃ n, n < 61 ∧ d = nI n := in_nI (Int32.not_lt.mp c1) (Int32.lt_of_le_of_lt c2 (by decide)) (by decide)
  rw [nI_clamp (by omega)] at hP
  obtain ⟨m0, m1, m2, m3, m4, m5, m6⟩ := hR.mi hj
  refine g_aload_n dX6_iceIn_38 rfl ?_
  refine g_get 8 rfl (by decide) inX6 0 (by decide) fl_X6_12 dX6_iceIn_39 o0 o1 ?_
  refine g_get 6 rfl (by decide) inX4 2 (by decide) fl_X6_80 dX6_iceIn_42 hR.1.1 hR.2.1.2.2.1 ?_
  refine g_iload_n dX6_iceIn_45 rfl ?_
  refine g_aaload _ dX6_iceIn_46 hR.1.2.2.1 (by decide) (by decide) (vp_in_nI hj (by decide)) (hR.mir hj) ?_
  refine g_get 4 rfl (by decide) inX2 0 (by decide) fl_X6_121 dX6_iceIn_47 m0 m1 ?_
  refine g_fstore_n dX6_iceIn_50 (by decide) rfl ?_
  show G _ _ _ _ _ _ _ _ _ [_, _, _, _, _] _
  refine g_iconst (v := nI 0) dX6_iceIn_51 (by decide) ?_
  refine g_istore dX6_iceIn_52 (by decide) rfl ?_
  show G _ _ _ _ _ _ _ _ _ [_, _, _, _, _] _
  suffices K : ∀ (k i : Nat), i + k = n → G E MX6_iceIn P sh sz V 0 0 54 [some (.ref x), some (.int (nI j)), some (.int (nI n)), some (.float (iceN (S.1 (oM j 0)).toUInt32 (S.1 5) i)), some (.int (nI i))] [] from K n 0 (by omega)
  intro k
  induction k with
  | zero =>
    intro i hi
    have hi : i = n := by omega
    subst hi
    refine g_iload dX6_iceIn_54 rfl ?_
    refine g_iload_n dX6_iceIn_56 rfl ?_
    refine g_icmp_ge (tgt := 80) dX6_iceIn_57 (by decide) (fun _ => ?_) (fun hq => absurd (Int32.le_refl _) hq)
    refine g_fload_n dX6_iceIn_80 rfl ?_
    refine g_callSp (Y := YX6_floatBits) ss_X6_94 yn_X6_floatBits dX6_iceIn_81 (c_floatBits (okI.n (ice_ok hI hj i)) pR_ok) rfl rfl rfl (Nat.le_of_ble_eq_true rfl) ⟨rfl, rfl⟩ ?_
    exact g_iret rfl (nr_int _) dX6_iceIn_84 (by decide) (hP.ret hW hC)
  | succ k ih =>
    intro i hi
    refine g_iload dX6_iceIn_54 rfl ?_
    refine g_iload_n dX6_iceIn_56 rfl ?_
    refine g_icmp_ge (tgt := 80) dX6_iceIn_57 (by decide) (fun hq => absurd hq (nI_ge (by omega) (by omega))) (fun _ => ?_)
    refine g_fload_n dX6_iceIn_60 rfl ?_
    refine g_aload_n dX6_iceIn_61 rfl ?_
    refine g_get 8 rfl (by decide) inX6 0 (by decide) fl_X6_12 dX6_iceIn_62 o0 o1 ?_
    refine g_get 6 rfl (by decide) inX4 0 (by decide) fl_X6_62 dX6_iceIn_65 hR.1.1 hR.2.1.1 ?_
    refine g_iconst (v := nI 0) dX6_iceIn_68 (by decide) ?_
    refine g_iaload dX6_iceIn_69 hR.1.2.1 (vp_in_nI (by decide) (by decide)) (hR.set (k := 0) (by decide)) ?_
    refine g_callSp (Y := YX6_nextIce) ss_X6_275 yn_X6_nextIce dX6_iceIn_70 (c_nextIce (ice_ok hI hj i) hI.2.1.1 hI.2.1.2 pR_ok) rfl rfl rfl (Nat.le_of_ble_eq_true rfl) ⟨rfl, rfl⟩ ?_
    refine g_fstore_n dX6_iceIn_73 (by decide) rfl ?_
    show G _ _ _ _ _ _ _ _ _ [_, _, _, _, _] _
    refine g_iinc dX6_iceIn_74 rfl (by first | exact nI_inc _ | rfl) (by decide) rfl ?_
    show G _ _ _ _ _ _ _ _ _ [_, _, _, _, _] _
    refine g_jump (tgt := 54) dX6_iceIn_77 (by decide) ?_
    exact ih (i + 1) (by omega)
theorem fp_brg {y : UInt32} (h : okI y) : vf_n32 (FP.fmul y y) ∧ vf_n32 (FP.fmul (FP.fmul y y) 1025758986) := ⟨(fp_bor h (Nat.zero_le 5) (Nat.zero_le 100)).1, (fp_bor h (Nat.zero_le 5) (Nat.zero_le 100)).2.1⟩
theorem m_bearsIn {a t : Int32} (hC : CS sh V x S) (hI : InvB S.1) (hW : Wf sh sz) (hP : CP x sh sz V [xIO, xIA, nsC] (sp_bearsIn S a t) P) : MC E YX6_bearsIn [.ref x, .int a, .int t] sh sz V P := by
  obtain ⟨o0, o1, o2, o3, o4, o5, o6, o7, o8⟩ := hC.1
  have hR : RoadAt sh V (x + 1) S.1 := hC.2.1
  unfold sp_bearsIn at hP
  refine MC.of RX6 "bearsIn" rfl (by decide +kernel) rfl 2 [_, _, _, none, none] rfl (Nat.le_of_ble_eq_true rfl) ?_
  show G E MX6_bearsIn _ _ _ _ _ _ _ _ _
  refine g_iload_n dX6_bearsIn_0 rfl ?_
  refine g_callSp (Y := YX6_isMile) ss_X6_72 yn_X6_isMile dX6_bearsIn_1 (c_isMile pR_ok) rfl rfl rfl (Nat.le_of_ble_eq_true rfl) ⟨rfl, rfl⟩ ?_
  refine g_if_ne (tgt := 17) dX6_bearsIn_4 (by decide) (fun b1 => ?_) (fun b1 => ?_)
  rotate_left
  · rw [if_neg (bi_eq b1)] at hP
    refine g_throw (names := tn_IndexOutOfBoundsException) (text := "no such mile") rfl (by decide +kernel) cl_X6_75 ini_IndexOutOfBoundsException (by decide +kernel) ta_X6_79 to_X6_79 dX6_bearsIn_7 dX6_bearsIn_10 dX6_bearsIn_11 dX6_bearsIn_13 dX6_bearsIn_16 rfl (by decide) (by decide) (by decide) (hP.thr hW hC rfl)
  rw [if_pos (bi_ne b1)] at hP
  obtain ⟨j, hj, rfl⟩ := isM_nI (bi_ne b1)
  rw [nI_clamp (by omega)] at hP
  have K : ¬ (nI 1 ≤ t ∧ t ≤ nI 99) → G E MX6_bearsIn P sh sz V 0 0 28 [some (.ref x), some (.int (nI j)), some (.int t), none, none] [] := by
    intro q
    rw [if_neg q] at hP
    refine g_throwW (names := tn_IllegalArgumentException) (text := "the number of tonnes is out of range") rfl (by decide +kernel) cl_X6_51 ini_IllegalArgumentException (by decide +kernel) ta_X6_55 to_X6_55 dX6_bearsIn_28 dX6_bearsIn_31 dX6_bearsIn_32 dX6_bearsIn_35 dX6_bearsIn_38 rfl (by decide) (by decide) (by decide) (hP.thr hW hC rfl)
  refine g_iload_n dX6_bearsIn_17 rfl ?_
  refine g_iconst (v := nI 1) dX6_bearsIn_18 (by decide) ?_
  refine g_icmp_lt (tgt := 28) dX6_bearsIn_19 (by decide) (fun c1 => ?_) (fun c1 => ?_)
  · exact K (fun q => absurd q.1 (Int32.not_le.mpr c1))
  refine g_iload_n dX6_bearsIn_22 rfl ?_
  refine g_bipush (v := nI 99) dX6_bearsIn_23 (by decide) ?_
  refine g_icmp_le (tgt := 39) dX6_bearsIn_25 (by decide) (fun c2 => ?_) (fun c2 => ?_)
  rotate_left
  · exact K (fun q => absurd q.2 c2)
  rw [if_pos (show nI 1 ≤ t ∧ t ≤ nI 99 from ⟨Int32.not_lt.mp c1, c2⟩)] at hP
  obtain ⟨m0, m1, m2, m3, m4, m5, m6⟩ := hR.mi hj
  refine g_aload_n dX6_bearsIn_39 rfl ?_
  refine g_get 8 rfl (by decide) inX6 0 (by decide) fl_X6_12 dX6_bearsIn_40 o0 o1 ?_
  refine g_get 6 rfl (by decide) inX4 2 (by decide) fl_X6_80 dX6_bearsIn_43 hR.1.1 hR.2.1.2.2.1 ?_
  refine g_iload_n dX6_bearsIn_46 rfl ?_
  refine g_aaload _ dX6_bearsIn_47 hR.1.2.2.1 (by decide) (by decide) (vp_in_nI hj (by decide)) (hR.mir hj) ?_
  refine g_get 4 rfl (by decide) inX2 0 (by decide) fl_X6_121 dX6_bearsIn_48 m0 m1 ?_
  refine g_fstore_n dX6_bearsIn_51 (by decide) rfl ?_
  show G _ _ _ _ _ _ _ _ _ [_, _, _, _, _] _
  refine g_iconst (v := nI 0) dX6_bearsIn_52 (by decide) ?_
  refine g_istore dX6_bearsIn_53 (by decide) rfl ?_
  show G _ _ _ _ _ _ _ _ _ [_, _, _, _, _] _
  suffices K : ∀ (k i : Nat), i + k = 91 → (∀ e, e < i → ¬ brg (iceN (S.1 (oM j 0)).toUInt32 (S.1 5) e) t) → G E MX6_bearsIn P sh sz V 0 0 55 [some (.ref x), some (.int (nI j)), some (.int t), some (.float (iceN (S.1 (oM j 0)).toUInt32 (S.1 5) i)), some (.int (nI i))] [] from K 91 0 (by omega) (fun e he => absurd he (Nat.not_lt_zero e))
  intro k
  induction k with
  | zero =>
    intro i hi hno
    have hi : i = 91 := by omega
    subst hi
    have : ¬ brN (S.1 (oM j 0)).toUInt32 (S.1 5) t < 91 := fa_first_none (fun k hk => cb_f (hno k hk))
    rw [if_neg this] at hP
    refine g_iload dX6_bearsIn_55 rfl ?_
    refine g_bipush (v := nI 90) dX6_bearsIn_57 (by decide) ?_
    refine g_icmp_gt (tgt := 98) dX6_bearsIn_59 (by decide) (fun _ => ?_) (fun hq => absurd ((by decide)) hq)
    refine g_throwNW (text := "the ice would not bear that within 90 days") rfl cl_X6_101 (by decide +kernel) dX6_bearsIn_98 dX6_bearsIn_101 dX6_bearsIn_102 dX6_bearsIn_105 dX6_bearsIn_108 rfl (by decide) (by decide) (by decide) (hP.thr hW hC rfl)
  | succ k ih =>
    intro i hi hno
    have hb := fp_brg (ice_ok hI hj i)
    refine g_iload dX6_bearsIn_55 rfl ?_
    refine g_bipush (v := nI 90) dX6_bearsIn_57 (by decide) ?_
    refine g_icmp_gt (tgt := 98) dX6_bearsIn_59 (by decide) (fun hq => absurd hq ((fun q => absurd q (Int32.not_lt.mpr (nI_le (a := i) (b := 90) (by omega) (by decide)))))) (fun _ => ?_)
    refine g_fload_n dX6_bearsIn_62 rfl ?_
    refine g_fload_n dX6_bearsIn_63 rfl ?_
    refine g_fmul dX6_bearsIn_64 hb.1 ?_
    refine g_ldcfw kc_X6_281 dX6_bearsIn_65 ?_
    refine g_fmul dX6_bearsIn_68 hb.2 ?_
    refine g_iload_n dX6_bearsIn_69 rfl ?_
    refine g_i2f dX6_bearsIn_70 ?_
    refine g_fcmp dX6_bearsIn_71 ?_
    refine g_if_lt (tgt := 78) dX6_bearsIn_72 (by decide) (fun b4 => ?_) (fun b4 => ?_)
    · have := ih (i + 1) (by omega) (fun e he => by
        rcases Nat.lt_or_ge e i with z | z
        · exact hno e z
        · rw [show e = i by omega]
          exact Int32.not_le.mpr b4)
      refine g_fload_n dX6_bearsIn_78 rfl ?_
      refine g_aload_n dX6_bearsIn_79 rfl ?_
      refine g_get 8 rfl (by decide) inX6 0 (by decide) fl_X6_12 dX6_bearsIn_80 o0 o1 ?_
      refine g_get 6 rfl (by decide) inX4 0 (by decide) fl_X6_62 dX6_bearsIn_83 hR.1.1 hR.2.1.1 ?_
      refine g_iconst (v := nI 0) dX6_bearsIn_86 (by decide) ?_
      refine g_iaload dX6_bearsIn_87 hR.1.2.1 (vp_in_nI (by decide) (by decide)) (hR.set (k := 0) (by decide)) ?_
      refine g_callSp (Y := YX6_nextIce) ss_X6_275 yn_X6_nextIce dX6_bearsIn_88 (c_nextIce (ice_ok hI hj i) hI.2.1.1 hI.2.1.2 pR_ok) rfl rfl rfl (Nat.le_of_ble_eq_true rfl) ⟨rfl, rfl⟩ ?_
      refine g_fstore_n dX6_bearsIn_91 (by decide) rfl ?_
      show G _ _ _ _ _ _ _ _ _ [_, _, _, _, _] _
      refine g_iinc dX6_bearsIn_92 rfl (by first | exact nI_inc _ | rfl) (by decide) rfl ?_
      show G _ _ _ _ _ _ _ _ _ [_, _, _, _, _] _
      refine g_jump (tgt := 55) dX6_bearsIn_95 (by decide) ?_
      exact this
    · have hn : brN (S.1 (oM j 0)).toUInt32 (S.1 5) t = i := fa_first_eq (by omega) (cb_t (Int32.not_lt.mp b4)) (fun k hk => cb_f (hno k hk))
      rw [hn, if_pos (by omega)] at hP
      refine g_iload dX6_bearsIn_75 rfl ?_
      exact g_iret rfl (nr_int _) dX6_bearsIn_77 (by decide) (hP.ret hW hC)
theorem m_pass {d : Int32} (hC : CS sh V x S) (hI : InvB S.1) (hW : Wf sh sz) (hP : CP x sh sz V [xIA] (sp_pass S d) P) : MC E YX6_pass [.ref x, .int d] sh sz V P := by
  obtain ⟨o0, o1, o2, o3, o4, o5, o6, o7, o8⟩ := hC.1
  unfold sp_pass at hP
  refine MC.of RX6 "pass" rfl (by decide +kernel) rfl 1 [_, _, none] rfl (Nat.le_of_ble_eq_true rfl) ?_
  show G E MX6_pass _ _ _ _ _ _ _ _ _
  refine g_iload_n dX6_pass_0 rfl ?_
  refine g_callSp (Y := YX6_isDaysToPass) ss_X6_284 yn_X6_isDaysToPass dX6_pass_1 (c_isDaysToPass pR_ok) rfl rfl rfl (Nat.le_of_ble_eq_true rfl) ⟨rfl, rfl⟩ ?_
  refine g_if_ne (tgt := 18) dX6_pass_4 (by decide) (fun b1 => ?_) (fun b1 => ?_)
  rotate_left
  · rw [if_neg (bi_eq b1)] at hP
    refine g_throwW (names := tn_IllegalArgumentException) (text := "the number of days is out of range") rfl (by decide +kernel) cl_X6_51 ini_IllegalArgumentException (by decide +kernel) ta_X6_55 to_X6_55 dX6_pass_7 dX6_pass_10 dX6_pass_11 dX6_pass_14 dX6_pass_17 rfl (by decide) (by decide) (by decide) (hP.thr hW hC rfl)
  have b2 := bi_ne b1
  rw [if_pos b2] at hP
  obtain ⟨n, hn, rfl⟩ : ∃ n, n < 31 ∧ d = nI n := in_nI (Int32.le_trans (by decide) b2.1) (Int32.lt_of_le_of_lt b2.2 (by decide)) (by decide)
  rw [nI_clamp (by omega)] at hP
  refine g_aload_n dX6_pass_18 rfl ?_
  refine g_get 8 rfl (by decide) inX6 4 (by decide) fl_X6_29 dX6_pass_19 o0 o5 ?_
  refine g_aload_n dX6_pass_22 rfl ?_
  refine g_get 8 rfl (by decide) inX6 0 (by decide) fl_X6_12 dX6_pass_23 o0 o1 ?_
  refine g_callVv (Y := YX1_keep) (Q := (fun V1 => (∀ a, ¬ (x ≤ a ∧ a < x + 284) → V1 a = V a) ∧ CS sh V1 x (S.1, S.2.1, pH S.2.2.1 S.2.2.2.1 S.1, pC S.2.2.2.1, S.2.2.2.2))) sv_X6_58 rfl yn_X1_keep 3 (by decide) rfl rfl dX6_pass_26 (c_keepC hC (fun V1 q1 q2 => ⟨rfl, rfl, rfl, q1, q2⟩)) (by obtain ⟨-, -, -, -, ⟨K, nx, hH, -⟩, -⟩ := hC; exact hH.1) rfl rfl rfl (Nat.le_of_ble_eq_true rfl) ⟨rfl, rfl⟩ (fun V1 q => ?_)
  obtain ⟨q1, q2⟩ := q
  obtain ⟨p0, p1, p2, p3, p4, p5, p6, p7, p8⟩ := q2.1
  have hR : RoadAt sh V1 (x + 1) S.1 := q2.2.1
  refine g_aload_n dX6_pass_29 rfl ?_
  refine g_get 8 rfl (by decide) inX6 0 (by decide) fl_X6_12 dX6_pass_30 p0 p1 ?_
  refine g_callVp (Y := YX4_countGoodDrills) sv_X6_287 rfl yn_X4_countGoodDrills 6 (by decide) rfl rfl dX6_pass_33 (c_countGoodDrills hR pR_ok) hR.1.1 rfl rfl rfl (Nat.le_of_ble_eq_true rfl) ⟨rfl, rfl⟩ ?_
  refine g_istore_n dX6_pass_36 (by decide) rfl ?_
  show G _ _ _ _ _ _ _ _ _ [_, _, _] _
  refine g_aload_n dX6_pass_37 rfl ?_
  refine g_get 8 rfl (by decide) inX6 0 (by decide) fl_X6_12 dX6_pass_38 p0 p1 ?_
  refine g_iload_n dX6_pass_41 rfl ?_
  refine g_callVv (Y := YX4_letDaysGoBy) (Q := (fun V2 => Fr V1 V2 (x + 1) ∧ RoadAt sh V2 (x + 1) (passF S.1 n))) sv_X6_290 rfl yn_X4_letDaysGoBy 6 (by decide) rfl rfl dX6_pass_42 (c_letDaysGoBy hR hI (n := n) (by omega) (fun V2 q1 q2 => ⟨rfl, rfl, rfl, q1, q2⟩)) hR.1.1 rfl rfl rfl (Nat.le_of_ble_eq_true rfl) ⟨rfl, rfl⟩ (fun V2 q => ?_)
  obtain ⟨q3, q4⟩ := q
  have hC2 := CAt.now q2 q3 q4
  obtain ⟨r0, r1, r2, r3, r4, r5, r6, r7, r8⟩ := hC2.1
  refine g_iload_n dX6_pass_45 rfl ?_
  refine g_aload_n dX6_pass_46 rfl ?_
  refine g_get 8 rfl (by decide) inX6 0 (by decide) fl_X6_12 dX6_pass_47 r0 r1 ?_
  refine g_callVp (Y := YX4_countGoodDrills) sv_X6_287 rfl yn_X4_countGoodDrills 6 (by decide) rfl rfl dX6_pass_50 (c_countGoodDrills q4 pR_ok) q4.1.1 rfl rfl rfl (Nat.le_of_ble_eq_true rfl) ⟨rfl, rfl⟩ ?_
  have hP := hP.retW hW (V' := V2) (fun a ha => (q3 a (by omega)).trans (q1 a ha)) hC2
  unfold goodN at hP
  refine g_isub dX6_pass_53 ?_
  exact g_iret rfl (nr_int _) dX6_pass_54 (by decide) hP
theorem m_append {c : Int32} (hc : vp_nar .char c = c) (hC : CS sh V x S) (hS : S.2.2.2.2.2.1 ≤ 60) (hW : Wf sh sz) (hP : CP x sh sz V [xIS] (sp_append S c) P) : MC E YX6_append [.ref x, .int c] sh sz V P := by
  obtain ⟨o0, o1, o2, o3, o4, o5, o6, o7, o8⟩ := hC.1
  have hO : OrAt sh V (x + 278) S.2.2.2.2.1 S.2.2.2.2.2.1 := hC.2.2.2.2.2
  obtain ⟨⟨s0, s1, s2, s3, s4, s5⟩, ⟨v0, v1, v4, v5, v6, v7⟩, hn, ht⟩ := id hO
  unfold sp_append at hP
  refine MC.of RX6 "append" rfl (by decide +kernel) rfl 0 [_, _] rfl (Nat.le_of_ble_eq_true rfl) ?_
  show G E MX6_append _ _ _ _ _ _ _ _ _
  refine g_aload_n dX6_append_0 rfl ?_
  refine g_get 8 rfl (by decide) inX6 5 (by decide) fl_X6_36 dX6_append_1 o0 o6 ?_
  refine g_get 5 rfl (by decide) inX3 1 (by decide) fl_X6_294 dX6_append_4 s0 v1 ?_
  by_cases h6 : S.2.2.2.2.2.1 < 60
  rotate_left
  · rw [if_neg h6] at hP
    refine g_bipush (v := nI 60) dX6_append_7 (by decide) ?_
    refine g_icmp_lt (tgt := 23) dX6_append_9 (by decide) (fun hq => absurd hq (nI_nlt (by omega) (by omega))) (fun _ => ?_)
    refine g_throwW (names := tn_IllegalStateException) (text := "the input contains 60 characters") rfl (by decide +kernel) cl_X6_297 ini_IllegalStateException (by decide +kernel) ta_X6_301 to_X6_301 dX6_append_12 dX6_append_15 dX6_append_16 dX6_append_19 dX6_append_22 rfl (by decide) (by decide) (by decide) (hP.thr hW hC rfl)
  rw [if_pos h6] at hP
  refine g_bipush (v := nI 60) dX6_append_7 (by decide) ?_
  refine g_icmp_lt (tgt := 23) dX6_append_9 (by decide) (fun _ => ?_) (fun hq => absurd (nI_lt h6 (by decide)) hq)
  refine g_aload_n dX6_append_23 rfl ?_
  refine g_get 8 rfl (by decide) inX6 5 (by decide) fl_X6_36 dX6_append_24 o0 o6 ?_
  refine g_get 5 rfl (by decide) inX3 0 (by decide) fl_X6_302 dX6_append_27 s0 v0 ?_
  refine g_aload_n dX6_append_30 rfl ?_
  refine g_get 8 rfl (by decide) inX6 5 (by decide) fl_X6_36 dX6_append_31 o0 o6 ?_
  refine g_get 5 rfl (by decide) inX3 1 (by decide) fl_X6_294 dX6_append_34 s0 v1 ?_
  refine g_iload_n dX6_append_37 rfl ?_
  refine g_castore dX6_append_38 s1 (vp_in_nI h6 (by decide)) ?_
  rw [nI_clamp (by omega), hc]
  have e : ∀ a, a ≠ x + 278 + 1 → hu V (x + 278 + 1) S.2.2.2.2.2.1 (.int c) a = V a := fun a ha => hu_ne _ _ _ ha
  refine g_aload_n dX6_append_39 rfl ?_
  refine g_get 8 rfl (by decide) inX6 5 (by decide) fl_X6_36 dX6_append_40 o0 ((congrFun (e x (by omega)) 5).trans o6) ?_
  refine g_dup dX6_append_43 rfl ?_
  refine g_get 5 rfl (by decide) inX3 1 (by decide) fl_X6_294 dX6_append_44 s0 ((congrFun (e _ (by omega)) 1).trans v1) ?_
  refine g_iconst (v := nI 1) dX6_append_47 (by decide) ?_
  refine g_iadd dX6_append_48 ?_
  refine g_put 5 rfl (by decide) inX3 tyX3 tyX3_ok nmX3 1 (by decide) fl_X6_294 rfl dX6_append_49 s0 rfl rfl ?_
  have hC2 : CAt sh (hu (hu V (x + 278 + 1) S.2.2.2.2.2.1 (.int c)) (x + 278) 1 (.int (nI (S.2.2.2.2.2.1 + 1)))) x S.1 S.2.1 S.2.2.1 S.2.2.2.1 (upd S.2.2.2.2.1 S.2.2.2.2.2.1 c) (S.2.2.2.2.2.1 + 1) S.2.2.2.2.2.2.1 S.2.2.2.2.2.2.2 := by
    refine CAt.ord hC (fun a ha => (hu_ne _ _ _ (by omega)).trans (hu_ne _ _ _ (by omega))) ⟨⟨s0, s1, s2, s3, s4, s5⟩, ⟨?_, hu_at _ _ _ _, ?_, ?_, ?_, ?_⟩, by omega, fun k hk => ?_⟩
    · exact (hu_at_ne _ _ _ (by decide)).trans ((congrFun (e _ (by omega)) 0).trans v0)
    · exact (hu_at_ne _ _ _ (by decide)).trans ((congrFun (e _ (by omega)) _).trans v4)
    · exact (hu_at_ne _ _ _ (by decide)).trans ((congrFun (e _ (by omega)) _).trans v5)
    · exact (hu_at_ne _ _ _ (by decide)).trans ((congrFun (e _ (by omega)) _).trans v6)
    · exact (hu_at_ne _ _ _ (by decide)).trans ((congrFun (e _ (by omega)) _).trans v7)
    · rw [hu_ne _ _ _ (by omega)]
      by_cases z : k = S.2.2.2.2.2.1
      · rw [z, hu_at, pk_us]
      · rw [hu_at_ne _ _ _ z, pk_un z]
        exact ht k (by omega)
  rw [nI_add]
  obtain ⟨p0, p1, p2, p3, p4, p5, p6, p7, p8⟩ := hC2.1
  obtain ⟨-, ⟨-, w1, -⟩, -⟩ := hC2.2.2.2.2.2
  have hP := hP.retW hW (V' := hu (hu V (x + 278 + 1) S.2.2.2.2.2.1 (.int c)) (x + 278) 1 (.int (nI (S.2.2.2.2.2.1 + 1)))) (fun a ha => (hu_ne _ _ _ (by omega)).trans (hu_ne _ _ _ (by omega))) hC2
  generalize hu (hu V (x + 278 + 1) S.2.2.2.2.2.1 (.int c)) (x + 278) 1 (.int (nI (S.2.2.2.2.2.1 + 1))) = V2 at p6 w1 hP ⊢
  refine g_aload_n dX6_append_52 rfl ?_
  refine g_get 8 rfl (by decide) inX6 5 (by decide) fl_X6_36 dX6_append_53 p0 p6 ?_
  refine g_get 5 rfl (by decide) inX3 1 (by decide) fl_X6_294 dX6_append_56 s0 w1 ?_
  exact g_iret rfl (nr_int _) dX6_append_59 (by decide) hP
end METH3

