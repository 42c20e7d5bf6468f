section ROAD2
variable {E : gE} {M : gM} {P : gP} {sh : Sh} {sz : Nat} {V : Vl} {cu su pc : Nat} {L : List (Option Value)} {rest : List Value} {r : Nat} {f : Fl}
theorem RoadAt.cv {c : Nat} (h : RoadAt sh V r f) (hI : InvB f) (hc : c < cnt f) : CvAt sh V (r + 17 + 2 * c) (f (oC c 0)) (f (oC c 2)) (ncv f c) (tkF f c) := by
  have hI1 := hI.1.2
  obtain ⟨-, g, h1, h2⟩ := h.2.2.2.2.2 c (by omega)
  unfold ldF nF at h1
  rw [if_pos hc, if_pos hc, h2 hc] at h1
  exact h1
theorem RoadAt.cvr {c : Nat} (h : RoadAt sh V r f) (hc : c < 4) : V (r + 4) (nI c).toNatClampNeg = .ref (r + 17 + 2 * c) := at_nI (by omega) (h.2.2.2.2.2 c hc).1
theorem RoadAt.mir {j : Nat} (h : RoadAt sh V r f) (hj : j < 12) : V (r + 2) (nI j).toNatClampNeg = .ref (r + 5 + j) := at_nI (by omega) (h.2.2.2.1 j hj).1
theorem RoadAt.mi {j : Nat} (h : RoadAt sh V r f) (hj : j < 12) : MiAt sh V (r + 5 + j) (f (oM j 0)) (f (oM j 3)) (f (oM j 4)) (f (oM j 1)) (f (oM j 2)) (f (oM j 5)) := (h.2.2.2.1 j hj).2
theorem RoadAt.many (h : RoadAt sh V r f) (hI : InvB f) : V r 5 = .int (nI (cnt f)) := by
  rw [← hI.1.1]
  exact h.2.1.2.2.2.2.2.1
/-- a convoy is done -/
abbrev dnF (f : Fl) (c : Nat) : Prop := 0 ≤ f (oC c 2) ∧ fb_ct (fun k => decide (nI 12 ≤ mt (f (oC c 2)) (f (oC c 0)) k)) (ncv f c) = ncv f c
theorem sI_succ (p : Nat → Int32) (n : Nat) : sI p (n + 1) = sI p n + p n := rfl
theorem c_countGoodDrills (h : RoadAt sh V r f) (hP : P (.inl (some (.int (sI (fun j => bgd f j) 12)))) sh sz V) : MC E YX4_countGoodDrills [.ref r] sh sz V P := by
  refine MC.of RX4 "countGoodDrills" rfl (by decide +kernel) rfl 2 [_, none, none] rfl (Nat.le_of_ble_eq_true rfl) ?_
  show G E MX4_countGoodDrills _ _ _ _ _ _ _ _ _
  refine g_iconst (v := nI 0) dX4_countGoodDrills_0 (by decide) ?_
  refine g_istore_n dX4_countGoodDrills_1 (by decide) rfl ?_
  show G _ _ _ _ _ _ _ _ _ [_, _, _] _
  refine g_iconst (v := nI 0) dX4_countGoodDrills_2 (by decide) ?_
  refine g_istore_n dX4_countGoodDrills_3 (by decide) rfl ?_
  show G _ _ _ _ _ _ _ _ _ [_, _, _] _
  suffices K : ∀ (d i : Nat), i + d = 12 → G E MX4_countGoodDrills P sh sz V 0 0 4 [some (.ref r), some (.int (sI (fun j => bgd f j) i)), some (.int (nI i))] [] from K 12 0 (by omega)
  intro d
  induction d with
  | zero =>
    intro i hi
    have e : i = 12 := by omega
    subst e
    refine g_iload_n dX4_countGoodDrills_4 rfl ?_
    refine g_bipush (v := nI 12) dX4_countGoodDrills_5 (by decide) ?_
    refine g_icmp_ge (tgt := 32) dX4_countGoodDrills_7 (by decide) (fun _ => ?_) (fun hq => absurd (Int32.le_refl _) hq)
    refine g_iload_n dX4_countGoodDrills_32 rfl ?_
    exact g_iret rfl (nr_int _) dX4_countGoodDrills_33 (by decide) hP
  | succ d ih =>
    intro i hi
    have ih := ih (i + 1) (by omega)
    rw [sI_succ] at ih
    refine g_iload_n dX4_countGoodDrills_4 rfl ?_
    refine g_bipush (v := nI 12) dX4_countGoodDrills_5 (by decide) ?_
    refine g_icmp_ge (tgt := 32) dX4_countGoodDrills_7 (by decide) (fun hq => absurd hq (nI_ge (by omega) (by decide))) (fun _ => ?_)
    refine g_aload_n dX4_countGoodDrills_10 rfl ?_
    refine g_aload_n dX4_countGoodDrills_11 rfl ?_
    refine g_get 6 rfl (by decide) inX4 2 (by decide) fl_X4_21 dX4_countGoodDrills_12 h.1.1 h.2.1.2.2.1 ?_
    refine g_iload_n dX4_countGoodDrills_15 rfl ?_
    refine g_aaload _ dX4_countGoodDrills_16 h.1.2.2.1 (by decide) (by decide) (vp_in_nI (by omega) (by decide)) (h.mir (by omega)) ?_
    refine g_callVp (Y := YX4_isDrillGood) sv_X4_82 rfl yn_X4_isDrillGood 6 (by decide) rfl rfl dX4_countGoodDrills_17 (c_isDrillGood h (by omega) pR_ok) h.1.1 rfl rfl rfl (Nat.le_of_ble_eq_true rfl) ⟨rfl, rfl⟩ ?_
    refine g_if_eq (tgt := 26) dX4_countGoodDrills_20 (by decide) (fun b1 => ?_) (fun b1 => ?_)
    · rw [bgd_f (bgd_eq b1), add_nI0] at ih
      refine g_iinc dX4_countGoodDrills_26 rfl (by first | exact nI_inc _ | rfl) (by decide) rfl ?_
      show G _ _ _ _ _ _ _ _ _ [_, _, _] _
      refine g_jump (tgt := 4) dX4_countGoodDrills_29 (by decide) ?_
      exact ih
    · rw [bgd_t (bgd_ne b1)] at ih
      refine g_iinc dX4_countGoodDrills_23 rfl (by first | exact nI_inc _ | rfl) (by decide) rfl ?_
      show G _ _ _ _ _ _ _ _ _ [_, _, _] _
      refine g_iinc dX4_countGoodDrills_26 rfl (by first | exact nI_inc _ | rfl) (by decide) rfl ?_
      show G _ _ _ _ _ _ _ _ _ [_, _, _] _
      refine g_jump (tgt := 4) dX4_countGoodDrills_29 (by decide) ?_
      exact ih
theorem c_countCracks (h : RoadAt sh V r f) (hP : P (.inl (some (.int (sI (fun j => f (oM j 1)) 12)))) sh sz V) : MC E YX4_countCracks [.ref r] sh sz V P := by
  refine MC.of RX4 "countCracks" rfl (by decide +kernel) rfl 2 [_, none, none] rfl (Nat.le_of_ble_eq_true rfl) ?_
  show G E MX4_countCracks _ _ _ _ _ _ _ _ _
  refine g_iconst (v := nI 0) dX4_countCracks_0 (by decide) ?_
  refine g_istore_n dX4_countCracks_1 (by decide) rfl ?_
  show G _ _ _ _ _ _ _ _ _ [_, _, _] _
  refine g_iconst (v := nI 0) dX4_countCracks_2 (by decide) ?_
  refine g_istore_n dX4_countCracks_3 (by decide) rfl ?_
  show G _ _ _ _ _ _ _ _ _ [_, _, _] _
  suffices K : ∀ (d i : Nat), i + d = 12 → G E MX4_countCracks P sh sz V 0 0 4 [some (.ref r), some (.int (sI (fun j => f (oM j 1)) i)), some (.int (nI i))] [] from K 12 0 (by omega)
  intro d
  induction d with
  | zero =>
    intro i hi
    have e : i = 12 := by omega
    subst e
    refine g_iload_n dX4_countCracks_4 rfl ?_
    refine g_bipush (v := nI 12) dX4_countCracks_5 (by decide) ?_
    refine g_icmp_ge (tgt := 28) dX4_countCracks_7 (by decide) (fun _ => ?_) (fun hq => absurd (Int32.le_refl _) hq)
    refine g_iload_n dX4_countCracks_28 rfl ?_
    exact g_iret rfl (nr_int _) dX4_countCracks_29 (by decide) hP
  | succ d ih =>
    intro i hi
    have ih := ih (i + 1) (by omega)
    rw [sI_succ] at ih
    refine g_iload_n dX4_countCracks_4 rfl ?_
    refine g_bipush (v := nI 12) dX4_countCracks_5 (by decide) ?_
    refine g_icmp_ge (tgt := 28) dX4_countCracks_7 (by decide) (fun hq => absurd hq (nI_ge (by omega) (by decide))) (fun _ => ?_)
    refine g_iload_n dX4_countCracks_10 rfl ?_
    refine g_aload_n dX4_countCracks_11 rfl ?_
    refine g_get 6 rfl (by decide) inX4 2 (by decide) fl_X4_21 dX4_countCracks_12 h.1.1 h.2.1.2.2.1 ?_
    refine g_iload_n dX4_countCracks_15 rfl ?_
    refine g_aaload _ dX4_countCracks_16 h.1.2.2.1 (by decide) (by decide) (vp_in_nI (by omega) (by decide)) (h.mir (by omega)) ?_
    obtain ⟨m0, m1, m2, m3, m4, m5, m6⟩ := h.mi (j := i) (by omega)
    refine g_get 4 rfl (by decide) inX2 3 (by decide) fl_X4_75 dX4_countCracks_17 m0 m4 ?_
    refine g_iadd dX4_countCracks_20 ?_
    refine g_istore_n dX4_countCracks_21 (by decide) rfl ?_
    show G _ _ _ _ _ _ _ _ _ [_, _, _] _
    refine g_iinc dX4_countCracks_22 rfl (by first | exact nI_inc _ | rfl) (by decide) rfl ?_
    show G _ _ _ _ _ _ _ _ _ [_, _, _] _
    refine g_jump (tgt := 4) dX4_countCracks_25 (by decide) ?_
    exact ih
theorem c_countInRows (h : RoadAt sh V r f) (hP : P (.inl (some (.int (sI (fun k => bi (¬ f (oR k) = 0)) 10)))) sh sz V) : MC E YX4_countInRows [.ref r] sh sz V P := by
  refine MC.of RX4 "countInRows" rfl (by decide +kernel) rfl 2 [_, none, none] rfl (Nat.le_of_ble_eq_true rfl) ?_
  show G E MX4_countInRows _ _ _ _ _ _ _ _ _
  refine g_iconst (v := nI 0) dX4_countInRows_0 (by decide) ?_
  refine g_istore_n dX4_countInRows_1 (by decide) rfl ?_
  show G _ _ _ _ _ _ _ _ _ [_, _, _] _
  refine g_iconst (v := nI 0) dX4_countInRows_2 (by decide) ?_
  refine g_istore_n dX4_countInRows_3 (by decide) rfl ?_
  show G _ _ _ _ _ _ _ _ _ [_, _, _] _
  suffices K : ∀ (d i : Nat), i + d = 10 → G E MX4_countInRows P sh sz V 0 0 4 [some (.ref r), some (.int (sI (fun k => bi (¬ f (oR k) = 0)) i)), some (.int (nI i))] [] from K 10 0 (by omega)
  intro d
  induction d with
  | zero =>
    intro i hi
    have e : i = 10 := by omega
    subst e
    refine g_iload_n dX4_countInRows_4 rfl ?_
    refine g_aload_n dX4_countInRows_5 rfl ?_
    refine g_get 6 rfl (by decide) inX4 3 (by decide) fl_X4_27 dX4_countInRows_6 h.1.1 h.2.1.2.2.2.1 ?_
    refine g_alen (v := nI 10) dX4_countInRows_9 h.1.2.2.2.1 (by decide) (by decide) rfl ?_
    refine g_icmp_ge (tgt := 31) dX4_countInRows_10 (by decide) (fun _ => ?_) (fun hq => absurd (Int32.le_refl _) hq)
    refine g_iload_n dX4_countInRows_31 rfl ?_
    exact g_iret rfl (nr_int _) dX4_countInRows_32 (by decide) hP
  | succ d ih =>
    intro i hi
    have ih := ih (i + 1) (by omega)
    rw [sI_succ] at ih
    refine g_iload_n dX4_countInRows_4 rfl ?_
    refine g_aload_n dX4_countInRows_5 rfl ?_
    refine g_get 6 rfl (by decide) inX4 3 (by decide) fl_X4_27 dX4_countInRows_6 h.1.1 h.2.1.2.2.2.1 ?_
    refine g_alen (v := nI 10) dX4_countInRows_9 h.1.2.2.2.1 (by decide) (by decide) rfl ?_
    refine g_icmp_ge (tgt := 31) dX4_countInRows_10 (by decide) (fun hq => absurd hq (nI_ge (by omega) (by decide))) (fun _ => ?_)
    refine g_aload_n dX4_countInRows_13 rfl ?_
    refine g_get 6 rfl (by decide) inX4 3 (by decide) fl_X4_27 dX4_countInRows_14 h.1.1 h.2.1.2.2.2.1 ?_
    refine g_iload_n dX4_countInRows_17 rfl ?_
    obtain ⟨k1, k2⟩ := h.2.2.2.2.1 i (by omega)
    by_cases q : f (oR i) = 0
    · rw [bi_f (fun z => z q), add_nI0] at ih
      refine g_aaload _ dX4_countInRows_18 h.1.2.2.2.1 (by decide) (by decide) (vp_in_nI (by omega) (by decide)) (at_nI (by omega) (k1 q)) ?_
      refine g_ifnullN (tgt := 25) dX4_countInRows_19 (by decide) ?_
      refine g_iinc dX4_countInRows_25 rfl (by first | exact nI_inc _ | rfl) (by decide) rfl ?_
      show G _ _ _ _ _ _ _ _ _ [_, _, _] _
      refine g_jump (tgt := 4) dX4_countInRows_28 (by decide) ?_
      exact ih
    · rw [bi_t q] at ih
      obtain ⟨t, e1, -⟩ := k2 q
      refine g_aaload _ dX4_countInRows_18 h.1.2.2.2.1 (by decide) (by decide) (vp_in_nI (by omega) (by decide)) (at_nI (by omega) e1) ?_
      refine g_ifnull dX4_countInRows_19 ?_
      refine g_iinc dX4_countInRows_22 rfl (by first | exact nI_inc _ | rfl) (by decide) rfl ?_
      show G _ _ _ _ _ _ _ _ _ [_, _, _] _
      refine g_iinc dX4_countInRows_25 rfl (by first | exact nI_inc _ | rfl) (by decide) rfl ?_
      show G _ _ _ _ _ _ _ _ _ [_, _, _] _
      refine g_jump (tgt := 4) dX4_countInRows_28 (by decide) ?_
      exact ih
theorem c_tonnesInRows (h : RoadAt sh V r f) (hP : P (.inl (some (.int (sI (fun k => f (oR k)) 10)))) sh sz V) : MC E YX4_tonnesInRows [.ref r] sh sz V P := by
  refine MC.of RX4 "tonnesInRows" rfl (by decide +kernel) rfl 3 [_, none, none, none] rfl (Nat.le_of_ble_eq_true rfl) ?_
  show G E MX4_tonnesInRows _ _ _ _ _ _ _ _ _
  refine g_iconst (v := nI 0) dX4_tonnesInRows_0 (by decide) ?_
  refine g_istore_n dX4_tonnesInRows_1 (by decide) rfl ?_
  show G _ _ _ _ _ _ _ _ _ [_, _, _, _] _
  refine g_iconst (v := nI 0) dX4_tonnesInRows_2 (by decide) ?_
  refine g_istore_n dX4_tonnesInRows_3 (by decide) rfl ?_
  show G _ _ _ _ _ _ _ _ _ [_, _, _, _] _
  suffices K : ∀ (d i : Nat), i + d = 10 → ∀ z, G E MX4_tonnesInRows P sh sz V 0 0 4 [some (.ref r), some (.int (sI (fun k => f (oR k)) i)), some (.int (nI i)), z] [] from K 10 0 (by omega) _
  intro d
  induction d with
  | zero =>
    intro i hi z
    have e : i = 10 := by omega
    subst e
    refine g_iload_n dX4_tonnesInRows_4 rfl ?_
    refine g_aload_n dX4_tonnesInRows_5 rfl ?_
    refine g_get 6 rfl (by decide) inX4 3 (by decide) fl_X4_27 dX4_tonnesInRows_6 h.1.1 h.2.1.2.2.2.1 ?_
    refine g_alen (v := nI 10) dX4_tonnesInRows_9 h.1.2.2.2.1 (by decide) (by decide) rfl ?_
    refine g_icmp_ge (tgt := 37) dX4_tonnesInRows_10 (by decide) (fun _ => ?_) (fun hq => absurd (Int32.le_refl _) hq)
    refine g_iload_n dX4_tonnesInRows_37 rfl ?_
    exact g_iret rfl (nr_int _) dX4_tonnesInRows_38 (by decide) hP
  | succ d ih =>
    intro i hi z
    have ih := ih (i + 1) (by omega)
    rw [sI_succ] at ih
    refine g_iload_n dX4_tonnesInRows_4 rfl ?_
    refine g_aload_n dX4_tonnesInRows_5 rfl ?_
    refine g_get 6 rfl (by decide) inX4 3 (by decide) fl_X4_27 dX4_tonnesInRows_6 h.1.1 h.2.1.2.2.2.1 ?_
    refine g_alen (v := nI 10) dX4_tonnesInRows_9 h.1.2.2.2.1 (by decide) (by decide) rfl ?_
    refine g_icmp_ge (tgt := 37) dX4_tonnesInRows_10 (by decide) (fun hq => absurd hq (nI_ge (by omega) (by decide))) (fun _ => ?_)
    refine g_aload_n dX4_tonnesInRows_13 rfl ?_
    refine g_get 6 rfl (by decide) inX4 3 (by decide) fl_X4_27 dX4_tonnesInRows_14 h.1.1 h.2.1.2.2.2.1 ?_
    refine g_iload_n dX4_tonnesInRows_17 rfl ?_
    obtain ⟨k1, k2⟩ := h.2.2.2.2.1 i (by omega)
    by_cases q : f (oR i) = 0
    · have q2 : f (oR i) = nI 0 := q
      rw [q2, add_nI0] at ih
      refine g_aaload _ dX4_tonnesInRows_18 h.1.2.2.2.1 (by decide) (by decide) (vp_in_nI (by omega) (by decide)) (at_nI (by omega) (k1 q)) ?_
      refine g_astore_nN dX4_tonnesInRows_19 (by decide) rfl ?_
      show G _ _ _ _ _ _ _ _ _ [_, _, _, _] _
      refine g_aload_nN dX4_tonnesInRows_20 rfl ?_
      refine g_ifnullN (tgt := 31) dX4_tonnesInRows_21 (by decide) ?_
      refine g_iinc dX4_tonnesInRows_31 rfl (by first | exact nI_inc _ | rfl) (by decide) rfl ?_
      show G _ _ _ _ _ _ _ _ _ [_, _, _, _] _
      refine g_jump (tgt := 4) dX4_tonnesInRows_34 (by decide) ?_
      exact ih _
    · obtain ⟨t, e1, e2⟩ := k2 q
      refine g_aaload _ dX4_tonnesInRows_18 h.1.2.2.2.1 (by decide) (by decide) (vp_in_nI (by omega) (by decide)) (at_nI (by omega) e1) ?_
      refine g_astore_n dX4_tonnesInRows_19 (by decide) rfl ?_
      show G _ _ _ _ _ _ _ _ _ [_, _, _, _] _
      refine g_aload_n dX4_tonnesInRows_20 rfl ?_
      refine g_ifnull dX4_tonnesInRows_21 ?_
      refine g_iload_n dX4_tonnesInRows_24 rfl ?_
      refine g_aload_n dX4_tonnesInRows_25 rfl ?_
      refine g_get 7 rfl (by decide) inX5 1 (by decide) fl_X4_145 dX4_tonnesInRows_26 e2.1 e2.2.2.1 ?_
      refine g_iadd dX4_tonnesInRows_29 ?_
      refine g_istore_n dX4_tonnesInRows_30 (by decide) rfl ?_
      show G _ _ _ _ _ _ _ _ _ [_, _, _, _] _
      refine g_iinc dX4_tonnesInRows_31 rfl (by first | exact nI_inc _ | rfl) (by decide) rfl ?_
      show G _ _ _ _ _ _ _ _ _ [_, _, _, _] _
      refine g_jump (tgt := 4) dX4_tonnesInRows_34 (by decide) ?_
      exact ih _
theorem c_countStarted (h : RoadAt sh V r f) (hI : InvB f) (hP : P (.inl (some (.int (sI (fun c => bi (0 ≤ f (oC c 2))) (cnt f))))) sh sz V) : MC E YX4_countStarted [.ref r] sh sz V P := by
  have hI1 := hI.1.2
  refine MC.of RX4 "countStarted" rfl (by decide +kernel) rfl 2 [_, none, none] rfl (Nat.le_of_ble_eq_true rfl) ?_
  show G E MX4_countStarted _ _ _ _ _ _ _ _ _
  refine g_iconst (v := nI 0) dX4_countStarted_0 (by decide) ?_
  refine g_istore_n dX4_countStarted_1 (by decide) rfl ?_
  show G _ _ _ _ _ _ _ _ _ [_, _, _] _
  refine g_iconst (v := nI 0) dX4_countStarted_2 (by decide) ?_
  refine g_istore_n dX4_countStarted_3 (by decide) rfl ?_
  show G _ _ _ _ _ _ _ _ _ [_, _, _] _
  suffices K : ∀ (d i : Nat), i + d = cnt f → G E MX4_countStarted P sh sz V 0 0 4 [some (.ref r), some (.int (sI (fun c => bi (0 ≤ f (oC c 2))) i)), some (.int (nI i))] [] from K (cnt f) 0 (by omega)
  intro d
  induction d with
  | zero =>
    intro i hi
    have e : i = cnt f := by omega
    subst e
    refine g_iload_n dX4_countStarted_4 rfl ?_
    refine g_aload_n dX4_countStarted_5 rfl ?_
    refine g_get 6 rfl (by decide) inX4 5 (by decide) fl_X4_37 dX4_countStarted_6 h.1.1 (h.many hI) ?_
    refine g_icmp_ge (tgt := 33) dX4_countStarted_9 (by decide) (fun _ => ?_) (fun hq => absurd (Int32.le_refl _) hq)
    refine g_iload_n dX4_countStarted_33 rfl ?_
    exact g_iret rfl (nr_int _) dX4_countStarted_34 (by decide) hP
  | succ d ih =>
    intro i hi
    have ih := ih (i + 1) (by omega)
    rw [sI_succ] at ih
    refine g_iload_n dX4_countStarted_4 rfl ?_
    refine g_aload_n dX4_countStarted_5 rfl ?_
    refine g_get 6 rfl (by decide) inX4 5 (by decide) fl_X4_37 dX4_countStarted_6 h.1.1 (h.many hI) ?_
    refine g_icmp_ge (tgt := 33) dX4_countStarted_9 (by decide) (fun hq => absurd hq (nI_ge (by omega) (by omega))) (fun _ => ?_)
    refine g_aload_n dX4_countStarted_12 rfl ?_
    refine g_get 6 rfl (by decide) inX4 4 (by decide) fl_X4_33 dX4_countStarted_13 h.1.1 h.2.1.2.2.2.2.1 ?_
    refine g_iload_n dX4_countStarted_16 rfl ?_
    refine g_aaload _ dX4_countStarted_17 h.1.2.2.2.2 (by decide) (by decide) (vp_in_nI (by omega) (by decide)) (h.cvr (by omega)) ?_
    have hv := h.cv hI (c := i) (by omega)
    obtain ⟨c0, ca, c1, c2, c3, c4, c5, c6, c7⟩ := id hv
    refine g_callVp (Y := YX0_hasStarted) sv_X4_100 rfl yn_X0_hasStarted 2 (by decide) rfl rfl dX4_countStarted_18 (c_hasStarted c0 c2 pR_ok) c0 rfl rfl rfl (Nat.le_of_ble_eq_true rfl) ⟨rfl, rfl⟩ ?_
    refine g_if_eq (tgt := 27) dX4_countStarted_21 (by decide) (fun b1 => ?_) (fun b1 => ?_)
    · rw [bi_f (bi_eq b1), add_nI0] at ih
      refine g_iinc dX4_countStarted_27 rfl (by first | exact nI_inc _ | rfl) (by decide) rfl ?_
      show G _ _ _ _ _ _ _ _ _ [_, _, _] _
      refine g_jump (tgt := 4) dX4_countStarted_30 (by decide) ?_
      exact ih
    · rw [bi_t (bi_ne b1)] at ih
      refine g_iinc dX4_countStarted_24 rfl (by first | exact nI_inc _ | rfl) (by decide) rfl ?_
      show G _ _ _ _ _ _ _ _ _ [_, _, _] _
      refine g_iinc dX4_countStarted_27 rfl (by first | exact nI_inc _ | rfl) (by decide) rfl ?_
      show G _ _ _ _ _ _ _ _ _ [_, _, _] _
      refine g_jump (tgt := 4) dX4_countStarted_30 (by decide) ?_
      exact ih
theorem c_countDone (h : RoadAt sh V r f) (hI : InvB f) (hP : P (.inl (some (.int (sI (fun c => bi (dnF f c)) (cnt f))))) sh sz V) : MC E YX4_countDone [.ref r] sh sz V P := by
  have hI1 := hI.1.2
  refine MC.of RX4 "countDone" rfl (by decide +kernel) rfl 2 [_, none, none] rfl (Nat.le_of_ble_eq_true rfl) ?_
  show G E MX4_countDone _ _ _ _ _ _ _ _ _
  refine g_iconst (v := nI 0) dX4_countDone_0 (by decide) ?_
  refine g_istore_n dX4_countDone_1 (by decide) rfl ?_
  show G _ _ _ _ _ _ _ _ _ [_, _, _] _
  refine g_iconst (v := nI 0) dX4_countDone_2 (by decide) ?_
  refine g_istore_n dX4_countDone_3 (by decide) rfl ?_
  show G _ _ _ _ _ _ _ _ _ [_, _, _] _
  suffices K : ∀ (d i : Nat), i + d = cnt f → G E MX4_countDone P sh sz V 0 0 4 [some (.ref r), some (.int (sI (fun c => bi (dnF f c)) i)), some (.int (nI i))] [] from K (cnt f) 0 (by omega)
  intro d
  induction d with
  | zero =>
    intro i hi
    have e : i = cnt f := by omega
    subst e
    refine g_iload_n dX4_countDone_4 rfl ?_
    refine g_aload_n dX4_countDone_5 rfl ?_
    refine g_get 6 rfl (by decide) inX4 5 (by decide) fl_X4_37 dX4_countDone_6 h.1.1 (h.many hI) ?_
    refine g_icmp_ge (tgt := 33) dX4_countDone_9 (by decide) (fun _ => ?_) (fun hq => absurd (Int32.le_refl _) hq)
    refine g_iload_n dX4_countDone_33 rfl ?_
    exact g_iret rfl (nr_int _) dX4_countDone_34 (by decide) hP
  | succ d ih =>
    intro i hi
    have ih := ih (i + 1) (by omega)
    rw [sI_succ] at ih
    refine g_iload_n dX4_countDone_4 rfl ?_
    refine g_aload_n dX4_countDone_5 rfl ?_
    refine g_get 6 rfl (by decide) inX4 5 (by decide) fl_X4_37 dX4_countDone_6 h.1.1 (h.many hI) ?_
    refine g_icmp_ge (tgt := 33) dX4_countDone_9 (by decide) (fun hq => absurd hq (nI_ge (by omega) (by omega))) (fun _ => ?_)
    refine g_aload_n dX4_countDone_12 rfl ?_
    refine g_get 6 rfl (by decide) inX4 4 (by decide) fl_X4_33 dX4_countDone_13 h.1.1 h.2.1.2.2.2.2.1 ?_
    refine g_iload_n dX4_countDone_16 rfl ?_
    refine g_aaload _ dX4_countDone_17 h.1.2.2.2.2 (by decide) (by decide) (vp_in_nI (by omega) (by decide)) (h.cvr (by omega)) ?_
    have hv := h.cv hI (c := i) (by omega)
    obtain ⟨c0, ca, c1, c2, c3, c4, c5, c6, c7⟩ := id hv
    refine g_callVp (Y := YX0_isDone) sv_X4_114 rfl yn_X0_isDone 2 (by decide) rfl rfl dX4_countDone_18 (c_isDone c0 c1 c2 c3 (by omega) pR_ok) c0 rfl rfl rfl (Nat.le_of_ble_eq_true rfl) ⟨rfl, rfl⟩ ?_
    refine g_if_eq (tgt := 27) dX4_countDone_21 (by decide) (fun b1 => ?_) (fun b1 => ?_)
    · rw [bi_f (p := dnF f i) (bi_eq b1), add_nI0] at ih
      refine g_iinc dX4_countDone_27 rfl (by first | exact nI_inc _ | rfl) (by decide) rfl ?_
      show G _ _ _ _ _ _ _ _ _ [_, _, _] _
      refine g_jump (tgt := 4) dX4_countDone_30 (by decide) ?_
      exact ih
    · rw [bi_t (p := dnF f i) (bi_ne b1)] at ih
      refine g_iinc dX4_countDone_24 rfl (by first | exact nI_inc _ | rfl) (by decide) rfl ?_
      show G _ _ _ _ _ _ _ _ _ [_, _, _] _
      refine g_iinc dX4_countDone_27 rfl (by first | exact nI_inc _ | rfl) (by decide) rfl ?_
      show G _ _ _ _ _ _ _ _ _ [_, _, _] _
      refine g_jump (tgt := 4) dX4_countDone_30 (by decide) ?_
      exact ih
theorem c_countOnRoadAll (h : RoadAt sh V r f) (hI : InvB f) (hP : P (.inl (some (.int (sI (fun c => nI (fb_ct (fun k => decide (isM (mt (f (oC c 2)) (f (oC c 0)) k))) (ncv f c))) (cnt f))))) sh sz V) : MC E YX4_countOnRoad [.ref r] sh sz V P := by
  have hI1 := hI.1.2
  refine MC.of RX4 "countOnRoad" rfl (by decide +kernel) rfl 2 [_, none, none] rfl (Nat.le_of_ble_eq_true rfl) ?_
  show G E MX4_countOnRoad _ _ _ _ _ _ _ _ _
  refine g_iconst (v := nI 0) dX4_countOnRoad_0 (by decide) ?_
  refine g_istore_n dX4_countOnRoad_1 (by decide) rfl ?_
  show G _ _ _ _ _ _ _ _ _ [_, _, _] _
  refine g_iconst (v := nI 0) dX4_countOnRoad_2 (by decide) ?_
  refine g_istore_n dX4_countOnRoad_3 (by decide) rfl ?_
  show G _ _ _ _ _ _ _ _ _ [_, _, _] _
  suffices K : ∀ (d i : Nat), i + d = cnt f → G E MX4_countOnRoad P sh sz V 0 0 4 [some (.ref r), some (.int (sI (fun c => nI (fb_ct (fun k => decide (isM (mt (f (oC c 2)) (f (oC c 0)) k))) (ncv f c))) i)), some (.int (nI i))] [] from K (cnt f) 0 (by omega)
  intro d
  induction d with
  | zero =>
    intro i hi
    have e : i = cnt f := by omega
    subst e
    refine g_iload_n dX4_countOnRoad_4 rfl ?_
    refine g_aload_n dX4_countOnRoad_5 rfl ?_
    refine g_get 6 rfl (by decide) inX4 5 (by decide) fl_X4_37 dX4_countOnRoad_6 h.1.1 (h.many hI) ?_
    refine g_icmp_ge (tgt := 30) dX4_countOnRoad_9 (by decide) (fun _ => ?_) (fun hq => absurd (Int32.le_refl _) hq)
    refine g_iload_n dX4_countOnRoad_30 rfl ?_
    exact g_iret rfl (nr_int _) dX4_countOnRoad_31 (by decide) hP
  | succ d ih =>
    intro i hi
    have ih := ih (i + 1) (by omega)
    rw [sI_succ] at ih
    refine g_iload_n dX4_countOnRoad_4 rfl ?_
    refine g_aload_n dX4_countOnRoad_5 rfl ?_
    refine g_get 6 rfl (by decide) inX4 5 (by decide) fl_X4_37 dX4_countOnRoad_6 h.1.1 (h.many hI) ?_
    refine g_icmp_ge (tgt := 30) dX4_countOnRoad_9 (by decide) (fun hq => absurd hq (nI_ge (by omega) (by omega))) (fun _ => ?_)
    refine g_iload_n dX4_countOnRoad_12 rfl ?_
    refine g_aload_n dX4_countOnRoad_13 rfl ?_
    refine g_get 6 rfl (by decide) inX4 4 (by decide) fl_X4_33 dX4_countOnRoad_14 h.1.1 h.2.1.2.2.2.2.1 ?_
    refine g_iload_n dX4_countOnRoad_17 rfl ?_
    refine g_aaload _ dX4_countOnRoad_18 h.1.2.2.2.2 (by decide) (by decide) (vp_in_nI (by omega) (by decide)) (h.cvr (by omega)) ?_
    have hv := h.cv hI (c := i) (by omega)
    obtain ⟨c0, ca, c1, c2, c3, c4, c5, c6, c7⟩ := id hv
    refine g_callVp (Y := YX0_countOnRoad) sv_X4_164 rfl yn_X0_countOnRoad 2 (by decide) rfl rfl dX4_countOnRoad_19 (c_countOnRoad c0 c1 c2 c3 (by omega) pR_ok) c0 rfl rfl rfl (Nat.le_of_ble_eq_true rfl) ⟨rfl, rfl⟩ ?_
    refine g_iadd dX4_countOnRoad_22 ?_
    refine g_istore_n dX4_countOnRoad_23 (by decide) rfl ?_
    show G _ _ _ _ _ _ _ _ _ [_, _, _] _
    refine g_iinc dX4_countOnRoad_24 rfl (by first | exact nI_inc _ | rfl) (by decide) rfl ?_
    show G _ _ _ _ _ _ _ _ _ [_, _, _] _
    refine g_jump (tgt := 4) dX4_countOnRoad_27 (by decide) ?_
    exact ih
theorem c_countArrivedAll (h : RoadAt sh V r f) (hI : InvB f) (hP : P (.inl (some (.int (sI (fun c => nI (fb_ct (fun k => decide (nI 12 ≤ mt (f (oC c 2)) (f (oC c 0)) k)) (ncv f c))) (cnt f))))) sh sz V) : MC E YX4_countArrived [.ref r] sh sz V P := by
  have hI1 := hI.1.2
  refine MC.of RX4 "countArrived" rfl (by decide +kernel) rfl 2 [_, none, none] rfl (Nat.le_of_ble_eq_true rfl) ?_
  show G E MX4_countArrived _ _ _ _ _ _ _ _ _
  refine g_iconst (v := nI 0) dX4_countArrived_0 (by decide) ?_
  refine g_istore_n dX4_countArrived_1 (by decide) rfl ?_
  show G _ _ _ _ _ _ _ _ _ [_, _, _] _
  refine g_iconst (v := nI 0) dX4_countArrived_2 (by decide) ?_
  refine g_istore_n dX4_countArrived_3 (by decide) rfl ?_
  show G _ _ _ _ _ _ _ _ _ [_, _, _] _
  suffices K : ∀ (d i : Nat), i + d = cnt f → G E MX4_countArrived P sh sz V 0 0 4 [some (.ref r), some (.int (sI (fun c => nI (fb_ct (fun k => decide (nI 12 ≤ mt (f (oC c 2)) (f (oC c 0)) k)) (ncv f c))) i)), some (.int (nI i))] [] from K (cnt f) 0 (by omega)
  intro d
  induction d with
  | zero =>
    intro i hi
    have e : i = cnt f := by omega
    subst e
    refine g_iload_n dX4_countArrived_4 rfl ?_
    refine g_aload_n dX4_countArrived_5 rfl ?_
    refine g_get 6 rfl (by decide) inX4 5 (by decide) fl_X4_37 dX4_countArrived_6 h.1.1 (h.many hI) ?_
    refine g_icmp_ge (tgt := 30) dX4_countArrived_9 (by decide) (fun _ => ?_) (fun hq => absurd (Int32.le_refl _) hq)
    refine g_iload_n dX4_countArrived_30 rfl ?_
    exact g_iret rfl (nr_int _) dX4_countArrived_31 (by decide) hP
  | succ d ih =>
    intro i hi
    have ih := ih (i + 1) (by omega)
    rw [sI_succ] at ih
    refine g_iload_n dX4_countArrived_4 rfl ?_
    refine g_aload_n dX4_countArrived_5 rfl ?_
    refine g_get 6 rfl (by decide) inX4 5 (by decide) fl_X4_37 dX4_countArrived_6 h.1.1 (h.many hI) ?_
    refine g_icmp_ge (tgt := 30) dX4_countArrived_9 (by decide) (fun hq => absurd hq (nI_ge (by omega) (by omega))) (fun _ => ?_)
    refine g_iload_n dX4_countArrived_12 rfl ?_
    refine g_aload_n dX4_countArrived_13 rfl ?_
    refine g_get 6 rfl (by decide) inX4 4 (by decide) fl_X4_33 dX4_countArrived_14 h.1.1 h.2.1.2.2.2.2.1 ?_
    refine g_iload_n dX4_countArrived_17 rfl ?_
    refine g_aaload _ dX4_countArrived_18 h.1.2.2.2.2 (by decide) (by decide) (vp_in_nI (by omega) (by decide)) (h.cvr (by omega)) ?_
    have hv := h.cv hI (c := i) (by omega)
    obtain ⟨c0, ca, c1, c2, c3, c4, c5, c6, c7⟩ := id hv
    refine g_callVp (Y := YX0_countArrived) sv_X4_168 rfl yn_X0_countArrived 2 (by decide) rfl rfl dX4_countArrived_19 (c_countArrived c0 c1 c2 c3 (by omega) pR_ok) c0 rfl rfl rfl (Nat.le_of_ble_eq_true rfl) ⟨rfl, rfl⟩ ?_
    refine g_iadd dX4_countArrived_22 ?_
    refine g_istore_n dX4_countArrived_23 (by decide) rfl ?_
    show G _ _ _ _ _ _ _ _ _ [_, _, _] _
    refine g_iinc dX4_countArrived_24 rfl (by first | exact nI_inc _ | rfl) (by decide) rfl ?_
    show G _ _ _ _ _ _ _ _ _ [_, _, _] _
    refine g_jump (tgt := 4) dX4_countArrived_27 (by decide) ?_
    exact ih
theorem c_tonnesUnderWay (h : RoadAt sh V r f) (hI : InvB f) (hP : P (.inl (some (.int (sI (fun c => sI (fun k => if k < ncv f c then (if nI 12 ≤ mt (f (oC c 2)) (f (oC c 0)) k then nI 0 else (tkF f c k).2.1) else nI 0) 4) (cnt f))))) sh sz V) : MC E YX4_tonnesUnderWay [.ref r] sh sz V P := by
  have hI1 := hI.1.2
  refine MC.of RX4 "tonnesUnderWay" rfl (by decide +kernel) rfl 2 [_, none, none] rfl (Nat.le_of_ble_eq_true rfl) ?_
  show G E MX4_tonnesUnderWay _ _ _ _ _ _ _ _ _
  refine g_iconst (v := nI 0) dX4_tonnesUnderWay_0 (by decide) ?_
  refine g_istore_n dX4_tonnesUnderWay_1 (by decide) rfl ?_
  show G _ _ _ _ _ _ _ _ _ [_, _, _] _
  refine g_iconst (v := nI 0) dX4_tonnesUnderWay_2 (by decide) ?_
  refine g_istore_n dX4_tonnesUnderWay_3 (by decide) rfl ?_
  show G _ _ _ _ _ _ _ _ _ [_, _, _] _
  suffices K : ∀ (d i : Nat), i + d = cnt f → G E MX4_tonnesUnderWay P sh sz V 0 0 4 [some (.ref r), some (.int (sI (fun c => sI (fun k => if k < ncv f c then (if nI 12 ≤ mt (f (oC c 2)) (f (oC c 0)) k then nI 0 else (tkF f c k).2.1) else nI 0) 4) i)), some (.int (nI i))] [] from K (cnt f) 0 (by omega)
  intro d
  induction d with
  | zero =>
    intro i hi
    have e : i = cnt f := by omega
    subst e
    refine g_iload_n dX4_tonnesUnderWay_4 rfl ?_
    refine g_aload_n dX4_tonnesUnderWay_5 rfl ?_
    refine g_get 6 rfl (by decide) inX4 5 (by decide) fl_X4_37 dX4_tonnesUnderWay_6 h.1.1 (h.many hI) ?_
    refine g_icmp_ge (tgt := 30) dX4_tonnesUnderWay_9 (by decide) (fun _ => ?_) (fun hq => absurd (Int32.le_refl _) hq)
    refine g_iload_n dX4_tonnesUnderWay_30 rfl ?_
    exact g_iret rfl (nr_int _) dX4_tonnesUnderWay_31 (by decide) hP
  | succ d ih =>
    intro i hi
    have ih := ih (i + 1) (by omega)
    rw [sI_succ] at ih
    refine g_iload_n dX4_tonnesUnderWay_4 rfl ?_
    refine g_aload_n dX4_tonnesUnderWay_5 rfl ?_
    refine g_get 6 rfl (by decide) inX4 5 (by decide) fl_X4_37 dX4_tonnesUnderWay_6 h.1.1 (h.many hI) ?_
    refine g_icmp_ge (tgt := 30) dX4_tonnesUnderWay_9 (by decide) (fun hq => absurd hq (nI_ge (by omega) (by omega))) (fun _ => ?_)
    refine g_iload_n dX4_tonnesUnderWay_12 rfl ?_
    refine g_aload_n dX4_tonnesUnderWay_13 rfl ?_
    refine g_get 6 rfl (by decide) inX4 4 (by decide) fl_X4_33 dX4_tonnesUnderWay_14 h.1.1 h.2.1.2.2.2.2.1 ?_
    refine g_iload_n dX4_tonnesUnderWay_17 rfl ?_
    refine g_aaload _ dX4_tonnesUnderWay_18 h.1.2.2.2.2 (by decide) (by decide) (vp_in_nI (by omega) (by decide)) (h.cvr (by omega)) ?_
    have hv := h.cv hI (c := i) (by omega)
    obtain ⟨c0, ca, c1, c2, c3, c4, c5, c6, c7⟩ := id hv
    refine g_callVp (Y := YX0_tonnesNotArrived) sv_X4_171 rfl yn_X0_tonnesNotArrived 2 (by decide) rfl rfl dX4_tonnesUnderWay_19 (c_tonnesNotArrived hv pR_ok) c0 rfl rfl rfl (Nat.le_of_ble_eq_true rfl) ⟨rfl, rfl⟩ ?_
    refine g_iadd dX4_tonnesUnderWay_22 ?_
    refine g_istore_n dX4_tonnesUnderWay_23 (by decide) rfl ?_
    show G _ _ _ _ _ _ _ _ _ [_, _, _] _
    refine g_iinc dX4_tonnesUnderWay_24 rfl (by first | exact nI_inc _ | rfl) (by decide) rfl ?_
    show G _ _ _ _ _ _ _ _ _ [_, _, _] _
    refine g_jump (tgt := 4) dX4_tonnesUnderWay_27 (by decide) ?_
    exact ih
theorem c_isIceInRange (h : RoadAt sh V r f) (hI : InvB f) (hP : P (.inl (some (.int (nI 1)))) sh sz V) : MC E YX4_isIceInRange [.ref r] sh sz V P := by
  refine MC.of RX4 "isIceInRange" rfl (by decide +kernel) rfl 1 [_, none] rfl (Nat.le_of_ble_eq_true rfl) ?_
  show G E MX4_isIceInRange _ _ _ _ _ _ _ _ _
  refine g_iconst (v := nI 0) dX4_isIceInRange_0 (by decide) ?_
  refine g_istore_n dX4_isIceInRange_1 (by decide) rfl ?_
  show G _ _ _ _ _ _ _ _ _ [_, _] _
  suffices K : ∀ (d i : Nat), i + d = 12 → G E MX4_isIceInRange P sh sz V 0 0 2 [some (.ref r), some (.int (nI i))] [] from K 12 0 (by omega)
  intro d
  induction d with
  | zero =>
    intro i hi
    have e : i = 12 := by omega
    subst e
    refine g_iload_n dX4_isIceInRange_2 rfl ?_
    refine g_bipush (v := nI 12) dX4_isIceInRange_3 (by decide) ?_
    refine g_icmp_ge (tgt := 45) dX4_isIceInRange_5 (by decide) (fun _ => ?_) (fun hq => absurd (Int32.le_refl _) hq)
    refine g_iconst (v := nI 1) dX4_isIceInRange_45 (by decide) ?_
    exact g_iret rfl nz1 dX4_isIceInRange_46 (by decide) hP
  | succ d ih =>
    intro i hi
    have ih := ih (i + 1) (by omega)
    obtain ⟨m0, m1, m2, m3, m4, m5, m6⟩ := h.mi (j := i) (by omega)
    obtain ⟨q1, q2⟩ := okI_cmp (hI.2.2.2.1 i (by omega)).1
    refine g_iload_n dX4_isIceInRange_2 rfl ?_
    refine g_bipush (v := nI 12) dX4_isIceInRange_3 (by decide) ?_
    refine g_icmp_ge (tgt := 45) dX4_isIceInRange_5 (by decide) (fun hq => absurd hq (nI_ge (by omega) (by decide))) (fun _ => ?_)
    refine g_aload_n dX4_isIceInRange_8 rfl ?_
    refine g_get 6 rfl (by decide) inX4 2 (by decide) fl_X4_21 dX4_isIceInRange_9 h.1.1 h.2.1.2.2.1 ?_
    refine g_iload_n dX4_isIceInRange_12 rfl ?_
    refine g_aaload _ dX4_isIceInRange_13 h.1.2.2.1 (by decide) (by decide) (vp_in_nI (by omega) (by decide)) (h.mir (by omega)) ?_
    refine g_get 4 rfl (by decide) inX2 0 (by decide) fl_X4_65 dX4_isIceInRange_14 m0 m1 ?_
    refine g_fconst0 dX4_isIceInRange_17 ?_
    refine g_fcmp dX4_isIceInRange_18 ?_
    refine g_if_lt (tgt := 37) dX4_isIceInRange_19 (by decide) (fun hq => absurd hq (q1)) (fun _ => ?_)
    refine g_aload_n dX4_isIceInRange_22 rfl ?_
    refine g_get 6 rfl (by decide) inX4 2 (by decide) fl_X4_21 dX4_isIceInRange_23 h.1.1 h.2.1.2.2.1 ?_
    refine g_iload_n dX4_isIceInRange_26 rfl ?_
    refine g_aaload _ dX4_isIceInRange_27 h.1.2.2.1 (by decide) (by decide) (vp_in_nI (by omega) (by decide)) (h.mir (by omega)) ?_
    refine g_get 4 rfl (by decide) inX2 0 (by decide) fl_X4_65 dX4_isIceInRange_28 m0 m1 ?_
    refine g_ldcf kc_X4_174 dX4_isIceInRange_31 ?_
    refine g_fcmp dX4_isIceInRange_33 ?_
    refine g_if_le (tgt := 39) dX4_isIceInRange_34 (by decide) (fun _ => ?_) (fun hq => absurd (q2) hq)
    refine g_iinc dX4_isIceInRange_39 rfl (by first | exact nI_inc _ | rfl) (by decide) rfl ?_
    show G _ _ _ _ _ _ _ _ _ [_, _] _
    refine g_jump (tgt := 2) dX4_isIceInRange_42 (by decide) ?_
    exact ih
end ROAD2

