/-! the law's calls of the class: what each comes to -/
theorem cl_L_14 : Cond.classLink RL 14 "java/lang/IllegalArgumentException" ∈ gW := gW_at 252 (by decide +kernel) (by decide +kernel)
theorem ca_xIA : Cond.castable "java/lang/IllegalArgumentException" "java/lang/IllegalArgumentException" ∈ gNw := gNw_at 269 (by decide +kernel) (by decide +kernel)
theorem cl_L_20 : Cond.classLink RL 20 "java/lang/IndexOutOfBoundsException" ∈ gW := gW_at 426 (by decide +kernel) (by decide +kernel)
theorem ca_xIO : Cond.castable "java/lang/IndexOutOfBoundsException" "java/lang/IndexOutOfBoundsException" ∈ gNw := gNw_at 459 (by decide +kernel) (by decide +kernel)
theorem cl_L_25 : Cond.classLink RL 25 "java/util/NoSuchElementException" ∈ gW := gW_at 501 (by decide +kernel) (by decide +kernel)
theorem ca_nsC : Cond.castable "java/util/NoSuchElementException" "java/util/NoSuchElementException" ∈ gNw := gNw_at 526 (by decide +kernel) (by decide +kernel)
theorem cl_L_34 : Cond.classLink RL 34 "java/lang/UnsupportedOperationException" ∈ gW := gW_at 398 (by decide +kernel) (by decide +kernel)
theorem ca_xUO : Cond.castable "java/lang/UnsupportedOperationException" "java/lang/UnsupportedOperationException" ∈ gNw := gNw_at 409 (by decide +kernel) (by decide +kernel)
theorem cl_L_88 : Cond.classLink RL 88 "java/lang/IllegalStateException" ∈ gW := gW_at 898 (by decide +kernel) (by decide +kernel)
theorem ca_xIS : Cond.castable "java/lang/IllegalStateException" "java/lang/IllegalStateException" ∈ gNw := gNw_at 905 (by decide +kernel) (by decide +kernel)
section WRAP
variable {E : gE} {sh : Sh} {sz : Nat} {V : Vl} {x : Nat} {S : St} {A : La}
theorem v_set {w v : Int32} : ∃ zz, (sp_set S w v).2.1 = .int zz := by
  unfold sp_set
  repeat' split
  all_goals exact ⟨_, rfl⟩
theorem w_set {w v : Int32} (hA : LW x S A sh sz V) (hI2 : InvS (sp_set S w v).2.2) : MCH E YL_set [(0, 6, 7, 14)] [.ref x, .int w, .int v] sh sz V (PLs x A sz (sp_set S w v).2.2 (rv [-101] (sp_set S w v))) := by
  have hm := m_set (E := E) hA.1 hA.2.2.1 (cp6 (exs := [xIA]) (q := sp_set S w v))
  have hv := v_set (S := S) (w := w) (v := v)
  generalize sp_set S w v = q at hm hv hI2 ⊢
  obtain ⟨w9, hw⟩ := hv
  refine MCH.of (hh := [(0, 6, 7, 14)]) RL "set" rfl (by decide +kernel) rfl 1 [some (.ref x), some (.int w), some (.int v), none] rfl (Nat.le_of_ble_eq_true rfl) ?_
  show G E ML_set _ _ _ _ _ _ _ _ _
  refine g_aload_n dL_set_0 rfl ?_
  refine g_iload_n dL_set_1 rfl ?_
  refine g_iload_n dL_set_2 rfl ?_
  refine g_callV (M := ML_set) (pc := 3) (Y := YX6_set) sv_L_8 rfl yn_X6_set 8 (by decide) rfl rfl dL_set_3 hm hA.s9 rfl rfl (gRoom_of rfl) (Nat.le_of_ble_eq_true rfl) (fun _ _ _ _ h => h.1.1) ?_ ?_
  · rintro v sh' sz' V' ⟨hE, hS, hq, rfl⟩
    have hL := hA.ext hE hS hI2
    rw [hw]
    show G _ _ _ _ _ _ _ _ _ _ [.int w9]
    exact g_iret rfl (nr_int _) dL_set_6 (by decide) ⟨hE.1, hL, by unfold rv; rw [if_pos hq, hw]⟩
  · rintro C sh' sz' V' ⟨hE, hS, hq, hC2⟩
    have hL := hA.ext hE hS hI2
    obtain ⟨e1, rfl⟩ := exs1 hq hC2
    refine g_catch [] ⟨0, 6, 7, 14⟩ [] rfl (fun z hz => nomatch hz) (by decide +kernel) (by decide) (by decide) cl_L_14 ca_xIA (fun q => ?_)
    refine g_astore_n dL_set_7 (by decide) rfl ?_
    show G _ _ _ _ _ _ _ _ _ [_, _, _, _] _
    refine g_bipush (v := (-101)) dL_set_8 (by decide) ?_
    exact g_iret rfl (nr_int _) dL_set_10 (by decide) ⟨hE.1, hL, by unfold rv; rw [if_neg hq, e1]; rfl⟩
theorem v_drill {a : Int32} : ∃ zz, (sp_drill S a).2.1 = .int zz := by
  unfold sp_drill
  repeat' split
  all_goals exact ⟨_, rfl⟩
theorem w_drill {a : Int32} (hA : LW x S A sh sz V) (hI2 : InvS (sp_drill S a).2.2) : MCH E YL_drill [(0, 5, 6, 20)] [.ref x, .int a] sh sz V (PLs x A sz (sp_drill S a).2.2 (rv [-1] (sp_drill S a))) := by
  have hm := m_drill (E := E) hA.1 hA.2.1.1.1 hA.2.2.1 (cp6 (exs := [xIO]) (q := sp_drill S a))
  have hv := v_drill (S := S) (a := a)
  generalize sp_drill S a = q at hm hv hI2 ⊢
  obtain ⟨w9, hw⟩ := hv
  refine MCH.of (hh := [(0, 5, 6, 20)]) RL "drill" rfl (by decide +kernel) rfl 1 [some (.ref x), some (.int a), none] rfl (Nat.le_of_ble_eq_true rfl) ?_
  show G E ML_drill _ _ _ _ _ _ _ _ _
  refine g_aload_n dL_drill_0 rfl ?_
  refine g_iload_n dL_drill_1 rfl ?_
  refine g_callV (M := ML_drill) (pc := 2) (Y := YX6_drill) sv_L_16 rfl yn_X6_drill 8 (by decide) rfl rfl dL_drill_2 hm hA.s9 rfl rfl (gRoom_of rfl) (Nat.le_of_ble_eq_true rfl) (fun _ _ _ _ h => h.1.1) ?_ ?_
  · rintro v sh' sz' V' ⟨hE, hS, hq, rfl⟩
    have hL := hA.ext hE hS hI2
    rw [hw]
    show G _ _ _ _ _ _ _ _ _ _ [.int w9]
    exact g_iret rfl (nr_int _) dL_drill_5 (by decide) ⟨hE.1, hL, by unfold rv; rw [if_pos hq, hw]⟩
  · rintro C sh' sz' V' ⟨hE, hS, hq, hC2⟩
    have hL := hA.ext hE hS hI2
    obtain ⟨e1, rfl⟩ := exs1 hq hC2
    refine g_catch [] ⟨0, 5, 6, 20⟩ [] rfl (fun z hz => nomatch hz) (by decide +kernel) (by decide) (by decide) cl_L_20 ca_xIO (fun q => ?_)
    refine g_astore_n dL_drill_6 (by decide) rfl ?_
    show G _ _ _ _ _ _ _ _ _ [_, _, _] _
    refine g_iconst (v := (-1)) dL_drill_7 (by decide) ?_
    exact g_iret rfl (nr_int _) dL_drill_8 (by decide) ⟨hE.1, hL, by unfold rv; rw [if_neg hq, e1]; rfl⟩
theorem v_drilled {a : Int32} : ∃ zz, (sp_drilled S a).2.1 = .int zz := by
  unfold sp_drilled
  repeat' split
  all_goals exact ⟨_, rfl⟩
theorem e_drilled {a : Int32} : (sp_drilled S a).2.2 = S := by
  unfold sp_drilled
  repeat' split
  all_goals rfl
theorem w_drilled {a : Int32} (hA : LW x S A sh sz V) (hI2 : InvS (sp_drilled S a).2.2) : MCH E YL_drilled [(0, 5, 6, 20), (0, 5, 10, 25)] [.ref x, .int a] sh sz V (PLs x A sz (sp_drilled S a).2.2 (rv [-11, -13] (sp_drilled S a))) := by
  have hm := m_drilled (E := E) hA.1 hA.2.1.1.1 hA.2.2.1 (cp6 (exs := [xIO, nsC]) (q := sp_drilled S a))
  have hv := v_drilled (S := S) (a := a)
  generalize sp_drilled S a = q at hm hv hI2 ⊢
  obtain ⟨w9, hw⟩ := hv
  refine MCH.of (hh := [(0, 5, 6, 20), (0, 5, 10, 25)]) RL "drilled" rfl (by decide +kernel) rfl 1 [some (.ref x), some (.int a), none] rfl (Nat.le_of_ble_eq_true rfl) ?_
  show G E ML_drilled _ _ _ _ _ _ _ _ _
  refine g_aload_n dL_drilled_0 rfl ?_
  refine g_iload_n dL_drilled_1 rfl ?_
  refine g_callV (M := ML_drilled) (pc := 2) (Y := YX6_drilled) sv_L_22 rfl yn_X6_drilled 8 (by decide) rfl rfl dL_drilled_2 hm hA.s9 rfl rfl (gRoom_of rfl) (Nat.le_of_ble_eq_true rfl) (fun _ _ _ _ h => h.1.1) ?_ ?_
  · rintro v sh' sz' V' ⟨hE, hS, hq, rfl⟩
    have hL := hA.ext hE hS hI2
    rw [hw]
    show G _ _ _ _ _ _ _ _ _ _ [.int w9]
    exact g_iret rfl (nr_int _) dL_drilled_5 (by decide) ⟨hE.1, hL, by unfold rv; rw [if_pos hq, hw]⟩
  · rintro C sh' sz' V' ⟨hE, hS, hq, hC2⟩
    have hL := hA.ext hE hS hI2
    rcases exs2 hq hC2 with ⟨e1, rfl⟩ | ⟨e1, rfl⟩
    · refine g_catch [] ⟨0, 5, 6, 20⟩ [⟨0, 5, 10, 25⟩] rfl (fun z hz => nomatch hz) (by decide +kernel) (by decide) (by decide) cl_L_20 ca_xIO (fun q => ?_)
      refine g_astore_n dL_drilled_6 (by decide) rfl ?_
      show G _ _ _ _ _ _ _ _ _ [_, _, _] _
      refine g_bipush (v := (-11)) dL_drilled_7 (by decide) ?_
      exact g_iret rfl (nr_int _) dL_drilled_9 (by decide) ⟨hE.1, hL, by unfold rv; rw [if_neg hq, e1]; rfl⟩
    · refine g_catch [⟨0, 5, 6, 20⟩] ⟨0, 5, 10, 25⟩ [] rfl (List.forall_mem_cons.mpr ⟨Or.inr ⟨by decide, _, cl_L_20, by decide +kernel, by decide +kernel⟩, (fun z hz => nomatch hz)⟩) (by decide +kernel) (by decide) (by decide) cl_L_25 ca_nsC (fun q => ?_)
      refine g_astore_n dL_drilled_10 (by decide) rfl ?_
      show G _ _ _ _ _ _ _ _ _ [_, _, _] _
      refine g_bipush (v := (-13)) dL_drilled_11 (by decide) ?_
      exact g_iret rfl (nr_int _) dL_drilled_13 (by decide) ⟨hE.1, hL, by unfold rv; rw [if_neg hq, e1]; rfl⟩
theorem v_mileOf {a w : Int32} : ∃ zz, (sp_mileOf S a w).2.1 = .int zz := by
  unfold sp_mileOf
  repeat' split
  all_goals exact ⟨_, rfl⟩
theorem e_mileOf {a w : Int32} : (sp_mileOf S a w).2.2 = S := by
  unfold sp_mileOf
  repeat' split
  all_goals rfl
theorem w_mileOf {a w : Int32} (hA : LW x S A sh sz V) (hI2 : InvS (sp_mileOf S a w).2.2) : MCH E YL_mileOf [(0, 6, 7, 20), (0, 6, 11, 14)] [.ref x, .int a, .int w] sh sz V (PLs x A sz (sp_mileOf S a w).2.2 (rv [-11, -12] (sp_mileOf S a w))) := by
  have hm := m_mileOf (E := E) hA.1 hA.2.2.1 (cp6 (exs := [xIO, xIA]) (q := sp_mileOf S a w))
  have hv := v_mileOf (S := S) (a := a) (w := w)
  generalize sp_mileOf S a w = q at hm hv hI2 ⊢
  obtain ⟨w9, hw⟩ := hv
  refine MCH.of (hh := [(0, 6, 7, 20), (0, 6, 11, 14)]) RL "mileOf" rfl (by decide +kernel) rfl 1 [some (.ref x), some (.int a), some (.int w), none] rfl (Nat.le_of_ble_eq_true rfl) ?_
  show G E ML_mileOf _ _ _ _ _ _ _ _ _
  refine g_aload_n dL_mileOf_0 rfl ?_
  refine g_iload_n dL_mileOf_1 rfl ?_
  refine g_iload_n dL_mileOf_2 rfl ?_
  refine g_callV (M := ML_mileOf) (pc := 3) (Y := YX6_mileOf) sv_L_27 rfl yn_X6_mileOf 8 (by decide) rfl rfl dL_mileOf_3 hm hA.s9 rfl rfl (gRoom_of rfl) (Nat.le_of_ble_eq_true rfl) (fun _ _ _ _ h => h.1.1) ?_ ?_
  · rintro v sh' sz' V' ⟨hE, hS, hq, rfl⟩
    have hL := hA.ext hE hS hI2
    rw [hw]
    show G _ _ _ _ _ _ _ _ _ _ [.int w9]
    exact g_iret rfl (nr_int _) dL_mileOf_6 (by decide) ⟨hE.1, hL, by unfold rv; rw [if_pos hq, hw]⟩
  · rintro C sh' sz' V' ⟨hE, hS, hq, hC2⟩
    have hL := hA.ext hE hS hI2
    rcases exs2 hq hC2 with ⟨e1, rfl⟩ | ⟨e1, rfl⟩
    · refine g_catch [] ⟨0, 6, 7, 20⟩ [⟨0, 6, 11, 14⟩] rfl (fun z hz => nomatch hz) (by decide +kernel) (by decide) (by decide) cl_L_20 ca_xIO (fun q => ?_)
      refine g_astore_n dL_mileOf_7 (by decide) rfl ?_
      show G _ _ _ _ _ _ _ _ _ [_, _, _, _] _
      refine g_bipush (v := (-11)) dL_mileOf_8 (by decide) ?_
      exact g_iret rfl (nr_int _) dL_mileOf_10 (by decide) ⟨hE.1, hL, by unfold rv; rw [if_neg hq, e1]; rfl⟩
    · refine g_catch [⟨0, 6, 7, 20⟩] ⟨0, 6, 11, 14⟩ [] rfl (List.forall_mem_cons.mpr ⟨Or.inr ⟨by decide, _, cl_L_20, by decide +kernel, by decide +kernel⟩, (fun z hz => nomatch hz)⟩) (by decide +kernel) (by decide) (by decide) cl_L_14 ca_xIA (fun q => ?_)
      refine g_astore_n dL_mileOf_11 (by decide) rfl ?_
      show G _ _ _ _ _ _ _ _ _ [_, _, _, _] _
      refine g_bipush (v := (-12)) dL_mileOf_12 (by decide) ?_
      exact g_iret rfl (nr_int _) dL_mileOf_14 (by decide) ⟨hE.1, hL, by unfold rv; rw [if_neg hq, e1]; rfl⟩
theorem v_truck {kd w ax r : Int32} : ∃ zz, (sp_truck S kd w ax r).2.1 = .int zz := by
  unfold sp_truck
  repeat' split
  all_goals exact ⟨_, rfl⟩
theorem w_truck {kd w ax r : Int32} (hA : LW x S A sh sz V) (hI2 : InvS (sp_truck S kd w ax r).2.2) : MCH E YL_truck [(0, 9, 10, 20), (0, 9, 14, 14), (0, 9, 19, 34)] [.ref x, .int kd, .int w, .int ax, .int r] sh sz V (PLs x A sz (sp_truck S kd w ax r).2.2 (rv [-1, -2, -3] (sp_truck S kd w ax r))) := by
  have hm := m_truck (E := E) hA.1 hA.2.2.1 (cp6 (exs := [xIO, xIA, xUO]) (q := sp_truck S kd w ax r))
  have hv := v_truck (S := S) (kd := kd) (w := w) (ax := ax) (r := r)
  generalize sp_truck S kd w ax r = q at hm hv hI2 ⊢
  obtain ⟨w9, hw⟩ := hv
  refine MCH.of (hh := [(0, 9, 10, 20), (0, 9, 14, 14), (0, 9, 19, 34)]) RL "truck" rfl (by decide +kernel) rfl 1 [some (.ref x), some (.int kd), some (.int w), some (.int ax), some (.int r), none] rfl (Nat.le_of_ble_eq_true rfl) ?_
  show G E ML_truck _ _ _ _ _ _ _ _ _
  refine g_aload_n dL_truck_0 rfl ?_
  refine g_iload_n dL_truck_1 rfl ?_
  refine g_iload_n dL_truck_2 rfl ?_
  refine g_iload_n dL_truck_3 rfl ?_
  refine g_iload dL_truck_4 rfl ?_
  refine g_callV (M := ML_truck) (pc := 6) (Y := YX6_truck) sv_L_30 rfl yn_X6_truck 8 (by decide) rfl rfl dL_truck_6 hm hA.s9 rfl rfl (gRoom_of rfl) (Nat.le_of_ble_eq_true rfl) (fun _ _ _ _ h => h.1.1) ?_ ?_
  · rintro v sh' sz' V' ⟨hE, hS, hq, rfl⟩
    have hL := hA.ext hE hS hI2
    rw [hw]
    show G _ _ _ _ _ _ _ _ _ _ [.int w9]
    exact g_iret rfl (nr_int _) dL_truck_9 (by decide) ⟨hE.1, hL, by unfold rv; rw [if_pos hq, hw]⟩
  · rintro C sh' sz' V' ⟨hE, hS, hq, hC2⟩
    have hL := hA.ext hE hS hI2
    rcases exs3 hq hC2 with ⟨e1, rfl⟩ | ⟨e1, rfl⟩ | ⟨e1, rfl⟩
    · refine g_catch [] ⟨0, 9, 10, 20⟩ [⟨0, 9, 14, 14⟩, ⟨0, 9, 19, 34⟩] rfl (fun z hz => nomatch hz) (by decide +kernel) (by decide) (by decide) cl_L_20 ca_xIO (fun q => ?_)
      refine g_astore dL_truck_10 (by decide) rfl ?_
      show G _ _ _ _ _ _ _ _ _ [_, _, _, _, _, _] _
      refine g_iconst (v := (-1)) dL_truck_12 (by decide) ?_
      exact g_iret rfl (nr_int _) dL_truck_13 (by decide) ⟨hE.1, hL, by unfold rv; rw [if_neg hq, e1]; rfl⟩
    · refine g_catch [⟨0, 9, 10, 20⟩] ⟨0, 9, 14, 14⟩ [⟨0, 9, 19, 34⟩] rfl (List.forall_mem_cons.mpr ⟨Or.inr ⟨by decide, _, cl_L_20, by decide +kernel, by decide +kernel⟩, (fun z hz => nomatch hz)⟩) (by decide +kernel) (by decide) (by decide) cl_L_14 ca_xIA (fun q => ?_)
      refine g_astore dL_truck_14 (by decide) rfl ?_
      show G _ _ _ _ _ _ _ _ _ [_, _, _, _, _, _] _
      refine g_bipush (v := (-2)) dL_truck_16 (by decide) ?_
      exact g_iret rfl (nr_int _) dL_truck_18 (by decide) ⟨hE.1, hL, by unfold rv; rw [if_neg hq, e1]; rfl⟩
    · refine g_catch [⟨0, 9, 10, 20⟩, ⟨0, 9, 14, 14⟩] ⟨0, 9, 19, 34⟩ [] rfl (List.forall_mem_cons.mpr ⟨Or.inr ⟨by decide, _, cl_L_20, by decide +kernel, by decide +kernel⟩, (List.forall_mem_cons.mpr ⟨Or.inr ⟨by decide, _, cl_L_14, by decide +kernel, by decide +kernel⟩, (fun z hz => nomatch hz)⟩)⟩) (by decide +kernel) (by decide) (by decide) cl_L_34 ca_xUO (fun q => ?_)
      refine g_astore dL_truck_19 (by decide) rfl ?_
      show G _ _ _ _ _ _ _ _ _ [_, _, _, _, _, _] _
      refine g_bipush (v := (-3)) dL_truck_21 (by decide) ?_
      exact g_iret rfl (nr_int _) dL_truck_23 (by decide) ⟨hE.1, hL, by unfold rv; rw [if_neg hq, e1]; rfl⟩
theorem v_inRow {r p w : Int32} : ∃ zz, (sp_inRow S r p w).2.1 = .int zz := by
  unfold sp_inRow
  repeat' split
  all_goals exact ⟨_, rfl⟩
theorem e_inRow {r p w : Int32} : (sp_inRow S r p w).2.2 = S := by
  unfold sp_inRow
  repeat' split
  all_goals rfl
theorem w_inRow {r p w : Int32} (hA : LW x S A sh sz V) (hI2 : InvS (sp_inRow S r p w).2.2) : MCH E YL_inRow [(0, 7, 8, 20), (0, 7, 13, 25), (0, 7, 18, 14)] [.ref x, .int r, .int p, .int w] sh sz V (PLs x A sz (sp_inRow S r p w).2.2 (rv [-11, -13, -12] (sp_inRow S r p w))) := by
  have hm := m_inRow (E := E) hA.1 hA.2.2.1 (cp6 (exs := [xIO, nsC, xIA]) (q := sp_inRow S r p w))
  have hv := v_inRow (S := S) (r := r) (p := p) (w := w)
  generalize sp_inRow S r p w = q at hm hv hI2 ⊢
  obtain ⟨w9, hw⟩ := hv
  refine MCH.of (hh := [(0, 7, 8, 20), (0, 7, 13, 25), (0, 7, 18, 14)]) RL "inRow" rfl (by decide +kernel) rfl 1 [some (.ref x), some (.int r), some (.int p), some (.int w), none] rfl (Nat.le_of_ble_eq_true rfl) ?_
  show G E ML_inRow _ _ _ _ _ _ _ _ _
  refine g_aload_n dL_inRow_0 rfl ?_
  refine g_iload_n dL_inRow_1 rfl ?_
  refine g_iload_n dL_inRow_2 rfl ?_
  refine g_iload_n dL_inRow_3 rfl ?_
  refine g_callV (M := ML_inRow) (pc := 4) (Y := YX6_inRow) sv_L_36 rfl yn_X6_inRow 8 (by decide) rfl rfl dL_inRow_4 hm hA.s9 rfl rfl (gRoom_of rfl) (Nat.le_of_ble_eq_true rfl) (fun _ _ _ _ h => h.1.1) ?_ ?_
  · rintro v sh' sz' V' ⟨hE, hS, hq, rfl⟩
    have hL := hA.ext hE hS hI2
    rw [hw]
    show G _ _ _ _ _ _ _ _ _ _ [.int w9]
    exact g_iret rfl (nr_int _) dL_inRow_7 (by decide) ⟨hE.1, hL, by unfold rv; rw [if_pos hq, hw]⟩
  · rintro C sh' sz' V' ⟨hE, hS, hq, hC2⟩
    have hL := hA.ext hE hS hI2
    rcases exs3 hq hC2 with ⟨e1, rfl⟩ | ⟨e1, rfl⟩ | ⟨e1, rfl⟩
    · refine g_catch [] ⟨0, 7, 8, 20⟩ [⟨0, 7, 13, 25⟩, ⟨0, 7, 18, 14⟩] rfl (fun z hz => nomatch hz) (by decide +kernel) (by decide) (by decide) cl_L_20 ca_xIO (fun q => ?_)
      refine g_astore dL_inRow_8 (by decide) rfl ?_
      show G _ _ _ _ _ _ _ _ _ [_, _, _, _, _] _
      refine g_bipush (v := (-11)) dL_inRow_10 (by decide) ?_
      exact g_iret rfl (nr_int _) dL_inRow_12 (by decide) ⟨hE.1, hL, by unfold rv; rw [if_neg hq, e1]; rfl⟩
    · refine g_catch [⟨0, 7, 8, 20⟩] ⟨0, 7, 13, 25⟩ [⟨0, 7, 18, 14⟩] rfl (List.forall_mem_cons.mpr ⟨Or.inr ⟨by decide, _, cl_L_20, by decide +kernel, by decide +kernel⟩, (fun z hz => nomatch hz)⟩) (by decide +kernel) (by decide) (by decide) cl_L_25 ca_nsC (fun q => ?_)
      refine g_astore dL_inRow_13 (by decide) rfl ?_
      show G _ _ _ _ _ _ _ _ _ [_, _, _, _, _] _
      refine g_bipush (v := (-13)) dL_inRow_15 (by decide) ?_
      exact g_iret rfl (nr_int _) dL_inRow_17 (by decide) ⟨hE.1, hL, by unfold rv; rw [if_neg hq, e1]; rfl⟩
    · refine g_catch [⟨0, 7, 8, 20⟩, ⟨0, 7, 13, 25⟩] ⟨0, 7, 18, 14⟩ [] rfl (List.forall_mem_cons.mpr ⟨Or.inr ⟨by decide, _, cl_L_20, by decide +kernel, by decide +kernel⟩, (List.forall_mem_cons.mpr ⟨Or.inr ⟨by decide, _, cl_L_25, by decide +kernel, by decide +kernel⟩, (fun z hz => nomatch hz)⟩)⟩) (by decide +kernel) (by decide) (by decide) cl_L_14 ca_xIA (fun q => ?_)
      refine g_astore dL_inRow_18 (by decide) rfl ?_
      show G _ _ _ _ _ _ _ _ _ [_, _, _, _, _] _
      refine g_bipush (v := (-12)) dL_inRow_20 (by decide) ?_
      exact g_iret rfl (nr_int _) dL_inRow_22 (by decide) ⟨hE.1, hL, by unfold rv; rw [if_neg hq, e1]; rfl⟩
theorem v_convoy {g : Int32} : ∃ zz, (sp_convoy S g).2.1 = .int zz := by
  unfold sp_convoy
  repeat' split
  all_goals exact ⟨_, rfl⟩
theorem w_convoy {g : Int32} (hA : LW x S A sh sz V) (hI2 : InvS (sp_convoy S g).2.2) : MCH E YL_convoy [(0, 5, 6, 14), (0, 5, 9, 34)] [.ref x, .int g] sh sz V (PLs x A sz (sp_convoy S g).2.2 (rv [-1, -2] (sp_convoy S g))) := by
  have hm := m_convoy (E := E) hA.1 hA.2.1.1.1 hA.2.2.1 (cp6 (exs := [xIA, xUO]) (q := sp_convoy S g))
  have hv := v_convoy (S := S) (g := g)
  generalize sp_convoy S g = q at hm hv hI2 ⊢
  obtain ⟨w9, hw⟩ := hv
  refine MCH.of (hh := [(0, 5, 6, 14), (0, 5, 9, 34)]) RL "convoy" rfl (by decide +kernel) rfl 1 [some (.ref x), some (.int g), none] rfl (Nat.le_of_ble_eq_true rfl) ?_
  show G E ML_convoy _ _ _ _ _ _ _ _ _
  refine g_aload_n dL_convoy_0 rfl ?_
  refine g_iload_n dL_convoy_1 rfl ?_
  refine g_callV (M := ML_convoy) (pc := 2) (Y := YX6_convoy) sv_L_40 rfl yn_X6_convoy 8 (by decide) rfl rfl dL_convoy_2 hm hA.s9 rfl rfl (gRoom_of rfl) (Nat.le_of_ble_eq_true rfl) (fun _ _ _ _ h => h.1.1) ?_ ?_
  · rintro v sh' sz' V' ⟨hE, hS, hq, rfl⟩
    have hL := hA.ext hE hS hI2
    rw [hw]
    show G _ _ _ _ _ _ _ _ _ _ [.int w9]
    exact g_iret rfl (nr_int _) dL_convoy_5 (by decide) ⟨hE.1, hL, by unfold rv; rw [if_pos hq, hw]⟩
  · rintro C sh' sz' V' ⟨hE, hS, hq, hC2⟩
    have hL := hA.ext hE hS hI2
    rcases exs2 hq hC2 with ⟨e1, rfl⟩ | ⟨e1, rfl⟩
    · refine g_catch [] ⟨0, 5, 6, 14⟩ [⟨0, 5, 9, 34⟩] rfl (fun z hz => nomatch hz) (by decide +kernel) (by decide) (by decide) cl_L_14 ca_xIA (fun q => ?_)
      refine g_astore_n dL_convoy_6 (by decide) rfl ?_
      show G _ _ _ _ _ _ _ _ _ [_, _, _] _
      refine g_iconst (v := (-1)) dL_convoy_7 (by decide) ?_
      exact g_iret rfl (nr_int _) dL_convoy_8 (by decide) ⟨hE.1, hL, by unfold rv; rw [if_neg hq, e1]; rfl⟩
    · refine g_catch [⟨0, 5, 6, 14⟩] ⟨0, 5, 9, 34⟩ [] rfl (List.forall_mem_cons.mpr ⟨Or.inr ⟨by decide, _, cl_L_14, by decide +kernel, by decide +kernel⟩, (fun z hz => nomatch hz)⟩) (by decide +kernel) (by decide) (by decide) cl_L_34 ca_xUO (fun q => ?_)
      refine g_astore_n dL_convoy_9 (by decide) rfl ?_
      show G _ _ _ _ _ _ _ _ _ [_, _, _] _
      refine g_bipush (v := (-2)) dL_convoy_10 (by decide) ?_
      exact g_iret rfl (nr_int _) dL_convoy_12 (by decide) ⟨hE.1, hL, by unfold rv; rw [if_neg hq, e1]; rfl⟩
theorem v_join {c r p : Int32} : ∃ zz, (sp_join S c r p).2.1 = .int zz := by
  unfold sp_join
  repeat' split
  all_goals exact ⟨_, rfl⟩
theorem w_join {c r p : Int32} (hA : LW x S A sh sz V) (hI2 : InvS (sp_join S c r p).2.2) : MCH E YL_join [(0, 7, 8, 20), (0, 7, 12, 25), (0, 7, 17, 34)] [.ref x, .int c, .int r, .int p] sh sz V (PLs x A sz (sp_join S c r p).2.2 (rv [-1, -2, -3] (sp_join S c r p))) := by
  have hm := m_join (E := E) hA.1 hA.2.1.1.1 hA.2.2.1 (cp6 (exs := [xIO, nsC, xUO]) (q := sp_join S c r p))
  have hv := v_join (S := S) (c := c) (r := r) (p := p)
  generalize sp_join S c r p = q at hm hv hI2 ⊢
  obtain ⟨w9, hw⟩ := hv
  refine MCH.of (hh := [(0, 7, 8, 20), (0, 7, 12, 25), (0, 7, 17, 34)]) RL "join" rfl (by decide +kernel) rfl 1 [some (.ref x), some (.int c), some (.int r), some (.int p), none] rfl (Nat.le_of_ble_eq_true rfl) ?_
  show G E ML_join _ _ _ _ _ _ _ _ _
  refine g_aload_n dL_join_0 rfl ?_
  refine g_iload_n dL_join_1 rfl ?_
  refine g_iload_n dL_join_2 rfl ?_
  refine g_iload_n dL_join_3 rfl ?_
  refine g_callV (M := ML_join) (pc := 4) (Y := YX6_join) sv_L_43 rfl yn_X6_join 8 (by decide) rfl rfl dL_join_4 hm hA.s9 rfl rfl (gRoom_of rfl) (Nat.le_of_ble_eq_true rfl) (fun _ _ _ _ h => h.1.1) ?_ ?_
  · rintro v sh' sz' V' ⟨hE, hS, hq, rfl⟩
    have hL := hA.ext hE hS hI2
    rw [hw]
    show G _ _ _ _ _ _ _ _ _ _ [.int w9]
    exact g_iret rfl (nr_int _) dL_join_7 (by decide) ⟨hE.1, hL, by unfold rv; rw [if_pos hq, hw]⟩
  · rintro C sh' sz' V' ⟨hE, hS, hq, hC2⟩
    have hL := hA.ext hE hS hI2
    rcases exs3 hq hC2 with ⟨e1, rfl⟩ | ⟨e1, rfl⟩ | ⟨e1, rfl⟩
    · refine g_catch [] ⟨0, 7, 8, 20⟩ [⟨0, 7, 12, 25⟩, ⟨0, 7, 17, 34⟩] rfl (fun z hz => nomatch hz) (by decide +kernel) (by decide) (by decide) cl_L_20 ca_xIO (fun q => ?_)
      refine g_astore dL_join_8 (by decide) rfl ?_
      show G _ _ _ _ _ _ _ _ _ [_, _, _, _, _] _
      refine g_iconst (v := (-1)) dL_join_10 (by decide) ?_
      exact g_iret rfl (nr_int _) dL_join_11 (by decide) ⟨hE.1, hL, by unfold rv; rw [if_neg hq, e1]; rfl⟩
    · refine g_catch [⟨0, 7, 8, 20⟩] ⟨0, 7, 12, 25⟩ [⟨0, 7, 17, 34⟩] rfl (List.forall_mem_cons.mpr ⟨Or.inr ⟨by decide, _, cl_L_20, by decide +kernel, by decide +kernel⟩, (fun z hz => nomatch hz)⟩) (by decide +kernel) (by decide) (by decide) cl_L_25 ca_nsC (fun q => ?_)
      refine g_astore dL_join_12 (by decide) rfl ?_
      show G _ _ _ _ _ _ _ _ _ [_, _, _, _, _] _
      refine g_bipush (v := (-2)) dL_join_14 (by decide) ?_
      exact g_iret rfl (nr_int _) dL_join_16 (by decide) ⟨hE.1, hL, by unfold rv; rw [if_neg hq, e1]; rfl⟩
    · refine g_catch [⟨0, 7, 8, 20⟩, ⟨0, 7, 12, 25⟩] ⟨0, 7, 17, 34⟩ [] rfl (List.forall_mem_cons.mpr ⟨Or.inr ⟨by decide, _, cl_L_20, by decide +kernel, by decide +kernel⟩, (List.forall_mem_cons.mpr ⟨Or.inr ⟨by decide, _, cl_L_25, by decide +kernel, by decide +kernel⟩, (fun z hz => nomatch hz)⟩)⟩) (by decide +kernel) (by decide) (by decide) cl_L_34 ca_xUO (fun q => ?_)
      refine g_astore dL_join_17 (by decide) rfl ?_
      show G _ _ _ _ _ _ _ _ _ [_, _, _, _, _] _
      refine g_bipush (v := (-3)) dL_join_19 (by decide) ?_
      exact g_iret rfl (nr_int _) dL_join_21 (by decide) ⟨hE.1, hL, by unfold rv; rw [if_neg hq, e1]; rfl⟩
theorem v_start {c : Int32} : ∃ zz, (sp_start S c).2.1 = .int zz := by
  unfold sp_start
  repeat' split
  all_goals exact ⟨_, rfl⟩
theorem w_start {c : Int32} (hA : LW x S A sh sz V) (hI2 : InvS (sp_start S c).2.2) : MCH E YL_start [(0, 5, 6, 20), (0, 5, 9, 34)] [.ref x, .int c] sh sz V (PLs x A sz (sp_start S c).2.2 (rv [-1, -2] (sp_start S c))) := by
  have hm := m_start (E := E) hA.1 hA.2.1.1.1 hA.2.2.1 (cp6 (exs := [xIO, xUO]) (q := sp_start S c))
  have hv := v_start (S := S) (c := c)
  generalize sp_start S c = q at hm hv hI2 ⊢
  obtain ⟨w9, hw⟩ := hv
  refine MCH.of (hh := [(0, 5, 6, 20), (0, 5, 9, 34)]) RL "start" rfl (by decide +kernel) rfl 1 [some (.ref x), some (.int c), none] rfl (Nat.le_of_ble_eq_true rfl) ?_
  show G E ML_start _ _ _ _ _ _ _ _ _
  refine g_aload_n dL_start_0 rfl ?_
  refine g_iload_n dL_start_1 rfl ?_
  refine g_callV (M := ML_start) (pc := 2) (Y := YX6_start) sv_L_46 rfl yn_X6_start 8 (by decide) rfl rfl dL_start_2 hm hA.s9 rfl rfl (gRoom_of rfl) (Nat.le_of_ble_eq_true rfl) (fun _ _ _ _ h => h.1.1) ?_ ?_
  · rintro v sh' sz' V' ⟨hE, hS, hq, rfl⟩
    have hL := hA.ext hE hS hI2
    rw [hw]
    show G _ _ _ _ _ _ _ _ _ _ [.int w9]
    exact g_iret rfl (nr_int _) dL_start_5 (by decide) ⟨hE.1, hL, by unfold rv; rw [if_pos hq, hw]⟩
  · rintro C sh' sz' V' ⟨hE, hS, hq, hC2⟩
    have hL := hA.ext hE hS hI2
    rcases exs2 hq hC2 with ⟨e1, rfl⟩ | ⟨e1, rfl⟩
    · refine g_catch [] ⟨0, 5, 6, 20⟩ [⟨0, 5, 9, 34⟩] rfl (fun z hz => nomatch hz) (by decide +kernel) (by decide) (by decide) cl_L_20 ca_xIO (fun q => ?_)
      refine g_astore_n dL_start_6 (by decide) rfl ?_
      show G _ _ _ _ _ _ _ _ _ [_, _, _] _
      refine g_iconst (v := (-1)) dL_start_7 (by decide) ?_
      exact g_iret rfl (nr_int _) dL_start_8 (by decide) ⟨hE.1, hL, by unfold rv; rw [if_neg hq, e1]; rfl⟩
    · refine g_catch [⟨0, 5, 6, 20⟩] ⟨0, 5, 9, 34⟩ [] rfl (List.forall_mem_cons.mpr ⟨Or.inr ⟨by decide, _, cl_L_20, by decide +kernel, by decide +kernel⟩, (fun z hz => nomatch hz)⟩) (by decide +kernel) (by decide) (by decide) cl_L_34 ca_xUO (fun q => ?_)
      refine g_astore_n dL_start_9 (by decide) rfl ?_
      show G _ _ _ _ _ _ _ _ _ [_, _, _] _
      refine g_bipush (v := (-2)) dL_start_10 (by decide) ?_
      exact g_iret rfl (nr_int _) dL_start_12 (by decide) ⟨hE.1, hL, by unfold rv; rw [if_neg hq, e1]; rfl⟩
theorem v_roll {c : Int32} : ∃ zz, (sp_roll S c).2.1 = .int zz := by
  unfold sp_roll
  repeat' split
  all_goals exact ⟨_, rfl⟩
theorem w_roll {c : Int32} (hA : LW x S A sh sz V) (hI2 : InvS (sp_roll S c).2.2) : MCH E YL_roll [(0, 5, 6, 20), (0, 5, 9, 34)] [.ref x, .int c] sh sz V (PLs x A sz (sp_roll S c).2.2 (rv [-1, -2] (sp_roll S c))) := by
  have hm := m_roll (E := E) hA.1 hA.2.1.1.1 hA.2.2.1 (cp6 (exs := [xIO, xUO]) (q := sp_roll S c))
  have hv := v_roll (S := S) (c := c)
  generalize sp_roll S c = q at hm hv hI2 ⊢
  obtain ⟨w9, hw⟩ := hv
  refine MCH.of (hh := [(0, 5, 6, 20), (0, 5, 9, 34)]) RL "roll" rfl (by decide +kernel) rfl 1 [some (.ref x), some (.int c), none] rfl (Nat.le_of_ble_eq_true rfl) ?_
  show G E ML_roll _ _ _ _ _ _ _ _ _
  refine g_aload_n dL_roll_0 rfl ?_
  refine g_iload_n dL_roll_1 rfl ?_
  refine g_callV (M := ML_roll) (pc := 2) (Y := YX6_roll) sv_L_49 rfl yn_X6_roll 8 (by decide) rfl rfl dL_roll_2 hm hA.s9 rfl rfl (gRoom_of rfl) (Nat.le_of_ble_eq_true rfl) (fun _ _ _ _ h => h.1.1) ?_ ?_
  · rintro v sh' sz' V' ⟨hE, hS, hq, rfl⟩
    have hL := hA.ext hE hS hI2
    rw [hw]
    show G _ _ _ _ _ _ _ _ _ _ [.int w9]
    exact g_iret rfl (nr_int _) dL_roll_5 (by decide) ⟨hE.1, hL, by unfold rv; rw [if_pos hq, hw]⟩
  · rintro C sh' sz' V' ⟨hE, hS, hq, hC2⟩
    have hL := hA.ext hE hS hI2
    rcases exs2 hq hC2 with ⟨e1, rfl⟩ | ⟨e1, rfl⟩
    · refine g_catch [] ⟨0, 5, 6, 20⟩ [⟨0, 5, 9, 34⟩] rfl (fun z hz => nomatch hz) (by decide +kernel) (by decide) (by decide) cl_L_20 ca_xIO (fun q => ?_)
      refine g_astore_n dL_roll_6 (by decide) rfl ?_
      show G _ _ _ _ _ _ _ _ _ [_, _, _] _
      refine g_iconst (v := (-1)) dL_roll_7 (by decide) ?_
      exact g_iret rfl (nr_int _) dL_roll_8 (by decide) ⟨hE.1, hL, by unfold rv; rw [if_neg hq, e1]; rfl⟩
    · refine g_catch [⟨0, 5, 6, 20⟩] ⟨0, 5, 9, 34⟩ [] rfl (List.forall_mem_cons.mpr ⟨Or.inr ⟨by decide, _, cl_L_20, by decide +kernel, by decide +kernel⟩, (fun z hz => nomatch hz)⟩) (by decide +kernel) (by decide) (by decide) cl_L_34 ca_xUO (fun q => ?_)
      refine g_astore_n dL_roll_9 (by decide) rfl ?_
      show G _ _ _ _ _ _ _ _ _ [_, _, _] _
      refine g_bipush (v := (-2)) dL_roll_10 (by decide) ?_
      exact g_iret rfl (nr_int _) dL_roll_12 (by decide) ⟨hE.1, hL, by unfold rv; rw [if_neg hq, e1]; rfl⟩
theorem v_why {c d : Int32} : ∃ zz, (sp_why S c d).2.1 = .int zz := by
  unfold sp_why
  repeat' split
  all_goals exact ⟨_, rfl⟩
theorem e_why {c d : Int32} : (sp_why S c d).2.2 = S := by
  unfold sp_why
  repeat' split
  all_goals rfl
theorem w_why {c d : Int32} (hA : LW x S A sh sz V) (hI2 : InvS (sp_why S c d).2.2) : MCH E YL_why [(0, 6, 7, 20)] [.ref x, .int c, .int d] sh sz V (PLs x A sz (sp_why S c d).2.2 (rv [-11] (sp_why S c d))) := by
  have hm := m_why (E := E) hA.1 hA.2.1.1.1 hA.2.2.1 (cp6 (exs := [xIO]) (q := sp_why S c d))
  have hv := v_why (S := S) (c := c) (d := d)
  generalize sp_why S c d = q at hm hv hI2 ⊢
  obtain ⟨w9, hw⟩ := hv
  refine MCH.of (hh := [(0, 6, 7, 20)]) RL "why" rfl (by decide +kernel) rfl 1 [some (.ref x), some (.int c), some (.int d), none] rfl (Nat.le_of_ble_eq_true rfl) ?_
  show G E ML_why _ _ _ _ _ _ _ _ _
  refine g_aload_n dL_why_0 rfl ?_
  refine g_iload_n dL_why_1 rfl ?_
  refine g_iload_n dL_why_2 rfl ?_
  refine g_callV (M := ML_why) (pc := 3) (Y := YX6_why) sv_L_52 rfl yn_X6_why 8 (by decide) rfl rfl dL_why_3 hm hA.s9 rfl rfl (gRoom_of rfl) (Nat.le_of_ble_eq_true rfl) (fun _ _ _ _ h => h.1.1) ?_ ?_
  · rintro v sh' sz' V' ⟨hE, hS, hq, rfl⟩
    have hL := hA.ext hE hS hI2
    rw [hw]
    show G _ _ _ _ _ _ _ _ _ _ [.int w9]
    exact g_iret rfl (nr_int _) dL_why_6 (by decide) ⟨hE.1, hL, by unfold rv; rw [if_pos hq, hw]⟩
  · rintro C sh' sz' V' ⟨hE, hS, hq, hC2⟩
    have hL := hA.ext hE hS hI2
    obtain ⟨e1, rfl⟩ := exs1 hq hC2
    refine g_catch [] ⟨0, 6, 7, 20⟩ [] rfl (fun z hz => nomatch hz) (by decide +kernel) (by decide) (by decide) cl_L_20 ca_xIO (fun q => ?_)
    refine g_astore_n dL_why_7 (by decide) rfl ?_
    show G _ _ _ _ _ _ _ _ _ [_, _, _, _] _
    refine g_bipush (v := (-11)) dL_why_8 (by decide) ?_
    exact g_iret rfl (nr_int _) dL_why_10 (by decide) ⟨hE.1, hL, by unfold rv; rw [if_neg hq, e1]; rfl⟩
theorem v_convoyOf {c w : Int32} : ∃ zz, (sp_convoyOf S c w).2.1 = .int zz := by
  unfold sp_convoyOf
  repeat' split
  all_goals exact ⟨_, rfl⟩
theorem e_convoyOf {c w : Int32} : (sp_convoyOf S c w).2.2 = S := by
  unfold sp_convoyOf
  repeat' split
  all_goals rfl
theorem w_convoyOf {c w : Int32} (hA : LW x S A sh sz V) (hI2 : InvS (sp_convoyOf S c w).2.2) : MCH E YL_convoyOf [(0, 6, 7, 20), (0, 6, 11, 14)] [.ref x, .int c, .int w] sh sz V (PLs x A sz (sp_convoyOf S c w).2.2 (rv [-11, -12] (sp_convoyOf S c w))) := by
  have hm := m_convoyOf (E := E) hA.1 hA.2.1.1.1 hA.2.2.1 (cp6 (exs := [xIO, xIA]) (q := sp_convoyOf S c w))
  have hv := v_convoyOf (S := S) (c := c) (w := w)
  generalize sp_convoyOf S c w = q at hm hv hI2 ⊢
  obtain ⟨w9, hw⟩ := hv
  refine MCH.of (hh := [(0, 6, 7, 20), (0, 6, 11, 14)]) RL "convoyOf" rfl (by decide +kernel) rfl 1 [some (.ref x), some (.int c), some (.int w), none] rfl (Nat.le_of_ble_eq_true rfl) ?_
  show G E ML_convoyOf _ _ _ _ _ _ _ _ _
  refine g_aload_n dL_convoyOf_0 rfl ?_
  refine g_iload_n dL_convoyOf_1 rfl ?_
  refine g_iload_n dL_convoyOf_2 rfl ?_
  refine g_callV (M := ML_convoyOf) (pc := 3) (Y := YX6_convoyOf) sv_L_56 rfl yn_X6_convoyOf 8 (by decide) rfl rfl dL_convoyOf_3 hm hA.s9 rfl rfl (gRoom_of rfl) (Nat.le_of_ble_eq_true rfl) (fun _ _ _ _ h => h.1.1) ?_ ?_
  · rintro v sh' sz' V' ⟨hE, hS, hq, rfl⟩
    have hL := hA.ext hE hS hI2
    rw [hw]
    show G _ _ _ _ _ _ _ _ _ _ [.int w9]
    exact g_iret rfl (nr_int _) dL_convoyOf_6 (by decide) ⟨hE.1, hL, by unfold rv; rw [if_pos hq, hw]⟩
  · rintro C sh' sz' V' ⟨hE, hS, hq, hC2⟩
    have hL := hA.ext hE hS hI2
    rcases exs2 hq hC2 with ⟨e1, rfl⟩ | ⟨e1, rfl⟩
    · refine g_catch [] ⟨0, 6, 7, 20⟩ [⟨0, 6, 11, 14⟩] rfl (fun z hz => nomatch hz) (by decide +kernel) (by decide) (by decide) cl_L_20 ca_xIO (fun q => ?_)
      refine g_astore_n dL_convoyOf_7 (by decide) rfl ?_
      show G _ _ _ _ _ _ _ _ _ [_, _, _, _] _
      refine g_bipush (v := (-11)) dL_convoyOf_8 (by decide) ?_
      exact g_iret rfl (nr_int _) dL_convoyOf_10 (by decide) ⟨hE.1, hL, by unfold rv; rw [if_neg hq, e1]; rfl⟩
    · refine g_catch [⟨0, 6, 7, 20⟩] ⟨0, 6, 11, 14⟩ [] rfl (List.forall_mem_cons.mpr ⟨Or.inr ⟨by decide, _, cl_L_20, by decide +kernel, by decide +kernel⟩, (fun z hz => nomatch hz)⟩) (by decide +kernel) (by decide) (by decide) cl_L_14 ca_xIA (fun q => ?_)
      refine g_astore_n dL_convoyOf_11 (by decide) rfl ?_
      show G _ _ _ _ _ _ _ _ _ [_, _, _, _] _
      refine g_bipush (v := (-12)) dL_convoyOf_12 (by decide) ?_
      exact g_iret rfl (nr_int _) dL_convoyOf_14 (by decide) ⟨hE.1, hL, by unfold rv; rw [if_neg hq, e1]; rfl⟩
theorem v_truckOf {c p w : Int32} : ∃ zz, (sp_truckOf S c p w).2.1 = .int zz := by
  unfold sp_truckOf
  repeat' split
  all_goals exact ⟨_, rfl⟩
theorem e_truckOf {c p w : Int32} : (sp_truckOf S c p w).2.2 = S := by
  unfold sp_truckOf
  repeat' split
  all_goals rfl
theorem w_truckOf {c p w : Int32} (hA : LW x S A sh sz V) (hI2 : InvS (sp_truckOf S c p w).2.2) : MCH E YL_truckOf [(0, 7, 8, 20), (0, 7, 13, 14)] [.ref x, .int c, .int p, .int w] sh sz V (PLs x A sz (sp_truckOf S c p w).2.2 (rv [-111, -112] (sp_truckOf S c p w))) := by
  have hm := m_truckOf (E := E) hA.1 hA.2.1.1.1 hA.2.2.1 (cp6 (exs := [xIO, xIA]) (q := sp_truckOf S c p w))
  have hv := v_truckOf (S := S) (c := c) (p := p) (w := w)
  generalize sp_truckOf S c p w = q at hm hv hI2 ⊢
  obtain ⟨w9, hw⟩ := hv
  refine MCH.of (hh := [(0, 7, 8, 20), (0, 7, 13, 14)]) RL "truckOf" rfl (by decide +kernel) rfl 1 [some (.ref x), some (.int c), some (.int p), some (.int w), none] rfl (Nat.le_of_ble_eq_true rfl) ?_
  show G E ML_truckOf _ _ _ _ _ _ _ _ _
  refine g_aload_n dL_truckOf_0 rfl ?_
  refine g_iload_n dL_truckOf_1 rfl ?_
  refine g_iload_n dL_truckOf_2 rfl ?_
  refine g_iload_n dL_truckOf_3 rfl ?_
  refine g_callV (M := ML_truckOf) (pc := 4) (Y := YX6_truckOf) sv_L_59 rfl yn_X6_truckOf 8 (by decide) rfl rfl dL_truckOf_4 hm hA.s9 rfl rfl (gRoom_of rfl) (Nat.le_of_ble_eq_true rfl) (fun _ _ _ _ h => h.1.1) ?_ ?_
  · rintro v sh' sz' V' ⟨hE, hS, hq, rfl⟩
    have hL := hA.ext hE hS hI2
    rw [hw]
    show G _ _ _ _ _ _ _ _ _ _ [.int w9]
    exact g_iret rfl (nr_int _) dL_truckOf_7 (by decide) ⟨hE.1, hL, by unfold rv; rw [if_pos hq, hw]⟩
  · rintro C sh' sz' V' ⟨hE, hS, hq, hC2⟩
    have hL := hA.ext hE hS hI2
    rcases exs2 hq hC2 with ⟨e1, rfl⟩ | ⟨e1, rfl⟩
    · refine g_catch [] ⟨0, 7, 8, 20⟩ [⟨0, 7, 13, 14⟩] rfl (fun z hz => nomatch hz) (by decide +kernel) (by decide) (by decide) cl_L_20 ca_xIO (fun q => ?_)
      refine g_astore dL_truckOf_8 (by decide) rfl ?_
      show G _ _ _ _ _ _ _ _ _ [_, _, _, _, _] _
      refine g_bipush (v := (-111)) dL_truckOf_10 (by decide) ?_
      exact g_iret rfl (nr_int _) dL_truckOf_12 (by decide) ⟨hE.1, hL, by unfold rv; rw [if_neg hq, e1]; rfl⟩
    · refine g_catch [⟨0, 7, 8, 20⟩] ⟨0, 7, 13, 14⟩ [] rfl (List.forall_mem_cons.mpr ⟨Or.inr ⟨by decide, _, cl_L_20, by decide +kernel, by decide +kernel⟩, (fun z hz => nomatch hz)⟩) (by decide +kernel) (by decide) (by decide) cl_L_14 ca_xIA (fun q => ?_)
      refine g_astore dL_truckOf_13 (by decide) rfl ?_
      show G _ _ _ _ _ _ _ _ _ [_, _, _, _, _] _
      refine g_bipush (v := (-112)) dL_truckOf_15 (by decide) ?_
      exact g_iret rfl (nr_int _) dL_truckOf_17 (by decide) ⟨hE.1, hL, by unfold rv; rw [if_neg hq, e1]; rfl⟩
theorem v_at {a : Int32} : ∃ zz, (sp_at S a).2.1 = .int zz := by
  unfold sp_at
  repeat' split
  all_goals exact ⟨_, rfl⟩
theorem e_at {a : Int32} : (sp_at S a).2.2 = S := by
  unfold sp_at
  repeat' split
  all_goals rfl
theorem w_at {a : Int32} (hA : LW x S A sh sz V) (hI2 : InvS (sp_at S a).2.2) : MCH E YL_at [(0, 5, 6, 20), (0, 5, 10, 25)] [.ref x, .int a] sh sz V (PLs x A sz (sp_at S a).2.2 (rv [-11, -13] (sp_at S a))) := by
  have hm := m_at (E := E) hA.1 hA.2.1.1.1 hA.2.2.1 (cp6 (exs := [xIO, nsC]) (q := sp_at S a))
  have hv := v_at (S := S) (a := a)
  generalize sp_at S a = q at hm hv hI2 ⊢
  obtain ⟨w9, hw⟩ := hv
  refine MCH.of (hh := [(0, 5, 6, 20), (0, 5, 10, 25)]) RL "at" rfl (by decide +kernel) rfl 1 [some (.ref x), some (.int a), none] rfl (Nat.le_of_ble_eq_true rfl) ?_
  show G E ML_at _ _ _ _ _ _ _ _ _
  refine g_aload_n dL_at_0 rfl ?_
  refine g_iload_n dL_at_1 rfl ?_
  refine g_callV (M := ML_at) (pc := 2) (Y := YX6_at) sv_L_62 rfl yn_X6_at 8 (by decide) rfl rfl dL_at_2 hm hA.s9 rfl rfl (gRoom_of rfl) (Nat.le_of_ble_eq_true rfl) (fun _ _ _ _ h => h.1.1) ?_ ?_
  · rintro v sh' sz' V' ⟨hE, hS, hq, rfl⟩
    have hL := hA.ext hE hS hI2
    rw [hw]
    show G _ _ _ _ _ _ _ _ _ _ [.int w9]
    exact g_iret rfl (nr_int _) dL_at_5 (by decide) ⟨hE.1, hL, by unfold rv; rw [if_pos hq, hw]⟩
  · rintro C sh' sz' V' ⟨hE, hS, hq, hC2⟩
    have hL := hA.ext hE hS hI2
    rcases exs2 hq hC2 with ⟨e1, rfl⟩ | ⟨e1, rfl⟩
    · refine g_catch [] ⟨0, 5, 6, 20⟩ [⟨0, 5, 10, 25⟩] rfl (fun z hz => nomatch hz) (by decide +kernel) (by decide) (by decide) cl_L_20 ca_xIO (fun q => ?_)
      refine g_astore_n dL_at_6 (by decide) rfl ?_
      show G _ _ _ _ _ _ _ _ _ [_, _, _] _
      refine g_bipush (v := (-11)) dL_at_7 (by decide) ?_
      exact g_iret rfl (nr_int _) dL_at_9 (by decide) ⟨hE.1, hL, by unfold rv; rw [if_neg hq, e1]; rfl⟩
    · refine g_catch [⟨0, 5, 6, 20⟩] ⟨0, 5, 10, 25⟩ [] rfl (List.forall_mem_cons.mpr ⟨Or.inr ⟨by decide, _, cl_L_20, by decide +kernel, by decide +kernel⟩, (fun z hz => nomatch hz)⟩) (by decide +kernel) (by decide) (by decide) cl_L_25 ca_nsC (fun q => ?_)
      refine g_astore_n dL_at_10 (by decide) rfl ?_
      show G _ _ _ _ _ _ _ _ _ [_, _, _] _
      refine g_bipush (v := (-13)) dL_at_11 (by decide) ?_
      exact g_iret rfl (nr_int _) dL_at_13 (by decide) ⟨hE.1, hL, by unfold rv; rw [if_neg hq, e1]; rfl⟩
theorem v_iceIn {a d : Int32} : ∃ zz, (sp_iceIn S a d).2.1 = .int zz := by
  unfold sp_iceIn
  repeat' split
  all_goals exact ⟨_, rfl⟩
theorem e_iceIn {a d : Int32} : (sp_iceIn S a d).2.2 = S := by
  unfold sp_iceIn
  repeat' split
  all_goals rfl
theorem w_iceIn {a d : Int32} (hA : LW x S A sh sz V) (hI2 : InvS (sp_iceIn S a d).2.2) : MCH E YL_iceIn [(0, 6, 7, 20), (0, 6, 11, 14)] [.ref x, .int a, .int d] sh sz V (PLs x A sz (sp_iceIn S a d).2.2 (rv [-11, -12] (sp_iceIn S a d))) := by
  have hm := m_iceIn (E := E) hA.1 hA.2.1.1.1 hA.2.2.1 (cp6 (exs := [xIO, xIA]) (q := sp_iceIn S a d))
  have hv := v_iceIn (S := S) (a := a) (d := d)
  generalize sp_iceIn S a d = q at hm hv hI2 ⊢
  obtain ⟨w9, hw⟩ := hv
  refine MCH.of (hh := [(0, 6, 7, 20), (0, 6, 11, 14)]) RL "iceIn" rfl (by decide +kernel) rfl 1 [some (.ref x), some (.int a), some (.int d), none] rfl (Nat.le_of_ble_eq_true rfl) ?_
  show G E ML_iceIn _ _ _ _ _ _ _ _ _
  refine g_aload_n dL_iceIn_0 rfl ?_
  refine g_iload_n dL_iceIn_1 rfl ?_
  refine g_iload_n dL_iceIn_2 rfl ?_
  refine g_callV (M := ML_iceIn) (pc := 3) (Y := YX6_iceIn) sv_L_71 rfl yn_X6_iceIn 8 (by decide) rfl rfl dL_iceIn_3 hm hA.s9 rfl rfl (gRoom_of rfl) (Nat.le_of_ble_eq_true rfl) (fun _ _ _ _ h => h.1.1) ?_ ?_
  · rintro v sh' sz' V' ⟨hE, hS, hq, rfl⟩
    have hL := hA.ext hE hS hI2
    rw [hw]
    show G _ _ _ _ _ _ _ _ _ _ [.int w9]
    exact g_iret rfl (nr_int _) dL_iceIn_6 (by decide) ⟨hE.1, hL, by unfold rv; rw [if_pos hq, hw]⟩
  · rintro C sh' sz' V' ⟨hE, hS, hq, hC2⟩
    have hL := hA.ext hE hS hI2
    rcases exs2 hq hC2 with ⟨e1, rfl⟩ | ⟨e1, rfl⟩
    · refine g_catch [] ⟨0, 6, 7, 20⟩ [⟨0, 6, 11, 14⟩] rfl (fun z hz => nomatch hz) (by decide +kernel) (by decide) (by decide) cl_L_20 ca_xIO (fun q => ?_)
      refine g_astore_n dL_iceIn_7 (by decide) rfl ?_
      show G _ _ _ _ _ _ _ _ _ [_, _, _, _] _
      refine g_bipush (v := (-11)) dL_iceIn_8 (by decide) ?_
      exact g_iret rfl (nr_int _) dL_iceIn_10 (by decide) ⟨hE.1, hL, by unfold rv; rw [if_neg hq, e1]; rfl⟩
    · refine g_catch [⟨0, 6, 7, 20⟩] ⟨0, 6, 11, 14⟩ [] rfl (List.forall_mem_cons.mpr ⟨Or.inr ⟨by decide, _, cl_L_20, by decide +kernel, by decide +kernel⟩, (fun z hz => nomatch hz)⟩) (by decide +kernel) (by decide) (by decide) cl_L_14 ca_xIA (fun q => ?_)
      refine g_astore_n dL_iceIn_11 (by decide) rfl ?_
      show G _ _ _ _ _ _ _ _ _ [_, _, _, _] _
      refine g_bipush (v := (-12)) dL_iceIn_12 (by decide) ?_
      exact g_iret rfl (nr_int _) dL_iceIn_14 (by decide) ⟨hE.1, hL, by unfold rv; rw [if_neg hq, e1]; rfl⟩
theorem v_bearsIn {a t : Int32} : ∃ zz, (sp_bearsIn S a t).2.1 = .int zz := by
  unfold sp_bearsIn
  repeat' split
  all_goals exact ⟨_, rfl⟩
theorem e_bearsIn {a t : Int32} : (sp_bearsIn S a t).2.2 = S := by
  unfold sp_bearsIn
  repeat' split
  all_goals rfl
theorem w_bearsIn {a t : Int32} (hA : LW x S A sh sz V) (hI2 : InvS (sp_bearsIn S a t).2.2) : MCH E YL_bearsIn [(0, 6, 7, 20), (0, 6, 11, 14), (0, 6, 15, 25)] [.ref x, .int a, .int t] sh sz V (PLs x A sz (sp_bearsIn S a t).2.2 (rv [-11, -12, -13] (sp_bearsIn S a t))) := by
  have hm := m_bearsIn (E := E) hA.1 hA.2.1.1.1 hA.2.2.1 (cp6 (exs := [xIO, xIA, nsC]) (q := sp_bearsIn S a t))
  have hv := v_bearsIn (S := S) (a := a) (t := t)
  generalize sp_bearsIn S a t = q at hm hv hI2 ⊢
  obtain ⟨w9, hw⟩ := hv
  refine MCH.of (hh := [(0, 6, 7, 20), (0, 6, 11, 14), (0, 6, 15, 25)]) RL "bearsIn" rfl (by decide +kernel) rfl 1 [some (.ref x), some (.int a), some (.int t), none] rfl (Nat.le_of_ble_eq_true rfl) ?_
  show G E ML_bearsIn _ _ _ _ _ _ _ _ _
  refine g_aload_n dL_bearsIn_0 rfl ?_
  refine g_iload_n dL_bearsIn_1 rfl ?_
  refine g_iload_n dL_bearsIn_2 rfl ?_
  refine g_callV (M := ML_bearsIn) (pc := 3) (Y := YX6_bearsIn) sv_L_74 rfl yn_X6_bearsIn 8 (by decide) rfl rfl dL_bearsIn_3 hm hA.s9 rfl rfl (gRoom_of rfl) (Nat.le_of_ble_eq_true rfl) (fun _ _ _ _ h => h.1.1) ?_ ?_
  · rintro v sh' sz' V' ⟨hE, hS, hq, rfl⟩
    have hL := hA.ext hE hS hI2
    rw [hw]
    show G _ _ _ _ _ _ _ _ _ _ [.int w9]
    exact g_iret rfl (nr_int _) dL_bearsIn_6 (by decide) ⟨hE.1, hL, by unfold rv; rw [if_pos hq, hw]⟩
  · rintro C sh' sz' V' ⟨hE, hS, hq, hC2⟩
    have hL := hA.ext hE hS hI2
    rcases exs3 hq hC2 with ⟨e1, rfl⟩ | ⟨e1, rfl⟩ | ⟨e1, rfl⟩
    · refine g_catch [] ⟨0, 6, 7, 20⟩ [⟨0, 6, 11, 14⟩, ⟨0, 6, 15, 25⟩] rfl (fun z hz => nomatch hz) (by decide +kernel) (by decide) (by decide) cl_L_20 ca_xIO (fun q => ?_)
      refine g_astore_n dL_bearsIn_7 (by decide) rfl ?_
      show G _ _ _ _ _ _ _ _ _ [_, _, _, _] _
      refine g_bipush (v := (-11)) dL_bearsIn_8 (by decide) ?_
      exact g_iret rfl (nr_int _) dL_bearsIn_10 (by decide) ⟨hE.1, hL, by unfold rv; rw [if_neg hq, e1]; rfl⟩
    · refine g_catch [⟨0, 6, 7, 20⟩] ⟨0, 6, 11, 14⟩ [⟨0, 6, 15, 25⟩] rfl (List.forall_mem_cons.mpr ⟨Or.inr ⟨by decide, _, cl_L_20, by decide +kernel, by decide +kernel⟩, (fun z hz => nomatch hz)⟩) (by decide +kernel) (by decide) (by decide) cl_L_14 ca_xIA (fun q => ?_)
      refine g_astore_n dL_bearsIn_11 (by decide) rfl ?_
      show G _ _ _ _ _ _ _ _ _ [_, _, _, _] _
      refine g_bipush (v := (-12)) dL_bearsIn_12 (by decide) ?_
      exact g_iret rfl (nr_int _) dL_bearsIn_14 (by decide) ⟨hE.1, hL, by unfold rv; rw [if_neg hq, e1]; rfl⟩
    · refine g_catch [⟨0, 6, 7, 20⟩, ⟨0, 6, 11, 14⟩] ⟨0, 6, 15, 25⟩ [] rfl (List.forall_mem_cons.mpr ⟨Or.inr ⟨by decide, _, cl_L_20, by decide +kernel, by decide +kernel⟩, (List.forall_mem_cons.mpr ⟨Or.inr ⟨by decide, _, cl_L_14, by decide +kernel, by decide +kernel⟩, (fun z hz => nomatch hz)⟩)⟩) (by decide +kernel) (by decide) (by decide) cl_L_25 ca_nsC (fun q => ?_)
      refine g_astore_n dL_bearsIn_15 (by decide) rfl ?_
      show G _ _ _ _ _ _ _ _ _ [_, _, _, _] _
      refine g_bipush (v := (-13)) dL_bearsIn_16 (by decide) ?_
      exact g_iret rfl (nr_int _) dL_bearsIn_18 (by decide) ⟨hE.1, hL, by unfold rv; rw [if_neg hq, e1]; rfl⟩
theorem v_pass {d : Int32} : ∃ zz, (sp_pass S d).2.1 = .int zz := by
  unfold sp_pass
  repeat' split
  all_goals exact ⟨_, rfl⟩
theorem w_pass {d : Int32} (hA : LW x S A sh sz V) (hI2 : InvS (sp_pass S d).2.2) : MCH E YL_pass [(0, 5, 6, 14)] [.ref x, .int d] sh sz V (PLs x A sz (sp_pass S d).2.2 (rv [-1] (sp_pass S d))) := by
  have hm := m_pass (E := E) hA.1 hA.2.1.1.1 hA.2.2.1 (cp6 (exs := [xIA]) (q := sp_pass S d))
  have hv := v_pass (S := S) (d := d)
  generalize sp_pass S d = q at hm hv hI2 ⊢
  obtain ⟨w9, hw⟩ := hv
  refine MCH.of (hh := [(0, 5, 6, 14)]) RL "pass" rfl (by decide +kernel) rfl 1 [some (.ref x), some (.int d), none] rfl (Nat.le_of_ble_eq_true rfl) ?_
  show G E ML_pass _ _ _ _ _ _ _ _ _
  refine g_aload_n dL_pass_0 rfl ?_
  refine g_iload_n dL_pass_1 rfl ?_
  refine g_callV (M := ML_pass) (pc := 2) (Y := YX6_pass) sv_L_77 rfl yn_X6_pass 8 (by decide) rfl rfl dL_pass_2 hm hA.s9 rfl rfl (gRoom_of rfl) (Nat.le_of_ble_eq_true rfl) (fun _ _ _ _ h => h.1.1) ?_ ?_
  · rintro v sh' sz' V' ⟨hE, hS, hq, rfl⟩
    have hL := hA.ext hE hS hI2
    rw [hw]
    show G _ _ _ _ _ _ _ _ _ _ [.int w9]
    exact g_iret rfl (nr_int _) dL_pass_5 (by decide) ⟨hE.1, hL, by unfold rv; rw [if_pos hq, hw]⟩
  · rintro C sh' sz' V' ⟨hE, hS, hq, hC2⟩
    have hL := hA.ext hE hS hI2
    obtain ⟨e1, rfl⟩ := exs1 hq hC2
    refine g_catch [] ⟨0, 5, 6, 14⟩ [] rfl (fun z hz => nomatch hz) (by decide +kernel) (by decide) (by decide) cl_L_14 ca_xIA (fun q => ?_)
    refine g_astore_n dL_pass_6 (by decide) rfl ?_
    show G _ _ _ _ _ _ _ _ _ [_, _, _] _
    refine g_iconst (v := (-1)) dL_pass_7 (by decide) ?_
    exact g_iret rfl (nr_int _) dL_pass_8 (by decide) ⟨hE.1, hL, by unfold rv; rw [if_neg hq, e1]; rfl⟩
theorem v_refusal {d : Int32} : ∃ zz, (sp_refusal S d).2.1 = .int zz := by
  unfold sp_refusal
  repeat' split
  all_goals exact ⟨_, rfl⟩
theorem e_refusal {d : Int32} : (sp_refusal S d).2.2 = S := by
  unfold sp_refusal
  repeat' split
  all_goals rfl
theorem w_refusal {d : Int32} (hA : LW x S A sh sz V) (hI2 : InvS (sp_refusal S d).2.2) : MCH E YL_refusal [(0, 5, 6, 25)] [.ref x, .int d] sh sz V (PLs x A sz (sp_refusal S d).2.2 (rv [-101] (sp_refusal S d))) := by
  have hm := m_refusal (E := E) hA.1 hA.2.1.2.2.2.2.1 hA.2.2.1 (cp6 (exs := [nsC]) (q := sp_refusal S d))
  have hv := v_refusal (S := S) (d := d)
  generalize sp_refusal S d = q at hm hv hI2 ⊢
  obtain ⟨w9, hw⟩ := hv
  refine MCH.of (hh := [(0, 5, 6, 25)]) RL "refusal" rfl (by decide +kernel) rfl 1 [some (.ref x), some (.int d), none] rfl (Nat.le_of_ble_eq_true rfl) ?_
  show G E ML_refusal _ _ _ _ _ _ _ _ _
  refine g_aload_n dL_refusal_0 rfl ?_
  refine g_iload_n dL_refusal_1 rfl ?_
  refine g_callV (M := ML_refusal) (pc := 2) (Y := YX6_refusal) sv_L_80 rfl yn_X6_refusal 8 (by decide) rfl rfl dL_refusal_2 hm hA.s9 rfl rfl (gRoom_of rfl) (Nat.le_of_ble_eq_true rfl) (fun _ _ _ _ h => h.1.1) ?_ ?_
  · rintro v sh' sz' V' ⟨hE, hS, hq, rfl⟩
    have hL := hA.ext hE hS hI2
    rw [hw]
    show G _ _ _ _ _ _ _ _ _ _ [.int w9]
    exact g_iret rfl (nr_int _) dL_refusal_5 (by decide) ⟨hE.1, hL, by unfold rv; rw [if_pos hq, hw]⟩
  · rintro C sh' sz' V' ⟨hE, hS, hq, hC2⟩
    have hL := hA.ext hE hS hI2
    obtain ⟨e1, rfl⟩ := exs1 hq hC2
    refine g_catch [] ⟨0, 5, 6, 25⟩ [] rfl (fun z hz => nomatch hz) (by decide +kernel) (by decide) (by decide) cl_L_25 ca_nsC (fun q => ?_)
    refine g_astore_n dL_refusal_6 (by decide) rfl ?_
    show G _ _ _ _ _ _ _ _ _ [_, _, _] _
    refine g_bipush (v := (-101)) dL_refusal_7 (by decide) ?_
    exact g_iret rfl (nr_int _) dL_refusal_9 (by decide) ⟨hE.1, hL, by unfold rv; rw [if_neg hq, e1]; rfl⟩
theorem v_append {c : Int32} : ∃ zz, (sp_append S c).2.1 = .int zz := by
  unfold sp_append
  repeat' split
  all_goals exact ⟨_, rfl⟩
theorem w_append {c : Int32} (hc : vp_nar .char c = c) (hA : LW x S A sh sz V) (hI2 : InvS (sp_append S c).2.2) : MCH E YL_append [(0, 5, 6, 88)] [.ref x, .int c] sh sz V (PLs x A sz (sp_append S c).2.2 (rv [-1] (sp_append S c))) := by
  have hm := m_append (E := E) hc hA.1 hA.2.1.2.2.2.2.2 hA.2.2.1 (cp6 (exs := [xIS]) (q := sp_append S c))
  have hv := v_append (S := S) (c := c)
  generalize sp_append S c = q at hm hv hI2 ⊢
  obtain ⟨w9, hw⟩ := hv
  refine MCH.of (hh := [(0, 5, 6, 88)]) RL "append" rfl (by decide +kernel) rfl 1 [some (.ref x), some (.int c), none] rfl (Nat.le_of_ble_eq_true rfl) ?_
  show G E ML_append _ _ _ _ _ _ _ _ _
  refine g_aload_n dL_append_0 rfl ?_
  refine g_iload_n dL_append_1 rfl ?_
  refine g_callV (M := ML_append) (pc := 2) (Y := YX6_append) sv_L_84 rfl yn_X6_append 8 (by decide) rfl rfl dL_append_2 hm hA.s9 rfl rfl (gRoom_of rfl) (Nat.le_of_ble_eq_true rfl) (fun _ _ _ _ h => h.1.1) ?_ ?_
  · rintro v sh' sz' V' ⟨hE, hS, hq, rfl⟩
    have hL := hA.ext hE hS hI2
    rw [hw]
    show G _ _ _ _ _ _ _ _ _ _ [.int w9]
    exact g_iret rfl (nr_int _) dL_append_5 (by decide) ⟨hE.1, hL, by unfold rv; rw [if_pos hq, hw]⟩
  · rintro C sh' sz' V' ⟨hE, hS, hq, hC2⟩
    have hL := hA.ext hE hS hI2
    obtain ⟨e1, rfl⟩ := exs1 hq hC2
    refine g_catch [] ⟨0, 5, 6, 88⟩ [] rfl (fun z hz => nomatch hz) (by decide +kernel) (by decide) (by decide) cl_L_88 ca_xIS (fun q => ?_)
    refine g_astore_n dL_append_6 (by decide) rfl ?_
    show G _ _ _ _ _ _ _ _ _ [_, _, _] _
    refine g_iconst (v := (-1)) dL_append_7 (by decide) ?_
    exact g_iret rfl (nr_int _) dL_append_8 (by decide) ⟨hE.1, hL, by unfold rv; rw [if_neg hq, e1]; rfl⟩
theorem v_read : ∃ zz, (sp_read S).2.1 = .int zz := by
  unfold sp_read
  repeat' split
  all_goals exact ⟨_, rfl⟩
theorem w_does (hA : LW x S A sh sz V) (hI2 : InvS (sp_read S).2.2) : MCH E YL_does [(0, 4, 5, 14), (0, 4, 8, 34)] [.ref x] sh sz V (PLs x A sz (sp_read S).2.2 (rv [-1, -2] (sp_read S))) := by
  have hm := m_read (E := E) hA.1 hA.2.1.1.1 hA.2.2.1 (cp6 (exs := [xIA, xUO]) (q := sp_read S))
  have hv := v_read (S := S)
  generalize sp_read S = q at hm hv hI2 ⊢
  obtain ⟨w9, hw⟩ := hv
  refine MCH.of (hh := [(0, 4, 5, 14), (0, 4, 8, 34)]) RL "does" rfl (by decide +kernel) rfl 1 [some (.ref x), none] rfl (Nat.le_of_ble_eq_true rfl) ?_
  show G E ML_does _ _ _ _ _ _ _ _ _
  refine g_aload_n dL_does_0 rfl ?_
  refine g_callV (M := ML_does) (pc := 1) (Y := YX6_read) sv_L_90 rfl yn_X6_read 8 (by decide) rfl rfl dL_does_1 hm hA.s9 rfl rfl (gRoom_of rfl) (Nat.le_of_ble_eq_true rfl) (fun _ _ _ _ h => h.1.1) ?_ ?_
  · rintro v sh' sz' V' ⟨hE, hS, hq, rfl⟩
    have hL := hA.ext hE hS hI2
    rw [hw]
    show G _ _ _ _ _ _ _ _ _ _ [.int w9]
    exact g_iret rfl (nr_int _) dL_does_4 (by decide) ⟨hE.1, hL, by unfold rv; rw [if_pos hq, hw]⟩
  · rintro C sh' sz' V' ⟨hE, hS, hq, hC2⟩
    have hL := hA.ext hE hS hI2
    rcases exs2 hq hC2 with ⟨e1, rfl⟩ | ⟨e1, rfl⟩
    · refine g_catch [] ⟨0, 4, 5, 14⟩ [⟨0, 4, 8, 34⟩] rfl (fun z hz => nomatch hz) (by decide +kernel) (by decide) (by decide) cl_L_14 ca_xIA (fun q => ?_)
      refine g_astore_n dL_does_5 (by decide) rfl ?_
      show G _ _ _ _ _ _ _ _ _ [_, _] _
      refine g_iconst (v := (-1)) dL_does_6 (by decide) ?_
      exact g_iret rfl (nr_int _) dL_does_7 (by decide) ⟨hE.1, hL, by unfold rv; rw [if_neg hq, e1]; rfl⟩
    · refine g_catch [⟨0, 4, 5, 14⟩] ⟨0, 4, 8, 34⟩ [] rfl (List.forall_mem_cons.mpr ⟨Or.inr ⟨by decide, _, cl_L_14, by decide +kernel, by decide +kernel⟩, (fun z hz => nomatch hz)⟩) (by decide +kernel) (by decide) (by decide) cl_L_34 ca_xUO (fun q => ?_)
      refine g_astore_n dL_does_8 (by decide) rfl ?_
      show G _ _ _ _ _ _ _ _ _ [_, _] _
      refine g_bipush (v := (-2)) dL_does_9 (by decide) ?_
      exact g_iret rfl (nr_int _) dL_does_11 (by decide) ⟨hE.1, hL, by unfold rv; rw [if_neg hq, e1]; rfl⟩
theorem v_undo : ∃ zz, (sp_undo S).2.1 = .int zz := by
  unfold sp_undo
  repeat' split
  all_goals exact ⟨_, rfl⟩
theorem w_undo (hA : LW x S A sh sz V) (hI2 : InvS (sp_undo S).2.2) : MCH E YL_undo [(0, 4, 5, 88)] [.ref x] sh sz V (PLs x A sz (sp_undo S).2.2 (rv [-1] (sp_undo S))) := by
  have hm := m_undo (E := E) hA.1 hA.2.2.1 (cp6 (exs := [xIS]) (q := sp_undo S))
  have hv := v_undo (S := S)
  generalize sp_undo S = q at hm hv hI2 ⊢
  obtain ⟨w9, hw⟩ := hv
  refine MCH.of (hh := [(0, 4, 5, 88)]) RL "undo" rfl (by decide +kernel) rfl 1 [some (.ref x), none] rfl (Nat.le_of_ble_eq_true rfl) ?_
  show G E ML_undo _ _ _ _ _ _ _ _ _
  refine g_aload_n dL_undo_0 rfl ?_
  refine g_callV (M := ML_undo) (pc := 1) (Y := YX6_undo) sv_L_112 rfl yn_X6_undo 8 (by decide) rfl rfl dL_undo_1 hm hA.s9 rfl rfl (gRoom_of rfl) (Nat.le_of_ble_eq_true rfl) (fun _ _ _ _ h => h.1.1) ?_ ?_
  · rintro v sh' sz' V' ⟨hE, hS, hq, rfl⟩
    have hL := hA.ext hE hS hI2
    rw [hw]
    show G _ _ _ _ _ _ _ _ _ _ [.int w9]
    exact g_iret rfl (nr_int _) dL_undo_4 (by decide) ⟨hE.1, hL, by unfold rv; rw [if_pos hq, hw]⟩
  · rintro C sh' sz' V' ⟨hE, hS, hq, hC2⟩
    have hL := hA.ext hE hS hI2
    obtain ⟨e1, rfl⟩ := exs1 hq hC2
    refine g_catch [] ⟨0, 4, 5, 88⟩ [] rfl (fun z hz => nomatch hz) (by decide +kernel) (by decide) (by decide) cl_L_88 ca_xIS (fun q => ?_)
    refine g_astore_n dL_undo_5 (by decide) rfl ?_
    show G _ _ _ _ _ _ _ _ _ [_, _] _
    refine g_iconst (v := (-1)) dL_undo_6 (by decide) ?_
    exact g_iret rfl (nr_int _) dL_undo_7 (by decide) ⟨hE.1, hL, by unfold rv; rw [if_neg hq, e1]; rfl⟩
theorem d_account {w : Int32} {v : Value} (hA : LW x S A sh sz V) (e : sp_account S w = (0, v, S)) : MC E YX6_account [.ref x, .int w] sh sz V (PLs x A sz S v) := m_account (E := E) hA.1 hA.2.1.1.1 hA.2.2.1 (by rw [e]; exact hA.cp (q := (0, v, S)) rfl hA.2.1)
theorem d_setting {w : Int32} {v : Value} (hA : LW x S A sh sz V) (e : sp_setting S w = (0, v, S)) : MC E YX6_setting [.ref x, .int w] sh sz V (PLs x A sz S v) := m_setting (E := E) hA.1 hA.2.2.1 (by rw [e]; exact hA.cp (q := (0, v, S)) rfl hA.2.1)
theorem d_sign {a : Int32} {v : Value} (hA : LW x S A sh sz V) (e : sp_sign S a = (0, v, S)) : MC E YX6_sign [.ref x, .int a] sh sz V (PLs x A sz S v) := m_sign (E := E) hA.1 hA.2.1.1.1 hA.2.2.1 (by rw [e]; exact hA.cp (q := (0, v, S)) rfl hA.2.1)
theorem d_weakest {v : Value} (hA : LW x S A sh sz V) (e : sp_weakest S = (0, v, S)) : MC E YX6_weakest [.ref x] sh sz V (PLs x A sz S v) := m_weakest (E := E) hA.1 hA.2.1.1.1 hA.2.2.1 (by rw [e]; exact hA.cp (q := (0, v, S)) rfl hA.2.1)
theorem d_meanBits {v : Value} (hA : LW x S A sh sz V) (e : sp_meanBits S = (0, v, S)) : MC E YX6_meanBits [.ref x] sh sz V (PLs x A sz S v) := m_meanBits (E := E) hA.1 hA.2.1.1.1 hA.2.2.1 (by rw [e]; exact hA.cp (q := (0, v, S)) rfl hA.2.1)
theorem d_isWell {v : Value} (hA : LW x S A sh sz V) (e : sp_isWell S = (0, v, S)) : MC E YX6_isWell [.ref x] sh sz V (PLs x A sz S v) := m_isWell (E := E) hA.1 hA.2.1.1 hA.2.2.1 (by rw [e]; exact hA.cp (q := (0, v, S)) rfl hA.2.1)
theorem d_ice {a : Int32} {v : Value} (hA : LW x S A sh sz V) (e : sp_ice S a = (0, v, S)) : MC E YX6_ice [.ref x, .int a] sh sz V (PLs x A sz S v) := m_ice (E := E) hA.1 hA.2.2.1 (by rw [e]; exact hA.cp (q := (0, v, S)) rfl hA.2.1)
theorem d_load {c p : Int32} {v : Value} (hA : LW x S A sh sz V) (e : sp_load S c p = (0, v, S)) : MC E YX6_load [.ref x, .int c, .int p] sh sz V (PLs x A sz S v) := m_load (E := E) hA.1 hA.2.1.1.1 hA.2.2.1 (by rw [e]; exact hA.cp (q := (0, v, S)) rfl hA.2.1)
theorem d_share {v : Value} (hA : LW x S A sh sz V) (e : sp_share S = (0, v, S)) : MC E YX6_share [.ref x] sh sz V (PLs x A sz S v) := m_share (E := E) hA.1 hA.2.2.1 (by rw [e]; exact hA.cp (q := (0, v, S)) rfl hA.2.1)
theorem d_bears {a : Int32} {v : Value} (hA : LW x S A sh sz V) (e : sp_bears S a = (0, v, S)) : MC E YX6_bears [.ref x, .int a] sh sz V (PLs x A sz S v) := m_bears (E := E) hA.1 hA.2.1.1.1 hA.2.2.1 (by rw [e]; exact hA.cp (q := (0, v, S)) rfl hA.2.1)
theorem d_rolls {c : Int32} {v : Value} (hA : LW x S A sh sz V) (e : sp_rolls S c = (0, v, S)) : MC E YX6_rolls [.ref x, .int c] sh sz V (PLs x A sz S v) := m_rolls (E := E) hA.1 hA.2.1.1.1 hA.2.2.1 (by rw [e]; exact hA.cp (q := (0, v, S)) rfl hA.2.1)
theorem d_rollsAgain {c : Int32} {v : Value} (hA : LW x S A sh sz V) (e : sp_rolls S c = (0, v, S)) : MC E YX6_rollsAgain [.ref x, .int c] sh sz V (PLs x A sz S v) := m_rollsAgain (E := E) hA.1 hA.2.1.1.1 hA.2.2.1 (by rw [e]; exact hA.cp (q := (0, v, S)) rfl hA.2.1)
end WRAP

