/-! the Road's questions, further: rows, joining, what comes ahead, one truck a mile -/
section ROAD4
theorem wm_ini : Cond.initialized "java/lang/Math" ∈ gW := gW_at 19 (by decide +kernel) (by decide +kernel)
theorem wm_mmin_s : Cond.static Lib.Math.min.name ∈ gW := gW_at 356 (by decide +kernel) (by decide +kernel)
theorem wm_mmin_c : Cond.code Lib.Math.min.name Lib.Math.min.code 2 (some .int) ∈ gW := gW_at 357 (by decide +kernel) (by decide +kernel)
theorem wm_mmax_s : Cond.static Lib.Math.max.name ∈ gW := gW_at 393 (by decide +kernel) (by decide +kernel)
theorem wm_mmax_c : Cond.code Lib.Math.max.name Lib.Math.max.code 2 (some .int) ∈ gW := gW_at 394 (by decide +kernel) (by decide +kernel)
variable {E : gE} {M : gM} {P : gP} {sh : Sh} {sz : Nat} {V : Vl} {cu su pc : Nat} {L : List (Option Value)} {rest : List Value} {r : Nat} {f : Fl}
theorem RoadAt.rw0 {k : Nat} (h : RoadAt sh V r f) (hk : k < 10) (h0 : f (oR k) = 0) : V (r + 3) (nI k).toNatClampNeg = .null := at_nI (by omega) ((h.2.2.2.2.1 k hk).1 h0)
theorem RoadAt.rw1 {k : Nat} (h : RoadAt sh V r f) (hk : k < 10) (h0 : ¬ f (oR k) = 0) : ∃ q, V (r + 3) (nI k).toNatClampNeg = .ref q ∧ TrAt sh V q (nI (k / 5), f (oR k), f (oR k + 1)) := by
  obtain ⟨q, h1, h2⟩ := (h.2.2.2.2.1 k hk).2 h0
  exact ⟨q, at_nI (by omega) h1, h2⟩
theorem ix5 (a k : Nat) : nI a * nI 5 + nI k = nI (a * 5 + k) := by rw [pk_mul, nI_add]
/-- the lowest free place of row a, -1 if there is none -/
def freeF (f : Fl) (a : Nat) : Int32 := fstI (fun k => decide (f (oR (a * 5 + k)) = 0)) 5
theorem c_freePlace {a : Nat} (h : RoadAt sh V r f) (ha : a < 2) (hP : P (.inl (some (.int (freeF f a)))) sh sz V) : MC E YX4_freePlace [.ref r, .int (nI a)] sh sz V P := by
  unfold freeF at hP
  refine MC.of RX4 "freePlace" rfl (by decide +kernel) rfl 1 [_, _, none] rfl (Nat.le_of_ble_eq_true rfl) ?_
  show G E MX4_freePlace _ _ _ _ _ _ _ _ _
  refine g_iconst (v := nI 0) dX4_freePlace_0 (by decide) ?_
  refine g_istore_n dX4_freePlace_1 (by decide) rfl ?_
  show G _ _ _ _ _ _ _ _ _ [_, _, _] _
  suffices K : ∀ (d i : Nat), i + d = 5 → (∀ k, k < i → ¬ f (oR (a * 5 + k)) = 0) → G E MX4_freePlace P sh sz V 0 0 2 [some (.ref r), some (.int (nI a)), some (.int (nI i))] [] from K 5 0 (by omega) (fun k hk => absurd hk (Nat.not_lt_zero k))
  intro d
  induction d with
  | zero =>
    intro i hi hk
    have e : i = 5 := by omega
    subst e
    refine g_iload_n dX4_freePlace_2 rfl ?_
    refine g_iconst (v := nI 5) dX4_freePlace_3 (by decide) ?_
    refine g_icmp_ge (tgt := 28) dX4_freePlace_4 (by decide) (fun _ => ?_) (fun hq => absurd (Int32.le_refl _) hq)
    rw [fstI_none (fun k hk2 => decide_eq_false (hk k hk2))] at hP
    refine g_iconst (v := (-1)) dX4_freePlace_28 (by decide) ?_
    exact g_iret rfl (nr_int _) dX4_freePlace_29 (by decide) hP
  | succ d ih =>
    intro i hi hk
    refine g_iload_n dX4_freePlace_2 rfl ?_
    refine g_iconst (v := nI 5) dX4_freePlace_3 (by decide) ?_
    refine g_icmp_ge (tgt := 28) dX4_freePlace_4 (by decide) (fun hq => absurd hq (nI_ge (by omega) (by decide))) (fun _ => ?_)
    refine g_aload_n dX4_freePlace_7 rfl ?_
    refine g_get 6 rfl (by decide) inX4 3 (by decide) fl_X4_27 dX4_freePlace_8 h.1.1 h.2.1.2.2.2.1 ?_
    refine g_iload_n dX4_freePlace_11 rfl ?_
    refine g_iconst (v := nI 5) dX4_freePlace_12 (by decide) ?_
    refine g_imul dX4_freePlace_13 ?_
    refine g_iload_n dX4_freePlace_14 rfl ?_
    refine g_iadd dX4_freePlace_15 ?_
    rw [ix5]
    by_cases q : f (oR (a * 5 + i)) = 0
    · rw [fstI_eq (i := i) (by omega) (decide_eq_true q) (fun k hk2 => decide_eq_false (hk k hk2))] at hP
      refine g_aaload _ dX4_freePlace_16 h.1.2.2.2.1 (by decide) (by decide) (vp_in_nI (by omega) (by decide)) (h.rw0 (by omega) q) ?_
      refine g_ifnonnullN dX4_freePlace_17 ?_
      refine g_iload_n dX4_freePlace_20 rfl ?_
      exact g_iret rfl (nr_int _) dX4_freePlace_21 (by decide) hP
    · obtain ⟨t, e1, e2⟩ := h.rw1 (by omega) q
      refine g_aaload _ dX4_freePlace_16 h.1.2.2.2.1 (by decide) (by decide) (vp_in_nI (by omega) (by decide)) e1 ?_
      refine g_ifnonnull (tgt := 22) dX4_freePlace_17 (by decide) ?_
      refine g_iinc dX4_freePlace_22 rfl (by first | exact nI_inc _ | rfl) (by decide) rfl ?_
      show G _ _ _ _ _ _ _ _ _ [_, _, _] _
      refine g_jump (tgt := 2) dX4_freePlace_25 (by decide) ?_
      exact ih (i + 1) (by omega) (fun k hk2 => by
        rcases Nat.lt_succ_iff_lt_or_eq.mp hk2 with z | rfl
        · exact hk k z
        · exact q)
/-- a place of a row -/
abbrev isPl (y z : Int32) : Prop := (0 ≤ y ∧ y < nI 2) ∧ (0 ≤ z ∧ z < nI 5)
/-- what stands in the way of a joining, in one number -/
noncomputable def joinA (f : Fl) (x y z : Int32) : Int32 := @ite _ (isC f x ∧ isPl y z) (Classical.propDecidable _) (if f (oR (y.toNatClampNeg * 5 + z.toNatClampNeg)) = 0 then -2 else enc (joinO f x.toNatClampNeg)) (-1)
theorem joinA_f {f : Fl} {x y z : Int32} (h : ¬ (isC f x ∧ isPl y z)) : joinA f x y z = -1 := if_neg h
theorem joinA_t {f : Fl} {c a b : Nat} (hI : InvB f) (hc : c < cnt f) (ha : a < 2) (hb : b < 5) : joinA f (nI c) (nI a) (nI b) = if f (oR (a * 5 + b)) = 0 then -2 else enc (joinO f c) := by
  have hI1 := hI.1.2
  unfold joinA
  rw [if_pos ⟨⟨nI_pos' (by omega), nI_lt hc (by omega)⟩, ⟨nI_pos' (by omega), nI_lt ha (by decide)⟩, nI_pos' (by omega), nI_lt hb (by decide)⟩, nI_clamp (by omega), nI_clamp (by omega), nI_clamp (by omega)]
theorem c_joinObstacle {x y z : Int32} (h : RoadAt sh V r f) (hI : InvB f) (hP : P (.inl (some (.int (joinA f x y z)))) sh sz V) : MC E YX4_joinObstacle [.ref r, .int x, .int y, .int z] sh sz V P := by
  have hI1 := hI.1.2
  refine MC.of RX4 "joinObstacle" rfl (by decide +kernel) rfl 0 [_, _, _, _] rfl (Nat.le_of_ble_eq_true rfl) ?_
  show G E MX4_joinObstacle _ _ _ _ _ _ _ _ _
  have K : ¬ (isC f x ∧ isPl y z) → G E MX4_joinObstacle P sh sz V 0 0 22 [some (.ref r), some (.int x), some (.int y), some (.int z)] [] := by
    intro q
    rw [joinA_f q] at hP
    refine g_iconst (v := (-1)) dX4_joinObstacle_22 (by decide) ?_
    exact g_iret rfl (nr_int _) dX4_joinObstacle_23 (by decide) hP
  refine g_aload_n dX4_joinObstacle_0 rfl ?_
  refine g_iload_n dX4_joinObstacle_1 rfl ?_
  refine g_callVp (Y := YX4_isConvoy) sv_X4_58 rfl yn_X4_isConvoy 6 (by decide) rfl rfl dX4_joinObstacle_2 (c_isConvoy h hI pR_ok) h.1.1 rfl rfl rfl (Nat.le_of_ble_eq_true rfl) ⟨rfl, rfl⟩ ?_
  refine g_if_eq (tgt := 22) dX4_joinObstacle_5 (by decide) (fun b1 => ?_) (fun b1 => ?_)
  · exact K (fun q => bi_eq b1 q.1)
  refine g_iload_n dX4_joinObstacle_8 rfl ?_
  refine g_callSNp (Y := YX6_isRow) wc_X6_isRow mn_X4_94 wt_X6_isRow ini_X6 yn_X6_isRow dX4_joinObstacle_9 (c_isRow pR_ok) rfl rfl rfl (Nat.le_of_ble_eq_true rfl) ⟨rfl, rfl⟩ ?_
  refine g_if_eq (tgt := 22) dX4_joinObstacle_12 (by decide) (fun b2 => ?_) (fun b2 => ?_)
  · exact K (fun q => bi_eq b2 q.2.1)
  refine g_iload_n dX4_joinObstacle_15 rfl ?_
  refine g_callSNp (Y := YX6_isPlace) wc_X6_isPlace mn_X4_97 wt_X6_isPlace ini_X6 yn_X6_isPlace dX4_joinObstacle_16 (c_isPlace pR_ok) rfl rfl rfl (Nat.le_of_ble_eq_true rfl) ⟨rfl, rfl⟩ ?_
  refine g_if_ne (tgt := 24) dX4_joinObstacle_19 (by decide) (fun b3 => ?_) (fun b3 => ?_)
  · clear K
    obtain ⟨c, hc, rfl⟩ := isC_of hI (bi_ne b1)
    obtain ⟨a, ha, rfl⟩ := in_nI (bi_ne b2).1 (bi_ne b2).2 (by decide)
    obtain ⟨b, hb, rfl⟩ := in_nI (bi_ne b3).1 (bi_ne b3).2 (by decide)
    rw [joinA_t hI hc ha hb] at hP
    have hv := h.cv hI hc
    obtain ⟨c0, ca, c1, c2, c3, c4, c5, c6, c7⟩ := id hv
    refine g_aload_n dX4_joinObstacle_24 rfl ?_
    refine g_get 6 rfl (by decide) inX4 3 (by decide) fl_X4_27 dX4_joinObstacle_25 h.1.1 h.2.1.2.2.2.1 ?_
    refine g_iload_n dX4_joinObstacle_28 rfl ?_
    refine g_iconst (v := nI 5) dX4_joinObstacle_29 (by decide) ?_
    refine g_imul dX4_joinObstacle_30 ?_
    refine g_iload_n dX4_joinObstacle_31 rfl ?_
    refine g_iadd dX4_joinObstacle_32 ?_
    rw [ix5]
    by_cases q : f (oR (a * 5 + b)) = 0
    · rw [if_pos q] at hP
      refine g_aaload _ dX4_joinObstacle_33 h.1.2.2.2.1 (by decide) (by decide) (vp_in_nI (by omega) (by decide)) (h.rw0 (by omega) q) ?_
      refine g_ifnonnullN dX4_joinObstacle_34 ?_
      refine g_bipush (v := (-2)) dX4_joinObstacle_37 (by decide) ?_
      exact g_iret rfl (nr_int _) dX4_joinObstacle_39 (by decide) hP
    · rw [if_neg q] at hP
      unfold joinO at hP
      obtain ⟨t, e1, e2⟩ := h.rw1 (by omega) q
      refine g_aaload _ dX4_joinObstacle_33 h.1.2.2.2.1 (by decide) (by decide) (vp_in_nI (by omega) (by decide)) e1 ?_
      refine g_ifnonnull (tgt := 40) dX4_joinObstacle_34 (by decide) ?_
      refine g_aload_n dX4_joinObstacle_40 rfl ?_
      refine g_get 6 rfl (by decide) inX4 4 (by decide) fl_X4_33 dX4_joinObstacle_41 h.1.1 h.2.1.2.2.2.2.1 ?_
      refine g_iload_n dX4_joinObstacle_44 rfl ?_
      refine g_aaload _ dX4_joinObstacle_45 h.1.2.2.2.2 (by decide) (by decide) (vp_in_nI (by omega) (by decide)) (h.cvr (by omega)) ?_
      refine g_callVp (Y := YX0_hasStarted) sv_X4_100 rfl yn_X0_hasStarted 2 (by decide) rfl rfl dX4_joinObstacle_46 (c_hasStarted c0 c2 pR_ok) c0 rfl rfl rfl (Nat.le_of_ble_eq_true rfl) ⟨rfl, rfl⟩ ?_
      refine g_if_eq (tgt := 58) dX4_joinObstacle_49 (by decide) (fun b4 => ?_) (fun b4 => ?_)
      · rw [if_neg (bi_eq b4)] at hP
        refine g_aload_n dX4_joinObstacle_58 rfl ?_
        refine g_get 6 rfl (by decide) inX4 4 (by decide) fl_X4_33 dX4_joinObstacle_59 h.1.1 h.2.1.2.2.2.2.1 ?_
        refine g_iload_n dX4_joinObstacle_62 rfl ?_
        refine g_aaload _ dX4_joinObstacle_63 h.1.2.2.2.2 (by decide) (by decide) (vp_in_nI (by omega) (by decide)) (h.cvr (by omega)) ?_
        refine g_get 2 rfl (by decide) inX0 2 (by decide) fl_X4_108 dX4_joinObstacle_64 c0 c3 ?_
        refine g_iconst (v := nI 4) dX4_joinObstacle_67 (by decide) ?_
        refine g_icmp_ge (tgt := 75) dX4_joinObstacle_68 (by decide) (fun b5 => ?_) (fun b5 => ?_)
        · rw [if_neg (by rw [nI_leI (by decide) (by omega)] at b5; omega)] at hP
          refine g_iconst (v := nI 1) dX4_joinObstacle_75 (by decide) ?_
          refine g_iconst (v := nI 4) dX4_joinObstacle_76 (by decide) ?_
          refine g_callSNp (Y := YX6_refusalFor) wc_X6_refusalFor mn_X4_104 wt_X6_refusalFor ini_X6 yn_X6_refusalFor dX4_joinObstacle_77 (c_refusalFor pR_ok) rfl rfl rfl (Nat.le_of_ble_eq_true rfl) ⟨rfl, rfl⟩ ?_
          exact g_iret rfl (nr_int _) dX4_joinObstacle_80 (by decide) hP
        · rw [if_pos (by rw [nI_leI (by decide) (by omega)] at b5; omega), enc0] at hP
          refine g_iconst (v := nI 0) dX4_joinObstacle_71 (by decide) ?_
          refine g_jump (tgt := 80) dX4_joinObstacle_72 (by decide) ?_
          exact g_iret rfl (nr_int _) dX4_joinObstacle_80 (by decide) hP
      · rw [if_pos (bi_ne b4)] at hP
        refine g_iconst (v := nI 4) dX4_joinObstacle_52 (by decide) ?_
        refine g_iload_n dX4_joinObstacle_53 rfl ?_
        refine g_callSNp (Y := YX6_refusalFor) wc_X6_refusalFor mn_X4_104 wt_X6_refusalFor ini_X6 yn_X6_refusalFor dX4_joinObstacle_54 (c_refusalFor pR_ok) rfl rfl rfl (Nat.le_of_ble_eq_true rfl) ⟨rfl, rfl⟩ ?_
        exact g_iret rfl (nr_int _) dX4_joinObstacle_57 (by decide) hP
  · exact K (fun q => bi_eq b3 q.2.2)
theorem c_truckIn {x y : Int32} (h : RoadAt sh V r f) (hI : InvB f) (hP1 : ∀ c k q, x = nI c → y = nI k → c < cnt f → k < ncv f c → TrAt sh V q (tkF f c k) → P (.inl (some (.ref q))) sh sz V)
    (hP2 : (∀ c k, c < cnt f → k < ncv f c → ¬ (x = nI c ∧ y = nI k)) → P (.inl (some .null)) sh sz V) : MC E YX4_truckIn [.ref r, .int x, .int y] sh sz V P := by
  have hI1 := hI.1.2
  refine MC.of RX4 "truckIn" rfl (by decide +kernel) rfl 0 [_, _, _] rfl (Nat.le_of_ble_eq_true rfl) ?_
  show G E MX4_truckIn _ _ _ _ _ _ _ _ _
  have K : (∀ c k, c < cnt f → k < ncv f c → ¬ (x = nI c ∧ y = nI k)) → G E MX4_truckIn P sh sz V 0 0 17 [some (.ref r), some (.int x), some (.int y)] [] := by
    intro q
    refine g_null dX4_truckIn_17 ?_
    exact g_aret rfl (Or.inl ⟨_, rfl⟩) (Or.inl rfl) dX4_truckIn_18 (by decide) (hP2 q)
  refine g_aload_n dX4_truckIn_0 rfl ?_
  refine g_iload_n dX4_truckIn_1 rfl ?_
  refine g_callVp (Y := YX4_isConvoy) sv_X4_58 rfl yn_X4_isConvoy 6 (by decide) rfl rfl dX4_truckIn_2 (c_isConvoy h hI pR_ok) h.1.1 rfl rfl rfl (Nat.le_of_ble_eq_true rfl) ⟨rfl, rfl⟩ ?_
  refine g_if_eq (tgt := 17) dX4_truckIn_5 (by decide) (fun b1 => ?_) (fun b1 => ?_)
  · exact K (fun c k hc hk q => bi_eq b1 (by rw [q.1]; exact ⟨nI_pos' (by omega), nI_lt hc (by omega)⟩))
  refine g_iload_n dX4_truckIn_8 rfl ?_
  refine g_if_lt (tgt := 17) dX4_truckIn_9 (by decide) (fun b2 => ?_) (fun b2 => ?_)
  · exact K (fun c k hc hk q => by
      have := (hI.2.2.2.2.2 c hc).2.2.1
      rw [q.2] at b2
      exact nI_pos (by omega) b2)
  refine g_iload_n dX4_truckIn_12 rfl ?_
  refine g_iconst (v := nI 4) dX4_truckIn_13 (by decide) ?_
  refine g_icmp_lt (tgt := 19) dX4_truckIn_14 (by decide) (fun b3 => ?_) (fun b3 => ?_)
  · obtain ⟨c, hc, rfl⟩ := isC_of hI (bi_ne b1)
    obtain ⟨k, hk, rfl⟩ := in_nI (Int32.not_lt.mp b2) b3 (by decide)
    have hv := h.cv hI hc
    obtain ⟨c0, ca, c1, c2, c3, c4, c5, c6, c7⟩ := id hv
    refine g_aload_n dX4_truckIn_19 rfl ?_
    refine g_get 6 rfl (by decide) inX4 4 (by decide) fl_X4_33 dX4_truckIn_20 h.1.1 h.2.1.2.2.2.2.1 ?_
    refine g_iload_n dX4_truckIn_23 rfl ?_
    refine g_aaload _ dX4_truckIn_24 h.1.2.2.2.2 (by decide) (by decide) (vp_in_nI (by omega) (by decide)) (h.cvr (by omega)) ?_
    refine g_get 2 rfl (by decide) inX0 3 (by decide) fl_X4_62 dX4_truckIn_25 c0 c4 ?_
    refine g_iload_n dX4_truckIn_28 rfl ?_
    rcases Nat.lt_or_ge k (ncv f c) with q | q
    · obtain ⟨t, e1, e2⟩ := c6 k q
      refine g_aaload _ dX4_truckIn_29 ca (by decide) (by decide) (vp_in_nI (by omega) (by decide)) (at_nI (by omega) e1) ?_
      exact g_aret rfl (Or.inl ⟨_, rfl⟩) (Or.inr ⟨_, rfl⟩) dX4_truckIn_30 (by decide) (hP1 c k t rfl rfl hc q e2)
    · refine g_aaload _ dX4_truckIn_29 ca (by decide) (by decide) (vp_in_nI (by omega) (by decide)) (at_nI (by omega) (c7 k q (by omega))) ?_
      have hno : ∀ c' k', c' < cnt f → k' < ncv f c' → ¬ (nI c = nI c' ∧ nI k = nI k') := fun c' k' hc' hk' z => by
        have w1 := (hI.2.2.2.2.2 c' hc').2.2.1
        have w2 := (nI_eq (a := c) (b := c') (by omega) (by omega)).mp z.1
        have w3 := (nI_eq (a := k) (b := k') (by omega) (by omega)).mp z.2
        subst w2
        omega
      exact g_aret rfl (Or.inl ⟨_, rfl⟩) (Or.inl rfl) dX4_truckIn_30 (by decide) (hP2 hno)
  · exact K (fun c k hc hk q => by
      have := (hI.2.2.2.2.2 c hc).2.2.1
      rw [q.2] at b3
      exact b3 (nI_lt (by omega) (by decide)))
/-! what comes ahead -/
theorem sI_nI {p : Nat → Int32} {B : Nat} : ∀ {k : Nat}, (∀ j, j < k → ∃ n, n ≤ B ∧ p j = nI n) → ∃ n, n ≤ B * k ∧ sI p k = nI n
  | 0, _ => ⟨0, by omega, rfl⟩
  | k + 1, h => by
    obtain ⟨n, h1, h2⟩ := sI_nI (k := k) (fun j hj => h j (by omega))
    obtain ⟨m, h3, h4⟩ := h k (by omega)
    refine ⟨n + m, ?_, by rw [sI_succ, h2, h4, nI_add]⟩
    rw [Nat.mul_succ]
    omega
theorem stn_nI {t : Int32 × Int32 × Int32} (h : okT t) : ∃ n, n ≤ 7 ∧ stn t = nI n := by
  obtain ⟨-, ⟨w, w1, w2, hw⟩, -⟩ := h
  refine ⟨w / 10 + 1, by omega, ?_⟩
  unfold stn
  rw [hw, pk_div (by omega) (by decide) (by decide), nI_add]
/-- the cracks of mile j behind more strain -/
def cra (f : Fl) (j : Nat) (x : Int32) : Int32 := if nI 5 < f (oM j 1) + (f (oM j 2) + x) / nI 20 then nI 5 else f (oM j 1) + (f (oM j 2) + x) / nI 20
theorem cra_nI {f : Fl} (hI : InvB f) {j x : Nat} (hj : j < 12) (hx : x ≤ 1000) : ∃ c, c ≤ 5 ∧ cra f j (nI x) = nI c := by
  obtain ⟨-, -, ⟨a, ha, e1⟩, s, hs, e2⟩ := hI.2.2.2.1 j hj
  have e : f (oM j 1) + (f (oM j 2) + nI x) / nI 20 = nI (a + (s + x) / 20) := by
    rw [e1, e2, nI_add, pk_div (by omega) (by decide) (by decide), nI_add]
  unfold cra
  rw [e]
  rcases Nat.lt_or_ge 5 (a + (s + x) / 20) with q | q
  · exact ⟨5, by omega, if_pos (nI_lt q (by omega))⟩
  · exact ⟨_, q, if_neg (nI_nlt q (by decide))⟩
theorem c_cracksAfter {j : Nat} {x : Int32} (h : RoadAt sh V r f) (hj : j < 12) (hP : P (.inl (some (.int (cra f j x)))) sh sz V) : MC E YX2_cracksAfter [.ref (r + 5 + j), .int x] sh sz V P := by
  obtain ⟨m0, m1, m2, m3, m4, m5, m6⟩ := h.mi hj
  unfold cra at hP
  refine MC.of RX2 "cracksAfter" rfl (by decide +kernel) rfl 0 [_, _] rfl (Nat.le_of_ble_eq_true rfl) ?_
  show G E MX2_cracksAfter _ _ _ _ _ _ _ _ _
  refine g_aload_n dX2_cracksAfter_0 rfl ?_
  refine g_get 4 rfl (by decide) inX2 3 (by decide) fl_X2_23 dX2_cracksAfter_1 m0 m4 ?_
  refine g_aload_n dX2_cracksAfter_4 rfl ?_
  refine g_get 4 rfl (by decide) inX2 4 (by decide) fl_X2_26 dX2_cracksAfter_5 m0 m5 ?_
  refine g_iload_n dX2_cracksAfter_8 rfl ?_
  refine g_iadd dX2_cracksAfter_9 ?_
  refine g_bipush (v := nI 20) dX2_cracksAfter_10 (by decide) ?_
  refine g_idiv dX2_cracksAfter_12 (by decide) ?_
  refine g_iadd dX2_cracksAfter_13 ?_
  refine g_iconst (v := nI 5) dX2_cracksAfter_14 (by decide) ?_
  refine g_mmin ml_X2_38 wm_mmin_s wm_ini wm_mmin_c dX2_cracksAfter_15 (Nat.le_of_ble_eq_true rfl) (Nat.le_of_ble_eq_true rfl) ⟨Nat.le_of_ble_eq_true rfl, Nat.le_of_ble_eq_true rfl⟩ ?_
  exact g_iret rfl (nr_int _) dX2_cracksAfter_18 (by decide) hP
/-- the strain on a mile by the trucks of convoy c ahead of place k -/
def sab (f : Fl) (c k : Nat) (m : Int32) : Int32 := sI (fun j => if m ≤ mt (f (oC c 2)) (f (oC c 0)) j then nI 0 else stn (tkF f c j)) k
def wk2 (f : Fl) (c : Nat) (ld : Int32) (k : Nat) : Prop := Op.cmpValue (FP.fcmp (bdF f (mw ld (f (oC c 0)) k).toNatClampNeg (cra f (mw ld (f (oC c 0)) k).toNatClampNeg (sab f c k (mw ld (f (oC c 0)) k)))) (bud (tkF f c k))) .g < 0
def bad2 (f : Fl) (c : Nat) (ld : Int32) (k : Nat) : Prop := isM (mw ld (f (oC c 0)) k) ∧ (tkn f (mw ld (f (oC c 0)) k) (nI c) ∨ wk2 f c ld k)
def couldF (f : Fl) (c : Nat) (ld : Int32) : Prop := ∀ k, k < ncv f c → ¬ bad2 f c ld k
theorem sab_nI {f : Fl} (hI : InvB f) {c k : Nat} {m : Int32} (hc : c < cnt f) (hk : k ≤ ncv f c) : ∃ n, n ≤ 28 ∧ sab f c k m = nI n := by
  have w := (hI.2.2.2.2.2 c hc).2.2
  obtain ⟨n, h1, h2⟩ := sI_nI (p := fun j => if m ≤ mt (f (oC c 2)) (f (oC c 0)) j then nI 0 else stn (tkF f c j)) (B := 7) (k := k) (fun j hj => by
    by_cases q : m ≤ mt (f (oC c 2)) (f (oC c 0)) j
    · exact ⟨0, by omega, if_pos q⟩
    · obtain ⟨n, h1, h2⟩ := stn_nI (w.2.2 j (by omega))
      exact ⟨n, h1, by rw [← h2]; exact if_neg q⟩)
  exact ⟨n, by have := w.1; omega, h2⟩
theorem c_couldLeadBe {c : Nat} {ld : Int32} (h : RoadAt sh V r f) (hI : InvB f) (hc : c < cnt f) (hP : P (.inl (some (.int (ci (couldF f c ld))))) sh sz V) : MC E YX4_couldLeadBe [.ref r, .int (nI c), .int ld] sh sz V P := by
  have hI1 := hI.1.2
  have hv := h.cv hI hc
  obtain ⟨c0, ca, c1, c2, c3, c4, c5, c6, c7⟩ := id hv
  refine MC.of RX4 "couldLeadBe" rfl (by decide +kernel) rfl 5 [_, _, _, none, none, none, none, none] rfl (Nat.le_of_ble_eq_true rfl) ?_
  show G E MX4_couldLeadBe _ _ _ _ _ _ _ _ _
  refine g_aload_n dX4_couldLeadBe_0 rfl ?_
  refine g_get 6 rfl (by decide) inX4 4 (by decide) fl_X4_33 dX4_couldLeadBe_1 h.1.1 h.2.1.2.2.2.2.1 ?_
  refine g_iload_n dX4_couldLeadBe_4 rfl ?_
  refine g_aaload _ dX4_couldLeadBe_5 h.1.2.2.2.2 (by decide) (by decide) (vp_in_nI (by omega) (by decide)) (h.cvr (by omega)) ?_
  refine g_astore_n dX4_couldLeadBe_6 (by decide) rfl ?_
  show G _ _ _ _ _ _ _ _ _ [_, _, _, _, _, _, _, _] _
  refine g_iconst (v := nI 0) dX4_couldLeadBe_7 (by decide) ?_
  refine g_istore dX4_couldLeadBe_8 (by decide) rfl ?_
  show G _ _ _ _ _ _ _ _ _ [_, _, _, _, _, _, _, _] _
  suffices K : ∀ (d i : Nat), i + d = 4 → (∀ j, j < i → j < ncv f c → ¬ bad2 f c ld j) → ∀ z5 z6 z7, G E MX4_couldLeadBe P sh sz V 0 0 10 [some (.ref r), some (.int (nI c)), some (.int ld), some (.ref (r + 17 + 2 * c)), some (.int (nI i)), z5, z6, z7] [] from K 4 0 rfl (fun j hj => absurd hj (Nat.not_lt_zero j)) _ _ _
  intro d
  induction d with
  | zero =>
    intro i hi hw z5 z6 z7
    have e4 : i = 4 := by omega
    subst e4
    refine g_iload dX4_couldLeadBe_10 rfl ?_
    refine g_iconst (v := nI 4) dX4_couldLeadBe_12 (by decide) ?_
    refine g_icmp_ge (tgt := 107) dX4_couldLeadBe_13 (by decide) (fun _ => ?_) (fun hq => absurd (Int32.le_refl _) hq)
    rw [ci_t (p := couldF f c ld) (fun j hj => hw j (by omega) hj)] at hP
    refine g_iconst (v := nI 1) dX4_couldLeadBe_107 (by decide) ?_
    exact g_iret rfl nz1 dX4_couldLeadBe_108 (by decide) hP
  | succ d ih =>
    intro i hi hw z5 z6 z7
    have hnext : (i < ncv f c → ¬ bad2 f c ld i) → ∀ z5 z6 z7, G E MX4_couldLeadBe P sh sz V 0 0 101 [some (.ref r), some (.int (nI c)), some (.int ld), some (.ref (r + 17 + 2 * c)), some (.int (nI i)), z5, z6, z7] [] := by
      intro hq z5 z6 z7
      refine g_iinc dX4_couldLeadBe_101 rfl (by first | exact nI_inc _ | rfl) (by decide) rfl ?_
      show G _ _ _ _ _ _ _ _ _ [_, _, _, _, _, _, _, _] _
      refine g_jump (tgt := 10) dX4_couldLeadBe_104 (by decide) ?_
      exact ih (i + 1) (by omega) (fun j hj => by
        rcases Nat.lt_succ_iff_lt_or_eq.mp hj with q | rfl
        · exact hw j q
        · exact hq) _ _ _
    have hbad : i < ncv f c → bad2 f c ld i → ∀ z5 z6 z7, G E MX4_couldLeadBe P sh sz V 0 0 99 [some (.ref r), some (.int (nI c)), some (.int ld), some (.ref (r + 17 + 2 * c)), some (.int (nI i)), z5, z6, z7] [] := by
      intro q1 q2 z5 z6 z7
      rw [ci_f (fun z => z i q1 q2)] at hP
      refine g_iconst (v := nI 0) dX4_couldLeadBe_99 (by decide) ?_
      exact g_iret rfl nz0 dX4_couldLeadBe_100 (by decide) hP
    refine g_iload dX4_couldLeadBe_10 rfl ?_
    refine g_iconst (v := nI 4) dX4_couldLeadBe_12 (by decide) ?_
    refine g_icmp_ge (tgt := 107) dX4_couldLeadBe_13 (by decide) (fun hq => absurd hq (nI_ge (by omega) (by decide))) (fun _ => ?_)
    refine g_aload_n dX4_couldLeadBe_16 rfl ?_
    refine g_get 2 rfl (by decide) inX0 3 (by decide) fl_X4_62 dX4_couldLeadBe_17 c0 c4 ?_
    refine g_iload dX4_couldLeadBe_20 rfl ?_
    rcases Nat.lt_or_ge i (ncv f c) with q | q
    · obtain ⟨t, e1, e2⟩ := c6 i q
      refine g_aaload _ dX4_couldLeadBe_22 ca (by decide) (by decide) (vp_in_nI (by omega) (by decide)) (at_nI (by omega) e1) ?_
      refine g_astore dX4_couldLeadBe_23 (by decide) rfl ?_
      show G _ _ _ _ _ _ _ _ _ [_, _, _, _, _, _, _, _] _
      refine g_aload_n dX4_couldLeadBe_25 rfl ?_
      refine g_iload dX4_couldLeadBe_26 rfl ?_
      refine g_iload_n dX4_couldLeadBe_28 rfl ?_
      refine g_callVp (Y := YX0_mileWithLead) sv_X4_120 rfl yn_X0_mileWithLead 2 (by decide) rfl rfl dX4_couldLeadBe_29 (c_mileWithLead c0 c1 pR_ok) c0 rfl rfl rfl (Nat.le_of_ble_eq_true rfl) ⟨rfl, rfl⟩ ?_
      refine g_istore dX4_couldLeadBe_32 (by decide) rfl ?_
      show G _ _ _ _ _ _ _ _ _ [_, _, _, _, _, _, _, _] _
      refine g_aload dX4_couldLeadBe_34 rfl ?_
      refine g_ifnull dX4_couldLeadBe_36 ?_
      refine g_iload dX4_couldLeadBe_39 rfl ?_
      refine g_callSNp (Y := YX6_isMile) wc_X6_isMile mn_X4_123 wt_X6_isMile ini_X6 yn_X6_isMile dX4_couldLeadBe_41 (c_isMile pR_ok) rfl rfl rfl (Nat.le_of_ble_eq_true rfl) ⟨rfl, rfl⟩ ?_
      refine g_if_eq (tgt := 101) dX4_couldLeadBe_44 (by decide) (fun b1 => ?_) (fun b1 => ?_)
      · exact hnext (fun _ z => bi_eq b1 z.1) _ _ _
      have b2 := bi_ne b1
      obtain ⟨j, hj, ej⟩ := in_nI b2.1 b2.2 (by decide)
      obtain ⟨sx, hsx, esx⟩ := sab_nI hI (m := mw ld (f (oC c 0)) i) hc (Nat.le_of_lt q)
      obtain ⟨cc, hcc, ecc⟩ := cra_nI hI (x := sx) hj (by omega)
      have ej2 : (mw ld (f (oC c 0)) i).toNatClampNeg = j := by rw [ej, nI_clamp (by omega)]
      refine g_aload_n dX4_couldLeadBe_47 rfl ?_
      refine g_get 6 rfl (by decide) inX4 2 (by decide) fl_X4_21 dX4_couldLeadBe_48 h.1.1 h.2.1.2.2.1 ?_
      refine g_iload dX4_couldLeadBe_51 rfl ?_
      refine g_aaload _ dX4_couldLeadBe_53 h.1.2.2.1 (by decide) (by decide) (in_eq ej (vp_in_nI hj (by decide))) (at_eq ej (h.mir hj)) ?_
      refine g_aload_n dX4_couldLeadBe_54 rfl ?_
      refine g_iload dX4_couldLeadBe_55 rfl ?_
      refine g_iload dX4_couldLeadBe_57 rfl ?_
      refine g_callVp (Y := YX0_strainAheadOf) sv_X4_154 rfl yn_X0_strainAheadOf 2 (by decide) rfl rfl dX4_couldLeadBe_59 (c_strainAheadOf hv (Nat.le_of_lt q) pR_ok) c0 rfl rfl rfl (Nat.le_of_ble_eq_true rfl) ⟨rfl, rfl⟩ ?_
      refine g_callVp (Y := YX2_cracksAfter) sv_X4_157 rfl yn_X2_cracksAfter 4 (by decide) rfl rfl dX4_couldLeadBe_62 (c_cracksAfter h hj pR_ok) (h.mi hj).1 rfl rfl rfl (Nat.le_of_ble_eq_true rfl) ⟨rfl, rfl⟩ ?_
      refine g_istore dX4_couldLeadBe_65 (by decide) rfl ?_
      show G _ _ _ _ _ _ _ _ _ [_, _, _, _, _, _, _, _] _
      refine g_aload_n dX4_couldLeadBe_67 rfl ?_
      refine g_iload dX4_couldLeadBe_68 rfl ?_
      refine g_iload_n dX4_couldLeadBe_70 rfl ?_
      refine g_callVp (Y := YX4_isTakenByOther) sv_X4_126 rfl yn_X4_isTakenByOther 6 (by decide) rfl rfl dX4_couldLeadBe_71 (c_isTakenByOther h hI pR_ok) h.1.1 rfl rfl rfl (Nat.le_of_ble_eq_true rfl) ⟨rfl, rfl⟩ ?_
      refine g_if_ne (tgt := 99) dX4_couldLeadBe_74 (by decide) (fun b3 => ?_) (fun b3 => ?_)
      · exact hbad q ⟨b2, Or.inl (ci_ne b3)⟩ _ _ _
      have e5 : cra f j (sI (fun j => if mw ld (f (oC c 0)) i ≤ mt (f (oC c 2)) (f (oC c 0)) j then nI 0 else stn (tkF f c j)) i) = nI cc := by rw [← ecc, ← esx]; rfl
      refine g_aload_n dX4_couldLeadBe_77 rfl ?_
      refine g_aload_n dX4_couldLeadBe_78 rfl ?_
      refine g_get 6 rfl (by decide) inX4 2 (by decide) fl_X4_21 dX4_couldLeadBe_79 h.1.1 h.2.1.2.2.1 ?_
      refine g_iload dX4_couldLeadBe_82 rfl ?_
      refine g_aaload _ dX4_couldLeadBe_84 h.1.2.2.1 (by decide) (by decide) (in_eq ej (vp_in_nI hj (by decide))) (at_eq ej (h.mir hj)) ?_
      rw [e5]
      refine g_iload dX4_couldLeadBe_85 rfl ?_
      refine g_callVp (Y := YX4_borneWithCracks) sv_X4_78 rfl yn_X4_borneWithCracks 6 (by decide) rfl rfl dX4_couldLeadBe_87 (c_borneWithCracks h hI hj hcc pR_ok) h.1.1 rfl rfl rfl (Nat.le_of_ble_eq_true rfl) ⟨rfl, rfl⟩ ?_
      refine g_aload dX4_couldLeadBe_90 rfl ?_
      refine g_callVp (Y := YX5_burden) sv_X4_134 rfl yn_X5_burden 7 (by decide) rfl rfl dX4_couldLeadBe_92 (c_burdenT e2 ((hI.2.2.2.2.2 c hc).2.2.2.2 i q) pR_ok) e2.1 rfl rfl rfl (Nat.le_of_ble_eq_true rfl) ⟨rfl, rfl⟩ ?_
      have e6 : wk2 f c ld i ↔ Op.cmpValue (FP.fcmp (bdF f j (nI cc)) (bud (tkF f c i))) .g < 0 := by
        unfold wk2
        rw [ej2, esx, ecc]
      refine g_fcmp dX4_couldLeadBe_95 ?_
      refine g_if_ge (tgt := 101) dX4_couldLeadBe_96 (by decide) (fun b4 => ?_) (fun b4 => ?_)
      · exact hnext (fun _ z => by
          rcases z.2 with z | z
          · exact ci_eq b3 z
          · exact absurd (e6.mp z) (Int32.not_lt.mpr b4)) _ _ _
      · exact hbad q ⟨b2, Or.inr (e6.mpr (Int32.not_le.mp b4))⟩ _ _ _
    · refine g_aaload _ dX4_couldLeadBe_22 ca (by decide) (by decide) (vp_in_nI (by omega) (by decide)) (at_nI (by omega) (c7 i q (by omega))) ?_
      refine g_astoreN dX4_couldLeadBe_23 (by decide) rfl ?_
      show G _ _ _ _ _ _ _ _ _ [_, _, _, _, _, _, _, _] _
      refine g_aload_n dX4_couldLeadBe_25 rfl ?_
      refine g_iload dX4_couldLeadBe_26 rfl ?_
      refine g_iload_n dX4_couldLeadBe_28 rfl ?_
      refine g_callVp (Y := YX0_mileWithLead) sv_X4_120 rfl yn_X0_mileWithLead 2 (by decide) rfl rfl dX4_couldLeadBe_29 (c_mileWithLead c0 c1 pR_ok) c0 rfl rfl rfl (Nat.le_of_ble_eq_true rfl) ⟨rfl, rfl⟩ ?_
      refine g_istore dX4_couldLeadBe_32 (by decide) rfl ?_
      show G _ _ _ _ _ _ _ _ _ [_, _, _, _, _, _, _, _] _
      refine g_aloadN dX4_couldLeadBe_34 rfl ?_
      refine g_ifnullN (tgt := 101) dX4_couldLeadBe_36 (by decide) ?_
      exact hnext (fun z => absurd z (by omega)) _ _ _
/-- how far the lead of convoy c can come, in steps -/
def l0F (f : Fl) (c : Nat) : Nat := (f (oC c 2)).toNatClampNeg
def gpF (f : Fl) (c : Nat) : Nat := (f (oC c 0)).toNatClampNeg
def lastF (f : Fl) (c : Nat) : Nat := 12 + (ncv f c - 1) * (gpF f c + 1)
def goes (f : Fl) (c d : Nat) : Prop := l0F f c + d < lastF f c ∧ couldF f c (nI (l0F f c + d + 1))
/-- d steps and no more -/
def aheadIs (f : Fl) (c d : Nat) : Prop := (∀ e, e < d → goes f c e) ∧ ¬ goes f c d
theorem c_countRollsAhead {c : Nat} (h : RoadAt sh V r f) (hI : InvB f) (hc : c < cnt f) (hP0 : ¬ 0 ≤ f (oC c 2) → P (.inl (some (.int (nI 0)))) sh sz V) (hP : ∀ d, 0 ≤ f (oC c 2) → aheadIs f c d → P (.inl (some (.int (nI d)))) sh sz V) : MC E YX4_countRollsAhead [.ref r, .int (nI c)] sh sz V P := by
  have hI1 := hI.1.2
  have hv := h.cv hI hc
  obtain ⟨c0, ca, c1, c2, c3, c4, c5, c6, c7⟩ := id hv
  refine MC.of RX4 "countRollsAhead" rfl (by decide +kernel) rfl 3 [_, _, none, none, none] rfl (Nat.le_of_ble_eq_true rfl) ?_
  show G E MX4_countRollsAhead _ _ _ _ _ _ _ _ _
  refine g_aload_n dX4_countRollsAhead_0 rfl ?_
  refine g_get 6 rfl (by decide) inX4 4 (by decide) fl_X4_33 dX4_countRollsAhead_1 h.1.1 h.2.1.2.2.2.2.1 ?_
  refine g_iload_n dX4_countRollsAhead_4 rfl ?_
  refine g_aaload _ dX4_countRollsAhead_5 h.1.2.2.2.2 (by decide) (by decide) (vp_in_nI (by omega) (by decide)) (h.cvr (by omega)) ?_
  refine g_astore_n dX4_countRollsAhead_6 (by decide) rfl ?_
  show G _ _ _ _ _ _ _ _ _ [_, _, _, _, _] _
  refine g_aload_n dX4_countRollsAhead_7 rfl ?_
  refine g_callVp (Y := YX0_hasStarted) sv_X4_100 rfl yn_X0_hasStarted 2 (by decide) rfl rfl dX4_countRollsAhead_8 (c_hasStarted c0 c2 pR_ok) c0 rfl rfl rfl (Nat.le_of_ble_eq_true rfl) ⟨rfl, rfl⟩ ?_
  refine g_if_ne (tgt := 16) dX4_countRollsAhead_11 (by decide) (fun b1 => ?_) (fun b1 => ?_)
  · obtain ⟨⟨g, g1, g2, eg⟩, -, -, st, -⟩ := hI.2.2.2.2.2 c hc
    obtain ⟨-, hn, l, hl, el⟩ : f (oC c 3) = nI 1 ∧ 1 ≤ ncv f c ∧ ∃ l, l ≤ 24 ∧ f (oC c 2) = nI l := by
      rcases st with st | st
      · exact absurd (bi_ne b1) (by rw [st.2]; decide)
      · exact st
    have el0 : l0F f c = l := by unfold l0F; rw [el, nI_clamp (by omega)]
    have eg0 : gpF f c = g := by unfold gpF; rw [eg, nI_clamp (by omega)]
    have hP := fun d => hP d (bi_ne b1)
    have elast : lastF f c ≤ 24 := by
      unfold lastF
      rw [eg0]
      have : (ncv f c - 1) * (g + 1) ≤ 3 * 4 := Nat.mul_le_mul (by omega) (by omega)
      omega
    refine g_bipush (v := nI 12) dX4_countRollsAhead_16 (by decide) ?_
    refine g_aload_n dX4_countRollsAhead_18 rfl ?_
    refine g_get 2 rfl (by decide) inX0 2 (by decide) fl_X4_108 dX4_countRollsAhead_19 c0 c3 ?_
    refine g_iconst (v := nI 1) dX4_countRollsAhead_22 (by decide) ?_
    refine g_isub dX4_countRollsAhead_23 ?_
    refine g_aload_n dX4_countRollsAhead_24 rfl ?_
    refine g_get 2 rfl (by decide) inX0 0 (by decide) fl_X4_148 dX4_countRollsAhead_25 c0 c1 ?_
    refine g_iconst (v := nI 1) dX4_countRollsAhead_28 (by decide) ?_
    refine g_iadd dX4_countRollsAhead_29 ?_
    refine g_imul dX4_countRollsAhead_30 ?_
    refine g_iadd dX4_countRollsAhead_31 ?_
    have e1 : nI 12 + (nI (ncv f c) - nI 1) * (f (oC c 0) + nI 1) = nI (lastF f c) := by
      rw [eg, pk_sub (by omega), nI_add, pk_mul, nI_add]
      unfold lastF
      rw [eg0]
    rw [e1]
    refine g_istore_n dX4_countRollsAhead_32 (by decide) rfl ?_
    show G _ _ _ _ _ _ _ _ _ [_, _, _, _, _] _
    refine g_aload_n dX4_countRollsAhead_33 rfl ?_
    refine g_get 2 rfl (by decide) inX0 1 (by decide) fl_X4_117 dX4_countRollsAhead_34 c0 c2 ?_
    refine g_istore dX4_countRollsAhead_37 (by decide) rfl ?_
    show G _ _ _ _ _ _ _ _ _ [_, _, _, _, _] _
    rw [el]
    suffices K : ∀ (e d : Nat), d + e = 25 → (∀ e, e < d → goes f c e) → G E MX4_countRollsAhead P sh sz V 0 0 39 [some (.ref r), some (.int (nI c)), some (.ref (r + 17 + 2 * c)), some (.int (nI (lastF f c))), some (.int (nI (l + d)))] [] from K 25 0 rfl (fun e he => absurd he (Nat.not_lt_zero e))
    intro e
    induction e with
    | zero =>
      intro d hd hw
      have := (hw 24 (by omega)).1
      omega
    | succ e ih =>
      intro d hd hw
      have hend : ¬ goes f c d → G E MX4_countRollsAhead P sh sz V 0 0 63 [some (.ref r), some (.int (nI c)), some (.ref (r + 17 + 2 * c)), some (.int (nI (lastF f c))), some (.int (nI (l + d)))] [] := by
        intro q
        have hP := hP d ⟨hw, q⟩
        refine g_iload dX4_countRollsAhead_63 rfl ?_
        refine g_aload_n dX4_countRollsAhead_65 rfl ?_
        refine g_get 2 rfl (by decide) inX0 1 (by decide) fl_X4_117 dX4_countRollsAhead_66 c0 c2 ?_
        refine g_isub dX4_countRollsAhead_69 ?_
        rw [el, pk_sub (by omega), Nat.add_sub_cancel_left]
        exact g_iret rfl (nr_int _) dX4_countRollsAhead_70 (by decide) hP
      refine g_iload dX4_countRollsAhead_39 rfl ?_
      refine g_iload_n dX4_countRollsAhead_41 rfl ?_
      refine g_icmp_ge (tgt := 63) dX4_countRollsAhead_42 (by decide) (fun b2 => ?_) (fun b2 => ?_)
      · exact hend (fun z => by
          have z1 := z.1
          rw [nI_leI (by omega) (by omega)] at b2
          omega)
      rw [nI_leI (by omega) (by omega)] at b2
      refine g_aload_n dX4_countRollsAhead_45 rfl ?_
      refine g_iload_n dX4_countRollsAhead_46 rfl ?_
      refine g_iload dX4_countRollsAhead_47 rfl ?_
      refine g_iconst (v := nI 1) dX4_countRollsAhead_49 (by decide) ?_
      refine g_iadd dX4_countRollsAhead_50 ?_
      rw [nI_add]
      refine g_callVp (Y := YX4_couldLeadBe) sv_X4_151 rfl yn_X4_couldLeadBe 6 (by decide) rfl rfl dX4_countRollsAhead_51 (c_couldLeadBe h hI hc pR_ok) h.1.1 rfl rfl rfl (Nat.le_of_ble_eq_true rfl) ⟨rfl, rfl⟩ ?_
      refine g_if_eq (tgt := 63) dX4_countRollsAhead_54 (by decide) (fun b3 => ?_) (fun b3 => ?_)
      · exact hend (fun z => ci_eq b3 (by have z2 := z.2; rw [el0] at z2; exact z2))
      · refine g_iinc dX4_countRollsAhead_57 rfl (by first | exact nI_inc _ | rfl) (by decide) rfl ?_
        show G _ _ _ _ _ _ _ _ _ [_, _, _, _, _] _
        refine g_jump (tgt := 39) dX4_countRollsAhead_60 (by decide) ?_
        exact ih (d + 1) (by omega) (fun x hx => by
          rcases Nat.lt_succ_iff_lt_or_eq.mp hx with q | rfl
          · exact hw x q
          · exact ⟨by omega, by rw [el0]; exact ci_ne b3⟩)
  · have hP0 := hP0 (bi_eq b1)
    refine g_iconst (v := nI 0) dX4_countRollsAhead_14 (by decide) ?_
    exact g_iret rfl (nr_int _) dX4_countRollsAhead_15 (by decide) hP0
/-- no two trucks are at one mile -/
def One (f : Fl) : Prop := ∀ c c2 k k2 m, c < cnt f → c2 < cnt f → k < ncv f c → k2 < ncv f c2 → m < 12 → mt (f (oC c 2)) (f (oC c 0)) k = nI m → mt (f (oC c2 2)) (f (oC c2 0)) k2 = nI m → c = c2 ∧ k = k2
theorem shl_m : ∀ m, m < 12 → (nI 1 <<< (nI m &&& 31) : Int32) = nI (2 ^ m) := by decide +kernel
def seenBy (f : Fl) (S c k : Nat) : Prop := S < 4096 ∧ ∀ m, S.testBit m = true → m < 12 ∧ ∃ c2 k2, c2 < cnt f ∧ k2 < ncv f c2 ∧ mt (f (oC c2 2)) (f (oC c2 0)) k2 = nI m ∧ (c2 < c ∨ (c2 = c ∧ k2 < k))
theorem c_hasOneTruckAMile (h : RoadAt sh V r f) (hI : InvB f) (hO : One f) (hP : P (.inl (some (.int (nI 1)))) sh sz V) : MC E YX4_hasOneTruckAMile [.ref r] sh sz V P := by
  have hI1 := hI.1.2
  refine MC.of RX4 "hasOneTruckAMile" rfl (by decide +kernel) rfl 4 [_, none, none, none, none] rfl (Nat.le_of_ble_eq_true rfl) ?_
  show G E MX4_hasOneTruckAMile _ _ _ _ _ _ _ _ _
  refine g_iconst (v := nI 0) dX4_hasOneTruckAMile_0 (by decide) ?_
  refine g_istore_n dX4_hasOneTruckAMile_1 (by decide) rfl ?_
  show G _ _ _ _ _ _ _ _ _ [_, _, _, _, _] _
  refine g_iconst (v := nI 0) dX4_hasOneTruckAMile_2 (by decide) ?_
  refine g_istore_n dX4_hasOneTruckAMile_3 (by decide) rfl ?_
  show G _ _ _ _ _ _ _ _ _ [_, _, _, _, _] _
  suffices K : ∀ (d i : Nat), i + d = cnt f → ∀ S, seenBy f S i 0 → ∀ z3 z4, G E MX4_hasOneTruckAMile P sh sz V 0 0 4 [some (.ref r), some (.int (nI S)), some (.int (nI i)), z3, z4] [] from K (cnt f) 0 (by omega) 0 ⟨by decide, fun m hm => by simp at hm⟩ _ _
  intro d
  induction d with
  | zero =>
    intro i hi S hS z3 z4
    have e : i = cnt f := by omega
    subst e
    refine g_iload_n dX4_hasOneTruckAMile_4 rfl ?_
    refine g_aload_n dX4_hasOneTruckAMile_5 rfl ?_
    refine g_get 6 rfl (by decide) inX4 5 (by decide) fl_X4_37 dX4_hasOneTruckAMile_6 h.1.1 (h.many hI) ?_
    refine g_icmp_ge (tgt := 77) dX4_hasOneTruckAMile_9 (by decide) (fun _ => ?_) (fun hq => absurd (Int32.le_refl _) hq)
    refine g_iconst (v := nI 1) dX4_hasOneTruckAMile_77 (by decide) ?_
    exact g_iret rfl nz1 dX4_hasOneTruckAMile_78 (by decide) hP
  | succ d ih =>
    intro i hi S hS z3 z4
    have hv := h.cv hI (c := i) (by omega)
    obtain ⟨c0, ca, c1, c2, c3, c4, c5, c6, c7⟩ := id hv
    refine g_iload_n dX4_hasOneTruckAMile_4 rfl ?_
    refine g_aload_n dX4_hasOneTruckAMile_5 rfl ?_
    refine g_get 6 rfl (by decide) inX4 5 (by decide) fl_X4_37 dX4_hasOneTruckAMile_6 h.1.1 (h.many hI) ?_
    refine g_icmp_ge (tgt := 77) dX4_hasOneTruckAMile_9 (by decide) (fun hq => absurd hq (nI_ge (by omega) (by omega))) (fun _ => ?_)
    refine g_iconst (v := nI 0) dX4_hasOneTruckAMile_12 (by decide) ?_
    refine g_istore_n dX4_hasOneTruckAMile_13 (by decide) rfl ?_
    show G _ _ _ _ _ _ _ _ _ [_, _, _, _, _] _
    suffices K2 : ∀ (e k : Nat), k + e = ncv f i → ∀ S, seenBy f S i k → ∀ z4, G E MX4_hasOneTruckAMile P sh sz V 0 0 14 [some (.ref r), some (.int (nI S)), some (.int (nI i)), some (.int (nI k)), z4] [] from K2 (ncv f i) 0 (by omega) S hS _
    intro e
    induction e with
    | zero =>
      intro k hk S hS z4
      refine g_iload_n dX4_hasOneTruckAMile_14 rfl ?_
      refine g_aload_n dX4_hasOneTruckAMile_15 rfl ?_
      refine g_get 6 rfl (by decide) inX4 4 (by decide) fl_X4_33 dX4_hasOneTruckAMile_16 h.1.1 h.2.1.2.2.2.2.1 ?_
      refine g_iload_n dX4_hasOneTruckAMile_19 rfl ?_
      refine g_aaload _ dX4_hasOneTruckAMile_20 h.1.2.2.2.2 (by decide) (by decide) (vp_in_nI (by omega) (by decide)) (h.cvr (by omega)) ?_
      refine g_get 2 rfl (by decide) inX0 2 (by decide) fl_X4_108 dX4_hasOneTruckAMile_21 c0 c3 ?_
      refine g_icmp_ge (tgt := 71) dX4_hasOneTruckAMile_24 (by decide) (fun _ => ?_) (fun hq => absurd (nI_le (by omega) (by omega)) hq)
      refine g_iinc dX4_hasOneTruckAMile_71 rfl (by first | exact nI_inc _ | rfl) (by decide) rfl ?_
      show G _ _ _ _ _ _ _ _ _ [_, _, _, _, _] _
      refine g_jump (tgt := 4) dX4_hasOneTruckAMile_74 (by decide) ?_
      exact ih (i + 1) (by omega) S ⟨hS.1, fun m hm => by
        obtain ⟨q0, c2, k2, q1, q2, q3, q4⟩ := hS.2 m hm
        exact ⟨q0, c2, k2, q1, q2, q3, Or.inl (by omega)⟩⟩ _ _
    | succ e ih2 =>
      intro k hk S hS z4
      refine g_iload_n dX4_hasOneTruckAMile_14 rfl ?_
      refine g_aload_n dX4_hasOneTruckAMile_15 rfl ?_
      refine g_get 6 rfl (by decide) inX4 4 (by decide) fl_X4_33 dX4_hasOneTruckAMile_16 h.1.1 h.2.1.2.2.2.2.1 ?_
      refine g_iload_n dX4_hasOneTruckAMile_19 rfl ?_
      refine g_aaload _ dX4_hasOneTruckAMile_20 h.1.2.2.2.2 (by decide) (by decide) (vp_in_nI (by omega) (by decide)) (h.cvr (by omega)) ?_
      refine g_get 2 rfl (by decide) inX0 2 (by decide) fl_X4_108 dX4_hasOneTruckAMile_21 c0 c3 ?_
      refine g_icmp_ge (tgt := 71) dX4_hasOneTruckAMile_24 (by decide) (fun hq => absurd hq (nI_ge (by omega) (by omega))) (fun _ => ?_)
      refine g_aload_n dX4_hasOneTruckAMile_27 rfl ?_
      refine g_get 6 rfl (by decide) inX4 4 (by decide) fl_X4_33 dX4_hasOneTruckAMile_28 h.1.1 h.2.1.2.2.2.2.1 ?_
      refine g_iload_n dX4_hasOneTruckAMile_31 rfl ?_
      refine g_aaload _ dX4_hasOneTruckAMile_32 h.1.2.2.2.2 (by decide) (by decide) (vp_in_nI (by omega) (by decide)) (h.cvr (by omega)) ?_
      refine g_iload_n dX4_hasOneTruckAMile_33 rfl ?_
      refine g_callVp (Y := YX0_mileOfTruck) sv_X4_138 rfl yn_X0_mileOfTruck 2 (by decide) rfl rfl dX4_hasOneTruckAMile_34 (c_mileOfTruck c0 c1 c2 pR_ok) c0 rfl rfl rfl (Nat.le_of_ble_eq_true rfl) ⟨rfl, rfl⟩ ?_
      refine g_istore dX4_hasOneTruckAMile_37 (by decide) rfl ?_
      show G _ _ _ _ _ _ _ _ _ [_, _, _, _, _] _
      refine g_iload dX4_hasOneTruckAMile_39 rfl ?_
      refine g_callSNp (Y := YX6_isMile) wc_X6_isMile mn_X4_123 wt_X6_isMile ini_X6 yn_X6_isMile dX4_hasOneTruckAMile_41 (c_isMile pR_ok) rfl rfl rfl (Nat.le_of_ble_eq_true rfl) ⟨rfl, rfl⟩ ?_
      refine g_if_eq (tgt := 65) dX4_hasOneTruckAMile_44 (by decide) (fun b1 => ?_) (fun b1 => ?_)
      · refine g_iinc dX4_hasOneTruckAMile_65 rfl (by first | exact nI_inc _ | rfl) (by decide) rfl ?_
        show G _ _ _ _ _ _ _ _ _ [_, _, _, _, _] _
        refine g_jump (tgt := 14) dX4_hasOneTruckAMile_68 (by decide) ?_
        exact ih2 (k + 1) (by omega) S ⟨hS.1, fun m hm => by
          obtain ⟨q0, c2, k2, q1, q2, q3, q4⟩ := hS.2 m hm
          exact ⟨q0, c2, k2, q1, q2, q3, by omega⟩⟩ _
      · have b2 := bi_ne b1
        obtain ⟨m, hm, em⟩ := in_nI b2.1 b2.2 (by decide)
        have hbit : S.testBit m = false := by
          rcases hq : S.testBit m with _ | _
          · rfl
          · obtain ⟨q0, c2, k2, q1, q2, q3, q4⟩ := hS.2 m hq
            have := hO i c2 k k2 m (by omega) q1 (by omega) q2 hm em q3
            omega
        rw [em]
        refine g_iload_n dX4_hasOneTruckAMile_47 rfl ?_
        refine g_iconst (v := nI 1) dX4_hasOneTruckAMile_48 (by decide) ?_
        refine g_iload dX4_hasOneTruckAMile_49 rfl ?_
        refine g_ishl dX4_hasOneTruckAMile_51 ?_
        rw [shl_m m hm]
        refine g_iand dX4_hasOneTruckAMile_52 ?_
        refine g_if_eq (tgt := 58) dX4_hasOneTruckAMile_53 (by decide) (fun _ => ?_) (fun hq => absurd ((fa_bit (by omega)).mpr hbit) hq)
        refine g_iload_n dX4_hasOneTruckAMile_58 rfl ?_
        refine g_iconst (v := nI 1) dX4_hasOneTruckAMile_59 (by decide) ?_
        refine g_iload dX4_hasOneTruckAMile_60 rfl ?_
        refine g_ishl dX4_hasOneTruckAMile_62 ?_
        rw [shl_m m hm]
        refine g_ior dX4_hasOneTruckAMile_63 ?_
        rw [fa_or]
        refine g_istore_n dX4_hasOneTruckAMile_64 (by decide) rfl ?_
        show G _ _ _ _ _ _ _ _ _ [_, _, _, _, _] _
        refine g_iinc dX4_hasOneTruckAMile_65 rfl (by first | exact nI_inc _ | rfl) (by decide) rfl ?_
        show G _ _ _ _ _ _ _ _ _ [_, _, _, _, _] _
        refine g_jump (tgt := 14) dX4_hasOneTruckAMile_68 (by decide) ?_
        exact ih2 (k + 1) (by omega) (S ||| 2 ^ m) ⟨Nat.or_lt_two_pow (n := 12) hS.1 (Nat.pow_lt_pow_right (by decide) hm), fun m2 hm2 => by
          rw [fb_bit_set] at hm2
          rcases Bool.or_eq_true_iff.mp hm2 with q | q
          · obtain ⟨q0, c2, k2, q1, q2, q3, q4⟩ := hS.2 m2 q
            exact ⟨q0, c2, k2, q1, q2, q3, by omega⟩
          · have e9 := of_decide_eq_true q
            subst e9
            exact ⟨hm, i, k, by omega, by omega, em, Or.inr ⟨rfl, by omega⟩⟩⟩ _
end ROAD4

