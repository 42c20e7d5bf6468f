/-! constructors -/
section INIT
theorem nc0 : (nI 0).toNatClampNeg = 0 := by decide
theorem nc1 : (nI 1).toNatClampNeg = 1 := by decide
theorem nc2 : (nI 2).toNatClampNeg = 2 := by decide
theorem hs_at (sh : Sh) (a : Nat) (t : Nat × Nat) : hs sh a t a = t := by simp [hs]
theorem hs_ne (sh : Sh) {a b : Nat} (t : Nat × Nat) (h : b ≠ a) : hs sh a t b = sh b := by simp [hs, h]
theorem hn_at (V : Vl) (a : Nat) (F : Nat → Value) : hn V a F a = F := by simp [hn]
theorem hn_ne (V : Vl) {a b : Nat} (F : Nat → Value) (h : b ≠ a) : hn V a F b = V b := by simp [hn, h]
variable {E : gE} {M : gM} {P : gP} {sh : Sh} {sz : Nat} {V : Vl} {cu su pc : Nat} {L : List (Option Value)} {rest : List Value} {r : Nat}
theorem c_Mile_init {a : Nat} (ha : (sh a).1 = 5) (hP : ∀ V', (∀ x, x ≠ a → V' x = V x) → MiAt sh V' a 1106247680 0 (-1) 0 0 0 → P (.inl none) sh sz V') : MC E YX2_init [.ref a] sh sz V P := by
  refine MC.of RX2 "<init>" rfl (by decide +kernel) rfl 0 [_] rfl (Nat.le_of_ble_eq_true rfl) ?_
  show G E MX2_init _ _ _ _ _ _ _ _ _
  refine g_aload_n dX2_init_0 rfl ?_
  refine g_objInit ml_X2_3 obj_inst obj_code dX2_init_1 (Nat.le_of_ble_eq_true rfl) (Nat.le_of_ble_eq_true rfl) ?_
  refine g_aload_n dX2_init_4 rfl ?_
  refine g_ldcf kc_X2_9 dX2_init_5 ?_
  refine g_put 4 rfl (by decide) inX2 tyX2 tyX2_ok nmX2 0 (by decide) fl_X2_10 rfl dX2_init_7 ha rfl rfl ?_
  refine g_aload_n dX2_init_10 rfl ?_
  refine g_fconst0 dX2_init_11 ?_
  refine g_put 4 rfl (by decide) inX2 tyX2 tyX2_ok nmX2 1 (by decide) fl_X2_16 rfl dX2_init_12 ha rfl rfl ?_
  refine g_aload_n dX2_init_15 rfl ?_
  refine g_iconst (v := (-1)) dX2_init_16 (by decide) ?_
  refine g_put 4 rfl (by decide) inX2 tyX2 tyX2_ok nmX2 2 (by decide) fl_X2_19 rfl dX2_init_17 ha rfl rfl ?_
  refine g_aload_n dX2_init_20 rfl ?_
  refine g_iconst (v := nI 0) dX2_init_21 (by decide) ?_
  refine g_put 4 rfl (by decide) inX2 tyX2 tyX2_ok nmX2 3 (by decide) fl_X2_23 rfl dX2_init_22 ha rfl rfl ?_
  refine g_aload_n dX2_init_25 rfl ?_
  refine g_iconst (v := nI 0) dX2_init_26 (by decide) ?_
  refine g_put 4 rfl (by decide) inX2 tyX2 tyX2_ok nmX2 4 (by decide) fl_X2_26 rfl dX2_init_27 ha rfl rfl ?_
  refine g_aload_n dX2_init_30 rfl ?_
  refine g_iconst (v := nI 0) dX2_init_31 (by decide) ?_
  refine g_put 4 rfl (by decide) inX2 tyX2 tyX2_ok nmX2 5 (by decide) fl_X2_29 rfl dX2_init_32 ha rfl rfl ?_
  exact g_vret rfl dX2_init_35 (by decide) (hP _ (fun x hx => by simp only [hu_ne _ _ _ hx]) ⟨ha, by simp [hu, updV]; rfl, by simp [hu, updV, FP.fconst0]; rfl, by simp [hu, updV], by simp [hu, updV, nI_0], by simp [hu, updV, nI_0], by simp [hu, updV, nI_0]⟩)
theorem c_Truck_init {a : Nat} {k w x : Int32} (ha : (sh a).1 = 8) (hP : ∀ V', (∀ x, x ≠ a → V' x = V x) → TrAt sh V' a (k, w, x) → P (.inl none) sh sz V') : MC E YX5_init [.ref a, .int k, .int w, .int x] sh sz V P := by
  refine MC.of RX5 "<init>" rfl (by decide +kernel) rfl 0 [_, _, _, _] rfl (Nat.le_of_ble_eq_true rfl) ?_
  show G E MX5_init _ _ _ _ _ _ _ _ _
  refine g_aload_n dX5_init_0 rfl ?_
  refine g_objInit ml_X5_1 obj_inst obj_code dX5_init_1 (Nat.le_of_ble_eq_true rfl) (Nat.le_of_ble_eq_true rfl) ?_
  refine g_aload_n dX5_init_4 rfl ?_
  refine g_iload_n dX5_init_5 rfl ?_
  refine g_putF 7 rfl (by decide) inX5 tyX5 tyX5_ok nmX5 0 (by decide) fl_X5_7 rfl rfl rfl dX5_init_6 ha rfl rfl ?_
  refine g_aload_n dX5_init_9 rfl ?_
  refine g_iload_n dX5_init_10 rfl ?_
  refine g_putF 7 rfl (by decide) inX5 tyX5 tyX5_ok nmX5 1 (by decide) fl_X5_13 rfl rfl rfl dX5_init_11 ha rfl rfl ?_
  refine g_aload_n dX5_init_14 rfl ?_
  refine g_iload_n dX5_init_15 rfl ?_
  refine g_putF 7 rfl (by decide) inX5 tyX5 tyX5_ok nmX5 2 (by decide) fl_X5_16 rfl rfl rfl dX5_init_16 ha rfl rfl ?_
  exact g_vret rfl dX5_init_19 (by decide) (hP _ (fun x hx => by simp only [hu_ne _ _ _ hx]) ⟨ha, by simp [hu, updV], by simp [hu, updV], by simp [hu, updV]⟩)
theorem c_Convoy_init {a : Nat} (ha : (sh a).1 = 3) (hz : sz = a + 1) (hP : ∀ V', (∀ x, x ≠ a → x ≠ a + 1 → V' x = V x) → (∀ tk, CvAt (hs sh (a + 1) (24, 4)) V' a (nI 1) (-1) 0 tk) → P (.inl none) (hs sh (a + 1) (24, 4)) (a + 2) V') : MC E YX0_init [.ref a] sh sz V P := by
  subst hz
  have ha2 : (hs sh (a + 1) (24, 4) a).1 = 3 := by rw [hs_ne _ _ (by omega)]; exact ha
  refine MC.of RX0 "<init>" rfl (by decide +kernel) rfl 0 [_] rfl (Nat.le_of_ble_eq_true rfl) ?_
  show G E MX0_init _ _ _ _ _ _ _ _ _
  refine g_aload_n dX0_init_0 rfl ?_
  refine g_objInit ml_X0_3 obj_inst obj_code dX0_init_1 (Nat.le_of_ble_eq_true rfl) (Nat.le_of_ble_eq_true rfl) ?_
  refine g_aload_n dX0_init_4 rfl ?_
  refine g_iconst (v := nI 1) dX0_init_5 (by decide) ?_
  refine g_put 2 rfl (by decide) inX0 tyX0 tyX0_ok nmX0 0 (by decide) fl_X0_9 rfl dX0_init_6 ha rfl rfl ?_
  refine g_aload_n dX0_init_9 rfl ?_
  refine g_iconst (v := (-1)) dX0_init_10 (by decide) ?_
  refine g_put 2 rfl (by decide) inX0 tyX0 tyX0_ok nmX0 1 (by decide) fl_X0_15 rfl dX0_init_11 ha rfl rfl ?_
  refine g_aload_n dX0_init_14 rfl ?_
  refine g_iconst (v := nI 0) dX0_init_15 (by decide) ?_
  refine g_put 2 rfl (by decide) inX0 tyX0 tyX0_ok nmX0 2 (by decide) fl_X0_18 rfl dX0_init_16 ha rfl rfl ?_
  refine g_aload_n dX0_init_19 rfl ?_
  refine g_iconst (v := nI 4) dX0_init_20 (by decide) ?_
  refine g_anew 24 (C := RX5) rfl (by decide) (by decide) (fun s h => h.2.2.1.1) cl_X0_21 4 (by decide) (by decide) (Nat.le_of_ble_eq_true rfl) dX0_init_21 (by decide) ?_
  refine g_putF 2 rfl (by decide) inX0 tyX0 tyX0_ok nmX0 3 (by decide) fl_X0_23 rfl rfl rfl dX0_init_24 ha2 rfl rfl ?_
  refine g_vret rfl dX0_init_27 (by decide) (hP _ (fun x hx hx2 => by simp only [hu_ne _ _ _ hx, hn_ne _ _ hx2]) (fun tk => ⟨ha2, hs_at _ _ _, ?_, ?_, ?_, hu_at _ _ _ _, by omega, fun k hk => absurd hk (Nat.not_lt_zero k), fun k _ hk => ?_⟩))
  · rw [hu_at_ne _ _ _ (by decide), hn_ne _ _ (by omega)]
    simp [hu, updV]
  · rw [hu_at_ne _ _ _ (by decide), hn_ne _ _ (by omega)]
    simp [hu, updV]
  · rw [hu_at_ne _ _ _ (by decide), hn_ne _ _ (by omega)]
    simp [hu, updV]
  · rw [hu_ne _ _ _ (by omega), hn_at]
/-- the first row -/
def f0 : Fl := fun k => if k = 5 then -20 else if k = 6 then nI 100 else if k = 7 then nI 7 else if 8 ≤ k ∧ k < 80 then (if (k - 8) % 6 = 0 then 1106247680 else if (k - 8) % 6 = 4 then -1 else 0) else 0
theorem f0_M {j : Nat} (hj : j < 12) : f0 (oM j 0) = 1106247680 ∧ f0 (oM j 1) = 0 ∧ f0 (oM j 2) = 0 ∧ f0 (oM j 3) = 0 ∧ f0 (oM j 4) = -1 ∧ f0 (oM j 5) = 0 := by
  have h : ∀ j : Fin 12, f0 (oM j.1 0) = 1106247680 ∧ f0 (oM j.1 1) = 0 ∧ f0 (oM j.1 2) = 0 ∧ f0 (oM j.1 3) = 0 ∧ f0 (oM j.1 4) = -1 ∧ f0 (oM j.1 5) = 0 := by decide +kernel
  exact h ⟨j, hj⟩
theorem f0_hi {k : Nat} (hk : 80 ≤ k) : f0 k = 0 := by
  unfold f0
  rw [if_neg (by omega), if_neg (by omega), if_neg (by omega), if_neg (by omega)]
theorem f0_cnt : cnt f0 = 0 := by decide +kernel
/-- how far a road is made: i miles, c convoys -/
def Mk (sh0 : Sh) (V0 : Vl) (r i c : Nat) (sh : Sh) (V : Vl) : Prop :=
  (∀ a, a < r → sh a = sh0 a ∧ V a = V0 a) ∧ (∀ a, r + 5 + i + 2 * c ≤ a → sh a = sh0 a) ∧ (sh r = sh0 r ∧ sh (r + 1) = (20, 3) ∧ sh (r + 2) = (25, 12) ∧ sh (r + 3) = (24, 10) ∧ sh (r + 4) = (26, 4)) ∧ rB V r f0 ∧ rC V r f0 ∧
  (∀ j, j < i → V (r + 2) j = .ref (r + 5 + j) ∧ MiAt sh V (r + 5 + j) 1106247680 0 (-1) 0 0 0) ∧ (∀ k, k < 10 → V (r + 3) k = .null) ∧
  ∀ d, d < c → V (r + 4) d = .ref (r + 17 + 2 * d) ∧ ∀ tk, CvAt sh V (r + 17 + 2 * d) (nI 1) (-1) 0 tk
theorem MiAt.move {sh sh' : Sh} {V V' : Vl} {a : Nat} {i n o c s v : Int32} (h : MiAt sh V a i n o c s v) (h1 : sh' a = sh a) (h2 : V' a = V a) : MiAt sh' V' a i n o c s v := by
  unfold MiAt at h ⊢
  rw [h1, h2]
  exact h
theorem CvAt.move0 {sh sh' : Sh} {V V' : Vl} {a : Nat} {g ld : Int32} {tk : Nat → Int32 × Int32 × Int32} (h : CvAt sh V a g ld 0 tk) (h1 : sh' a = sh a) (h2 : V' a = V a) (h3 : sh' (a + 1) = sh (a + 1)) (h4 : V' (a + 1) = V (a + 1)) : CvAt sh' V' a g ld 0 tk := by
  obtain ⟨c0, ca, c1, c2, c3, c4, c5, c6, c7⟩ := h
  exact ⟨by rw [h1]; exact c0, by rw [h3]; exact ca, by rw [h2]; exact c1, by rw [h2]; exact c2, by rw [h2]; exact c3, by rw [h2]; exact c4, c5, fun k hk => absurd hk (Nat.not_lt_zero k), fun k hk hk2 => by rw [h4]; exact c7 k hk hk2⟩
theorem Mk.mile {sh0 sh : Sh} {V0 V V2 : Vl} {i : Nat} (h : Mk sh0 V0 r i 0 sh V) (hi : i < 12) (hV : ∀ x, x ≠ r + 5 + i → V2 x = V x) (hM : MiAt (hs sh (r + 5 + i) (5, 6)) V2 (r + 5 + i) 1106247680 0 (-1) 0 0 0) : Mk sh0 V0 r (i + 1) 0 (hs sh (r + 5 + i) (5, 6)) (hu V2 (r + 2) i (.ref (r + 5 + i))) := by
  obtain ⟨h1, h2, ⟨s0, s1, s2, s3, s4⟩, h3, h4, h5, h6, h7⟩ := h
  have es : ∀ x, x ≠ r + 5 + i → hs sh (r + 5 + i) (5, 6) x = sh x := fun x hx => hs_ne _ _ hx
  have ev : ∀ x, x ≠ r + 5 + i → x ≠ r + 2 → hu V2 (r + 2) i (.ref (r + 5 + i)) x = V x := fun x hx hx2 => (hu_ne _ _ _ hx2).trans (hV x hx)
  refine ⟨fun a ha => ⟨(es a (by omega)).trans (h1 a ha).1, (ev a (by omega) (by omega)).trans (h1 a ha).2⟩, fun a ha => (es a (by omega)).trans (h2 a (by omega)), ⟨(es _ (by omega)).trans s0, (es _ (by omega)).trans s1, (es _ (by omega)).trans s2, (es _ (by omega)).trans s3, (es _ (by omega)).trans s4⟩, rB.keep h3 (ev _ (by omega) (by omega)) (fun _ _ => rfl), rC.keep h4 (ev _ (by omega) (by omega)) (fun _ _ => rfl), fun j hj => ?_, fun k hk => by rw [ev _ (by omega) (by omega)]; exact h6 k hk, fun d hd => absurd hd (Nat.not_lt_zero d)⟩
  by_cases z : j = i
  · subst z
    exact ⟨hu_at _ _ _ _, hM.move rfl (hu_ne _ _ _ (by omega))⟩
  · obtain ⟨q1, q2⟩ := h5 j (by omega)
    exact ⟨by rw [hu_at_ne _ _ _ z, hV _ (by omega)]; exact q1, q2.move (es _ (by omega)) (ev _ (by omega) (by omega))⟩
theorem Mk.conv {sh0 sh : Sh} {V0 V V2 : Vl} {c : Nat} (h : Mk sh0 V0 r 12 c sh V) (hc : c < 4) (hV : ∀ x, x ≠ r + 17 + 2 * c → x ≠ r + 17 + 2 * c + 1 → V2 x = V x) (hM : ∀ tk, CvAt (hs (hs sh (r + 17 + 2 * c) (3, 4)) (r + 17 + 2 * c + 1) (24, 4)) V2 (r + 17 + 2 * c) (nI 1) (-1) 0 tk) : Mk sh0 V0 r 12 (c + 1) (hs (hs sh (r + 17 + 2 * c) (3, 4)) (r + 17 + 2 * c + 1) (24, 4)) (hu V2 (r + 4) c (.ref (r + 17 + 2 * c))) := by
  obtain ⟨h1, h2, ⟨s0, s1, s2, s3, s4⟩, h3, h4, h5, h6, h7⟩ := h
  have es : ∀ x, x ≠ r + 17 + 2 * c → x ≠ r + 17 + 2 * c + 1 → hs (hs sh (r + 17 + 2 * c) (3, 4)) (r + 17 + 2 * c + 1) (24, 4) x = sh x := fun x hx hx2 => (hs_ne _ _ hx2).trans (hs_ne _ _ hx)
  have ev : ∀ x, x ≠ r + 17 + 2 * c → x ≠ r + 17 + 2 * c + 1 → x ≠ r + 4 → hu V2 (r + 4) c (.ref (r + 17 + 2 * c)) x = V x := fun x hx hx3 hx2 => (hu_ne _ _ _ hx2).trans (hV x hx hx3)
  refine ⟨fun a ha => ⟨(es a (by omega) (by omega)).trans (h1 a ha).1, (ev a (by omega) (by omega) (by omega)).trans (h1 a ha).2⟩, fun a ha => (es a (by omega) (by omega)).trans (h2 a (by omega)), ⟨(es _ (by omega) (by omega)).trans s0, (es _ (by omega) (by omega)).trans s1, (es _ (by omega) (by omega)).trans s2, (es _ (by omega) (by omega)).trans s3, (es _ (by omega) (by omega)).trans s4⟩, rB.keep h3 (ev _ (by omega) (by omega) (by omega)) (fun _ _ => rfl), rC.keep h4 (ev _ (by omega) (by omega) (by omega)) (fun _ _ => rfl), fun j hj => ?_, fun k hk => by rw [ev _ (by omega) (by omega) (by omega)]; exact h6 k hk, fun d hd => ?_⟩
  · obtain ⟨q1, q2⟩ := h5 j hj
    exact ⟨by rw [ev _ (by omega) (by omega) (by omega)]; exact q1, q2.move (es _ (by omega) (by omega)) (ev _ (by omega) (by omega) (by omega))⟩
  · by_cases z : d = c
    · subst z
      exact ⟨hu_at _ _ _ _, fun tk => (hM tk).move0 rfl (hu_ne _ _ _ (by omega)) rfl (hu_ne _ _ _ (by omega))⟩
    · obtain ⟨q1, q2⟩ := h7 d (by omega)
      exact ⟨by rw [hu_at_ne _ _ _ z, hV _ (by omega) (by omega)]; exact q1, fun tk => (q2 tk).move0 (es _ (by omega) (by omega)) (ev _ (by omega) (by omega) (by omega)) (es _ (by omega) (by omega)) (ev _ (by omega) (by omega) (by omega))⟩
theorem Mk.done {sh0 sh : Sh} {V0 V : Vl} (h : Mk sh0 V0 r 12 4 sh V) (h0 : (sh0 r).1 = 7) : RoadAt sh V r f0 := by
  obtain ⟨h1, h2, ⟨s0, s1, s2, s3, s4⟩, h3, h4, h5, h6, h7⟩ := h
  refine ⟨⟨by rw [s0]; exact h0, s1, s2, s3, s4⟩, h3, h4, fun j hj => ?_, fun k hk => ⟨fun _ => h6 k hk, fun q => absurd (f0_hi (by unfold oR; omega)) q⟩, fun c hc => ?_⟩
  · obtain ⟨e0, e1, e2, e3, e4, e5⟩ := f0_M hj
    rw [e0, e1, e2, e3, e4, e5]
    exact h5 j hj
  · obtain ⟨q1, q2⟩ := h7 c hc
    refine ⟨q1, nI 1, ?_, fun z => absurd z (by rw [f0_cnt]; omega)⟩
    have e1 : ldF f0 c = -1 := if_neg (by rw [f0_cnt]; omega)
    have e2 : nF f0 c = 0 := if_neg (by rw [f0_cnt]; omega)
    rw [e1, e2]
    exact q2 _
set_option maxRecDepth 100000 in
theorem c_Road_init (h0 : (sh r).1 = 7) (hz : sz = r + 1) (hP : ∀ sh' V', (∀ a, a < r → sh' a = sh a ∧ V' a = V a) → (∀ a, r + 25 ≤ a → sh' a = sh a) → RoadAt sh' V' r f0 → P (.inl none) sh' (r + 25) V') : MC E YX4_init [.ref r] sh sz V P := by
  subst hz
  refine MC.of RX4 "<init>" rfl (by decide +kernel) rfl 1 [_, none] rfl (Nat.le_of_ble_eq_true rfl) ?_
  show G E MX4_init _ _ _ _ _ _ _ _ _
  refine g_aload_n dX4_init_0 rfl ?_
  refine g_objInit ml_X4_3 obj_inst obj_code dX4_init_1 (Nat.le_of_ble_eq_true rfl) (Nat.le_of_ble_eq_true rfl) ?_
  refine g_aload_n dX4_init_4 rfl ?_
  refine g_iconst (v := nI 3) dX4_init_5 (by decide) ?_
  refine g_newa 20 (atype := .int) rfl (by decide) (by decide) arr_int 3 (by decide) (by decide) (Nat.le_of_ble_eq_true rfl) dX4_init_6 (by decide) ?_
  refine g_dup dX4_init_8 rfl ?_
  refine g_iconst (v := nI 0) dX4_init_9 (by decide) ?_
  refine g_bipush (v := (-20)) dX4_init_10 (by decide) ?_
  refine g_iastore dX4_init_12 (hs_at _ _ _) (vp_in_nI (by decide) (by decide)) ?_
  refine g_dup dX4_init_13 rfl ?_
  refine g_iconst (v := nI 1) dX4_init_14 (by decide) ?_
  refine g_bipush (v := nI 100) dX4_init_15 (by decide) ?_
  refine g_iastore dX4_init_17 (hs_at _ _ _) (vp_in_nI (by decide) (by decide)) ?_
  refine g_dup dX4_init_18 rfl ?_
  refine g_iconst (v := nI 2) dX4_init_19 (by decide) ?_
  refine g_bipush (v := nI 7) dX4_init_20 (by decide) ?_
  refine g_iastore dX4_init_22 (hs_at _ _ _) (vp_in_nI (by decide) (by decide)) ?_
  refine g_putF 6 rfl (by decide) inX4 tyX4 tyX4_ok nmX4 0 (by decide) fl_X4_9 rfl rfl rfl dX4_init_23 ((congrArg Prod.fst (hs_ne _ _ (by omega))).trans h0) rfl rfl ?_
  refine g_aload_n dX4_init_26 rfl ?_
  refine g_iconst (v := nI 0) dX4_init_27 (by decide) ?_
  refine g_put 6 rfl (by decide) inX4 tyX4 tyX4_ok nmX4 1 (by decide) fl_X4_15 rfl dX4_init_28 ((congrArg Prod.fst (hs_ne _ _ (by omega))).trans h0) rfl rfl ?_
  refine g_aload_n dX4_init_31 rfl ?_
  refine g_bipush (v := nI 12) dX4_init_32 (by decide) ?_
  refine g_anew 25 (C := RX2) rfl (by decide) (by decide) (fun s h => h.2.2.1.2.1) cl_X4_19 12 (by decide) (by decide) (Nat.le_of_ble_eq_true rfl) dX4_init_34 (by decide) ?_
  refine g_putF 6 rfl (by decide) inX4 tyX4 tyX4_ok nmX4 2 (by decide) fl_X4_21 rfl rfl rfl dX4_init_37 ((congrArg Prod.fst ((hs_ne _ _ (by omega)).trans (hs_ne _ _ (by omega)))).trans h0) rfl rfl ?_
  refine g_aload_n dX4_init_40 rfl ?_
  refine g_bipush (v := nI 10) dX4_init_41 (by decide) ?_
  refine g_anew 24 (C := RX5) rfl (by decide) (by decide) (fun s h => h.2.2.1.1) cl_X4_25 10 (by decide) (by decide) (Nat.le_of_ble_eq_true rfl) dX4_init_43 (by decide) ?_
  refine g_putF 6 rfl (by decide) inX4 tyX4 tyX4_ok nmX4 3 (by decide) fl_X4_27 rfl rfl rfl dX4_init_46 ((congrArg Prod.fst ((hs_ne _ _ (by omega)).trans ((hs_ne _ _ (by omega)).trans (hs_ne _ _ (by omega))))).trans h0) rfl rfl ?_
  refine g_aload_n dX4_init_49 rfl ?_
  refine g_iconst (v := nI 4) dX4_init_50 (by decide) ?_
  refine g_anew 26 (C := RX0) rfl (by decide) (by decide) (fun s h => h.2.2.1.2.2.1) cl_X4_31 4 (by decide) (by decide) (Nat.le_of_ble_eq_true rfl) dX4_init_51 (by decide) ?_
  refine g_putF 6 rfl (by decide) inX4 tyX4 tyX4_ok nmX4 4 (by decide) fl_X4_33 rfl rfl rfl dX4_init_54 ((congrArg Prod.fst ((hs_ne _ _ (by omega)).trans ((hs_ne _ _ (by omega)).trans ((hs_ne _ _ (by omega)).trans (hs_ne _ _ (by omega)))))).trans h0) rfl rfl ?_
  refine g_aload_n dX4_init_57 rfl ?_
  refine g_iconst (v := nI 0) dX4_init_58 (by decide) ?_
  refine g_put 6 rfl (by decide) inX4 tyX4 tyX4_ok nmX4 5 (by decide) fl_X4_37 rfl dX4_init_59 ((congrArg Prod.fst ((hs_ne _ _ (by omega)).trans ((hs_ne _ _ (by omega)).trans ((hs_ne _ _ (by omega)).trans (hs_ne _ _ (by omega)))))).trans h0) rfl rfl ?_
  refine g_aload_n dX4_init_62 rfl ?_
  refine g_iconst (v := nI 0) dX4_init_63 (by decide) ?_
  refine g_put 6 rfl (by decide) inX4 tyX4 tyX4_ok nmX4 6 (by decide) fl_X4_40 rfl dX4_init_64 ((congrArg Prod.fst ((hs_ne _ _ (by omega)).trans ((hs_ne _ _ (by omega)).trans ((hs_ne _ _ (by omega)).trans (hs_ne _ _ (by omega)))))).trans h0) rfl rfl ?_
  refine g_aload_n dX4_init_67 rfl ?_
  refine g_iconst (v := nI 0) dX4_init_68 (by decide) ?_
  refine g_put 6 rfl (by decide) inX4 tyX4 tyX4_ok nmX4 7 (by decide) fl_X4_43 rfl dX4_init_69 ((congrArg Prod.fst ((hs_ne _ _ (by omega)).trans ((hs_ne _ _ (by omega)).trans ((hs_ne _ _ (by omega)).trans (hs_ne _ _ (by omega)))))).trans h0) rfl rfl ?_
  refine g_aload_n dX4_init_72 rfl ?_
  refine g_iconst (v := nI 0) dX4_init_73 (by decide) ?_
  refine g_put 6 rfl (by decide) inX4 tyX4 tyX4_ok nmX4 8 (by decide) fl_X4_46 rfl dX4_init_74 ((congrArg Prod.fst ((hs_ne _ _ (by omega)).trans ((hs_ne _ _ (by omega)).trans ((hs_ne _ _ (by omega)).trans (hs_ne _ _ (by omega)))))).trans h0) rfl rfl ?_
  refine g_iconst (v := nI 0) dX4_init_77 (by decide) ?_
  refine g_istore_n dX4_init_78 (by decide) rfl ?_
  show G _ _ _ _ _ _ _ _ _ [_, _] _
  suffices K : ∀ sh1 V1, Mk sh V r 0 0 sh1 V1 → G E MX4_init P sh1 (r + 5) V1 4 29 79 [some (.ref r), some (.int (nI 0))] [] from K _ _ ⟨fun a ha => ⟨by simp [hs, Nat.ne_of_lt ha, show a ≠ r + 1 by omega, show a ≠ r + 2 by omega, show a ≠ r + 3 by omega, show a ≠ r + 4 by omega, Nat.add_assoc], by simp [hu, hn, Nat.ne_of_lt ha, show a ≠ r + 1 by omega, show a ≠ r + 2 by omega, show a ≠ r + 3 by omega, show a ≠ r + 4 by omega, Nat.add_assoc]⟩, fun a ha => by simp [hs, show a ≠ r + 1 by omega, show a ≠ r + 2 by omega, show a ≠ r + 3 by omega, show a ≠ r + 4 by omega, Nat.add_assoc], by simp [hs, Nat.add_assoc], by simp [rB, hu, updV, hn, f0, Nat.add_assoc, nI_0], fun k hk => by
    rcases (show k = 0 ∨ k = 1 ∨ k = 2 by omega) with rfl | rfl | rfl <;> simp [hu, updV, hn, f0, Nat.add_assoc, nc0, nc1, nc2], fun j hj => absurd hj (Nat.not_lt_zero j), fun k hk => by simp [hu, hn, Nat.add_assoc], fun j hj => absurd hj (Nat.not_lt_zero j)⟩
  have K2 : ∀ (d c : Nat), c + d = 4 → ∀ sh1 V1, Mk sh V r 12 c sh1 V1 → G E MX4_init P sh1 (r + 17 + 2 * c) V1 (16 + 2 * c) (101 + 8 * c) 106 [some (.ref r), some (.int (nI c))] [] := by
    intro d
    induction d with
    | zero =>
      intro c hc sh1 V1 h
      have e : c = 4 := by omega
      subst e
      refine g_iload_n dX4_init_106 rfl ?_
      refine g_iconst (v := nI 4) dX4_init_107 (by decide) ?_
      refine g_icmp_ge (tgt := 130) dX4_init_108 (by decide) (fun _ => ?_) (fun hq => absurd (Int32.le_refl _) hq)
      exact g_vret rfl dX4_init_130 (by decide) (hP _ _ h.1 h.2.1 (h.done h0))
    | succ d ih =>
      intro c hc sh1 V1 h
      have es : (sh1 r).1 = 7 := by rw [h.2.2.1.1]; exact h0
      refine g_iload_n dX4_init_106 rfl ?_
      refine g_iconst (v := nI 4) dX4_init_107 (by decide) ?_
      refine g_icmp_ge (tgt := 130) dX4_init_108 (by decide) (fun hq => absurd hq (nI_ge (by omega) (by decide))) (fun _ => ?_)
      refine g_aload_n dX4_init_111 rfl ?_
      refine g_get 6 rfl (by decide) inX4 4 (by decide) fl_X4_33 dX4_init_112 es h.2.2.2.1.2.2.2.2.1 ?_
      refine g_iload_n dX4_init_115 rfl ?_
      refine g_new 2 rfl (by decide) inX0 tyX0 tyX0_ok cl_X4_31 new_X0 ini_X0 dX4_init_116 ⟨by show 16 + 2 * c + 1 ≤ 24; omega, by show 101 + 8 * c + 4 ≤ 133; omega⟩ ?_
      have ex : (hs sh1 (r + 17 + 2 * c) (3, 4) (r + 17 + 2 * c)).1 = 3 := by rw [hs_at]
      refine g_dup dX4_init_119 rfl ?_
      refine g_callIN (Y := YX0_init) rfl wc_X0_init mn_X4_50 wi_X0_init ini_X0 rfl yn_X0_init dX4_init_120 (c_Convoy_init (P := fun o sh' sz' V' => o = .inl none ∧ sh' = hs (hs sh1 (r + 17 + 2 * c) (3, 4)) (r + 17 + 2 * c + 1) (24, 4) ∧ sz' = r + 17 + 2 * c + 2 ∧ (∀ x, x ≠ r + 17 + 2 * c → x ≠ r + 17 + 2 * c + 1 → V' x = V1 x) ∧ ∀ tk, CvAt (hs (hs sh1 (r + 17 + 2 * c) (3, 4)) (r + 17 + 2 * c + 1) (24, 4)) V' (r + 17 + 2 * c) (nI 1) (-1) 0 tk) ex rfl (fun V' q1 q2 => ⟨rfl, rfl, rfl, fun x hx hx2 => (q1 x hx hx2).trans (hn_ne _ _ hx), q2⟩)) rfl rfl ⟨by decide, by decide, by show 16 + 2 * c + 1 + 1 ≤ 24; omega, by show 101 + 8 * c + 4 + 4 ≤ 133; omega⟩ (Nat.le_of_ble_eq_true rfl) (fun _ _ _ _ q => by rw [q.2.2.1]; omega) (fun _ _ _ _ q => nomatch q.1) (fun v sh' sz' V' q => ?_)
      obtain ⟨q0, rfl, rfl, q1, q2⟩ := q
      cases q0
      have ev : (hs (hs sh1 (r + 17 + 2 * c) (3, 4)) (r + 17 + 2 * c + 1) (24, 4)) (r + 4) = (26, 4) := ((hs_ne _ _ (by omega)).trans (hs_ne _ _ (by omega))).trans h.2.2.1.2.2.2.2
      refine g_aastore 26 2 rfl (by decide) rfl (by decide) (by decide) dX4_init_123 ev (q2 (fun _ => (0, 0, 0))).1 (vp_in_nI (by omega) (by decide)) ?_
      rw [nI_clamp (by omega)]
      refine g_iinc dX4_init_124 rfl (by first | exact nI_inc _ | rfl) (by decide) rfl ?_
      show G _ _ _ _ _ _ _ _ _ [_, _] _
      refine g_jump (tgt := 106) dX4_init_127 (by decide) ?_
      exact ih (c + 1) (by omega) _ _ (h.conv (by omega) q1 q2)
  suffices K1 : ∀ (d i : Nat), i + d = 12 → ∀ sh1 V1, Mk sh V r i 0 sh1 V1 → G E MX4_init P sh1 (r + 5 + i) V1 (4 + i) (29 + 6 * i) 79 [some (.ref r), some (.int (nI i))] [] from K1 12 0 rfl
  intro d
  induction d with
  | zero =>
    intro i hi sh1 V1 h
    have e : i = 12 := by omega
    subst e
    refine g_iload_n dX4_init_79 rfl ?_
    refine g_bipush (v := nI 12) dX4_init_80 (by decide) ?_
    refine g_icmp_ge (tgt := 104) dX4_init_82 (by decide) (fun _ => ?_) (fun hq => absurd (Int32.le_refl _) hq)
    refine g_iconst (v := nI 0) dX4_init_104 (by decide) ?_
    refine g_istore_n dX4_init_105 (by decide) rfl ?_
    show G _ _ _ _ _ _ _ _ _ [_, _] _
    exact K2 4 0 rfl sh1 V1 h
  | succ d ih =>
    intro i hi sh1 V1 h
    have es : (sh1 r).1 = 7 := by rw [h.2.2.1.1]; exact h0
    refine g_iload_n dX4_init_79 rfl ?_
    refine g_bipush (v := nI 12) dX4_init_80 (by decide) ?_
    refine g_icmp_ge (tgt := 104) dX4_init_82 (by decide) (fun hq => absurd hq (nI_ge (by omega) (by decide))) (fun _ => ?_)
    refine g_aload_n dX4_init_85 rfl ?_
    refine g_get 6 rfl (by decide) inX4 2 (by decide) fl_X4_21 dX4_init_86 es h.2.2.2.1.2.2.1 ?_
    refine g_iload_n dX4_init_89 rfl ?_
    refine g_new 4 rfl (by decide) inX2 tyX2 tyX2_ok cl_X4_19 new_X2 ini_X2 dX4_init_90 ⟨by show 4 + i + 1 ≤ 24; omega, by show 29 + 6 * i + 6 ≤ 133; omega⟩ ?_
    have ex : (hs sh1 (r + 5 + i) (5, 6) (r + 5 + i)).1 = 5 := by rw [hs_at]
    refine g_dup dX4_init_93 rfl ?_
    refine g_callIN (Y := YX2_init) rfl wc_X2_init mn_X4_49 wi_X2_init ini_X2 rfl yn_X2_init dX4_init_94 (c_Mile_init (P := fun o sh' sz' V' => o = .inl none ∧ sh' = hs sh1 (r + 5 + i) (5, 6) ∧ sz' = r + 5 + i + 1 ∧ (∀ x, x ≠ r + 5 + i → V' x = V1 x) ∧ MiAt (hs sh1 (r + 5 + i) (5, 6)) V' (r + 5 + i) 1106247680 0 (-1) 0 0 0) ex (fun V' q1 q2 => ⟨rfl, rfl, rfl, fun x hx => (q1 x hx).trans (hn_ne _ _ hx), q2⟩)) rfl rfl ⟨by decide, by decide, by show 4 + i + 1 + 0 ≤ 24; omega, by show 29 + 6 * i + 6 + 0 ≤ 133; omega⟩ (Nat.le_of_ble_eq_true rfl) (fun _ _ _ _ q => by rw [q.2.2.1]; omega) (fun _ _ _ _ q => nomatch q.1) (fun v sh' sz' V' q => ?_)
    obtain ⟨q0, rfl, rfl, q1, q2⟩ := q
    cases q0
    have ev : (hs sh1 (r + 5 + i) (5, 6)) (r + 2) = (25, 12) := (hs_ne _ _ (by omega)).trans h.2.2.1.2.2.1
    refine g_aastore 25 4 rfl (by decide) rfl (by decide) (by decide) dX4_init_97 ev q2.1 (vp_in_nI (by omega) (by decide)) ?_
    rw [nI_clamp (by omega)]
    refine g_iinc dX4_init_98 rfl (by first | exact nI_inc _ | rfl) (by decide) rfl ?_
    show G _ _ _ _ _ _ _ _ _ [_, _] _
    refine g_jump (tgt := 79) dX4_init_101 (by decide) ?_
    exact ih (i + 1) (by omega) _ _ (h.mile (by omega) q1 q2)
end INIT

