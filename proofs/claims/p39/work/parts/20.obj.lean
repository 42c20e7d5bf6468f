/-! the whole object: its picture, its constructor -/
section OBJ
theorem RoadAt.move {sh sh' : Sh} {V V' : Vl} {r : Nat} {f : Fl} (h : RoadAt sh V r f) (he : ∀ a, r ≤ a → a < r + 25 → sh' a = sh a ∧ V' a = V a) (ht : ∀ q, (sh q).1 = 8 → sh' q = sh q ∧ V' q = V q) : RoadAt sh' V' r f := by
  have h0 := h.keep (V' := V') (fun a h1 h2 => (he a h1 h2).2) (fun q hq => (ht q hq).2)
  have es : ∀ k, k < 25 → sh' (r + k) = sh (r + k) := fun k hk => (he _ (by omega) (by omega)).1
  have tk : ∀ q t, TrAt sh V' q t → TrAt sh' V' q t := fun q t hq => ⟨by rw [(ht q hq.1).1]; exact hq.1, hq.2⟩
  obtain ⟨⟨a0, a1, a2, a3, a4⟩, hB, hC, hD, hE, hF⟩ := h0
  refine ⟨⟨by rw [show sh' r = sh r from es 0 (by decide)]; exact a0, (es 1 (by decide)).trans a1, (es 2 (by decide)).trans a2, (es 3 (by decide)).trans a3, (es 4 (by decide)).trans a4⟩, hB, hC, fun j hj => ?_, fun k hk => ?_, fun c hc => ?_⟩
  · obtain ⟨q1, q2, q3⟩ := hD j hj
    exact ⟨q1, by rw [show sh' (r + 5 + j) = sh (r + 5 + j) from by rw [Nat.add_assoc]; exact es _ (by omega)]; exact q2, q3⟩
  · obtain ⟨q1, q2⟩ := hE k hk
    exact ⟨q1, fun z => by
      obtain ⟨t, t1, t2⟩ := q2 z
      exact ⟨t, t1, tk _ _ t2⟩⟩
  · obtain ⟨q1, g, ⟨c0, ca, c1, c2, c3, c4, c5, c6, c7⟩, q3⟩ := hF c hc
    exact ⟨q1, g, ⟨by rw [show sh' (r + 17 + 2 * c) = sh (r + 17 + 2 * c) from by rw [Nat.add_assoc]; exact es _ (by omega)]; exact c0, by rw [show sh' (r + 17 + 2 * c + 1) = sh (r + 17 + 2 * c + 1) from by rw [Nat.add_assoc, Nat.add_assoc]; exact es _ (by omega)]; exact ca, c1, c2, c3, c4, c5, fun k hk => by
      obtain ⟨t, t1, t2⟩ := c6 k hk
      exact ⟨t, t1, tk _ _ t2⟩, c7⟩, q3⟩
/-- the input -/
def OrAt (sh : Sh) (V : Vl) (o : Nat) (tx : Nat → Int32) (ln : Nat) : Prop :=
  ((sh o).1 = 6 ∧ sh (o + 1) = (21, 60) ∧ sh (o + 2) = (20, 20) ∧ sh (o + 3) = (20, 20) ∧ sh (o + 4) = (20, 20) ∧ sh (o + 5) = (20, 20)) ∧
  (V o 0 = .ref (o + 1) ∧ V o 1 = .int (nI ln) ∧ V o 4 = .ref (o + 2) ∧ V o 5 = .ref (o + 3) ∧ V o 6 = .ref (o + 4) ∧ V o 7 = .ref (o + 5)) ∧ ln ≤ 60 ∧ ∀ k, k < ln → V (o + 1) k = .int (tx k)
/-- the object's own cell -/
def ObAt (sh : Sh) (V : Vl) (x : Nat) (sv : Bool) (er rf : Int32) : Prop :=
  (sh x).1 = 9 ∧ V x 0 = .ref (x + 1) ∧ V x 1 = .ref (x + 26) ∧ V x 2 = .ref (x + 51) ∧ V x 3 = .int (bi (sv = true)) ∧ V x 4 = .ref (x + 76) ∧ V x 5 = .ref (x + 278) ∧ V x 6 = .int er ∧ V x 7 = .int rf
/-- the object: what it is now, its snapshot, its history, its input, its error position, its reason -/
def CAt (sh : Sh) (V : Vl) (x : Nat) (f : Fl) (sn : Option Fl) (H : Nat → Fl) (cn : Nat) (tx : Nat → Int32) (ln : Nat) (er : Int32) (rf : Int32 × Int32) : Prop :=
  ObAt sh V x sn.isSome er (enc rf) ∧ RoadAt sh V (x + 1) f ∧ (∃ g, RoadAt sh V (x + 26) g) ∧ (∃ g, RoadAt sh V (x + 51) g ∧ ∀ g', sn = some g' → g = g') ∧ (∃ K nx, HiAt sh V (x + 76) K nx cn ∧ ring K nx cn H) ∧ OrAt sh V (x + 278) tx ln
def Wf (sh : Sh) (sz : Nat) : Prop := ∀ a, sz ≤ a → (sh a).1 = 0
variable {E : gE} {M : gM} {P : gP} {sh : Sh} {sz : Nat} {V : Vl} {cu su pc : Nat} {L : List (Option Value)} {rest : List Value} {r : Nat}
def Hk (sh0 : Sh) (V0 : Vl) (h i : Nat) (sh : Sh) (V : Vl) : Prop :=
  (∀ a, a < h → sh a = sh0 a ∧ V a = V0 a) ∧ (∀ a, h + 2 + 25 * i ≤ a → sh a = sh0 a) ∧ sh h = sh0 h ∧ sh (h + 1) = (27, 8) ∧ V h 0 = .ref (h + 1) ∧ V h 1 = .int (nI 0) ∧ V h 2 = .int (nI 0) ∧ ∀ j, j < i → V (h + 1) j = .ref (h + 2 + 25 * j) ∧ RoadAt sh V (h + 2 + 25 * j) f0
set_option maxRecDepth 100000 in
theorem c_History_init {h : Nat} (h0 : (sh h).1 = 4) (hz : sz = h + 1) (hW : Wf sh sz) (hP : ∀ sh' V', (∀ a, a < h → sh' a = sh a ∧ V' a = V a) → (∀ a, h + 202 ≤ a → sh' a = sh a) → HiAt sh' V' h (fun _ => f0) 0 0 → P (.inl none) sh' (h + 202) V') : MC E YX1_init [.ref h] sh sz V P := by
  subst hz
  refine MC.of RX1 "<init>" rfl (by decide +kernel) rfl 1 [_, none] rfl (Nat.le_of_ble_eq_true rfl) ?_
  show G E MX1_init _ _ _ _ _ _ _ _ _
  refine g_aload_n dX1_init_0 rfl ?_
  refine g_objInit ml_X1_3 obj_inst obj_code dX1_init_1 (Nat.le_of_ble_eq_true rfl) (Nat.le_of_ble_eq_true rfl) ?_
  refine g_aload_n dX1_init_4 rfl ?_
  refine g_bipush (v := nI 8) dX1_init_5 (by decide) ?_
  refine g_anew 27 (C := RX4) rfl (by decide) (by decide) (fun s h => h.2.2.1.2.2.2) cl_X1_9 8 (by decide) (by decide) (Nat.le_of_ble_eq_true rfl) dX1_init_7 (by decide) ?_
  refine g_putF 3 rfl (by decide) inX1 tyX1 tyX1_ok nmX1 0 (by decide) fl_X1_11 rfl rfl rfl dX1_init_10 ((congrArg Prod.fst (hs_ne _ _ (by omega))).trans h0) rfl rfl ?_
  refine g_aload_n dX1_init_13 rfl ?_
  refine g_iconst (v := nI 0) dX1_init_14 (by decide) ?_
  refine g_put 3 rfl (by decide) inX1 tyX1 tyX1_ok nmX1 1 (by decide) fl_X1_17 rfl dX1_init_15 ((congrArg Prod.fst (hs_ne _ _ (by omega))).trans h0) rfl rfl ?_
  refine g_aload_n dX1_init_18 rfl ?_
  refine g_iconst (v := nI 0) dX1_init_19 (by decide) ?_
  refine g_put 3 rfl (by decide) inX1 tyX1 tyX1_ok nmX1 2 (by decide) fl_X1_21 rfl dX1_init_20 ((congrArg Prod.fst (hs_ne _ _ (by omega))).trans h0) rfl rfl ?_
  refine g_iconst (v := nI 0) dX1_init_23 (by decide) ?_
  refine g_istore_n dX1_init_24 (by decide) rfl ?_
  show G _ _ _ _ _ _ _ _ _ [_, _] _
  suffices K : ∀ (d i : Nat), i + d = 8 → ∀ sh1 V1, Hk sh V h i sh1 V1 → G E MX1_init P sh1 (h + 2 + 25 * i) V1 (1 + 25 * i) (8 + 142 * i) 25 [some (.ref h), some (.int (nI i))] [] from K 8 0 rfl _ _ ⟨fun a ha => ⟨hs_ne _ _ (by omega), by simp [hu, hn, Nat.ne_of_lt ha, show a ≠ h + 1 by omega]⟩, fun a ha => hs_ne _ _ (by omega), hs_ne _ _ (by omega), hs_at _ _ _, by simp [hu, updV], by simp [hu, updV], by simp [hu, updV], fun j hj => absurd hj (Nat.not_lt_zero j)⟩
  intro d
  induction d with
  | zero =>
    intro i hi sh1 V1 hk
    have e : i = 8 := by omega
    subst e
    obtain ⟨h1, h2, h3, h4, h5, h6, h7, h8⟩ := hk
    refine g_iload_n dX1_init_25 rfl ?_
    refine g_bipush (v := nI 8) dX1_init_26 (by decide) ?_
    refine g_icmp_ge (tgt := 50) dX1_init_28 (by decide) (fun _ => ?_) (fun hq => absurd (Int32.le_refl _) hq)
    exact g_vret rfl dX1_init_50 (by decide) (hP _ _ h1 h2 ⟨by rw [h3]; exact h0, h4, h5, h6, h7, by decide, by decide, h8⟩)
  | succ d ih =>
    intro i hi sh1 V1 hk
    obtain ⟨h1, h2, h3, h4, h5, h6, h7, h8⟩ := hk
    have es : (sh1 h).1 = 4 := by rw [h3]; exact h0
    refine g_iload_n dX1_init_25 rfl ?_
    refine g_bipush (v := nI 8) dX1_init_26 (by decide) ?_
    refine g_icmp_ge (tgt := 50) dX1_init_28 (by decide) (fun hq => absurd hq (nI_ge (by omega) (by decide))) (fun _ => ?_)
    refine g_aload_n dX1_init_31 rfl ?_
    refine g_get 3 rfl (by decide) inX1 0 (by decide) fl_X1_11 dX1_init_32 es h5 ?_
    refine g_iload_n dX1_init_35 rfl ?_
    refine g_new 6 rfl (by decide) inX4 tyX4 tyX4_ok cl_X1_9 new_X4 ini_X4 dX1_init_36 ⟨by show 1 + 25 * i + 1 ≤ 201; omega, by show 8 + 142 * i + 9 ≤ 1144; omega⟩ ?_
    have ex : (hs sh1 (h + 2 + 25 * i) (7, 9) (h + 2 + 25 * i)).1 = 7 := by rw [hs_at]
    refine g_dup dX1_init_39 rfl ?_
    refine g_callI (Y := YX4_init) rfl wc_X4_init ml_X1_24 wi_X4_init ini_X4 rfl yn_X4_init dX1_init_40 (c_Road_init (P := fun o sh' sz' V' => o = .inl none ∧ sz' = h + 2 + 25 * i + 25 ∧ (∀ a, a < h + 2 + 25 * i → sh' a = sh1 a ∧ V' a = V1 a) ∧ (∀ a, h + 2 + 25 * i + 25 ≤ a → sh' a = sh1 a) ∧ RoadAt sh' V' (h + 2 + 25 * i) f0) ex rfl (fun sh' V' q1 q2 q3 => ⟨rfl, rfl, fun a ha => ⟨(q1 a ha).1.trans (hs_ne _ _ (by omega)), (q1 a ha).2.trans (hn_ne _ _ (by omega))⟩, fun a ha => (q2 a ha).trans (hs_ne _ _ (by omega)), q3⟩)) rfl rfl ⟨by decide, by decide, by show 1 + 25 * i + 1 + 24 ≤ 201; omega, by show 8 + 142 * i + 9 + 133 ≤ 1144; omega⟩ (Nat.le_of_ble_eq_true rfl) (fun _ _ _ _ q => by rw [q.2.1]; omega) (fun _ _ _ _ q => nomatch q.1) (fun v sh' sz' V' q => ?_)
    obtain ⟨q0, rfl, q1, q2, q3⟩ := q
    cases q0
    have ev : sh' (h + 1) = (27, 8) := (q1 _ (by omega)).1.trans h4
    refine g_aastore 27 6 rfl (by decide) rfl (by decide) (by decide) dX1_init_43 ev q3.1.1 (vp_in_nI (by omega) (by decide)) ?_
    rw [nI_clamp (by omega)]
    refine g_iinc dX1_init_44 rfl (by first | exact nI_inc _ | rfl) (by decide) rfl ?_
    show G _ _ _ _ _ _ _ _ _ [_, _] _
    refine g_jump (tgt := 25) dX1_init_47 (by decide) ?_
    have e9 : ∀ a, a ≠ h + 1 → hu V' (h + 1) i (.ref (h + 2 + 25 * i)) a = V' a := fun a ha => hu_ne _ _ _ ha
    have hT9 : Tr sh' V' (hu V' (h + 1) i (.ref (h + 2 + 25 * i))) := fun q hq => e9 q (fun e => by rw [e, ev] at hq; cases hq)
    refine ih (i + 1) (by omega) sh' _ ⟨fun a ha => ⟨(q1 a (by omega)).1.trans (h1 a ha).1, ((e9 a (by omega)).trans (q1 a (by omega)).2).trans (h1 a ha).2⟩, fun a ha => (q2 a (by omega)).trans (h2 a (by omega)), (q1 h (by omega)).1.trans h3, ev, (congrFun ((e9 h (by omega)).trans (q1 h (by omega)).2) 0).trans h5, (congrFun ((e9 h (by omega)).trans (q1 h (by omega)).2) 1).trans h6, (congrFun ((e9 h (by omega)).trans (q1 h (by omega)).2) 2).trans h7, fun j hj => ?_⟩
    by_cases z : j = i
    · subst z
      exact ⟨hu_at _ _ _ _, q3.keep (fun a h1 h2 => e9 a (by omega)) hT9⟩
    · obtain ⟨w1, w2⟩ := h8 j (by omega)
      refine ⟨(hu_at_ne _ _ _ z).trans ((congrFun (q1 _ (by omega)).2 j).trans w1), (w2.move (fun a h1 h2 => q1 a (by omega)) (fun q hq => ?_)).keep (fun a h1 h2 => e9 a (by omega)) hT9⟩
      by_cases z2 : q < h + 2 + 25 * i
      · exact q1 q z2
      · have := h2 q (by omega)
        rw [this, hW q (by omega)] at hq
        cases hq
theorem c_Orders_init {o : Nat} (h0 : (sh o).1 = 6) (hz : sz = o + 1) (hP : ∀ sh' V', (∀ a, a < o → sh' a = sh a ∧ V' a = V a) → (∀ a, o + 6 ≤ a → sh' a = sh a) → (∀ tx, OrAt sh' V' o tx 0) → P (.inl none) sh' (o + 6) V') : MC E YX3_init [.ref o] sh sz V P := by
  subst hz
  refine MC.of RX3 "<init>" rfl (by decide +kernel) rfl 0 [_] rfl (Nat.le_of_ble_eq_true rfl) ?_
  show G E MX3_init _ _ _ _ _ _ _ _ _
  refine g_aload_n dX3_init_0 rfl ?_
  refine g_objInit ml_X3_3 obj_inst obj_code dX3_init_1 (Nat.le_of_ble_eq_true rfl) (Nat.le_of_ble_eq_true rfl) ?_
  refine g_aload_n dX3_init_4 rfl ?_
  refine g_bipush (v := nI 60) dX3_init_5 (by decide) ?_
  refine g_newa 21 (atype := .char) rfl (by decide) (by decide) arr_char 60 (by decide) (by decide) (Nat.le_of_ble_eq_true rfl) dX3_init_7 (by decide) ?_
  refine g_putF 5 rfl (by decide) inX3 tyX3 tyX3_ok nmX3 0 (by decide) fl_X3_9 rfl rfl rfl dX3_init_9 ((congrArg Prod.fst (hs_ne _ _ (by omega))).trans h0) rfl rfl ?_
  refine g_aload_n dX3_init_12 rfl ?_
  refine g_iconst (v := nI 0) dX3_init_13 (by decide) ?_
  refine g_put 5 rfl (by decide) inX3 tyX3 tyX3_ok nmX3 1 (by decide) fl_X3_15 rfl dX3_init_14 ((congrArg Prod.fst (hs_ne _ _ (by omega))).trans h0) rfl rfl ?_
  refine g_aload_n dX3_init_17 rfl ?_
  refine g_iconst (v := nI 0) dX3_init_18 (by decide) ?_
  refine g_put 5 rfl (by decide) inX3 tyX3 tyX3_ok nmX3 2 (by decide) fl_X3_19 rfl dX3_init_19 ((congrArg Prod.fst (hs_ne _ _ (by omega))).trans h0) rfl rfl ?_
  refine g_aload_n dX3_init_22 rfl ?_
  refine g_iconst (v := nI 0) dX3_init_23 (by decide) ?_
  refine g_put 5 rfl (by decide) inX3 tyX3 tyX3_ok nmX3 3 (by decide) fl_X3_22 rfl dX3_init_24 ((congrArg Prod.fst (hs_ne _ _ (by omega))).trans h0) rfl rfl ?_
  refine g_aload_n dX3_init_27 rfl ?_
  refine g_bipush (v := nI 20) dX3_init_28 (by decide) ?_
  refine g_newa 20 (atype := .int) rfl (by decide) (by decide) arr_int 20 (by decide) (by decide) (Nat.le_of_ble_eq_true rfl) dX3_init_30 (by decide) ?_
  refine g_putF 5 rfl (by decide) inX3 tyX3 tyX3_ok nmX3 4 (by decide) fl_X3_25 rfl rfl rfl dX3_init_32 ((congrArg Prod.fst ((hs_ne _ _ (by omega)).trans (hs_ne _ _ (by omega)))).trans h0) rfl rfl ?_
  refine g_aload_n dX3_init_35 rfl ?_
  refine g_bipush (v := nI 20) dX3_init_36 (by decide) ?_
  refine g_newa 20 (atype := .int) rfl (by decide) (by decide) arr_int 20 (by decide) (by decide) (Nat.le_of_ble_eq_true rfl) dX3_init_38 (by decide) ?_
  refine g_putF 5 rfl (by decide) inX3 tyX3 tyX3_ok nmX3 5 (by decide) fl_X3_29 rfl rfl rfl dX3_init_40 ((congrArg Prod.fst ((hs_ne _ _ (by omega)).trans ((hs_ne _ _ (by omega)).trans (hs_ne _ _ (by omega))))).trans h0) rfl rfl ?_
  refine g_aload_n dX3_init_43 rfl ?_
  refine g_bipush (v := nI 20) dX3_init_44 (by decide) ?_
  refine g_newa 20 (atype := .int) rfl (by decide) (by decide) arr_int 20 (by decide) (by decide) (Nat.le_of_ble_eq_true rfl) dX3_init_46 (by decide) ?_
  refine g_putF 5 rfl (by decide) inX3 tyX3 tyX3_ok nmX3 6 (by decide) fl_X3_32 rfl rfl rfl dX3_init_48 ((congrArg Prod.fst ((hs_ne _ _ (by omega)).trans ((hs_ne _ _ (by omega)).trans ((hs_ne _ _ (by omega)).trans (hs_ne _ _ (by omega)))))).trans h0) rfl rfl ?_
  refine g_aload_n dX3_init_51 rfl ?_
  refine g_bipush (v := nI 20) dX3_init_52 (by decide) ?_
  refine g_newa 20 (atype := .int) rfl (by decide) (by decide) arr_int 20 (by decide) (by decide) (Nat.le_of_ble_eq_true rfl) dX3_init_54 (by decide) ?_
  refine g_putF 5 rfl (by decide) inX3 tyX3 tyX3_ok nmX3 7 (by decide) fl_X3_35 rfl rfl rfl dX3_init_56 ((congrArg Prod.fst ((hs_ne _ _ (by omega)).trans ((hs_ne _ _ (by omega)).trans ((hs_ne _ _ (by omega)).trans ((hs_ne _ _ (by omega)).trans (hs_ne _ _ (by omega))))))).trans h0) rfl rfl ?_
  refine g_vret rfl dX3_init_59 (by decide) (hP _ _ (fun a ha => ⟨?_, ?_⟩) (fun a ha => ?_) (fun tx => ⟨?_, ?_, by omega, fun k hk => absurd hk (Nat.not_lt_zero k)⟩))
  · simp [hs, Nat.add_assoc, show a ≠ o + 1 by omega, show a ≠ o + 2 by omega, show a ≠ o + 3 by omega, show a ≠ o + 4 by omega, show a ≠ o + 5 by omega]
  · simp [hu, hn, Nat.add_assoc, Nat.ne_of_lt ha, show a ≠ o + 1 by omega, show a ≠ o + 2 by omega, show a ≠ o + 3 by omega, show a ≠ o + 4 by omega, show a ≠ o + 5 by omega]
  · simp [hs, Nat.add_assoc, show a ≠ o + 1 by omega, show a ≠ o + 2 by omega, show a ≠ o + 3 by omega, show a ≠ o + 4 by omega, show a ≠ o + 5 by omega]
  · simp [hs, Nat.add_assoc, h0]
  · simp [hu, updV, hn, Nat.add_assoc]
set_option maxRecDepth 100000 in
theorem c_IceConvoys_init {x : Nat} (h0 : (sh x).1 = 9) (hz : sz = x + 1) (hW : Wf sh sz) (hP : ∀ sh' V', (∀ a, a < x → sh' a = sh a ∧ V' a = V a) → (∀ a, x + 284 ≤ a → sh' a = sh a) → (∀ H tx, CAt sh' V' x f0 none H 0 tx 0 (-1) (nI 0, nI 0)) → P (.inl none) sh' (x + 284) V') : MC E YX6_init [.ref x] sh sz V P := by
  subst hz
  refine MC.of RX6 "<init>" rfl (by decide +kernel) rfl 0 [_] rfl (Nat.le_of_ble_eq_true rfl) ?_
  show G E MX6_init _ _ _ _ _ _ _ _ _
  refine g_aload_n dX6_init_0 rfl ?_
  refine g_objInit ml_X6_3 obj_inst obj_code dX6_init_1 (Nat.le_of_ble_eq_true rfl) (Nat.le_of_ble_eq_true rfl) ?_
  refine g_aload_n dX6_init_4 rfl ?_
  refine g_new 6 rfl (by decide) inX4 tyX4 tyX4_ok cl_X6_9 new_X4 ini_X4 dX6_init_5 (by decide) ?_
  have e1 : (hs sh (x + 1) (7, 9) (x + 1)).1 = 7 := by rw [hs_at]
  refine g_dup dX6_init_8 rfl ?_
  refine g_callI (Y := YX4_init) rfl wc_X4_init ml_X6_11 wi_X4_init ini_X4 rfl yn_X4_init dX6_init_9 (c_Road_init (P := fun o sh' sz' V' => o = .inl none ∧ sz' = x + 26 ∧ (∀ a, a < x + 1 → sh' a = sh a ∧ V' a = V a) ∧ (∀ a, x + 26 ≤ a → sh' a = sh a) ∧ RoadAt sh' V' (x + 1) f0) e1 rfl (fun sh' V' q1 q2 q3 => ⟨rfl, rfl, fun a ha => ⟨(q1 a ha).1.trans (hs_ne _ _ (by omega)), (q1 a ha).2.trans (hn_ne _ _ (by omega))⟩, fun a ha => (q2 a (by omega)).trans (hs_ne _ _ (by omega)), q3⟩)) rfl rfl (gRoom_of rfl) (Nat.le_of_ble_eq_true rfl) (fun _ _ _ _ q => by rw [q.2.1]; omega) (fun _ _ _ _ q => nomatch q.1) (fun v sh1 sz1 V1 q => ?_)
  obtain ⟨q0, rfl, a1, b1, r1⟩ := q
  cases q0
  have s1 : (sh1 x).1 = 9 := by rw [(a1 x (by omega)).1]; exact h0
  refine g_putF 8 rfl (by decide) inX6 tyX6 tyX6_ok nmX6 0 (by decide) fl_X6_12 rfl rfl rfl dX6_init_12 s1 rfl rfl ?_
  have k1 : ∀ a, a ≠ x → hu V1 x 0 (.ref (x + 1)) a = V1 a := fun a ha => hu_ne _ _ _ ha
  refine g_aload_n dX6_init_15 rfl ?_
  refine g_new 6 rfl (by decide) inX4 tyX4 tyX4_ok cl_X6_9 new_X4 ini_X4 dX6_init_16 (by decide) ?_
  have e2 : (hs sh1 (x + 26) (7, 9) (x + 26)).1 = 7 := by rw [hs_at]
  refine g_dup dX6_init_19 rfl ?_
  refine g_callI (Y := YX4_init) rfl wc_X4_init ml_X6_11 wi_X4_init ini_X4 rfl yn_X4_init dX6_init_20 (c_Road_init (P := fun o sh' sz' V' => o = .inl none ∧ sz' = x + 51 ∧ (∀ a, a < x + 26 → sh' a = sh1 a ∧ V' a = hu V1 x 0 (.ref (x + 1)) a) ∧ (∀ a, x + 51 ≤ a → sh' a = sh1 a) ∧ RoadAt sh' V' (x + 26) f0) e2 rfl (fun sh' V' q1 q2 q3 => ⟨rfl, rfl, fun a ha => ⟨(q1 a ha).1.trans (hs_ne _ _ (by omega)), (q1 a ha).2.trans (hn_ne _ _ (by omega))⟩, fun a ha => (q2 a (by omega)).trans (hs_ne _ _ (by omega)), q3⟩)) rfl rfl (gRoom_of rfl) (Nat.le_of_ble_eq_true rfl) (fun _ _ _ _ q => by rw [q.2.1]; omega) (fun _ _ _ _ q => nomatch q.1) (fun v sh2 sz2 V2 q => ?_)
  obtain ⟨q0, rfl, a2, b2, r2⟩ := q
  cases q0
  have s2 : (sh2 x).1 = 9 := by rw [(a2 x (by omega)).1]; exact s1
  refine g_putF 8 rfl (by decide) inX6 tyX6 tyX6_ok nmX6 1 (by decide) fl_X6_16 rfl rfl rfl dX6_init_23 s2 rfl rfl ?_
  refine g_aload_n dX6_init_26 rfl ?_
  refine g_new 6 rfl (by decide) inX4 tyX4 tyX4_ok cl_X6_9 new_X4 ini_X4 dX6_init_27 (by decide) ?_
  have e3 : (hs sh2 (x + 51) (7, 9) (x + 51)).1 = 7 := by rw [hs_at]
  refine g_dup dX6_init_30 rfl ?_
  refine g_callI (Y := YX4_init) rfl wc_X4_init ml_X6_11 wi_X4_init ini_X4 rfl yn_X4_init dX6_init_31 (c_Road_init (P := fun o sh' sz' V' => o = .inl none ∧ sz' = x + 76 ∧ (∀ a, a < x + 51 → sh' a = sh2 a ∧ V' a = hu V2 x 1 (.ref (x + 26)) a) ∧ (∀ a, x + 76 ≤ a → sh' a = sh2 a) ∧ RoadAt sh' V' (x + 51) f0) e3 rfl (fun sh' V' q1 q2 q3 => ⟨rfl, rfl, fun a ha => ⟨(q1 a ha).1.trans (hs_ne _ _ (by omega)), (q1 a ha).2.trans (hn_ne _ _ (by omega))⟩, fun a ha => (q2 a (by omega)).trans (hs_ne _ _ (by omega)), q3⟩)) rfl rfl (gRoom_of rfl) (Nat.le_of_ble_eq_true rfl) (fun _ _ _ _ q => by rw [q.2.1]; omega) (fun _ _ _ _ q => nomatch q.1) (fun v sh3 sz3 V3 q => ?_)
  obtain ⟨q0, rfl, a3, b3, r3⟩ := q
  cases q0
  have s3 : (sh3 x).1 = 9 := by rw [(a3 x (by omega)).1]; exact s2
  refine g_putF 8 rfl (by decide) inX6 tyX6 tyX6_ok nmX6 2 (by decide) fl_X6_19 rfl rfl rfl dX6_init_34 s3 rfl rfl ?_
  refine g_aload_n dX6_init_37 rfl ?_
  refine g_iconst (v := nI 0) dX6_init_38 (by decide) ?_
  refine g_put 8 rfl (by decide) inX6 tyX6 tyX6_ok nmX6 3 (by decide) fl_X6_22 rfl dX6_init_39 s3 rfl rfl ?_
  refine g_aload_n dX6_init_42 rfl ?_
  refine g_new 3 rfl (by decide) inX1 tyX1 tyX1_ok cl_X6_26 new_X1 ini_X1 dX6_init_43 (by decide) ?_
  have e4 : (hs sh3 (x + 76) (4, 3) (x + 76)).1 = 4 := by rw [hs_at]
  have hW4 : Wf (hs sh3 (x + 76) (4, 3)) (x + 76 + 1) := fun a ha => by
    rw [hs_ne _ _ (by omega), b3 a (by omega), b2 a (by omega), b1 a (by omega)]
    exact hW a (by omega)
  refine g_dup dX6_init_46 rfl ?_
  refine g_callI (Y := YX1_init) rfl wc_X1_init ml_X6_28 wi_X1_init ini_X1 rfl yn_X1_init dX6_init_47 (c_History_init (P := fun o sh' sz' V' => o = .inl none ∧ sz' = x + 278 ∧ (∀ a, a < x + 76 → sh' a = sh3 a ∧ V' a = hu (hu V3 x 2 (.ref (x + 51))) x 3 (.int (nI 0)) a) ∧ (∀ a, x + 278 ≤ a → sh' a = sh3 a) ∧ HiAt sh' V' (x + 76) (fun _ => f0) 0 0) e4 rfl hW4 (fun sh' V' q1 q2 q3 => ⟨rfl, rfl, fun a ha => ⟨(q1 a ha).1.trans (hs_ne _ _ (by omega)), (q1 a ha).2.trans (hn_ne _ _ (by omega))⟩, fun a ha => (q2 a (by omega)).trans (hs_ne _ _ (by omega)), q3⟩)) rfl rfl (gRoom_of rfl) (Nat.le_of_ble_eq_true rfl) (fun _ _ _ _ q => by rw [q.2.1]; omega) (fun _ _ _ _ q => nomatch q.1) (fun v sh4 sz4 V4 q => ?_)
  obtain ⟨q0, rfl, a4, b4, r4⟩ := q
  cases q0
  have s4 : (sh4 x).1 = 9 := by rw [(a4 x (by omega)).1]; exact s3
  refine g_putF 8 rfl (by decide) inX6 tyX6 tyX6_ok nmX6 4 (by decide) fl_X6_29 rfl rfl rfl dX6_init_50 s4 rfl rfl ?_
  refine g_aload_n dX6_init_53 rfl ?_
  refine g_new 5 rfl (by decide) inX3 tyX3 tyX3_ok cl_X6_33 new_X3 ini_X3 dX6_init_54 (by decide) ?_
  have e5 : (hs sh4 (x + 278) (6, 8) (x + 278)).1 = 6 := by rw [hs_at]
  refine g_dup dX6_init_57 rfl ?_
  refine g_callIN (Y := YX3_init) rfl wc_X3_init mn_X6_35 wi_X3_init ini_X3 rfl yn_X3_init dX6_init_58 (c_Orders_init (P := fun o sh' sz' V' => o = .inl none ∧ sz' = x + 284 ∧ (∀ a, a < x + 278 → sh' a = sh4 a ∧ V' a = hu V4 x 4 (.ref (x + 76)) a) ∧ (∀ a, x + 284 ≤ a → sh' a = sh4 a) ∧ (∀ tx, OrAt sh' V' (x + 278) tx 0)) e5 rfl (fun sh' V' q1 q2 q3 => ⟨rfl, rfl, fun a ha => ⟨(q1 a ha).1.trans (hs_ne _ _ (by omega)), (q1 a ha).2.trans (hn_ne _ _ (by omega))⟩, fun a ha => (q2 a (by omega)).trans (hs_ne _ _ (by omega)), q3⟩)) rfl rfl (gRoom_of rfl) (Nat.le_of_ble_eq_true rfl) (fun _ _ _ _ q => by rw [q.2.1]; omega) (fun _ _ _ _ q => nomatch q.1) (fun v sh5 sz5 V5 q => ?_)
  obtain ⟨q0, rfl, a5, b5, r5⟩ := q
  cases q0
  have s5 : (sh5 x).1 = 9 := by rw [(a5 x (by omega)).1]; exact s4
  refine g_putF 8 rfl (by decide) inX6 tyX6 tyX6_ok nmX6 5 (by decide) fl_X6_36 rfl rfl rfl dX6_init_61 s5 rfl rfl ?_
  refine g_aload_n dX6_init_64 rfl ?_
  refine g_iconst (v := (-1)) dX6_init_65 (by decide) ?_
  refine g_put 8 rfl (by decide) inX6 tyX6 tyX6_ok nmX6 6 (by decide) fl_X6_40 rfl dX6_init_66 s5 rfl rfl ?_
  refine g_aload_n dX6_init_69 rfl ?_
  refine g_iconst (v := nI 0) dX6_init_70 (by decide) ?_
  refine g_put 8 rfl (by decide) inX6 tyX6 tyX6_ok nmX6 7 (by decide) fl_X6_44 rfl dX6_init_71 s5 rfl rfl ?_
  have kz : ∀ a, a ≠ x → hu (hu (hu V5 x 5 (.ref (x + 278))) x 6 (.int (-1))) x 7 (.int (nI 0)) a = V5 a := fun a ha => by simp only [hu_ne _ _ _ ha]
  have k5 : ∀ a, a ≠ x → a < x + 278 → V5 a = V4 a := fun a h1 h2 => (a5 a h2).2.trans (hu_ne _ _ _ h1)
  have k4 : ∀ a, a ≠ x → a < x + 76 → V4 a = V3 a := fun a h1 h2 => (a4 a h2).2.trans ((hu_ne _ _ _ h1).trans (hu_ne _ _ _ h1))
  have k3 : ∀ a, a ≠ x → a < x + 51 → V3 a = V2 a := fun a h1 h2 => (a3 a h2).2.trans (hu_ne _ _ _ h1)
  have k2 : ∀ a, a ≠ x → a < x + 26 → V2 a = V1 a := fun a h1 h2 => (a2 a h2).2.trans (hu_ne _ _ _ h1)
  -- no truck stands anywhere yet
  have w1 : ∀ a, x + 26 ≤ a → (sh1 a).1 = 0 := fun a ha => by rw [b1 a ha]; exact hW a (by omega)
  have w2 : ∀ a, x + 51 ≤ a → (sh2 a).1 = 0 := fun a ha => by rw [b2 a ha]; exact w1 a (by omega)
  have w3 : ∀ a, x + 76 ≤ a → (sh3 a).1 = 0 := fun a ha => by rw [b3 a ha]; exact w2 a (by omega)
  have w4 : ∀ a, x + 278 ≤ a → (sh4 a).1 = 0 := fun a ha => by rw [b4 a ha]; exact w3 a (by omega)
  have hx8 : ∀ q, (sh5 q).1 = 8 → q ≠ x := fun q hq e => by rw [e, s5] at hq; cases hq
  have t5 : Tr sh5 V5 (hu (hu (hu V5 x 5 (.ref (x + 278))) x 6 (.int (-1))) x 7 (.int (nI 0))) := fun q hq => kz q (hx8 q hq)
  have n4 : ∀ q, (sh4 q).1 = 8 → q ≠ x ∧ q < x + 278 := fun q hq => ⟨fun e => (by rw [e, s4] at hq; cases hq), Nat.lt_of_not_le fun z => by rw [w4 q z] at hq; cases hq⟩
  have n3 : ∀ q, (sh3 q).1 = 8 → q ≠ x ∧ q < x + 76 := fun q hq => ⟨fun e => (by rw [e, s3] at hq; cases hq), Nat.lt_of_not_le fun z => by rw [w3 q z] at hq; cases hq⟩
  have n2 : ∀ q, (sh2 q).1 = 8 → q ≠ x ∧ q < x + 51 := fun q hq => ⟨fun e => (by rw [e, s2] at hq; cases hq), Nat.lt_of_not_le fun z => by rw [w2 q z] at hq; cases hq⟩
  have n1 : ∀ q, (sh1 q).1 = 8 → q ≠ x ∧ q < x + 26 := fun q hq => ⟨fun e => (by rw [e, s1] at hq; cases hq), Nat.lt_of_not_le fun z => by rw [w1 q z] at hq; cases hq⟩
  have m4 : ∀ {r f}, RoadAt sh4 V4 r f → x < r → r + 25 ≤ x + 278 → RoadAt sh5 (hu (hu (hu V5 x 5 (.ref (x + 278))) x 6 (.int (-1))) x 7 (.int (nI 0))) r f := fun h q1 q2 => (h.move (sh' := sh5) (V' := V5) (fun a z1 z2 => ⟨(a5 a (by omega)).1, k5 a (by omega) (by omega)⟩) (fun q hq => ⟨(a5 q (n4 q hq).2).1, k5 q (n4 q hq).1 (n4 q hq).2⟩)).keep (fun a z1 z2 => kz a (by omega)) t5
  have m3 : ∀ {r f}, RoadAt sh3 V3 r f → x < r → r + 25 ≤ x + 76 → RoadAt sh5 (hu (hu (hu V5 x 5 (.ref (x + 278))) x 6 (.int (-1))) x 7 (.int (nI 0))) r f := fun h q1 q2 => m4 (h.move (sh' := sh4) (V' := V4) (fun a z1 z2 => ⟨(a4 a (by omega)).1, k4 a (by omega) (by omega)⟩) (fun q hq => ⟨(a4 q (n3 q hq).2).1, k4 q (n3 q hq).1 (n3 q hq).2⟩)) q1 (by omega)
  have m2 : ∀ {r f}, RoadAt sh2 V2 r f → x < r → r + 25 ≤ x + 51 → RoadAt sh5 (hu (hu (hu V5 x 5 (.ref (x + 278))) x 6 (.int (-1))) x 7 (.int (nI 0))) r f := fun h q1 q2 => m3 (h.move (sh' := sh3) (V' := V3) (fun a z1 z2 => ⟨(a3 a (by omega)).1, k3 a (by omega) (by omega)⟩) (fun q hq => ⟨(a3 q (n2 q hq).2).1, k3 q (n2 q hq).1 (n2 q hq).2⟩)) q1 (by omega)
  have m1 : ∀ {r f}, RoadAt sh1 V1 r f → x < r → r + 25 ≤ x + 26 → RoadAt sh5 (hu (hu (hu V5 x 5 (.ref (x + 278))) x 6 (.int (-1))) x 7 (.int (nI 0))) r f := fun h q1 q2 => m2 (h.move (sh' := sh2) (V' := V2) (fun a z1 z2 => ⟨(a2 a (by omega)).1, k2 a (by omega) (by omega)⟩) (fun q hq => ⟨(a2 q (n1 q hq).2).1, k2 q (n1 q hq).1 (n1 q hq).2⟩)) q1 (by omega)
  refine g_vret rfl dX6_init_74 (by decide) (hP _ _ (fun a ha => ⟨?_, ?_⟩) (fun a ha => ?_) (fun H tx => ⟨⟨s5, ?_, ?_, ?_, ?_, ?_, ?_, ?_, ?_⟩, m1 r1 (by omega) (by omega), ⟨f0, m2 r2 (by omega) (by omega)⟩, ⟨f0, m3 r3 (by omega) (by omega), fun g' hg => nomatch hg⟩, ⟨fun _ => f0, 0, ?_, fun i hi => absurd hi (Nat.not_lt_zero i)⟩, ?_⟩))
  · rw [(a5 a (by omega)).1, (a4 a (by omega)).1, (a3 a (by omega)).1, (a2 a (by omega)).1, (a1 a (by omega)).1]
  · rw [kz a (by omega), k5 a (by omega) (by omega), k4 a (by omega) (by omega), k3 a (by omega) (by omega), k2 a (by omega) (by omega), (a1 a (by omega)).2]
  · rw [b5 a ha, b4 a (by omega), b3 a (by omega), b2 a (by omega), b1 a (by omega)]
  iterate 8 simp [hu, updV, (a5 x (by omega)).2, (a4 x (by omega)).2, (a3 x (by omega)).2, (a2 x (by omega)).2, bi, enc0]
  · obtain ⟨p0, p1, p2, p3, p4, p5, p6, p7⟩ := r4
    have e0 : ∀ a, x + 76 ≤ a → a < x + 278 → hu (hu (hu V5 x 5 (.ref (x + 278))) x 6 (.int (-1))) x 7 (.int (nI 0)) a = V4 a := fun a z1 z2 => (kz a (by omega)).trans (k5 a (by omega) z2)
    refine ⟨by rw [(a5 _ (by omega)).1]; exact p0, (a5 _ (by omega)).1.trans p1, ?_, ?_, ?_, p5, p6, fun i hi => ⟨?_, m4 (p7 i hi).2 (by omega) (by omega)⟩⟩
    · rw [e0 _ (by omega) (by omega)]; exact p2
    · rw [e0 _ (by omega) (by omega)]; exact p3
    · rw [e0 _ (by omega) (by omega)]; exact p4
    · rw [e0 _ (by omega) (by omega)]; exact (p7 i hi).1
  · obtain ⟨p0, p1, p2, p3⟩ := r5 tx
    refine ⟨p0, ?_, p2, fun k hk => absurd hk (Nat.not_lt_zero k)⟩
    rw [kz _ (by omega)]
    exact p1
end OBJ

