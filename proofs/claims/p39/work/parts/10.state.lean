/-! THE STATE as one row of ints (the places are those of the reference's row): 0 day, 1 convoys, 2 drills, 3 came, 4 delivered, 5 .. settings, then miles, rows, convoys -/
abbrev Fl : Type := Nat → Int32
def oM (j k : Nat) : Nat := 8 + 6 * j + k
def oR (k : Nat) : Nat := 80 + 2 * k
def oC (c k : Nat) : Nat := 100 + 16 * c + k
def cnt (f : Fl) : Nat := (f 1).toNatClampNeg
def ncv (f : Fl) (c : Nat) : Nat := (f (oC c 1)).toNatClampNeg
def tkF (f : Fl) (c k : Nat) : Int32 × Int32 × Int32 := (f (oC c (4 + 3 * k)), f (oC c (5 + 3 * k)), f (oC c (6 + 3 * k)))
def ldF (f : Fl) (c : Nat) : Int32 := if c < cnt f then f (oC c 2) else -1
def nF (f : Fl) (c : Nat) : Nat := if c < cnt f then ncv f c else 0
def MiAt (sh : Sh) (V : Vl) (a : Nat) (ice noted on cr st oft : Int32) : Prop :=
  (sh a).1 = 5 ∧ V a 0 = .float ice.toUInt32 ∧ V a 1 = .float noted.toUInt32 ∧ V a 2 = .int on ∧ V a 3 = .int cr ∧ V a 4 = .int st ∧ V a 5 = .int oft
/-- a road at r: its 25 cells lie behind one another -/
def RoadAt (sh : Sh) (V : Vl) (r : Nat) (f : Fl) : Prop :=
  ((sh r).1 = 7 ∧ sh (r + 1) = (20, 3) ∧ sh (r + 2) = (25, 12) ∧ sh (r + 3) = (24, 10) ∧ sh (r + 4) = (26, 4)) ∧
  (V r 0 = .ref (r + 1) ∧ V r 1 = .int (f 0) ∧ V r 2 = .ref (r + 2) ∧ V r 3 = .ref (r + 3) ∧ V r 4 = .ref (r + 4) ∧ V r 5 = .int (f 1) ∧ V r 6 = .int (f 2) ∧ V r 7 = .int (f 3) ∧ V r 8 = .int (f 4)) ∧
  (∀ k, k < 3 → V (r + 1) k = .int (f (5 + k))) ∧
  (∀ j, j < 12 → V (r + 2) j = .ref (r + 5 + j) ∧ MiAt sh V (r + 5 + j) (f (oM j 0)) (f (oM j 3)) (f (oM j 4)) (f (oM j 1)) (f (oM j 2)) (f (oM j 5))) ∧
  (∀ k, k < 10 → (f (oR k) = 0 → V (r + 3) k = .null) ∧ (¬ f (oR k) = 0 → ∃ q, V (r + 3) k = .ref q ∧ TrAt sh V q (nI (k / 5), f (oR k), f (oR k + 1)))) ∧
  (∀ c, c < 4 → V (r + 4) c = .ref (r + 17 + 2 * c) ∧ ∃ g, CvAt sh V (r + 17 + 2 * c) g (ldF f c) (nF f c) (tkF f c) ∧ (c < cnt f → g = f (oC c 0)))
def okT (t : Int32 × Int32 × Int32) : Prop := (t.1 = nI 0 ∨ t.1 = nI 1) ∧ (∃ w, 5 ≤ w ∧ w ≤ 60 ∧ t.2.1 = nI w) ∧ ∃ x, 2 ≤ x ∧ x ≤ 6 ∧ t.2.2 = nI x
/-- what holds of every state that a run comes to -/
def InvB (f : Fl) : Prop :=
  (f 1 = nI (cnt f) ∧ cnt f ≤ 4) ∧ (-40 ≤ f 5 ∧ f 5 ≤ nI 10) ∧ (∃ l, l ≤ 100 ∧ f 6 = nI l) ∧
  (∀ j, j < 12 → okI (f (oM j 0)).toUInt32 ∧ okI (f (oM j 3)).toUInt32 ∧ (∃ c, c ≤ 5 ∧ f (oM j 1) = nI c) ∧ ∃ s, s < 20 ∧ f (oM j 2) = nI s) ∧
  (∀ k, k < 10 → f (oR k) = 0 ∨ okT (nI (k / 5), f (oR k), f (oR k + 1))) ∧
  (∀ c, c < cnt f → (∃ g, 1 ≤ g ∧ g ≤ 3 ∧ f (oC c 0) = nI g) ∧ f (oC c 1) = nI (ncv f c) ∧ ncv f c ≤ 4 ∧ ((f (oC c 3) = nI 0 ∧ f (oC c 2) = -1) ∨ (f (oC c 3) = nI 1 ∧ 1 ≤ ncv f c ∧ ∃ l, l ≤ 24 ∧ f (oC c 2) = nI l)) ∧ ∀ k, k < ncv f c → okT (tkF f c k))
/-- a mile's drill is good -/
def gdF (f : Fl) (j : Nat) : Prop := 0 ≤ f (oM j 4) ∧ f 0 - f (oM j 4) ≤ f 7
noncomputable def bgd (f : Fl) (j : Nat) : Int32 := @bi (gdF f j) (Classical.propDecidable _)
theorem bgd_t {f : Fl} {j : Nat} (h : gdF f j) : bgd f j = nI 1 := if_pos h
theorem bgd_f {f : Fl} {j : Nat} (h : ¬ gdF f j) : bgd f j = nI 0 := if_neg h
theorem bgd_ne {f : Fl} {j : Nat} (h : ¬ bgd f j = 0) : gdF f j := by
  by_cases q : gdF f j
  · exact q
  · exact absurd (bgd_f q) h
theorem bgd_eq {f : Fl} {j : Nat} (h : bgd f j = 0) : ¬ gdF f j := fun q => by
  rw [bgd_t q] at h
  exact absurd h (by decide)
section ROAD1
variable {E : gE} {M : gM} {P : gP} {sh : Sh} {sz : Nat} {V : Vl} {cu su pc : Nat} {L : List (Option Value)} {rest : List Value} {r : Nat} {f : Fl}
theorem RoadAt.set {k : Nat} (h : RoadAt sh V r f) (hk : k < 3) : V (r + 1) (nI k).toNatClampNeg = .int (f (5 + k)) := at_nI (by omega) (h.2.2.1 k hk)
theorem c_isConvoy {x : Int32} (h : RoadAt sh V r f) (hI : InvB f) (hP : P (.inl (some (.int (bi (0 ≤ x ∧ x < nI (cnt f)))))) sh sz V) : MC E YX4_isConvoy [.ref r, .int x] sh sz V P := by
  obtain ⟨h1, h2⟩ := hI.1
  have v5 := h.2.1.2.2.2.2.2.1
  rw [h1] at v5
  refine MC.of RX4 "isConvoy" rfl (by decide +kernel) rfl 0 [_, _] rfl (Nat.le_of_ble_eq_true rfl) ?_
  show G E MX4_isConvoy _ _ _ _ _ _ _ _ _
  refine g_iload_n dX4_isConvoy_0 rfl ?_
  refine g_if_lt (tgt := 21) dX4_isConvoy_1 (by decide) (fun b1 => ?_) (fun b1 => ?_)
  · rw [bi_f (p := 0 ≤ x ∧ _) (fun q => absurd q.1 (Int32.not_le.mpr b1))] at hP
    refine g_iconst (v := nI 0) dX4_isConvoy_21 (by decide) ?_
    exact g_iret rfl nz0 dX4_isConvoy_22 (by decide) hP
  refine g_iload_n dX4_isConvoy_4 rfl ?_
  refine g_aload_n dX4_isConvoy_5 rfl ?_
  refine g_get 6 rfl (by decide) inX4 5 (by decide) fl_X4_37 dX4_isConvoy_6 h.1.1 v5 ?_
  refine g_icmp_ge (tgt := 21) dX4_isConvoy_9 (by decide) (fun b2 => ?_) (fun b2 => ?_)
  · rw [bi_f (p := 0 ≤ x ∧ _) (fun q => absurd q.2 (Int32.not_lt.mpr b2))] at hP
    refine g_iconst (v := nI 0) dX4_isConvoy_21 (by decide) ?_
    exact g_iret rfl nz0 dX4_isConvoy_22 (by decide) hP
  have b3 : x < nI 4 := by
    obtain ⟨j, hj, rfl⟩ := in_nI (Int32.not_lt.mp b1) (Int32.not_le.mp b2) (by omega)
    exact nI_lt (by omega) (by decide)
  refine g_iload_n dX4_isConvoy_12 rfl ?_
  refine g_iconst (v := nI 4) dX4_isConvoy_13 (by decide) ?_
  refine g_icmp_ge (tgt := 21) dX4_isConvoy_14 (by decide) (fun hq => absurd hq (Int32.not_le.mpr b3)) (fun _ => ?_)
  rw [bi_t (p := 0 ≤ x ∧ _) ⟨Int32.not_lt.mp b1, Int32.not_le.mp b2⟩] at hP
  refine g_iconst (v := nI 1) dX4_isConvoy_17 (by decide) ?_
  refine g_jump (tgt := 22) dX4_isConvoy_18 (by decide) ?_
  exact g_iret rfl nz1 dX4_isConvoy_22 (by decide) hP
theorem c_isDrillGood {j : Nat} (h : RoadAt sh V r f) (hj : j < 12) (hP : P (.inl (some (.int (bgd f j)))) sh sz V) : MC E YX4_isDrillGood [.ref r, .ref (r + 5 + j)] sh sz V P := by
  obtain ⟨m0, m1, m2, m3, m4, m5, m6⟩ := (h.2.2.2.1 j hj).2
  refine MC.of RX4 "isDrillGood" rfl (by decide +kernel) rfl 0 [_, _] rfl (Nat.le_of_ble_eq_true rfl) ?_
  show G E MX4_isDrillGood _ _ _ _ _ _ _ _ _
  refine g_aload_n dX4_isDrillGood_0 rfl ?_
  refine g_get 4 rfl (by decide) inX2 2 (by decide) fl_X4_72 dX4_isDrillGood_1 m0 m3 ?_
  refine g_if_lt (tgt := 29) dX4_isDrillGood_4 (by decide) (fun b1 => ?_) (fun b1 => ?_)
  · rw [bgd_f (fun q => absurd q.1 (Int32.not_le.mpr b1))] at hP
    refine g_iconst (v := nI 0) dX4_isDrillGood_29 (by decide) ?_
    exact g_iret rfl nz0 dX4_isDrillGood_30 (by decide) hP
  refine g_aload_n dX4_isDrillGood_7 rfl ?_
  refine g_get 6 rfl (by decide) inX4 1 (by decide) fl_X4_15 dX4_isDrillGood_8 h.1.1 h.2.1.2.1 ?_
  refine g_aload_n dX4_isDrillGood_11 rfl ?_
  refine g_get 4 rfl (by decide) inX2 2 (by decide) fl_X4_72 dX4_isDrillGood_12 m0 m3 ?_
  refine g_isub dX4_isDrillGood_15 ?_
  refine g_aload_n dX4_isDrillGood_16 rfl ?_
  refine g_get 6 rfl (by decide) inX4 0 (by decide) fl_X4_9 dX4_isDrillGood_17 h.1.1 h.2.1.1 ?_
  refine g_iconst (v := nI 2) dX4_isDrillGood_20 (by decide) ?_
  refine g_iaload dX4_isDrillGood_21 h.1.2.1 (vp_in_nI (by decide) (by decide)) (h.set (k := 2) (by decide)) ?_
  refine g_icmp_gt (tgt := 29) dX4_isDrillGood_22 (by decide) (fun b2 => ?_) (fun b2 => ?_)
  · rw [bgd_f (fun q => absurd q.2 (Int32.not_le.mpr b2))] at hP
    refine g_iconst (v := nI 0) dX4_isDrillGood_29 (by decide) ?_
    exact g_iret rfl nz0 dX4_isDrillGood_30 (by decide) hP
  · rw [bgd_t ⟨Int32.not_lt.mp b1, Int32.not_lt.mp b2⟩] at hP
    refine g_iconst (v := nI 1) dX4_isDrillGood_25 (by decide) ?_
    refine g_jump (tgt := 30) dX4_isDrillGood_26 (by decide) ?_
    exact g_iret rfl nz1 dX4_isDrillGood_30 (by decide) hP
/-- what a mile bears by its drill, with some cracks -/
noncomputable def bdF (f : Fl) (j : Nat) (c : Int32) : UInt32 := @ite _ (gdF f j) (Classical.propDecidable _) (bor (f (oM j 3)).toUInt32 c (f 6)) FP.fconst0
noncomputable def bd (f : Fl) (j : Nat) : UInt32 := bdF f j (f (oM j 1))
theorem c_borneWithCracks {j c : Nat} (h : RoadAt sh V r f) (hI : InvB f) (hj : j < 12) (hc : c ≤ 5) (hP : P (.inl (some (.float (bdF f j (nI c))))) sh sz V) : MC E YX4_borneWithCracks [.ref r, .ref (r + 5 + j), .int (nI c)] sh sz V P := by
  obtain ⟨m0, m1, m2, m3, m4, m5, m6⟩ := (h.2.2.2.1 j hj).2
  obtain ⟨l, hl, e6⟩ := hI.2.2.1
  have i2 := (hI.2.2.2.1 j hj).2.1
  unfold bdF at hP
  refine MC.of RX4 "borneWithCracks" rfl (by decide +kernel) rfl 0 [_, _, _] rfl (Nat.le_of_ble_eq_true rfl) ?_
  show G E MX4_borneWithCracks _ _ _ _ _ _ _ _ _
  refine g_aload_n dX4_borneWithCracks_0 rfl ?_
  refine g_aload_n dX4_borneWithCracks_1 rfl ?_
  refine g_callVp (Y := YX4_isDrillGood) sv_X4_82 rfl yn_X4_isDrillGood 6 (by decide) rfl rfl dX4_borneWithCracks_2 (c_isDrillGood h hj pR_ok) h.1.1 rfl rfl rfl (Nat.le_of_ble_eq_true rfl) ⟨rfl, rfl⟩ ?_
  refine g_if_eq (tgt := 25) dX4_borneWithCracks_5 (by decide) (fun b1 => ?_) (fun b1 => ?_)
  · rw [if_neg (bgd_eq b1)] at hP
    refine g_fconst0 dX4_borneWithCracks_25 ?_
    exact g_fret rfl dX4_borneWithCracks_26 (by decide) hP
  · rw [if_pos (bgd_ne b1), e6] at hP
    refine g_aload_n dX4_borneWithCracks_8 rfl ?_
    refine g_get 4 rfl (by decide) inX2 1 (by decide) fl_X4_69 dX4_borneWithCracks_9 m0 m2 ?_
    refine g_iload_n dX4_borneWithCracks_12 rfl ?_
    refine g_aload_n dX4_borneWithCracks_13 rfl ?_
    refine g_get 6 rfl (by decide) inX4 0 (by decide) fl_X4_9 dX4_borneWithCracks_14 h.1.1 h.2.1.1 ?_
    refine g_iconst (v := nI 1) dX4_borneWithCracks_17 (by decide) ?_
    refine g_iaload dX4_borneWithCracks_18 h.1.2.1 (vp_in_nI (by decide) (by decide)) ((h.set (k := 1) (by decide)).trans (congrArg Value.int e6)) ?_
    refine g_callSNp (Y := YX6_borneBy) wc_X6_borneBy mn_X4_86 wt_X6_borneBy ini_X6 yn_X6_borneBy dX4_borneWithCracks_19 (c_borneBy i2 hc hl pR_ok) rfl rfl rfl (Nat.le_of_ble_eq_true rfl) ⟨rfl, rfl⟩ ?_
    refine g_jump (tgt := 26) dX4_borneWithCracks_22 (by decide) ?_
    exact g_fret rfl dX4_borneWithCracks_26 (by decide) hP
theorem c_borneByDrill {j : Nat} (h : RoadAt sh V r f) (hI : InvB f) (hj : j < 12) (hP : P (.inl (some (.float (bd f j)))) sh sz V) : MC E YX4_borneByDrill [.ref r, .ref (r + 5 + j)] sh sz V P := by
  obtain ⟨m0, m1, m2, m3, m4, m5, m6⟩ := (h.2.2.2.1 j hj).2
  obtain ⟨c, hc, e1⟩ := (hI.2.2.2.1 j hj).2.2.1
  unfold bd at hP
  rw [e1] at hP m4
  refine MC.of RX4 "borneByDrill" rfl (by decide +kernel) rfl 0 [_, _] rfl (Nat.le_of_ble_eq_true rfl) ?_
  show G E MX4_borneByDrill _ _ _ _ _ _ _ _ _
  refine g_aload_n dX4_borneByDrill_0 rfl ?_
  refine g_aload_n dX4_borneByDrill_1 rfl ?_
  refine g_aload_n dX4_borneByDrill_2 rfl ?_
  refine g_get 4 rfl (by decide) inX2 3 (by decide) fl_X4_75 dX4_borneByDrill_3 m0 m4 ?_
  refine g_callVp (Y := YX4_borneWithCracks) sv_X4_78 rfl yn_X4_borneWithCracks 6 (by decide) rfl rfl dX4_borneByDrill_6 (c_borneWithCracks h hI hj hc pR_ok) h.1.1 rfl rfl rfl (Nat.le_of_ble_eq_true rfl) ⟨rfl, rfl⟩ ?_
  exact g_fret rfl dX4_borneByDrill_9 (by decide) hP
end ROAD1

