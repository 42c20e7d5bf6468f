/-! the Road's questions: who is where, what bars the way -/
section ROAD3
theorem at_eq {V : Vl} {a : Nat} {x y : Int32} {v : Value} (e : x = y) (h : V a y.toNatClampNeg = v) : V a x.toNatClampNeg = v := by rw [e]; exact h
theorem in_eq {x y : Int32} {n : Nat} (e : x = y) (h : vp_in y n) : vp_in x n := by rw [e]; exact h
noncomputable def cb (p : Prop) : Bool := @decide p (Classical.propDecidable p)
theorem cb_t {p : Prop} (h : p) : cb p = true := @decide_eq_true p (Classical.propDecidable p) h
theorem cb_f {p : Prop} (h : ¬ p) : cb p = false := @decide_eq_false p (Classical.propDecidable p) h
theorem cb_iff {p : Prop} : cb p = true ↔ p := by
  constructor
  · intro h
    by_cases q : p
    · exact q
    · rw [cb_f q] at h
      cases h
  · exact cb_t
theorem cb_cong {p q : Prop} (h : p ↔ q) : cb p = cb q := by
  by_cases hp : p
  · rw [cb_t hp, cb_t (h.mp hp)]
  · rw [cb_f hp, cb_f (fun z => hp (h.mpr z))]
/-- a truth as an int, of any sort -/
noncomputable def ci (p : Prop) : Int32 := @bi p (Classical.propDecidable p)
theorem ci_t {p : Prop} (h : p) : ci p = nI 1 := if_pos h
theorem ci_f {p : Prop} (h : ¬ p) : ci p = nI 0 := if_neg h
theorem ci_ne {p : Prop} (h : ¬ ci p = 0) : p := by
  by_cases q : p
  · exact q
  · exact absurd (ci_f q) h
theorem ci_eq {p : Prop} (h : ci p = 0) : ¬ p := fun q => by
  rw [ci_t q] at h
  exact absurd h (by decide)
theorem ci_cong {p q : Prop} (h : p ↔ q) : ci p = ci q := by
  by_cases hp : p
  · rw [ci_t hp, ci_t (h.mp hp)]
  · rw [ci_f hp, ci_f (fun z => hp (h.mpr z))]
/-- the place in convoy c of the truck at a mile, -1 if there is none -/
def paF (f : Fl) (c : Nat) (m : Int32) : Int32 := fstI (fun k => decide (mw (f (oC c 2)) (f (oC c 0)) k = m)) (ncv f c)
/-- a truck of another convoy than w is at mile m -/
def tkn (f : Fl) (m w : Int32) : Prop := ∃ c, c < cnt f ∧ nI c ≠ w ∧ 0 ≤ paF f c m
def wk (f : Fl) (c : Nat) (ld : Int32) (k : Nat) : Prop := isM (mw ld (f (oC c 0)) k) ∧ Op.cmpValue (FP.fcmp (bd f (mw ld (f (oC c 0)) k).toNatClampNeg) (bud (tkF f c k))) .g < 0
def bk (f : Fl) (c : Nat) (ld : Int32) (k : Nat) : Prop := isM (mw ld (f (oC c 0)) k) ∧ tkn f (mw ld (f (oC c 0)) k) (nI c)
/-- what bars convoy c from a lead: reason and detail, zeros if nothing does -/
noncomputable def way (f : Fl) (c : Nat) (ld : Int32) : Int32 × Int32 :=
  if fa_first (fun k => cb (bk f c ld k)) (ncv f c) < ncv f c then (nI 7, mw ld (f (oC c 0)) (fa_first (fun k => cb (bk f c ld k)) (ncv f c)))
  else if fa_first (fun k => cb (wk f c ld k)) (ncv f c) < ncv f c then (nI 8, mw ld (f (oC c 0)) (fa_first (fun k => cb (wk f c ld k)) (ncv f c)))
  else (nI 0, nI 0)
def enc (z : Int32 × Int32) : Int32 := z.1 * nI 16 + z.2
theorem enc0 : enc (nI 0, nI 0) = nI 0 := by decide
theorem way_7 {f : Fl} {c k : Nat} {ld : Int32} (hk : k < ncv f c) (h : bk f c ld k) (hl : ∀ j, j < k → ¬ bk f c ld j) : way f c ld = (nI 7, mw ld (f (oC c 0)) k) := by
  have e : fa_first (fun k => cb (bk f c ld k)) (ncv f c) = k := fa_first_eq hk (cb_t h) (fun j hj => cb_f (hl j hj))
  unfold way
  rw [e, if_pos hk]
theorem way_8 {f : Fl} {c k : Nat} {ld : Int32} (hb : ∀ j, j < ncv f c → ¬ bk f c ld j) (hk : k < ncv f c) (h : wk f c ld k) (hl : ∀ j, j < k → ¬ wk f c ld j) : way f c ld = (nI 8, mw ld (f (oC c 0)) k) := by
  have e : fa_first (fun k => cb (wk f c ld k)) (ncv f c) = k := fa_first_eq hk (cb_t h) (fun j hj => cb_f (hl j hj))
  unfold way
  rw [if_neg (fa_first_none (fun j hj => cb_f (hb j hj))), e, if_pos hk]
theorem way_0 {f : Fl} {c : Nat} {ld : Int32} (hb : ∀ j, j < ncv f c → ¬ bk f c ld j) (hw : ∀ j, j < ncv f c → ¬ wk f c ld j) : way f c ld = (nI 0, nI 0) := by
  unfold way
  rw [if_neg (fa_first_none (fun j hj => cb_f (hb j hj))), if_neg (fa_first_none (fun j hj => cb_f (hw j hj)))]
/-- why convoy c cannot roll, start; why a truck cannot join -/
noncomputable def rollO (f : Fl) (c : Nat) : Int32 × Int32 := if ¬ 0 ≤ f (oC c 2) then (nI 4, nI c) else if dnF f c then (nI 6, nI c) else way f c (f (oC c 2) + nI 1)
noncomputable def startO (f : Fl) (c : Nat) : Int32 × Int32 := if 0 ≤ f (oC c 2) then (nI 4, nI c) else if ncv f c = 0 then (nI 5, nI c) else way f c (f (oC c 2) + nI 1)
def joinO (f : Fl) (c : Nat) : Int32 × Int32 := if 0 ≤ f (oC c 2) then (nI 4, nI c) else if ncv f c < 4 then (nI 0, nI 0) else (nI 1, nI 4)
abbrev isC (f : Fl) (x : Int32) : Prop := 0 ≤ x ∧ x < nI (cnt f)
theorem isC_of {f : Fl} (hI : InvB f) {x : Int32} (h : isC f x) : ∃ c, c < cnt f ∧ x = nI c := in_nI h.1 h.2 (by have := hI.1.2; omega)
variable {E : gE} {M : gM} {P : gP} {sh : Sh} {sz : Nat} {V : Vl} {cu su pc : Nat} {L : List (Option Value)} {rest : List Value} {r : Nat} {f : Fl}
theorem c_burdenT {q : Nat} {t : Int32 × Int32 × Int32} (h : TrAt sh V q t) (ht : okT t) (hP : P (.inl (some (.float (bud t)))) sh sz V) : MC E YX5_burden [.ref q] sh sz V P := by
  obtain ⟨-, ⟨w, w1, w2, hw⟩, x, x1, x2, hx⟩ := ht
  obtain ⟨e1, e2⟩ := fp_bud w (by omega) x (by omega)
  rw [← hx] at e1 e2
  rw [← hw] at e2
  exact c_burden h e1 e2 hP
theorem c_convoyAt {m : Int32} (h : RoadAt sh V r f) (hI : InvB f) (hP : P (.inl (some (.int (fstI (fun c => decide (0 ≤ paF f c m)) (cnt f))))) sh sz V) : MC E YX4_convoyAt [.ref r, .int m] sh sz V P := by
  have hI1 := hI.1.2
  refine MC.of RX4 "convoyAt" rfl (by decide +kernel) rfl 1 [_, _, none] rfl (Nat.le_of_ble_eq_true rfl) ?_
  show G E MX4_convoyAt _ _ _ _ _ _ _ _ _
  refine g_iconst (v := nI 0) dX4_convoyAt_0 (by decide) ?_
  refine g_istore_n dX4_convoyAt_1 (by decide) rfl ?_
  show G _ _ _ _ _ _ _ _ _ [_, _, _] _
  suffices K : ∀ (d i : Nat), i + d = cnt f → (∀ k, k < i → ¬ 0 ≤ paF f k m) → G E MX4_convoyAt P sh sz V 0 0 2 [some (.ref r), some (.int m), some (.int (nI i))] [] from K (cnt f) 0 (by omega) (fun k hk => absurd hk (Nat.not_lt_zero k))
  intro d
  induction d with
  | zero =>
    intro i hi hk
    have e : i = cnt f := by omega
    subst e
    refine g_iload_n dX4_convoyAt_2 rfl ?_
    refine g_aload_n dX4_convoyAt_3 rfl ?_
    refine g_get 6 rfl (by decide) inX4 5 (by decide) fl_X4_37 dX4_convoyAt_4 h.1.1 (h.many hI) ?_
    refine g_icmp_ge (tgt := 31) dX4_convoyAt_7 (by decide) (fun _ => ?_) (fun hq => absurd (Int32.le_refl _) hq)
    rw [fstI_none (fun k hk2 => decide_eq_false (hk k hk2))] at hP
    refine g_iconst (v := (-1)) dX4_convoyAt_31 (by decide) ?_
    exact g_iret rfl (nr_int _) dX4_convoyAt_32 (by decide) hP
  | succ d ih =>
    intro i hi hk
    refine g_iload_n dX4_convoyAt_2 rfl ?_
    refine g_aload_n dX4_convoyAt_3 rfl ?_
    refine g_get 6 rfl (by decide) inX4 5 (by decide) fl_X4_37 dX4_convoyAt_4 h.1.1 (h.many hI) ?_
    refine g_icmp_ge (tgt := 31) dX4_convoyAt_7 (by decide) (fun hq => absurd hq (nI_ge (by omega) (by omega))) (fun _ => ?_)
    refine g_aload_n dX4_convoyAt_10 rfl ?_
    refine g_get 6 rfl (by decide) inX4 4 (by decide) fl_X4_33 dX4_convoyAt_11 h.1.1 h.2.1.2.2.2.2.1 ?_
    refine g_iload_n dX4_convoyAt_14 rfl ?_
    refine g_aaload _ dX4_convoyAt_15 h.1.2.2.2.2 (by decide) (by decide) (vp_in_nI (by omega) (by decide)) (h.cvr (by omega)) ?_
    have hv := h.cv hI (c := i) (by omega)
    obtain ⟨c0, ca, c1, c2, c3, c4, c5, c6, c7⟩ := id hv
    refine g_iload_n dX4_convoyAt_16 rfl ?_
    refine g_callVp (Y := YX0_placeAt) sv_X4_90 rfl yn_X0_placeAt 2 (by decide) rfl rfl dX4_convoyAt_17 (c_placeAt c0 c1 c2 c3 (by omega) pR_ok) c0 rfl rfl rfl (Nat.le_of_ble_eq_true rfl) ⟨rfl, rfl⟩ ?_
    refine g_if_lt (tgt := 25) dX4_convoyAt_20 (by decide) (fun b1 => ?_) (fun b1 => ?_)
    · refine g_iinc dX4_convoyAt_25 rfl (by first | exact nI_inc _ | rfl) (by decide) rfl ?_
      show G _ _ _ _ _ _ _ _ _ [_, _, _] _
      refine g_jump (tgt := 2) dX4_convoyAt_28 (by decide) ?_
      exact ih (i + 1) (by omega) (fun k hk2 => by
        rcases Nat.lt_succ_iff_lt_or_eq.mp hk2 with q | rfl
        · exact hk k q
        · exact Int32.not_le.mpr b1)
    · rw [fstI_eq (i := i) (by omega) (decide_eq_true (Int32.not_lt.mp b1)) (fun k hk2 => decide_eq_false (hk k hk2))] at hP
      refine g_iload_n dX4_convoyAt_23 rfl ?_
      exact g_iret rfl (nr_int _) dX4_convoyAt_24 (by decide) hP
theorem c_isTakenByOther {m w : Int32} (h : RoadAt sh V r f) (hI : InvB f) (hP : P (.inl (some (.int (ci (tkn f m w))))) sh sz V) : MC E YX4_isTakenByOther [.ref r, .int m, .int w] sh sz V P := by
  have hI1 := hI.1.2
  refine MC.of RX4 "isTakenByOther" rfl (by decide +kernel) rfl 1 [_, _, _, none] rfl (Nat.le_of_ble_eq_true rfl) ?_
  show G E MX4_isTakenByOther _ _ _ _ _ _ _ _ _
  refine g_iconst (v := nI 0) dX4_isTakenByOther_0 (by decide) ?_
  refine g_istore_n dX4_isTakenByOther_1 (by decide) rfl ?_
  show G _ _ _ _ _ _ _ _ _ [_, _, _, _] _
  suffices K : ∀ (d i : Nat), i + d = cnt f → (∀ k, k < i → nI k ≠ w → ¬ 0 ≤ paF f k m) → G E MX4_isTakenByOther P sh sz V 0 0 2 [some (.ref r), some (.int m), some (.int w), some (.int (nI i))] [] from K (cnt f) 0 (by omega) (fun k hk => absurd hk (Nat.not_lt_zero k))
  intro d
  induction d with
  | zero =>
    intro i hi hk
    have e : i = cnt f := by omega
    subst e
    refine g_iload_n dX4_isTakenByOther_2 rfl ?_
    refine g_aload_n dX4_isTakenByOther_3 rfl ?_
    refine g_get 6 rfl (by decide) inX4 5 (by decide) fl_X4_37 dX4_isTakenByOther_4 h.1.1 (h.many hI) ?_
    refine g_icmp_ge (tgt := 36) dX4_isTakenByOther_7 (by decide) (fun _ => ?_) (fun hq => absurd (Int32.le_refl _) hq)
    rw [ci_f (fun ⟨c, q1, q2, q3⟩ => hk c q1 q2 q3)] at hP
    refine g_iconst (v := nI 0) dX4_isTakenByOther_36 (by decide) ?_
    exact g_iret rfl nz0 dX4_isTakenByOther_37 (by decide) hP
  | succ d ih =>
    intro i hi hk
    have hnext : (nI i ≠ w → ¬ 0 ≤ paF f i m) → G E MX4_isTakenByOther P sh sz V 0 0 30 [some (.ref r), some (.int m), some (.int w), some (.int (nI i))] [] := by
      intro hq
      refine g_iinc dX4_isTakenByOther_30 rfl (by first | exact nI_inc _ | rfl) (by decide) rfl ?_
      show G _ _ _ _ _ _ _ _ _ [_, _, _, _] _
      refine g_jump (tgt := 2) dX4_isTakenByOther_33 (by decide) ?_
      exact ih (i + 1) (by omega) (fun k hk2 => by
        rcases Nat.lt_succ_iff_lt_or_eq.mp hk2 with q | rfl
        · exact hk k q
        · exact hq)
    refine g_iload_n dX4_isTakenByOther_2 rfl ?_
    refine g_aload_n dX4_isTakenByOther_3 rfl ?_
    refine g_get 6 rfl (by decide) inX4 5 (by decide) fl_X4_37 dX4_isTakenByOther_4 h.1.1 (h.many hI) ?_
    refine g_icmp_ge (tgt := 36) dX4_isTakenByOther_7 (by decide) (fun hq => absurd hq (nI_ge (by omega) (by omega))) (fun _ => ?_)
    refine g_iload_n dX4_isTakenByOther_10 rfl ?_
    refine g_iload_n dX4_isTakenByOther_11 rfl ?_
    refine g_icmp_eq (tgt := 30) dX4_isTakenByOther_12 (by decide) (fun b0 => ?_) (fun b0 => ?_)
    · exact hnext (fun q => absurd b0 q)
    refine g_aload_n dX4_isTakenByOther_15 rfl ?_
    refine g_get 6 rfl (by decide) inX4 4 (by decide) fl_X4_33 dX4_isTakenByOther_16 h.1.1 h.2.1.2.2.2.2.1 ?_
    refine g_iload_n dX4_isTakenByOther_19 rfl ?_
    refine g_aaload _ dX4_isTakenByOther_20 h.1.2.2.2.2 (by decide) (by decide) (vp_in_nI (by omega) (by decide)) (h.cvr (by omega)) ?_
    have hv := h.cv hI (c := i) (by omega)
    obtain ⟨c0, ca, c1, c2, c3, c4, c5, c6, c7⟩ := id hv
    refine g_iload_n dX4_isTakenByOther_21 rfl ?_
    refine g_callVp (Y := YX0_placeAt) sv_X4_90 rfl yn_X0_placeAt 2 (by decide) rfl rfl dX4_isTakenByOther_22 (c_placeAt c0 c1 c2 c3 (by omega) pR_ok) c0 rfl rfl rfl (Nat.le_of_ble_eq_true rfl) ⟨rfl, rfl⟩ ?_
    refine g_if_lt (tgt := 30) dX4_isTakenByOther_25 (by decide) (fun b1 => ?_) (fun b1 => ?_)
    · exact hnext (fun _ => Int32.not_le.mpr b1)
    · rw [ci_t ⟨i, by omega, b0, Int32.not_lt.mp b1⟩] at hP
      refine g_iconst (v := nI 1) dX4_isTakenByOther_28 (by decide) ?_
      exact g_iret rfl nz1 dX4_isTakenByOther_29 (by decide) hP
theorem c_wayObstacle {c : Nat} (h : RoadAt sh V r f) (hI : InvB f) (hc : c < cnt f) (hP : P (.inl (some (.int (enc (way f c (f (oC c 2) + nI 1)))))) sh sz V) : MC E YX4_wayObstacle [.ref r, .int (nI c)] sh sz V P := by
  have hI1 := hI.1.2
  have hv := h.cv hI hc
  obtain ⟨c0, ca, c1, c2, c3, c4, c5, c6, c7⟩ := id hv
  refine MC.of RX4 "wayObstacle" rfl (by decide +kernel) rfl 5 [_, _, none, none, none, none, none] rfl (Nat.le_of_ble_eq_true rfl) ?_
  show G E MX4_wayObstacle _ _ _ _ _ _ _ _ _
  refine g_aload_n dX4_wayObstacle_0 rfl ?_
  refine g_get 6 rfl (by decide) inX4 4 (by decide) fl_X4_33 dX4_wayObstacle_1 h.1.1 h.2.1.2.2.2.2.1 ?_
  refine g_iload_n dX4_wayObstacle_4 rfl ?_
  refine g_aaload _ dX4_wayObstacle_5 h.1.2.2.2.2 (by decide) (by decide) (vp_in_nI (by omega) (by decide)) (h.cvr (by omega)) ?_
  refine g_astore_n dX4_wayObstacle_6 (by decide) rfl ?_
  show G _ _ _ _ _ _ _ _ _ [_, _, _, _, _, _, _] _
  refine g_aload_n dX4_wayObstacle_7 rfl ?_
  refine g_get 2 rfl (by decide) inX0 1 (by decide) fl_X4_117 dX4_wayObstacle_8 c0 c2 ?_
  refine g_iconst (v := nI 1) dX4_wayObstacle_11 (by decide) ?_
  refine g_iadd dX4_wayObstacle_12 ?_
  refine g_istore_n dX4_wayObstacle_13 (by decide) rfl ?_
  show G _ _ _ _ _ _ _ _ _ [_, _, _, _, _, _, _] _
  refine g_iconst (v := nI 0) dX4_wayObstacle_14 (by decide) ?_
  refine g_istore dX4_wayObstacle_15 (by decide) rfl ?_
  show G _ _ _ _ _ _ _ _ _ [_, _, _, _, _, _, _] _
  generalize f (oC c 2) + nI 1 = ld at hP ⊢
  have K2 : (∀ j, j < ncv f c → ¬ bk f c ld j) → ∀ (d i : Nat), i + d = 4 → (∀ j, j < i → j < ncv f c → ¬ wk f c ld j) → ∀ z5 z6, G E MX4_wayObstacle P sh sz V 0 0 77 [some (.ref r), some (.int (nI c)), some (.ref (r + 17 + 2 * c)), some (.int ld), some (.int (nI i)), z5, z6] [] := by
    intro hb d
    induction d with
    | zero =>
      intro i hi hw z5 z6
      have e4 : i = 4 := by omega
      subst e4
      refine g_iload dX4_wayObstacle_77 rfl ?_
      refine g_iconst (v := nI 4) dX4_wayObstacle_79 (by decide) ?_
      refine g_icmp_ge (tgt := 148) dX4_wayObstacle_80 (by decide) (fun _ => ?_) (fun hq => absurd (Int32.le_refl _) hq)
      rw [way_0 hb (fun j hj => hw j (by omega) hj), enc0] at hP
      refine g_iconst (v := nI 0) dX4_wayObstacle_148 (by decide) ?_
      exact g_iret rfl (nr_int _) dX4_wayObstacle_149 (by decide) hP
    | succ d ih =>
      intro i hi hw z5 z6
      have hnext : (i < ncv f c → ¬ wk f c ld i) → ∀ z5 z6, G E MX4_wayObstacle P sh sz V 0 0 142 [some (.ref r), some (.int (nI c)), some (.ref (r + 17 + 2 * c)), some (.int ld), some (.int (nI i)), z5, z6] [] := by
        intro hq z5 z6
        refine g_iinc dX4_wayObstacle_142 rfl (by first | exact nI_inc _ | rfl) (by decide) rfl ?_
        show G _ _ _ _ _ _ _ _ _ [_, _, _, _, _, _, _] _
        refine g_jump (tgt := 77) dX4_wayObstacle_145 (by decide) ?_
        exact ih (i + 1) (by omega) (fun j hj => by
          rcases Nat.lt_succ_iff_lt_or_eq.mp hj with q | rfl
          · exact hw j q
          · exact hq) _ _
      refine g_iload dX4_wayObstacle_77 rfl ?_
      refine g_iconst (v := nI 4) dX4_wayObstacle_79 (by decide) ?_
      refine g_icmp_ge (tgt := 148) dX4_wayObstacle_80 (by decide) (fun hq => absurd hq (nI_ge (by omega) (by decide))) (fun _ => ?_)
      refine g_aload_n dX4_wayObstacle_83 rfl ?_
      refine g_iload dX4_wayObstacle_84 rfl ?_
      refine g_iload_n dX4_wayObstacle_86 rfl ?_
      refine g_callVp (Y := YX0_mileWithLead) sv_X4_120 rfl yn_X0_mileWithLead 2 (by decide) rfl rfl dX4_wayObstacle_87 (c_mileWithLead c0 c1 pR_ok) c0 rfl rfl rfl (Nat.le_of_ble_eq_true rfl) ⟨rfl, rfl⟩ ?_
      refine g_istore dX4_wayObstacle_90 (by decide) rfl ?_
      show G _ _ _ _ _ _ _ _ _ [_, _, _, _, _, _, _] _
      refine g_aload_n dX4_wayObstacle_92 rfl ?_
      refine g_get 2 rfl (by decide) inX0 3 (by decide) fl_X4_62 dX4_wayObstacle_93 c0 c4 ?_
      refine g_iload dX4_wayObstacle_96 rfl ?_
      rcases Nat.lt_or_ge i (ncv f c) with q | q
      · obtain ⟨t, e1, e2⟩ := c6 i q
        refine g_aaload _ dX4_wayObstacle_98 ca (by decide) (by decide) (vp_in_nI (by omega) (by decide)) (at_nI (by omega) e1) ?_
        refine g_astore dX4_wayObstacle_99 (by decide) rfl ?_
        show G _ _ _ _ _ _ _ _ _ [_, _, _, _, _, _, _] _
        refine g_aload dX4_wayObstacle_101 rfl ?_
        refine g_ifnull dX4_wayObstacle_103 ?_
        refine g_iload dX4_wayObstacle_106 rfl ?_
        refine g_callSNp (Y := YX6_isMile) wc_X6_isMile mn_X4_123 wt_X6_isMile ini_X6 yn_X6_isMile dX4_wayObstacle_108 (c_isMile pR_ok) rfl rfl rfl (Nat.le_of_ble_eq_true rfl) ⟨rfl, rfl⟩ ?_
        refine g_if_eq (tgt := 142) dX4_wayObstacle_111 (by decide) (fun b1 => ?_) (fun b1 => ?_)
        · exact hnext (fun _ z => bi_eq b1 z.1) _ _
        have b2 := bi_ne b1
        obtain ⟨j, hj, ej⟩ := in_nI b2.1 b2.2 (by decide)
        refine g_aload_n dX4_wayObstacle_114 rfl ?_
        refine g_aload_n dX4_wayObstacle_115 rfl ?_
        refine g_get 6 rfl (by decide) inX4 2 (by decide) fl_X4_21 dX4_wayObstacle_116 h.1.1 h.2.1.2.2.1 ?_
        refine g_iload dX4_wayObstacle_119 rfl ?_
        refine g_aaload _ dX4_wayObstacle_121 h.1.2.2.1 (by decide) (by decide) (in_eq ej (vp_in_nI hj (by decide))) (at_eq ej (h.mir hj)) ?_
        refine g_callVp (Y := YX4_borneByDrill) sv_X4_130 rfl yn_X4_borneByDrill 6 (by decide) rfl rfl dX4_wayObstacle_122 (c_borneByDrill h hI hj pR_ok) h.1.1 rfl rfl rfl (Nat.le_of_ble_eq_true rfl) ⟨rfl, rfl⟩ ?_
        refine g_aload dX4_wayObstacle_125 rfl ?_
        refine g_callVp (Y := YX5_burden) sv_X4_134 rfl yn_X5_burden 7 (by decide) rfl rfl dX4_wayObstacle_127 (c_burdenT e2 ((hI.2.2.2.2.2 c hc).2.2.2.2 i q) pR_ok) e2.1 rfl rfl rfl (Nat.le_of_ble_eq_true rfl) ⟨rfl, rfl⟩ ?_
        refine g_fcmp dX4_wayObstacle_130 ?_
        refine g_if_ge (tgt := 142) dX4_wayObstacle_131 (by decide) (fun b3 => ?_) (fun b3 => ?_)
        · exact hnext (fun _ z => by
            have z2 := z.2
            rw [ej, nI_clamp (by omega)] at z2
            exact absurd z2 (Int32.not_lt.mpr b3)) _ _
        · rw [way_8 hb q ⟨b2, by rw [ej, nI_clamp (by omega)]; exact Int32.not_le.mp b3⟩ (fun j hj => hw j hj (by omega))] at hP
          refine g_bipush (v := nI 8) dX4_wayObstacle_134 (by decide) ?_
          refine g_iload dX4_wayObstacle_136 rfl ?_
          refine g_callSNp (Y := YX6_refusalFor) wc_X6_refusalFor mn_X4_104 wt_X6_refusalFor ini_X6 yn_X6_refusalFor dX4_wayObstacle_138 (c_refusalFor pR_ok) rfl rfl rfl (Nat.le_of_ble_eq_true rfl) ⟨rfl, rfl⟩ ?_
          exact g_iret rfl (nr_int _) dX4_wayObstacle_141 (by decide) hP
      · refine g_aaload _ dX4_wayObstacle_98 ca (by decide) (by decide) (vp_in_nI (by omega) (by decide)) (at_nI (by omega) (c7 i q (by omega))) ?_
        refine g_astoreN dX4_wayObstacle_99 (by decide) rfl ?_
        show G _ _ _ _ _ _ _ _ _ [_, _, _, _, _, _, _] _
        refine g_aloadN dX4_wayObstacle_101 rfl ?_
        refine g_ifnullN (tgt := 142) dX4_wayObstacle_103 (by decide) ?_
        exact hnext (fun z => absurd z (by omega)) _ _
  have K1 : ∀ (d i : Nat), i + d = 4 → (∀ j, j < i → j < ncv f c → ¬ bk f c ld j) → ∀ z5 z6, G E MX4_wayObstacle P sh sz V 0 0 17 [some (.ref r), some (.int (nI c)), some (.ref (r + 17 + 2 * c)), some (.int ld), some (.int (nI i)), z5, z6] [] := by
    intro d
    induction d with
    | zero =>
      intro i hi hw z5 z6
      have e4 : i = 4 := by omega
      subst e4
      refine g_iload dX4_wayObstacle_17 rfl ?_
      refine g_iconst (v := nI 4) dX4_wayObstacle_19 (by decide) ?_
      refine g_icmp_ge (tgt := 74) dX4_wayObstacle_20 (by decide) (fun _ => ?_) (fun hq => absurd (Int32.le_refl _) hq)
      refine g_iconst (v := nI 0) dX4_wayObstacle_74 (by decide) ?_
      refine g_istore dX4_wayObstacle_75 (by decide) rfl ?_
      show G _ _ _ _ _ _ _ _ _ [_, _, _, _, _, _, _] _
      exact K2 (fun j hj => hw j (by omega) hj) 4 0 rfl (fun j hj => absurd hj (Nat.not_lt_zero j)) _ _
    | succ d ih =>
      intro i hi hw z5 z6
      have hnext : (i < ncv f c → ¬ bk f c ld i) → ∀ z5 z6, G E MX4_wayObstacle P sh sz V 0 0 68 [some (.ref r), some (.int (nI c)), some (.ref (r + 17 + 2 * c)), some (.int ld), some (.int (nI i)), z5, z6] [] := by
        intro hq z5 z6
        refine g_iinc dX4_wayObstacle_68 rfl (by first | exact nI_inc _ | rfl) (by decide) rfl ?_
        show G _ _ _ _ _ _ _ _ _ [_, _, _, _, _, _, _] _
        refine g_jump (tgt := 17) dX4_wayObstacle_71 (by decide) ?_
        exact ih (i + 1) (by omega) (fun j hj => by
          rcases Nat.lt_succ_iff_lt_or_eq.mp hj with q | rfl
          · exact hw j q
          · exact hq) _ _
      refine g_iload dX4_wayObstacle_17 rfl ?_
      refine g_iconst (v := nI 4) dX4_wayObstacle_19 (by decide) ?_
      refine g_icmp_ge (tgt := 74) dX4_wayObstacle_20 (by decide) (fun hq => absurd hq (nI_ge (by omega) (by decide))) (fun _ => ?_)
      refine g_aload_n dX4_wayObstacle_23 rfl ?_
      refine g_iload dX4_wayObstacle_24 rfl ?_
      refine g_iload_n dX4_wayObstacle_26 rfl ?_
      refine g_callVp (Y := YX0_mileWithLead) sv_X4_120 rfl yn_X0_mileWithLead 2 (by decide) rfl rfl dX4_wayObstacle_27 (c_mileWithLead c0 c1 pR_ok) c0 rfl rfl rfl (Nat.le_of_ble_eq_true rfl) ⟨rfl, rfl⟩ ?_
      refine g_istore dX4_wayObstacle_30 (by decide) rfl ?_
      show G _ _ _ _ _ _ _ _ _ [_, _, _, _, _, _, _] _
      refine g_aload_n dX4_wayObstacle_32 rfl ?_
      refine g_get 2 rfl (by decide) inX0 3 (by decide) fl_X4_62 dX4_wayObstacle_33 c0 c4 ?_
      refine g_iload dX4_wayObstacle_36 rfl ?_
      rcases Nat.lt_or_ge i (ncv f c) with q | q
      · obtain ⟨t, e1, e2⟩ := c6 i q
        refine g_aaload _ dX4_wayObstacle_38 ca (by decide) (by decide) (vp_in_nI (by omega) (by decide)) (at_nI (by omega) e1) ?_
        refine g_ifnull dX4_wayObstacle_39 ?_
        refine g_iload dX4_wayObstacle_42 rfl ?_
        refine g_callSNp (Y := YX6_isMile) wc_X6_isMile mn_X4_123 wt_X6_isMile ini_X6 yn_X6_isMile dX4_wayObstacle_44 (c_isMile pR_ok) rfl rfl rfl (Nat.le_of_ble_eq_true rfl) ⟨rfl, rfl⟩ ?_
        refine g_if_eq (tgt := 68) dX4_wayObstacle_47 (by decide) (fun b1 => ?_) (fun b1 => ?_)
        · exact hnext (fun _ z => bi_eq b1 z.1) _ _
        have b2 := bi_ne b1
        refine g_aload_n dX4_wayObstacle_50 rfl ?_
        refine g_iload dX4_wayObstacle_51 rfl ?_
        refine g_iload_n dX4_wayObstacle_53 rfl ?_
        refine g_callVp (Y := YX4_isTakenByOther) sv_X4_126 rfl yn_X4_isTakenByOther 6 (by decide) rfl rfl dX4_wayObstacle_54 (c_isTakenByOther h hI pR_ok) h.1.1 rfl rfl rfl (Nat.le_of_ble_eq_true rfl) ⟨rfl, rfl⟩ ?_
        refine g_if_eq (tgt := 68) dX4_wayObstacle_57 (by decide) (fun b3 => ?_) (fun b3 => ?_)
        · exact hnext (fun _ z => ci_eq b3 z.2) _ _
        · rw [way_7 q ⟨b2, ci_ne b3⟩ (fun j hj => hw j hj (by omega))] at hP
          refine g_bipush (v := nI 7) dX4_wayObstacle_60 (by decide) ?_
          refine g_iload dX4_wayObstacle_62 rfl ?_
          refine g_callSNp (Y := YX6_refusalFor) wc_X6_refusalFor mn_X4_104 wt_X6_refusalFor ini_X6 yn_X6_refusalFor dX4_wayObstacle_64 (c_refusalFor pR_ok) rfl rfl rfl (Nat.le_of_ble_eq_true rfl) ⟨rfl, rfl⟩ ?_
          exact g_iret rfl (nr_int _) dX4_wayObstacle_67 (by decide) hP
      · refine g_aaload _ dX4_wayObstacle_38 ca (by decide) (by decide) (vp_in_nI (by omega) (by decide)) (at_nI (by omega) (c7 i q (by omega))) ?_
        refine g_ifnullN (tgt := 68) dX4_wayObstacle_39 (by decide) ?_
        exact hnext (fun z => absurd z (by omega)) _ _
  exact K1 4 0 rfl (fun j hj => absurd hj (Nat.not_lt_zero j)) _ _
/-- what stands in the way of a call for convoy x, in one number -/
noncomputable def obs (f : Fl) (x : Int32) (g : Nat → Int32 × Int32) : Int32 := @ite _ (isC f x) (Classical.propDecidable _) (enc (g x.toNatClampNeg)) (-1)
theorem obs_t {c : Nat} {g : Nat → Int32 × Int32} (hI : InvB f) (hc : c < cnt f) : obs f (nI c) g = enc (g c) := by
  have hI1 := hI.1.2
  unfold obs
  rw [if_pos ⟨nI_pos' (by omega), nI_lt hc (by omega)⟩, nI_clamp (by omega)]
theorem obs_f {x : Int32} {g : Nat → Int32 × Int32} (h : ¬ isC f x) : obs f x g = -1 := if_neg h
theorem c_rollObstacle {x : Int32} (h : RoadAt sh V r f) (hI : InvB f) (hP : P (.inl (some (.int (obs f x (rollO f))))) sh sz V) : MC E YX4_rollObstacle [.ref r, .int x] sh sz V P := by
  have hI1 := hI.1.2
  refine MC.of RX4 "rollObstacle" rfl (by decide +kernel) rfl 0 [_, _] rfl (Nat.le_of_ble_eq_true rfl) ?_
  show G E MX4_rollObstacle _ _ _ _ _ _ _ _ _
  refine g_aload_n dX4_rollObstacle_0 rfl ?_
  refine g_iload_n dX4_rollObstacle_1 rfl ?_
  refine g_callVp (Y := YX4_isConvoy) sv_X4_58 rfl yn_X4_isConvoy 6 (by decide) rfl rfl dX4_rollObstacle_2 (c_isConvoy h hI pR_ok) h.1.1 rfl rfl rfl (Nat.le_of_ble_eq_true rfl) ⟨rfl, rfl⟩ ?_
  refine g_if_ne (tgt := 10) dX4_rollObstacle_5 (by decide) (fun b1 => ?_) (fun b1 => ?_)
  · obtain ⟨c, hc, rfl⟩ := isC_of hI (bi_ne b1)
    rw [obs_t hI hc] at hP
    have hv := h.cv hI hc
    obtain ⟨c0, ca, c1, c2, c3, c4, c5, c6, c7⟩ := id hv
    unfold rollO at hP
    refine g_aload_n dX4_rollObstacle_10 rfl ?_
    refine g_get 6 rfl (by decide) inX4 4 (by decide) fl_X4_33 dX4_rollObstacle_11 h.1.1 h.2.1.2.2.2.2.1 ?_
    refine g_iload_n dX4_rollObstacle_14 rfl ?_
    refine g_aaload _ dX4_rollObstacle_15 h.1.2.2.2.2 (by decide) (by decide) (vp_in_nI (by omega) (by decide)) (h.cvr (by omega)) ?_
    refine g_callVp (Y := YX0_hasStarted) sv_X4_100 rfl yn_X0_hasStarted 2 (by decide) rfl rfl dX4_rollObstacle_16 (c_hasStarted c0 c2 pR_ok) c0 rfl rfl rfl (Nat.le_of_ble_eq_true rfl) ⟨rfl, rfl⟩ ?_
    refine g_if_ne (tgt := 28) dX4_rollObstacle_19 (by decide) (fun b2 => ?_) (fun b2 => ?_)
    · rw [if_neg (fun z => z (bi_ne b2))] at hP
      refine g_aload_n dX4_rollObstacle_28 rfl ?_
      refine g_get 6 rfl (by decide) inX4 4 (by decide) fl_X4_33 dX4_rollObstacle_29 h.1.1 h.2.1.2.2.2.2.1 ?_
      refine g_iload_n dX4_rollObstacle_32 rfl ?_
      refine g_aaload _ dX4_rollObstacle_33 h.1.2.2.2.2 (by decide) (by decide) (vp_in_nI (by omega) (by decide)) (h.cvr (by omega)) ?_
      refine g_callVp (Y := YX0_isDone) sv_X4_114 rfl yn_X0_isDone 2 (by decide) rfl rfl dX4_rollObstacle_34 (c_isDone c0 c1 c2 c3 (by omega) pR_ok) c0 rfl rfl rfl (Nat.le_of_ble_eq_true rfl) ⟨rfl, rfl⟩ ?_
      refine g_if_eq (tgt := 47) dX4_rollObstacle_37 (by decide) (fun b3 => ?_) (fun b3 => ?_)
      · rw [if_neg (bi_eq b3)] at hP
        refine g_aload_n dX4_rollObstacle_47 rfl ?_
        refine g_iload_n dX4_rollObstacle_48 rfl ?_
        refine g_callVp (Y := YX4_wayObstacle) sv_X4_111 rfl yn_X4_wayObstacle 6 (by decide) rfl rfl dX4_rollObstacle_49 (c_wayObstacle h hI hc pR_ok) h.1.1 rfl rfl rfl (Nat.le_of_ble_eq_true rfl) ⟨rfl, rfl⟩ ?_
        exact g_iret rfl (nr_int _) dX4_rollObstacle_52 (by decide) hP
      · rw [if_pos (bi_ne b3)] at hP
        refine g_bipush (v := nI 6) dX4_rollObstacle_40 (by decide) ?_
        refine g_iload_n dX4_rollObstacle_42 rfl ?_
        refine g_callSNp (Y := YX6_refusalFor) wc_X6_refusalFor mn_X4_104 wt_X6_refusalFor ini_X6 yn_X6_refusalFor dX4_rollObstacle_43 (c_refusalFor pR_ok) rfl rfl rfl (Nat.le_of_ble_eq_true rfl) ⟨rfl, rfl⟩ ?_
        exact g_iret rfl (nr_int _) dX4_rollObstacle_46 (by decide) hP
    · rw [if_pos (bi_eq b2)] at hP
      refine g_iconst (v := nI 4) dX4_rollObstacle_22 (by decide) ?_
      refine g_iload_n dX4_rollObstacle_23 rfl ?_
      refine g_callSNp (Y := YX6_refusalFor) wc_X6_refusalFor mn_X4_104 wt_X6_refusalFor ini_X6 yn_X6_refusalFor dX4_rollObstacle_24 (c_refusalFor pR_ok) rfl rfl rfl (Nat.le_of_ble_eq_true rfl) ⟨rfl, rfl⟩ ?_
      exact g_iret rfl (nr_int _) dX4_rollObstacle_27 (by decide) hP
  · rw [obs_f (bi_eq b1)] at hP
    refine g_iconst (v := (-1)) dX4_rollObstacle_8 (by decide) ?_
    exact g_iret rfl (nr_int _) dX4_rollObstacle_9 (by decide) hP
theorem c_startObstacle {x : Int32} (h : RoadAt sh V r f) (hI : InvB f) (hP : P (.inl (some (.int (obs f x (startO f))))) sh sz V) : MC E YX4_startObstacle [.ref r, .int x] sh sz V P := by
  have hI1 := hI.1.2
  refine MC.of RX4 "startObstacle" rfl (by decide +kernel) rfl 0 [_, _] rfl (Nat.le_of_ble_eq_true rfl) ?_
  show G E MX4_startObstacle _ _ _ _ _ _ _ _ _
  refine g_aload_n dX4_startObstacle_0 rfl ?_
  refine g_iload_n dX4_startObstacle_1 rfl ?_
  refine g_callVp (Y := YX4_isConvoy) sv_X4_58 rfl yn_X4_isConvoy 6 (by decide) rfl rfl dX4_startObstacle_2 (c_isConvoy h hI pR_ok) h.1.1 rfl rfl rfl (Nat.le_of_ble_eq_true rfl) ⟨rfl, rfl⟩ ?_
  refine g_if_ne (tgt := 10) dX4_startObstacle_5 (by decide) (fun b1 => ?_) (fun b1 => ?_)
  · obtain ⟨c, hc, rfl⟩ := isC_of hI (bi_ne b1)
    rw [obs_t hI hc] at hP
    have hv := h.cv hI hc
    obtain ⟨c0, ca, c1, c2, c3, c4, c5, c6, c7⟩ := id hv
    unfold startO at hP
    refine g_aload_n dX4_startObstacle_10 rfl ?_
    refine g_get 6 rfl (by decide) inX4 4 (by decide) fl_X4_33 dX4_startObstacle_11 h.1.1 h.2.1.2.2.2.2.1 ?_
    refine g_iload_n dX4_startObstacle_14 rfl ?_
    refine g_aaload _ dX4_startObstacle_15 h.1.2.2.2.2 (by decide) (by decide) (vp_in_nI (by omega) (by decide)) (h.cvr (by omega)) ?_
    refine g_callVp (Y := YX0_hasStarted) sv_X4_100 rfl yn_X0_hasStarted 2 (by decide) rfl rfl dX4_startObstacle_16 (c_hasStarted c0 c2 pR_ok) c0 rfl rfl rfl (Nat.le_of_ble_eq_true rfl) ⟨rfl, rfl⟩ ?_
    refine g_if_eq (tgt := 28) dX4_startObstacle_19 (by decide) (fun b2 => ?_) (fun b2 => ?_)
    · rw [if_neg (bi_eq b2)] at hP
      refine g_aload_n dX4_startObstacle_28 rfl ?_
      refine g_get 6 rfl (by decide) inX4 4 (by decide) fl_X4_33 dX4_startObstacle_29 h.1.1 h.2.1.2.2.2.2.1 ?_
      refine g_iload_n dX4_startObstacle_32 rfl ?_
      refine g_aaload _ dX4_startObstacle_33 h.1.2.2.2.2 (by decide) (by decide) (vp_in_nI (by omega) (by decide)) (h.cvr (by omega)) ?_
      refine g_get 2 rfl (by decide) inX0 2 (by decide) fl_X4_108 dX4_startObstacle_34 c0 c3 ?_
      refine g_if_ne (tgt := 46) dX4_startObstacle_37 (by decide) (fun b3 => ?_) (fun b3 => ?_)
      · rw [if_neg (fun z => b3 (by rw [z]; rfl))] at hP
        refine g_aload_n dX4_startObstacle_46 rfl ?_
        refine g_iload_n dX4_startObstacle_47 rfl ?_
        refine g_callVp (Y := YX4_wayObstacle) sv_X4_111 rfl yn_X4_wayObstacle 6 (by decide) rfl rfl dX4_startObstacle_48 (c_wayObstacle h hI hc pR_ok) h.1.1 rfl rfl rfl (Nat.le_of_ble_eq_true rfl) ⟨rfl, rfl⟩ ?_
        exact g_iret rfl (nr_int _) dX4_startObstacle_51 (by decide) hP
      · rw [if_pos ((nI_eq (a := ncv f c) (b := 0) (by omega) (by decide)).mp b3)] at hP
        refine g_iconst (v := nI 5) dX4_startObstacle_40 (by decide) ?_
        refine g_iload_n dX4_startObstacle_41 rfl ?_
        refine g_callSNp (Y := YX6_refusalFor) wc_X6_refusalFor mn_X4_104 wt_X6_refusalFor ini_X6 yn_X6_refusalFor dX4_startObstacle_42 (c_refusalFor pR_ok) rfl rfl rfl (Nat.le_of_ble_eq_true rfl) ⟨rfl, rfl⟩ ?_
        exact g_iret rfl (nr_int _) dX4_startObstacle_45 (by decide) hP
    · rw [if_pos (bi_ne b2)] at hP
      refine g_iconst (v := nI 4) dX4_startObstacle_22 (by decide) ?_
      refine g_iload_n dX4_startObstacle_23 rfl ?_
      refine g_callSNp (Y := YX6_refusalFor) wc_X6_refusalFor mn_X4_104 wt_X6_refusalFor ini_X6 yn_X6_refusalFor dX4_startObstacle_24 (c_refusalFor pR_ok) rfl rfl rfl (Nat.le_of_ble_eq_true rfl) ⟨rfl, rfl⟩ ?_
      exact g_iret rfl (nr_int _) dX4_startObstacle_27 (by decide) hP
  · rw [obs_f (bi_eq b1)] at hP
    refine g_iconst (v := (-1)) dX4_startObstacle_8 (by decide) ?_
    exact g_iret rfl (nr_int _) dX4_startObstacle_9 (by decide) hP
end ROAD3

