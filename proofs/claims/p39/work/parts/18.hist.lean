/-! the history -/
section HIST
def updK (K : Nat → Fl) (i : Nat) (f : Fl) : Nat → Fl := fun j => if j = i then f else K j
def HiAt (sh : Sh) (V : Vl) (h : Nat) (K : Nat → Fl) (nx cn : Nat) : Prop :=
  (sh h).1 = 4 ∧ sh (h + 1) = (27, 8) ∧ V h 0 = .ref (h + 1) ∧ V h 1 = .int (nI nx) ∧ V h 2 = .int (nI cn) ∧ nx < 8 ∧ cn ≤ 8 ∧ ∀ i, i < 8 → V (h + 1) i = .ref (h + 2 + 25 * i) ∧ RoadAt sh V (h + 2 + 25 * i) (K i)
/-- what is kept, the oldest first: changes pushed -/
def pH (H : Nat → Fl) (cn : Nat) (f : Fl) : Nat → Fl := fun i => if cn < 8 then (if i = cn then f else H i) else if i = 7 then f else H (i + 1)
def pC (cn : Nat) : Nat := if cn < 8 then cn + 1 else 8
/-- the ring holds the list -/
def ring (K : Nat → Fl) (nx cn : Nat) (H : Nat → Fl) : Prop := ∀ i, i < cn → K ((nx + 8 - cn + i) % 8) = H i
theorem ring_push {K H : Nat → Fl} {nx cn : Nat} {f : Fl} (h : ring K nx cn H) (hn : nx < 8) (hc : cn ≤ 8) : ring (updK K nx f) ((nx + 1) % 8) (pC cn) (pH H cn f) := by
  intro i hi
  unfold updK pH pC at *
  by_cases z : cn < 8
  · rw [if_pos z] at hi
    simp only [if_pos z]
    by_cases w : i = cn
    · rw [if_pos w, if_pos (by omega)]
    · rw [if_neg w, if_neg (by omega), ← h i (by omega)]
      exact congrArg K (by omega)
  · rw [if_neg z] at hi
    simp only [if_neg z]
    by_cases w : i = 7
    · rw [if_pos w, if_pos (by omega)]
    · rw [if_neg w, if_neg (by omega), ← h (i + 1) (by omega)]
      exact congrArg K (by omega)
theorem ring_back {K H : Nat → Fl} {nx cn : Nat} (h : ring K nx cn H) (hn : nx < 8) (h0 : 0 < cn) (hc : cn ≤ 8) : ring K ((nx + 7) % 8) (cn - 1) H ∧ K ((nx + 7) % 8) = H (cn - 1) := by
  refine ⟨fun i hi => ?_, ?_⟩
  · rw [← h i (by omega)]
    exact congrArg K (by omega)
  · rw [← h (cn - 1) (by omega)]
    exact congrArg K (by omega)
variable {E : gE} {M : gM} {P : gP} {sh : Sh} {sz : Nat} {V : Vl} {cu su pc : Nat} {L : List (Option Value)} {rest : List Value} {r h nx cn : Nat} {f g0 : Fl} {K : Nat → Fl}
theorem c_keep (hH : HiAt sh V h K nx cn) (hR : RoadAt sh V r f) (hd : r + 25 ≤ h ∨ h + 202 ≤ r) (hP : ∀ V', (∀ a, (a < h ∨ h + 202 ≤ a) → V' a = V a) → HiAt sh V' h (updK K nx f) ((nx + 1) % 8) (pC cn) → P (.inl none) sh sz V') : MC E YX1_keep [.ref h, .ref r] sh sz V P := by
  obtain ⟨s0, s1, v0, v1, v2, hn, hc, hq⟩ := id hH
  obtain ⟨q1, q2⟩ := hq nx hn
  refine MC.of RX1 "keep" rfl (by decide +kernel) rfl 0 [_, _] rfl (Nat.le_of_ble_eq_true rfl) ?_
  show G E MX1_keep _ _ _ _ _ _ _ _ _
  refine g_aload_n dX1_keep_0 rfl ?_
  refine g_get 3 rfl (by decide) inX1 0 (by decide) fl_X1_11 dX1_keep_1 s0 v0 ?_
  refine g_aload_n dX1_keep_4 rfl ?_
  refine g_get 3 rfl (by decide) inX1 1 (by decide) fl_X1_17 dX1_keep_5 s0 v1 ?_
  refine g_aaload _ dX1_keep_8 s1 (by decide) (by decide) (vp_in_nI (by omega) (by decide)) (at_nI (by omega) q1) ?_
  refine g_aload_n dX1_keep_9 rfl ?_
  refine g_callVv (Y := YX4_copyFrom) (Q := (fun V2 => Fr V V2 (h + 2 + 25 * nx) ∧ RoadAt sh V2 (h + 2 + 25 * nx) f)) sv_X1_25 rfl yn_X4_copyFrom 6 (by decide) rfl rfl dX1_keep_10 (c_Road_copyFrom q2 hR (by omega) (fun V2 q1 q2 => ⟨rfl, rfl, rfl, q1, q2⟩)) q2.1.1 rfl rfl rfl (Nat.le_of_ble_eq_true rfl) ⟨rfl, rfl⟩ (fun V2 q => ?_)
  obtain ⟨hF, hR2⟩ := q
  have e0 : V2 h = V h := hF h (by omega)
  refine g_aload_n dX1_keep_13 rfl ?_
  refine g_aload_n dX1_keep_14 rfl ?_
  refine g_get 3 rfl (by decide) inX1 1 (by decide) fl_X1_17 dX1_keep_15 s0 ((congrFun e0 1).trans v1) ?_
  refine g_iconst (v := nI 1) dX1_keep_18 (by decide) ?_
  refine g_iadd dX1_keep_19 ?_
  refine g_bipush (v := nI 8) dX1_keep_20 (by decide) ?_
  rw [nI_add]
  refine g_irem dX1_keep_22 (by decide) ?_
  rw [show (nI 8 : Int32) = nI 8 from rfl, pk_rem (by omega) (by decide) (by decide)]
  refine g_put 3 rfl (by decide) inX1 tyX1 tyX1_ok nmX1 1 (by decide) fl_X1_17 rfl dX1_keep_23 s0 rfl rfl ?_
  refine g_aload_n dX1_keep_26 rfl ?_
  refine g_aload_n dX1_keep_27 rfl ?_
  refine g_get 3 rfl (by decide) inX1 2 (by decide) fl_X1_21 dX1_keep_28 s0 ((hu_at_ne _ _ _ (by decide)).trans ((congrFun e0 2).trans v2)) ?_
  refine g_iconst (v := nI 1) dX1_keep_31 (by decide) ?_
  refine g_iadd dX1_keep_32 ?_
  refine g_bipush (v := nI 8) dX1_keep_33 (by decide) ?_
  rw [nI_add]
  refine g_mmin ml_X1_29 wm_mmin_s wm_ini wm_mmin_c dX1_keep_35 (Nat.le_of_ble_eq_true rfl) (Nat.le_of_ble_eq_true rfl) ⟨Nat.le_of_ble_eq_true rfl, Nat.le_of_ble_eq_true rfl⟩ ?_
  have em : (if nI 8 < nI (cn + 1) then nI 8 else nI (cn + 1) : Int32) = nI (pC cn) := by
    unfold pC
    by_cases z : cn < 8
    · rw [if_pos z, if_neg (nI_nlt (by omega) (by decide))]
    · rw [if_neg z, if_pos (nI_lt (by omega) (by omega))]
  rw [em]
  refine g_put 3 rfl (by decide) inX1 tyX1 tyX1_ok nmX1 2 (by decide) fl_X1_21 rfl dX1_keep_38 s0 rfl rfl ?_
  have hfin : ∀ a, a ≠ h → hu (hu V2 h 1 (.int (nI ((nx + 1) % 8)))) h 2 (.int (nI (pC cn))) a = V2 a := fun a ha => (hu_ne _ _ _ ha).trans (hu_ne _ _ _ ha)
  refine g_vret rfl dX1_keep_41 (by decide) (hP _ (fun a ha => (hfin a (by omega)).trans (hF a (by omega))) ⟨s0, s1, ?_, ?_, hu_at _ _ _ _, by omega, by unfold pC; split <;> omega, fun i hi => ?_⟩)
  · exact (hu_at_ne _ _ _ (by decide)).trans ((hu_at_ne _ _ _ (by decide)).trans ((congrFun e0 0).trans v0))
  · exact (hu_at_ne _ _ _ (by decide)).trans (hu_at _ _ _ _)
  · have hT := q2.tr hF
    refine ⟨(congrFun ((hfin _ (by omega)).trans (hF _ (by omega))) i).trans (hq i hi).1, ?_⟩
    have hT2 : Tr sh V2 (hu (hu V2 h 1 (.int (nI ((nx + 1) % 8)))) h 2 (.int (nI (pC cn)))) := fun t ht => hfin t (fun e => by rw [e, s0] at ht; cases ht)
    unfold updK
    by_cases z : i = nx
    · subst z
      rw [if_pos rfl]
      exact hR2.keep (fun a h1 h2 => hfin a (by omega)) hT2
    · rw [if_neg z]
      exact ((hq i hi).2.keep (fun a h1 h2 => hF a (by omega)) hT).keep (fun a h1 h2 => hfin a (by omega)) hT2
theorem c_takeBack (hH : HiAt sh V h K nx cn) (hR : RoadAt sh V r f) (hd : r + 25 ≤ h ∨ h + 202 ≤ r) (h0 : 0 < cn) (hP : ∀ V', (∀ a, (a < r ∨ r + 25 ≤ a) → a ≠ h → V' a = V a) → RoadAt sh V' r (K ((nx + 7) % 8)) → HiAt sh V' h K ((nx + 7) % 8) (cn - 1) → P (.inl none) sh sz V') : MC E YX1_takeBack [.ref h, .ref r] sh sz V P := by
  obtain ⟨s0, s1, v0, v1, v2, hn, hc, hq⟩ := id hH
  refine MC.of RX1 "takeBack" rfl (by decide +kernel) rfl 0 [_, _] rfl (Nat.le_of_ble_eq_true rfl) ?_
  show G E MX1_takeBack _ _ _ _ _ _ _ _ _
  refine g_aload_n dX1_takeBack_0 rfl ?_
  refine g_aload_n dX1_takeBack_1 rfl ?_
  refine g_get 3 rfl (by decide) inX1 1 (by decide) fl_X1_17 dX1_takeBack_2 s0 v1 ?_
  refine g_bipush (v := nI 8) dX1_takeBack_5 (by decide) ?_
  refine g_iadd dX1_takeBack_7 ?_
  rw [nI_add]
  refine g_iconst (v := nI 1) dX1_takeBack_8 (by decide) ?_
  refine g_isub dX1_takeBack_9 ?_
  rw [show nI (nx + 8) - nI 1 = nI (nx + 7) from pk_sub (by omega)]
  refine g_bipush (v := nI 8) dX1_takeBack_10 (by decide) ?_
  refine g_irem dX1_takeBack_12 (by decide) ?_
  rw [pk_rem (by omega) (by decide) (by decide)]
  refine g_put 3 rfl (by decide) inX1 tyX1 tyX1_ok nmX1 1 (by decide) fl_X1_17 rfl dX1_takeBack_13 s0 rfl rfl ?_
  have e1 : ∀ a, a ≠ h → hu V h 1 (.int (nI ((nx + 7) % 8))) a = V a := fun a ha => hu_ne _ _ _ ha
  have hT1 : Tr sh V (hu V h 1 (.int (nI ((nx + 7) % 8)))) := fun t ht => e1 t (fun e => by rw [e, s0] at ht; cases ht)
  have hlt : (nx + 7) % 8 < 8 := Nat.mod_lt _ (by decide)
  have r1 : ∀ i, i < 8 → RoadAt sh (hu V h 1 (.int (nI ((nx + 7) % 8)))) (h + 2 + 25 * i) (K i) := fun i hi => (hq i hi).2.keep (fun a h1 h2 => e1 a (by omega)) hT1
  have r0 : RoadAt sh (hu V h 1 (.int (nI ((nx + 7) % 8)))) r f := hR.keep (fun a h1 h2 => e1 a (by omega)) hT1
  refine g_aload_n dX1_takeBack_16 rfl ?_
  refine g_aload_n dX1_takeBack_17 rfl ?_
  refine g_get 3 rfl (by decide) inX1 0 (by decide) fl_X1_11 dX1_takeBack_18 s0 ((hu_at_ne _ _ _ (by decide)).trans v0) ?_
  refine g_aload_n dX1_takeBack_21 rfl ?_
  refine g_get 3 rfl (by decide) inX1 1 (by decide) fl_X1_17 dX1_takeBack_22 s0 (hu_at _ _ _ _) ?_
  refine g_aaload _ dX1_takeBack_25 s1 (by decide) (by decide) (vp_in_nI hlt (by decide)) (at_nI (by omega) ((congrFun (e1 _ (by omega)) _).trans (hq _ hlt).1)) ?_
  refine g_callVv (Y := YX4_copyFrom) (Q := (fun V2 => Fr (hu V h 1 (.int (nI ((nx + 7) % 8)))) V2 r ∧ RoadAt sh V2 r (K ((nx + 7) % 8)))) sv_X1_25 rfl yn_X4_copyFrom 6 (by decide) rfl rfl dX1_takeBack_26 (c_Road_copyFrom r0 (r1 _ hlt) (by omega) (fun V2 q1 q2 => ⟨rfl, rfl, rfl, q1, q2⟩)) hR.1.1 rfl rfl rfl (Nat.le_of_ble_eq_true rfl) ⟨rfl, rfl⟩ (fun V2 q => ?_)
  obtain ⟨hF, hR2⟩ := q
  have e0 : V2 h = hu V h 1 (.int (nI ((nx + 7) % 8))) h := hF h (by omega)
  refine g_aload_n dX1_takeBack_29 rfl ?_
  refine g_dup dX1_takeBack_30 rfl ?_
  refine g_get 3 rfl (by decide) inX1 2 (by decide) fl_X1_21 dX1_takeBack_31 s0 ((congrFun e0 2).trans ((hu_at_ne _ _ _ (by decide)).trans v2)) ?_
  refine g_iconst (v := nI 1) dX1_takeBack_34 (by decide) ?_
  refine g_isub dX1_takeBack_35 ?_
  rw [show nI cn - nI 1 = nI (cn - 1) from pk_sub (by omega)]
  refine g_put 3 rfl (by decide) inX1 tyX1 tyX1_ok nmX1 2 (by decide) fl_X1_21 rfl dX1_takeBack_36 s0 rfl rfl ?_
  have e3 : ∀ a, a ≠ h → hu V2 h 2 (.int (nI (cn - 1))) a = V2 a := fun a ha => hu_ne _ _ _ ha
  have hT3 : Tr sh V2 (hu V2 h 2 (.int (nI (cn - 1)))) := fun t ht => e3 t (fun e => by rw [e, s0] at ht; cases ht)
  refine g_vret rfl dX1_takeBack_39 (by decide) (hP _ (fun a ha hb => (e3 a hb).trans ((hF a ha).trans (e1 a hb))) (hR2.keep (fun a h1 h2 => e3 a (by omega)) hT3) ⟨s0, s1, ?_, ?_, hu_at _ _ _ _, hlt, by omega, fun i hi => ⟨?_, ?_⟩⟩)
  · exact (hu_at_ne _ _ _ (by decide)).trans ((congrFun e0 0).trans ((hu_at_ne _ _ _ (by decide)).trans v0))
  · exact (hu_at_ne _ _ _ (by decide)).trans ((congrFun e0 1).trans (hu_at _ _ _ _))
  · exact (congrFun ((e3 _ (by omega)).trans ((hF _ (by omega)).trans (e1 _ (by omega)))) i).trans (hq i hi).1
  · exact ((r1 i hi).keep (fun a h1 h2 => hF a (by omega)) (r0.tr hF)).keep (fun a h1 h2 => e3 a (by omega)) hT3
end HIST

