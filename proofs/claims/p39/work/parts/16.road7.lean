/-! rolling on, joining -/
section ROAD7
def leadUp (f : Fl) (c : Nat) : Fl := upd f (oC c 2) (f (oC c 2) + nI 1)
/-- the mile of the truck at place k of convoy c by its lead -/
def mlF (h : Fl) (c k : Nat) : Int32 := mw (h (oC c 2)) (h (oC c 0)) k
def stepA (h : Fl) (c k : Nat) : Fl := if isM (mlF h c k) then carF h (mlF h c k).toNatClampNeg (stn (tkF h c k)) else h
def stepF (h : Fl) (c k : Nat) : Fl := if mlF h c k = nI 12 then upd (stepA h c k) 4 (stepA h c k 4 + h (oC c (5 + 3 * k))) else stepA h c k
def advN (f : Fl) (c : Nat) : Nat → Fl
  | 0 => leadUp f c
  | k + 1 => stepF (advN f c k) c k
def advF (f : Fl) (c : Nat) : Fl := advN f c (ncv f c)
theorem stepA_out {h : Fl} {c k i : Nat} (hi : ¬ (8 ≤ i ∧ i < 80)) : stepA h c k i = h i := by
  unfold stepA
  by_cases q : isM (mlF h c k)
  · rw [if_pos q]
    obtain ⟨j, hj, ej⟩ := in_nI q.1 q.2 (by decide)
    rw [ej, nI_clamp (by omega)]
    exact carF_out (by omega)
  · rw [if_neg q]
theorem stepF_out {h : Fl} {c k i : Nat} (h4 : i ≠ 4) (hi : ¬ (8 ≤ i ∧ i < 80)) : stepF h c k i = h i := by
  unfold stepF
  split
  · rw [pk_un h4]
    exact stepA_out hi
  · exact stepA_out hi
theorem advN_out {f : Fl} {c i : Nat} (h4 : i ≠ 4) (hi : ¬ (8 ≤ i ∧ i < 80)) : ∀ {k : Nat}, advN f c k i = leadUp f c i
  | 0 => rfl
  | k + 1 => by
    rw [advN, stepF_out h4 hi]
    exact advN_out h4 hi
theorem leadUp_out {f : Fl} {c i : Nat} (hi : i ≠ oC c 2) : leadUp f c i = f i := pk_un hi
theorem advN_c {f : Fl} {c d i k : Nat} (h : d ≠ c ∨ i ≠ 2) (hi : i < 16) : advN f c k (oC d i) = f (oC d i) := by
  rw [advN_out (by unfold oC; omega) (by unfold oC; omega)]
  exact leadUp_out (by unfold oC; omega)
theorem advN_ld {f : Fl} {c k : Nat} : advN f c k (oC c 2) = f (oC c 2) + nI 1 := by
  rw [advN_out (by unfold oC; omega) (by unfold oC; omega)]
  exact pk_us
theorem advN_cnt {f : Fl} {c k : Nat} : cnt (advN f c k) = cnt f := by
  unfold cnt
  rw [advN_out (by decide) (by decide), leadUp_out (by unfold oC; omega)]
theorem advN_ncv {f : Fl} {c d k : Nat} : ncv (advN f c k) d = ncv f d := by
  unfold ncv
  rw [advN_c (Or.inr (by decide)) (by decide)]
theorem advN_tk {f : Fl} {c d i k : Nat} (hi : i < 4) : tkF (advN f c k) d i = tkF f d i := by
  unfold tkF
  rw [advN_c (Or.inr (by omega)) (by omega), advN_c (Or.inr (by omega)) (by omega), advN_c (Or.inr (by omega)) (by omega)]
variable {E : gE} {M : gM} {P : gP} {sh : Sh} {sz : Nat} {V : Vl} {cu su pc : Nat} {L : List (Option Value)} {rest : List Value} {r : Nat} {f : Fl}
theorem RoadAt.cv4 {c : Nat} (h : RoadAt sh V r f) (h4 : cnt f ≤ 4) (hc : c < cnt f) : CvAt sh V (r + 17 + 2 * c) (f (oC c 0)) (f (oC c 2)) (ncv f c) (tkF f c) := by
  obtain ⟨-, g, h1, h2⟩ := h.2.2.2.2.2 c (by omega)
  unfold ldF nF at h1
  rw [if_pos hc, if_pos hc, h2 hc] at h1
  exact h1
theorem c_advance {c : Nat} (h : RoadAt sh V r f) (h4 : cnt f ≤ 4) (hc : c < cnt f) (hl : 0 ≤ f (oC c 2) + nI 1) (hP : ∀ V', Fr V V' r → RoadAt sh V' r (advF f c) → P (.inl none) sh sz V') : MC E YX4_advance [.ref r, .ref (r + 17 + 2 * c)] sh sz V P := by
  have hv := h.cv4 h4 hc
  obtain ⟨c0, ca, c1, c2, c3, c4, c5, c6, c7⟩ := id hv
  refine MC.of RX4 "advance" rfl (by decide +kernel) rfl 3 [_, _, none, none, none] rfl (Nat.le_of_ble_eq_true rfl) ?_
  show G E MX4_advance _ _ _ _ _ _ _ _ _
  refine g_aload_n dX4_advance_0 rfl ?_
  refine g_dup dX4_advance_1 rfl ?_
  refine g_get 2 rfl (by decide) inX0 1 (by decide) fl_X4_117 dX4_advance_2 c0 c2 ?_
  refine g_iconst (v := nI 1) dX4_advance_5 (by decide) ?_
  refine g_iadd dX4_advance_6 ?_
  refine g_put 2 rfl (by decide) inX0 tyX0 tyX0_ok nmX0 1 (by decide) fl_X4_117 rfl dX4_advance_7 c0 rfl rfl ?_
  refine g_iconst (v := nI 0) dX4_advance_10 (by decide) ?_
  refine g_istore_n dX4_advance_11 (by decide) rfl ?_
  show G _ _ _ _ _ _ _ _ _ [_, _, _, _, _] _
  have hR : RoadAt sh (hu V (r + 17 + 2 * c) 1 (.int (f (oC c 2) + nI 1))) r (leadUp f c) := by
    have hT : Tr sh V (hu V (r + 17 + 2 * c) 1 (.int (f (oC c 2) + nI 1))) := h.tr (Fr.rf.put (by omega) (by omega))
    have e1 : leadUp f c 1 = f 1 := leadUp_out (by unfold oC; omega)
    have ec : cnt (leadUp f c) = cnt f := by unfold cnt; rw [e1]
    have en : ncv (leadUp f c) c = ncv f c := by unfold ncv; rw [leadUp_out (by unfold oC; omega)]
    refine RoadAt.conv (c := c) h (by omega) (fun a ha _ => hu_ne _ _ _ ha) ⟨f (oC c 0), ?_, fun _ => (leadUp_out (by unfold oC; omega)).symm⟩ e1 (fun k hk => leadUp_out (by unfold oC; omega))
    have e2 : ldF (leadUp f c) c = f (oC c 2) + nI 1 := by
      unfold ldF
      rw [ec, if_pos hc]
      exact pk_us
    have e3 : nF (leadUp f c) c = ncv f c := by
      unfold nF
      rw [ec, if_pos hc, en]
    rw [e2, e3]
    refine ⟨c0, ca, (hu_at_ne _ _ _ (by decide)).trans c1, hu_at _ _ _ _, (hu_at_ne _ _ _ (by decide)).trans c3, (hu_at_ne _ _ _ (by decide)).trans c4, c5, fun k hk => ?_, fun k hk hk2 => by rw [hu_ne _ _ _ (by omega)]; exact c7 k hk hk2⟩
    obtain ⟨q, q1, q2⟩ := c6 k hk
    refine ⟨q, by rw [hu_ne _ _ _ (by omega)]; exact q1, ?_⟩
    have e4 : tkF (leadUp f c) c k = tkF f c k := by
      unfold tkF
      rw [leadUp_out (by unfold oC; omega), leadUp_out (by unfold oC; omega), leadUp_out (by unfold oC; omega)]
    rw [e4]
    exact q2.keep hT
  have hF : Fr V (hu V (r + 17 + 2 * c) 1 (.int (f (oC c 2) + nI 1))) r := Fr.rf.put (by omega) (by omega)
  generalize hu V (r + 17 + 2 * c) 1 (.int (f (oC c 2) + nI 1)) = V1 at hR hF ⊢
  suffices K : ∀ (d i : Nat), i + d = 4 → ∀ V1, Fr V V1 r → RoadAt sh V1 r (advN f c (min i (ncv f c))) → ∀ z3 z4, G E MX4_advance P sh sz V1 0 0 12 [some (.ref r), some (.ref (r + 17 + 2 * c)), some (.int (nI i)), z3, z4] [] from K 4 0 rfl V1 hF (by rw [Nat.zero_min]; exact hR) _ _
  clear hF hR V1
  intro d
  induction d with
  | zero =>
    intro i hi V1 hF hR z3 z4
    have e4 : i = 4 := by omega
    subst e4
    rw [Nat.min_eq_right c5] at hR
    refine g_iload_n dX4_advance_12 rfl ?_
    refine g_iconst (v := nI 4) dX4_advance_13 (by decide) ?_
    refine g_icmp_ge (tgt := 84) dX4_advance_14 (by decide) (fun _ => ?_) (fun hq => absurd (Int32.le_refl _) hq)
    exact g_vret rfl dX4_advance_84 (by decide) (hP _ hF hR)
  | succ d ih =>
    intro i hi V1 hF hR z3 z4
    have hvI := hR.cv4 (c := c) (by rw [advN_cnt]; exact h4) (by rw [advN_cnt]; exact hc)
    rw [advN_ncv, advN_ld, advN_c (Or.inr (by decide)) (by decide)] at hvI
    obtain ⟨v0, va, v1, v2, v3, v4, v5, v6, v7⟩ := id hvI
    refine g_iload_n dX4_advance_12 rfl ?_
    refine g_iconst (v := nI 4) dX4_advance_13 (by decide) ?_
    refine g_icmp_ge (tgt := 84) dX4_advance_14 (by decide) (fun hq => absurd hq (nI_ge (by omega) (by decide))) (fun _ => ?_)
    refine g_aload_n dX4_advance_17 rfl ?_
    refine g_get 2 rfl (by decide) inX0 3 (by decide) fl_X4_62 dX4_advance_18 v0 v4 ?_
    refine g_iload_n dX4_advance_21 rfl ?_
    rcases Nat.lt_or_ge i (ncv f c) with q | q
    · obtain ⟨t, e1, e2⟩ := v6 i q
      rw [Nat.min_eq_left (Nat.le_of_lt q)] at hR e2
      have em : mt (f (oC c 2) + nI 1) (f (oC c 0)) i = mlF (advN f c i) c i := by
        unfold mt mlF
        rw [if_pos hl, advN_ld, advN_c (Or.inr (by decide)) (by decide)]
      have hend : ∀ V2, Fr V V2 r → RoadAt sh V2 r (stepA (advN f c i) c i) → G E MX4_advance P sh sz V2 0 0 54 [some (.ref r), some (.ref (r + 17 + 2 * c)), some (.int (nI i)), some (.ref t), some (.int (mlF (advN f c i) c i))] [] := by
        intro V2 hF2 hR2
        have hnext : ∀ V3, Fr V V3 r → RoadAt sh V3 r (stepF (advN f c i) c i) → G E MX4_advance P sh sz V3 0 0 78 [some (.ref r), some (.ref (r + 17 + 2 * c)), some (.int (nI i)), some (.ref t), some (.int (mlF (advN f c i) c i))] [] := by
          intro V3 hF3 hR3
          refine g_iinc dX4_advance_78 rfl (by first | exact nI_inc _ | rfl) (by decide) rfl ?_
          show G _ _ _ _ _ _ _ _ _ [_, _, _, _, _] _
          refine g_jump (tgt := 12) dX4_advance_81 (by decide) ?_
          exact ih (i + 1) (by omega) V3 hF3 (by rw [Nat.min_eq_left q]; exact hR3) _ _
        refine g_aload_n dX4_advance_54 rfl ?_
        refine g_ifnull dX4_advance_55 ?_
        have e3 : TrAt sh V2 t (tkF (advN f c i) c i) := by
          have hT1 : Tr sh V V1 := h.tr hF
          have hT2 : Tr sh V V2 := h.tr hF2
          have := hT1 t e2.1
          have := hT2 t e2.1
          have q3 := e2
          unfold TrAt at q3 ⊢
          rw [hT2 t e2.1, ← hT1 t e2.1]
          exact q3
        refine g_iload dX4_advance_58 rfl ?_
        refine g_bipush (v := nI 12) dX4_advance_60 (by decide) ?_
        refine g_icmp_ne (tgt := 78) dX4_advance_62 (by decide) (fun b1 => ?_) (fun b1 => ?_)
        · refine hnext V2 hF2 ?_
          unfold stepF
          rw [if_neg b1]
          exact hR2
        · refine g_aload_n dX4_advance_65 rfl ?_
          refine g_dup dX4_advance_66 rfl ?_
          refine g_get 6 rfl (by decide) inX4 8 (by decide) fl_X4_46 dX4_advance_67 hR2.1.1 hR2.2.1.2.2.2.2.2.2.2.2 ?_
          refine g_aload_n dX4_advance_70 rfl ?_
          refine g_get 7 rfl (by decide) inX5 1 (by decide) fl_X4_145 dX4_advance_71 e3.1 e3.2.2.1 ?_
          refine g_iadd dX4_advance_74 ?_
          refine g_put 6 rfl (by decide) inX4 tyX4 tyX4_ok nmX4 8 (by decide) fl_X4_46 rfl dX4_advance_75 hR2.1.1 rfl rfl ?_
          refine hnext _ (hF2.put (by omega) (by omega)) ?_
          unfold stepF
          rw [if_pos b1]
          exact RoadAt.fld (Or.inr (Or.inr (Or.inr ⟨rfl, rfl⟩))) hR2
      refine g_aaload _ dX4_advance_22 va (by decide) (by decide) (vp_in_nI (by omega) (by decide)) (at_nI (by omega) e1) ?_
      refine g_astore_n dX4_advance_23 (by decide) rfl ?_
      show G _ _ _ _ _ _ _ _ _ [_, _, _, _, _] _
      refine g_aload_n dX4_advance_24 rfl ?_
      refine g_iload_n dX4_advance_25 rfl ?_
      refine g_callVp (Y := YX0_mileOfTruck) sv_X4_138 rfl yn_X0_mileOfTruck 2 (by decide) rfl rfl dX4_advance_26 (c_mileOfTruck v0 v1 v2 pR_ok) v0 rfl rfl rfl (Nat.le_of_ble_eq_true rfl) ⟨rfl, rfl⟩ ?_
      rw [em]
      refine g_istore dX4_advance_29 (by decide) rfl ?_
      show G _ _ _ _ _ _ _ _ _ [_, _, _, _, _] _
      refine g_aload_n dX4_advance_31 rfl ?_
      refine g_ifnull dX4_advance_32 ?_
      refine g_iload dX4_advance_35 rfl ?_
      refine g_callSNp (Y := YX6_isMile) wc_X6_isMile mn_X4_123 wt_X6_isMile ini_X6 yn_X6_isMile dX4_advance_37 (c_isMile pR_ok) rfl rfl rfl (Nat.le_of_ble_eq_true rfl) ⟨rfl, rfl⟩ ?_
      refine g_if_eq (tgt := 54) dX4_advance_40 (by decide) (fun b1 => ?_) (fun b1 => ?_)
      · refine hend V1 hF ?_
        unfold stepA
        rw [if_neg (bi_eq b1)]
        exact hR
      · have b2 := bi_ne b1
        obtain ⟨j, hj, ej⟩ := in_nI b2.1 b2.2 (by decide)
        refine g_aload_n dX4_advance_43 rfl ?_
        refine g_get 6 rfl (by decide) inX4 2 (by decide) fl_X4_21 dX4_advance_44 hR.1.1 hR.2.1.2.2.1 ?_
        refine g_iload dX4_advance_47 rfl ?_
        refine g_aaload _ dX4_advance_49 hR.1.2.2.1 (by decide) (by decide) (in_eq ej (vp_in_nI hj (by decide))) (at_eq ej (hR.mir hj)) ?_
        refine g_aload_n dX4_advance_50 rfl ?_
        refine g_callVv (Y := YX2_carry) (Q := (fun V2 => (∀ a, a ≠ r + 5 + j → V2 a = V1 a) ∧ RoadAt sh V2 r (carF (advN f c i) j (stn (tkF (advN f c i) c i))))) sv_X4_141 rfl yn_X2_carry 4 (by decide) rfl rfl dX4_advance_51 (c_carry hR hj e2 (fun V2 q1 q2 => ⟨rfl, rfl, rfl, q1, q2⟩)) (hR.mi hj).1 rfl rfl rfl (Nat.le_of_ble_eq_true rfl) ⟨rfl, rfl⟩ (fun V2 q => ?_)
        refine hend V2 (hF.trans (fun a ha => q.1 a (by omega))) ?_
        unfold stepA
        rw [if_pos b2, ej, nI_clamp (by omega)]
        exact q.2
    · refine g_aaload _ dX4_advance_22 va (by decide) (by decide) (vp_in_nI (by omega) (by decide)) (at_nI (by omega) (v7 i q (by omega))) ?_
      refine g_astore_nN dX4_advance_23 (by decide) rfl ?_
      show G _ _ _ _ _ _ _ _ _ [_, _, _, _, _] _
      refine g_aload_n dX4_advance_24 rfl ?_
      refine g_iload_n dX4_advance_25 rfl ?_
      refine g_callVp (Y := YX0_mileOfTruck) sv_X4_138 rfl yn_X0_mileOfTruck 2 (by decide) rfl rfl dX4_advance_26 (c_mileOfTruck v0 v1 v2 pR_ok) v0 rfl rfl rfl (Nat.le_of_ble_eq_true rfl) ⟨rfl, rfl⟩ ?_
      refine g_istore dX4_advance_29 (by decide) rfl ?_
      show G _ _ _ _ _ _ _ _ _ [_, _, _, _, _] _
      refine g_aload_nN dX4_advance_31 rfl ?_
      refine g_ifnullN (tgt := 54) dX4_advance_32 (by decide) ?_
      refine g_aload_nN dX4_advance_54 rfl ?_
      refine g_ifnullN (tgt := 78) dX4_advance_55 (by decide) ?_
      refine g_iinc dX4_advance_78 rfl (by first | exact nI_inc _ | rfl) (by decide) rfl ?_
      show G _ _ _ _ _ _ _ _ _ [_, _, _, _, _] _
      refine g_jump (tgt := 12) dX4_advance_81 (by decide) ?_
      exact ih (i + 1) (by omega) V1 hF (by rw [Nat.min_eq_right (by omega)]; rw [Nat.min_eq_right q] at hR; exact hR) _ _
/-- a place of a row written -/
theorem RoadAt.row {V V' : Vl} {f f' : Fl} {k : Nat} (h : RoadAt sh V r f) (hk : k < 10) (hV : ∀ a, a ≠ r + 3 → V' a = V a) (hV2 : ∀ j, j ≠ k → V' (r + 3) j = V (r + 3) j) (hE : (f' (oR k) = 0 → V' (r + 3) k = .null) ∧ (¬ f' (oR k) = 0 → ∃ q, V' (r + 3) k = .ref q ∧ TrAt sh V' q (nI (k / 5), f' (oR k), f' (oR k + 1)))) (hf : ∀ i, i ≠ oR k → i ≠ oR k + 1 → f' i = f i) : RoadAt sh V' r f' := by
  have hT : Tr sh V V' := h.tr (fun a ha => hV a (by omega))
  have hlo : ∀ i, i < 80 → f' i = f i := fun i hi => hf i (by unfold oR; omega) (by unfold oR; omega)
  refine ⟨h.1, rB.keep h.2.1 (hV _ (by omega)) (fun k hk => hlo k (by omega)), rC.keep h.2.2.1 (hV _ (by omega)) (fun k hk => hlo _ (by omega)), rD.keep h.2.2.2.1 (hV _ (by omega)) (fun j hj => hV _ (by omega)) (fun k _ hk => hlo k hk), fun j hj => ?_, rF.keep h.2.2.2.2.2 hT (hV _ (by omega)) (fun i hi => hV _ (by omega)) (hlo 1 (by decide)) (fun c i hc hi _ => hf _ (by unfold oC oR; omega) (by unfold oC oR; omega))⟩
  by_cases z : j = k
  · subst z
    exact hE
  · rw [hV2 j z, hf (oR j) (by unfold oR; omega) (by unfold oR; omega), hf (oR j + 1) (by unfold oR; omega) (by unfold oR; omega)]
    obtain ⟨h1, h2⟩ := h.2.2.2.2.1 j hj
    exact ⟨h1, fun q => by
      obtain ⟨t, q1, q2⟩ := h2 q
      exact ⟨t, q1, q2.keep hT⟩⟩
/-- the truck of place k joins convoy c; its place in the row is free then -/
def jn1 (f : Fl) (c k : Nat) : Fl := upd (upd (upd (upd f (oC c (4 + 3 * ncv f c)) (nI (k / 5))) (oC c (5 + 3 * ncv f c)) (f (oR k))) (oC c (6 + 3 * ncv f c)) (f (oR k + 1))) (oC c 1) (f (oC c 1) + nI 1)
def jnF (f : Fl) (c k : Nat) : Fl := upd (upd (jn1 f c k) (oR k) (nI 0)) (oR k + 1) (nI 0)
theorem jn1_out {f : Fl} {c k i : Nat} (hn : ncv f c < 4) (hi : ¬ (100 + 16 * c ≤ i ∧ i < 116 + 16 * c)) : jn1 f c k i = f i := by
  have h1 : i ≠ oC c (4 + 3 * ncv f c) := by unfold oC; omega
  have h2 : i ≠ oC c (5 + 3 * ncv f c) := by unfold oC; omega
  have h3 : i ≠ oC c (6 + 3 * ncv f c) := by unfold oC; omega
  have h4 : i ≠ oC c 1 := by unfold oC; omega
  simp only [jn1, upd, h1, h2, h3, h4, if_false]
theorem c_letJoin {c k : Nat} (h : RoadAt sh V r f) (hI : InvB f) (hc : c < cnt f) (hn : ncv f c < 4) (hk : k < 10) (hk0 : ¬ f (oR k) = 0) (hP : ∀ V', Fr V V' r → RoadAt sh V' r (jnF f c k) → P (.inl none) sh sz V') : MC E YX4_letJoin [.ref r, .ref (r + 17 + 2 * c), .int (nI k)] sh sz V P := by
  have hI1 := hI.1.2
  have hv := h.cv hI hc
  obtain ⟨c0, ca, c1, c2, c3, c4, c5, c6, c7⟩ := id hv
  obtain ⟨t, e1, e2⟩ := (h.2.2.2.2.1 k hk).2 hk0
  have h13 := (hI.2.2.2.2.2 c hc).2.1
  refine MC.of RX4 "letJoin" rfl (by decide +kernel) rfl 0 [_, _, _] rfl (Nat.le_of_ble_eq_true rfl) ?_
  show G E MX4_letJoin _ _ _ _ _ _ _ _ _
  refine g_aload_n dX4_letJoin_0 rfl ?_
  refine g_get 2 rfl (by decide) inX0 3 (by decide) fl_X4_62 dX4_letJoin_1 c0 c4 ?_
  refine g_aload_n dX4_letJoin_4 rfl ?_
  refine g_get 2 rfl (by decide) inX0 2 (by decide) fl_X4_108 dX4_letJoin_5 c0 c3 ?_
  refine g_aload_n dX4_letJoin_8 rfl ?_
  refine g_get 6 rfl (by decide) inX4 3 (by decide) fl_X4_27 dX4_letJoin_9 h.1.1 h.2.1.2.2.2.1 ?_
  refine g_iload_n dX4_letJoin_12 rfl ?_
  refine g_aaload _ dX4_letJoin_13 h.1.2.2.2.1 (by decide) (by decide) (vp_in_nI (by omega) (by decide)) (at_nI (by omega) e1) ?_
  refine g_aastore 24 7 rfl (by decide) rfl (by decide) (by decide) dX4_letJoin_14 ca e2.1 (vp_in_nI (by omega) (by decide)) ?_
  rw [nI_clamp (by omega)]
  refine g_aload_n dX4_letJoin_15 rfl ?_
  refine g_dup dX4_letJoin_16 rfl ?_
  refine g_get 2 rfl (by decide) inX0 2 (by decide) fl_X4_108 dX4_letJoin_17 c0 ((congrFun (hu_ne _ _ _ (by omega)) _).trans c3) ?_
  refine g_iconst (v := nI 1) dX4_letJoin_20 (by decide) ?_
  refine g_iadd dX4_letJoin_21 ?_
  refine g_put 2 rfl (by decide) inX0 tyX0 tyX0_ok nmX0 2 (by decide) fl_X4_108 rfl dX4_letJoin_22 c0 rfl rfl ?_
  refine g_aload_n dX4_letJoin_25 rfl ?_
  refine g_get 6 rfl (by decide) inX4 3 (by decide) fl_X4_27 dX4_letJoin_26 h.1.1 ((congrFun ((hu_ne _ _ _ (by omega)).trans (hu_ne _ _ _ (by omega))) _).trans h.2.1.2.2.2.1) ?_
  refine g_iload_n dX4_letJoin_29 rfl ?_
  refine g_null dX4_letJoin_30 ?_
  refine g_aastoreN 24 rfl (by decide) (by decide) dX4_letJoin_31 h.1.2.2.2.1 (vp_in_nI (by omega) (by decide)) ?_
  rw [nI_clamp (by omega)]
  have hF : Fr V (hu (hu V (r + 17 + 2 * c + 1) (ncv f c) (.ref t)) (r + 17 + 2 * c) 2 (.int (nI (ncv f c) + nI 1))) r := (Fr.rf.put (by omega) (by omega)).put (by omega) (by omega)
  have hR : RoadAt sh (hu (hu V (r + 17 + 2 * c + 1) (ncv f c) (.ref t)) (r + 17 + 2 * c) 2 (.int (nI (ncv f c) + nI 1))) r (jn1 f c k) := by
    have hT := h.tr hF
    have e1' : jn1 f c k 1 = f 1 := jn1_out hn (by omega)
    have ec : cnt (jn1 f c k) = cnt f := by unfold cnt; rw [e1']
    have en : ncv (jn1 f c k) c = ncv f c + 1 := by
      unfold ncv
      have : jn1 f c k (oC c 1) = nI (ncv f c + 1) := by
        unfold jn1
        rw [pk_us, h13, nI_add]
      rw [this, nI_clamp (by omega)]
      rfl
    have w0 : jn1 f c k (oC c 0) = f (oC c 0) := by
      have h1 : oC c 0 ≠ oC c (4 + 3 * ncv f c) := by unfold oC; omega
      have h2 : oC c 0 ≠ oC c (5 + 3 * ncv f c) := by unfold oC; omega
      have h3 : oC c 0 ≠ oC c (6 + 3 * ncv f c) := by unfold oC; omega
      have h4 : oC c 0 ≠ oC c 1 := by unfold oC; omega
      simp only [jn1, upd, h1, h2, h3, h4, if_false]
    have w2 : jn1 f c k (oC c 2) = f (oC c 2) := by
      have h1 : oC c 2 ≠ oC c (4 + 3 * ncv f c) := by unfold oC; omega
      have h2 : oC c 2 ≠ oC c (5 + 3 * ncv f c) := by unfold oC; omega
      have h3 : oC c 2 ≠ oC c (6 + 3 * ncv f c) := by unfold oC; omega
      have h4 : oC c 2 ≠ oC c 1 := by unfold oC; omega
      simp only [jn1, upd, h1, h2, h3, h4, if_false]
    have wt : ∀ j, j < ncv f c → tkF (jn1 f c k) c j = tkF f c j := fun j hj => by
      have g : ∀ i, (4 ≤ i ∧ i < 4 + 3 * ncv f c) → jn1 f c k (oC c i) = f (oC c i) := fun i hi => by
        have h1 : oC c i ≠ oC c (4 + 3 * ncv f c) := by unfold oC; omega
        have h2 : oC c i ≠ oC c (5 + 3 * ncv f c) := by unfold oC; omega
        have h3 : oC c i ≠ oC c (6 + 3 * ncv f c) := by unfold oC; omega
        have h4 : oC c i ≠ oC c 1 := by unfold oC; omega
        simp only [jn1, upd, h1, h2, h3, h4, if_false]
      unfold tkF
      rw [g (4 + 3 * j) (by omega), g (5 + 3 * j) (by omega), g (6 + 3 * j) (by omega)]
    have wn : tkF (jn1 f c k) c (ncv f c) = (nI (k / 5), f (oR k), f (oR k + 1)) := by
      have h45 : oC c (4 + 3 * ncv f c) ≠ oC c (5 + 3 * ncv f c) := by unfold oC; omega
      have h46 : oC c (4 + 3 * ncv f c) ≠ oC c (6 + 3 * ncv f c) := by unfold oC; omega
      have h41 : oC c (4 + 3 * ncv f c) ≠ oC c 1 := by unfold oC; omega
      have h56 : oC c (5 + 3 * ncv f c) ≠ oC c (6 + 3 * ncv f c) := by unfold oC; omega
      have h51 : oC c (5 + 3 * ncv f c) ≠ oC c 1 := by unfold oC; omega
      have h61 : oC c (6 + 3 * ncv f c) ≠ oC c 1 := by unfold oC; omega
      unfold tkF
      simp only [jn1, upd, h45, h46, h41, h56, h51, h61, if_false, if_true]
    refine RoadAt.conv (c := c) h (by omega) (fun a ha ha2 => (hu_ne _ _ _ ha).trans (hu_ne _ _ _ ha2)) ⟨f (oC c 0), ?_, fun _ => w0.symm⟩ e1' (fun i hi => jn1_out hn hi)
    have e2' : ldF (jn1 f c k) c = f (oC c 2) := by
      unfold ldF
      rw [ec, if_pos hc, w2]
    have e3' : nF (jn1 f c k) c = ncv f c + 1 := by
      unfold nF
      rw [ec, if_pos hc, en]
    rw [e2', e3']
    refine ⟨c0, ca, (hu_at_ne _ _ _ (by decide)).trans ((congrFun (hu_ne _ _ _ (by omega)) _).trans c1), (hu_at_ne _ _ _ (by decide)).trans ((congrFun (hu_ne _ _ _ (by omega)) _).trans c2), by rw [hu_at, nI_add], (hu_at_ne _ _ _ (by decide)).trans ((congrFun (hu_ne _ _ _ (by omega)) _).trans c4), by omega, fun j hj => ?_, fun j hj hj2 => by rw [hu_ne _ _ _ (by omega), hu_at_ne _ _ _ (by omega)]; exact c7 j (by omega) hj2⟩
    rw [hu_ne _ _ _ (by omega)]
    by_cases z : j = ncv f c
    · subst z
      exact ⟨t, hu_at _ _ _ _, by rw [wn]; exact e2.keep hT⟩
    · obtain ⟨q, q1, q2⟩ := c6 j (by omega)
      exact ⟨q, by rw [hu_at_ne _ _ _ z]; exact q1, by rw [wt j (by omega)]; exact q2.keep hT⟩
  generalize hu (hu V (r + 17 + 2 * c + 1) (ncv f c) (.ref t)) (r + 17 + 2 * c) 2 (.int (nI (ncv f c) + nI 1)) = V1 at hF hR ⊢
  have hend : RoadAt sh (hu V1 (r + 3) k .null) r (jnF f c k) := by
    have ej : jnF f c k (oR k) = nI 0 := by
      unfold jnF
      rw [pk_un (by omega), pk_us]
    refine RoadAt.row hR hk (fun a ha => hu_ne _ _ _ ha) (fun j hj => hu_at_ne _ _ _ hj) ⟨fun _ => hu_at _ _ _ _, fun q => absurd ej q⟩ (fun i h1 h2 => ?_)
    unfold jnF
    rw [pk_un h2, pk_un h1]
  exact g_vret rfl dX4_letJoin_32 (by decide) (hP _ (hF.put (by omega) (by omega)) hend)
end ROAD7

