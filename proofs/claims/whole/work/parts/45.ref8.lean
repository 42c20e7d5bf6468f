/-! the reference: what a change does: which exception, answer, row, reason -/
section REF8
abbrev Dq : Type := Nat × Int32 × Fl × Option (Int32 × Int32)
def dqS (S : St) (o : Option (Int32 × Int32)) : St := match o with
  | none => S
  | some z => refu S z
def dqR (r : Int32) (o : Option (Int32 × Int32)) : Int32 := match o with
  | none => r
  | some _ => nI 1
def DP (sh : Sh) (m sz : Nat) (V : Vl) (r : Int32) (S : St) (q : Dq) (P : gP) : Prop := ∀ V', (∀ a, a ≠ m → a ≠ m + 1 → V' a = V a) → (∀ j, j ≠ 7 → j ≠ 8 → j ≠ 9 → j ≠ 10 → V' m j = V m j) → MB sh V' m q.2.2.1 (nI q.1) (dqR r q.2.2.2) (dqS S q.2.2.2) → P (.inl (some (.int q.2.1))) sh sz V'
variable {E : gE} {M : gM} {P : gP} {sh : Sh} {sz : Nat} {V V' : Vl} {cu su pc : Nat} {L : List (Option Value)} {rest : List Value} {m : Nat} {f g b : Fl} {th r : Int32} {S : St}
theorem DP.fail {k : Nat} (hP : DP sh m sz V r S (k, nI 0, f, none) P) (h : MB sh V m f th r S) : P (.inl (some (.int (nI 0)))) sh sz (hu V m 7 (.int (nI k))) := hP _ (fun a h1 _ => hu_ne _ _ _ h1) (fun j h1 _ _ _ => hu_at_ne _ _ _ h1) h.thr
theorem DP.row {v : Int32} (hP : DP sh m sz V r S (0, v, g, none) P) (h : MB sh V m f 0 r S) (hw : Mw V V' m) (hS : SA sh V' m g) : P (.inl (some (.int v))) sh sz V' := hP _ (fun a _ h2 => hw a h2) (fun j _ _ _ _ => congrFun (hw m (by omega)) j) (h.row hw hS)
theorem DP.ref {k : Nat} {z : Int32 × Int32} (hP : DP sh m sz V r S (k, nI 0, f, some z) P) : ∀ V', (∀ a, a ≠ m → V' a = V a) → (∀ j, j ≠ 7 → j ≠ 8 → j ≠ 9 → j ≠ 10 → V' m j = V m j) → MB sh V' m f (nI k) (nI 1) (refu S z) → P (.inl (some (.int (nI 0)))) sh sz V' := fun V' h1 h2 h3 => hP V' (fun a q _ => h1 a q) h2 h3
def do_set (f : Fl) (w v : Int32) : Dq := if isSV w v then (0, f (5 + w.toNatClampNeg), upd f (5 + w.toNatClampNeg) v, none) else (1, nI 0, f, none)
theorem k_doSet {w v : Int32} (h : MB sh V m f 0 r S) (hP : DP sh m sz V r S (do_set f w v) P) : MC E YX7_doSet [.ref m, .int w, .int v] sh sz V P := by
  have h0 := h.1.1
  have hS := h.1
  unfold do_set at hP
  refine MC.of RX7 "doSet" rfl (by decide +kernel) rfl 3 [_, _, _, none, none, none] rfl (Nat.le_of_ble_eq_true rfl) ?_
  show G E MX7_doSet _ _ _ _ _ _ _ _ _
  have hin : bi (nI 0 ≤ w ∧ w ≤ nI 2) = bi (isS w) := bi_iff ⟨fun q => ⟨q.1, (le_lt (by decide)).mp q.2⟩, fun q => ⟨q.1, (le_lt (by decide)).mpr q.2⟩⟩
  have K : ∀ lo hi, (isS w → lo = loS.getD w.toNatClampNeg 0 ∧ hi = hiS.getD w.toNatClampNeg 0) → G E MX7_doSet P sh sz V 0 0 43 [some (.ref m), some (.int w), some (.int v), some (.int lo), some (.int hi), none] [] := by
    intro lo hi hlh
    have bad : ¬ isSV w v → G E MX7_doSet P sh sz V 0 0 62 [some (.ref m), some (.int w), some (.int v), some (.int lo), some (.int hi), none] [] := by
      intro q
      rw [if_neg q] at hP
      refine g_aload_n dX7_doSet_62 rfl ?_
      refine g_iconst (v := nI 1) dX7_doSet_63 (by decide) ?_
      refine g_callVw (Y := YX7_fails) sv_X7_88 rfl yn_X7_fails 9 (by decide) rfl rfl dX7_doSet_64 (k_fails (P := pW (fun v V' => v = .int (nI 0) ∧ V' = hu V m 7 (.int (nI 1))) sh sz) h0 ⟨_, rfl, rfl, rfl, rfl, rfl⟩) h0 rfl rfl rfl (Nat.le_of_ble_eq_true rfl) ⟨rfl, rfl⟩ (fun v V' q => ?_)
      obtain ⟨rfl, rfl⟩ := q
      exact g_iret rfl (nr_int _) dX7_doSet_67 (by decide) (hP.fail h)
    refine g_iload_n dX7_doSet_43 rfl ?_
    refine g_iconst (v := nI 0) dX7_doSet_44 (by decide) ?_
    refine g_iconst (v := nI 2) dX7_doSet_45 (by decide) ?_
    refine g_callSp (Y := YX7_in) ss_X7_84 yn_X7_in dX7_doSet_46 (k_in pR_ok) rfl rfl rfl (Nat.le_of_ble_eq_true rfl) ⟨rfl, rfl⟩ ?_
    rw [hin]
    refine g_if_eq (tgt := 62) dX7_doSet_49 (by decide) (fun b1 => ?_) (fun b1 => ?_)
    · exact bad (fun q => bi_eq b1 q.1)
    have b1 := bi_ne b1
    obtain ⟨e1, e2⟩ := hlh b1
    refine g_iload_n dX7_doSet_52 rfl ?_
    refine g_iload_n dX7_doSet_53 rfl ?_
    refine g_iload dX7_doSet_54 rfl ?_
    refine g_callSp (Y := YX7_in) ss_X7_84 yn_X7_in dX7_doSet_56 (k_in pR_ok) rfl rfl rfl (Nat.le_of_ble_eq_true rfl) ⟨rfl, rfl⟩ ?_
    refine g_if_ne (tgt := 68) dX7_doSet_59 (by decide) (fun b2 => ?_) (fun b2 => ?_)
    rotate_left
    · exact bad (fun q => bi_eq b2 (by rw [e1, e2]; exact q.2))
    have b2 := bi_ne b2
    rw [if_pos (show isSV w v from ⟨b1, by rw [← e1]; exact b2.1, by rw [← e2]; exact b2.2⟩)] at hP
    obtain ⟨k, hk, rfl⟩ := in_nI b1.1 b1.2 (by decide)
    rw [nI_clamp (by omega)] at hP
    refine g_aload_n dX7_doSet_68 rfl ?_
    refine g_get 9 rfl (by decide) inX7 0 (by decide) fl_X7_9 dX7_doSet_69 h0 hS.2.2.1 ?_
    refine g_iconst (v := nI 5) dX7_doSet_72 (by decide) ?_
    refine g_iload_n dX7_doSet_73 rfl ?_
    refine g_iadd dX7_doSet_74 ?_
    rw [nI_add]
    refine g_iaload dX7_doSet_75 hS.2.1 (vp_in_nI (by omega) (by decide)) (hS.rd (k := 5 + k) (by omega)) ?_
    refine g_istore dX7_doSet_76 (by decide) rfl ?_
    show G _ _ _ _ _ _ _ _ _ [_, _, _, _, _, _] _
    refine g_aload_n dX7_doSet_78 rfl ?_
    refine g_get 9 rfl (by decide) inX7 0 (by decide) fl_X7_9 dX7_doSet_79 h0 hS.2.2.1 ?_
    refine g_iconst (v := nI 5) dX7_doSet_82 (by decide) ?_
    refine g_iload_n dX7_doSet_83 rfl ?_
    refine g_iadd dX7_doSet_84 ?_
    refine g_iload_n dX7_doSet_85 rfl ?_
    rw [nI_add]
    refine g_iastore dX7_doSet_86 hS.2.1 (vp_in_nI (by omega) (by decide)) ?_
    rw [nI_clamp (by omega)]
    refine g_iload dX7_doSet_87 rfl ?_
    exact g_iret rfl (nr_int _) dX7_doSet_89 (by decide) (hP.row h Mw.rf.put hS.wr)
  refine g_iload_n dX7_doSet_0 rfl ?_
  refine g_if_ne (tgt := 9) dX7_doSet_1 (by decide) (fun b1 => ?_) (fun b1 => ?_)
  rotate_left
  · have b1 : w = nI 0 := b1
    subst b1
    refine g_bipush (v := (-40)) dX7_doSet_4 (by decide) ?_
    refine g_jump (tgt := 19) dX7_doSet_6 (by decide) ?_
    refine g_istore_n dX7_doSet_19 (by decide) rfl ?_
    show G _ _ _ _ _ _ _ _ _ [_, _, _, _, _, _] _
    refine g_iload_n dX7_doSet_20 rfl ?_
    refine g_if_ne (tgt := 29) dX7_doSet_21 (by decide) (fun hq => absurd hq ((fun q => q rfl))) (fun _ => ?_)
    refine g_bipush (v := nI 10) dX7_doSet_24 (by decide) ?_
    refine g_jump (tgt := 41) dX7_doSet_26 (by decide) ?_
    refine g_istore dX7_doSet_41 (by decide) rfl ?_
    show G _ _ _ _ _ _ _ _ _ [_, _, _, _, _, _] _
    exact K _ _ (fun _ => ⟨rfl, rfl⟩)
  refine g_iload_n dX7_doSet_9 rfl ?_
  refine g_iconst (v := nI 1) dX7_doSet_10 (by decide) ?_
  refine g_icmp_ne (tgt := 18) dX7_doSet_11 (by decide) (fun b2 => ?_) (fun b2 => ?_)
  rotate_left
  · subst b2
    refine g_iconst (v := nI 0) dX7_doSet_14 (by decide) ?_
    refine g_jump (tgt := 19) dX7_doSet_15 (by decide) ?_
    refine g_istore_n dX7_doSet_19 (by decide) rfl ?_
    show G _ _ _ _ _ _ _ _ _ [_, _, _, _, _, _] _
    refine g_iload_n dX7_doSet_20 rfl ?_
    refine g_if_ne (tgt := 29) dX7_doSet_21 (by decide) (fun _ => ?_) (fun hq => absurd hq ((by decide)))
    refine g_iload_n dX7_doSet_29 rfl ?_
    refine g_iconst (v := nI 1) dX7_doSet_30 (by decide) ?_
    refine g_icmp_ne (tgt := 39) dX7_doSet_31 (by decide) (fun hq => absurd hq ((fun q => q rfl))) (fun _ => ?_)
    refine g_bipush (v := nI 100) dX7_doSet_34 (by decide) ?_
    refine g_jump (tgt := 41) dX7_doSet_36 (by decide) ?_
    refine g_istore dX7_doSet_41 (by decide) rfl ?_
    show G _ _ _ _ _ _ _ _ _ [_, _, _, _, _, _] _
    exact K _ _ (fun _ => ⟨rfl, rfl⟩)
  refine g_iconst (v := nI 1) dX7_doSet_18 (by decide) ?_
  refine g_istore_n dX7_doSet_19 (by decide) rfl ?_
  show G _ _ _ _ _ _ _ _ _ [_, _, _, _, _, _] _
  refine g_iload_n dX7_doSet_20 rfl ?_
  refine g_if_ne (tgt := 29) dX7_doSet_21 (by decide) (fun _ => ?_) (fun hq => absurd hq (b1))
  refine g_iload_n dX7_doSet_29 rfl ?_
  refine g_iconst (v := nI 1) dX7_doSet_30 (by decide) ?_
  refine g_icmp_ne (tgt := 39) dX7_doSet_31 (by decide) (fun _ => ?_) (fun hq => absurd hq (b2))
  refine g_bipush (v := nI 14) dX7_doSet_39 (by decide) ?_
  refine g_istore dX7_doSet_41 (by decide) rfl ?_
  show G _ _ _ _ _ _ _ _ _ [_, _, _, _, _, _] _
  refine K _ _ (fun q => ?_)
  obtain ⟨k, hk, rfl⟩ := in_nI q.1 q.2 (by decide)
  rcases (show k = 0 ∨ k = 1 ∨ k = 2 by omega) with rfl | rfl | rfl
  · exact absurd rfl b1
  · exact absurd rfl b2
  · exact ⟨rfl, rfl⟩
def do_drill (f : Fl) (a : Int32) : Dq := if isM a then (0, f (oM a.toNatClampNeg 0), drF f a.toNatClampNeg, none) else (1, nI 0, f, none)
theorem k_doDrill {a : Int32} (h : MB sh V m f 0 r S) (hP : DP sh m sz V r S (do_drill f a) P) : MC E YX7_doDrill [.ref m, .int a] sh sz V P := by
  have h0 := h.1.1
  have hS := h.1
  unfold do_drill at hP
  refine MC.of RX7 "doDrill" rfl (by decide +kernel) rfl 0 [_, _] rfl (Nat.le_of_ble_eq_true rfl) ?_
  show G E MX7_doDrill _ _ _ _ _ _ _ _ _
  refine g_iload_n dX7_doDrill_0 rfl ?_
  refine g_callSp (Y := YX7_isMile) ss_X7_101 yn_X7_isMile dX7_doDrill_1 (k_isMile pR_ok) rfl rfl rfl (Nat.le_of_ble_eq_true rfl) ⟨rfl, rfl⟩ ?_
  refine g_if_ne (tgt := 13) dX7_doDrill_4 (by decide) (fun b1 => ?_) (fun b1 => ?_)
  rotate_left
  · rw [if_neg (bi_eq b1)] at hP
    refine g_aload_n dX7_doDrill_7 rfl ?_
    refine g_iconst (v := nI 1) dX7_doDrill_8 (by decide) ?_
    refine g_callVw (Y := YX7_fails) sv_X7_88 rfl yn_X7_fails 9 (by decide) rfl rfl dX7_doDrill_9 (k_fails (P := pW (fun v V' => v = .int (nI 0) ∧ V' = hu V m 7 (.int (nI 1))) sh sz) h0 ⟨_, rfl, rfl, rfl, rfl, rfl⟩) h0 rfl rfl rfl (Nat.le_of_ble_eq_true rfl) ⟨rfl, rfl⟩ (fun v V' q => ?_)
    obtain ⟨rfl, rfl⟩ := q
    exact g_iret rfl (nr_int _) dX7_doDrill_12 (by decide) (hP.fail h)
  rw [if_pos (bi_ne b1)] at hP
  obtain ⟨j, hj, rfl⟩ := isM_nI (bi_ne b1)
  rw [nI_clamp (by omega)] at hP
  refine g_aload_n dX7_doDrill_13 rfl ?_
  refine g_iload_n dX7_doDrill_14 rfl ?_
  refine g_iconst (v := nI 3) dX7_doDrill_15 (by decide) ?_
  refine g_aload_n dX7_doDrill_16 rfl ?_
  refine g_iload_n dX7_doDrill_17 rfl ?_
  refine g_iconst (v := nI 0) dX7_doDrill_18 (by decide) ?_
  refine g_callVp (Y := YX7_get) sv_X7_67 rfl yn_X7_get 9 (by decide) rfl rfl dX7_doDrill_19 (k_get hS hj (k := 0) (by decide) pR_ok) h0 rfl rfl rfl (Nat.le_of_ble_eq_true rfl) ⟨rfl, rfl⟩ ?_
  refine g_callVv (Y := YX7_set) sv_X7_41 rfl yn_X7_set 9 (by decide) rfl rfl dX7_doDrill_22 (k_set (P := pV (fun V' => V' = hu V (m + 1) (oM j 3) (.int (f (oM j 0)))) sh sz) hS hj (k := 3) (by decide) ⟨rfl, rfl, rfl, rfl⟩) h0 rfl rfl rfl (Nat.le_of_ble_eq_true rfl) ⟨rfl, rfl⟩ (fun V2 q => ?_)
  have hS2 := SA.wr (k := oM j 3) (x := f (oM j 0)) hS
  have hw2 := (Mw.rf (V := V) (m := m)).put (k := oM j 3) (v := .int (f (oM j 0)))
  rw [← q] at hS2 hw2
  clear q
  have r0 := hS2.rd (k := 0) (by decide)
  rw [pk_un (by unfold oM; omega)] at r0
  refine g_aload_n dX7_doDrill_25 rfl ?_
  refine g_iload_n dX7_doDrill_26 rfl ?_
  refine g_iconst (v := nI 4) dX7_doDrill_27 (by decide) ?_
  refine g_aload_n dX7_doDrill_28 rfl ?_
  refine g_get 9 rfl (by decide) inX7 0 (by decide) fl_X7_9 dX7_doDrill_29 h0 hS2.2.2.1 ?_
  refine g_iconst (v := nI 0) dX7_doDrill_32 (by decide) ?_
  refine g_iaload dX7_doDrill_33 hS2.2.1 (vp_in_nI (by decide) (by decide)) r0 ?_
  refine g_callVv (Y := YX7_set) sv_X7_41 rfl yn_X7_set 9 (by decide) rfl rfl dX7_doDrill_34 (k_set (P := pV (fun V' => V' = hu V2 (m + 1) (oM j 4) (.int (f 0))) sh sz) hS2 hj (k := 4) (by decide) ⟨rfl, rfl, rfl, rfl⟩) h0 rfl rfl rfl (Nat.le_of_ble_eq_true rfl) ⟨rfl, rfl⟩ (fun V3 q => ?_)
  have hS3 := SA.wr (k := oM j 4) (x := f 0) hS2
  have hw3 := hw2.put (k := oM j 4) (v := .int (f 0))
  rw [← q] at hS3 hw3
  clear q
  have r2 := hS3.rd (k := 2) (by decide)
  rw [pk_un (by unfold oM; omega), pk_un (by unfold oM; omega)] at r2
  refine g_aload_n dX7_doDrill_37 rfl ?_
  refine g_get 9 rfl (by decide) inX7 0 (by decide) fl_X7_9 dX7_doDrill_38 h0 hS3.2.2.1 ?_
  refine g_iconst (v := nI 2) dX7_doDrill_41 (by decide) ?_
  refine g_dup2 dX7_doDrill_42 rfl rfl ?_
  refine g_iaload dX7_doDrill_43 hS3.2.1 (vp_in_nI (by decide) (by decide)) r2 ?_
  refine g_iconst (v := nI 1) dX7_doDrill_44 (by decide) ?_
  refine g_iadd dX7_doDrill_45 ?_
  refine g_iastore dX7_doDrill_46 hS3.2.1 (vp_in_nI (by decide) (by decide)) ?_
  have hS4 : SA sh (hu V3 (m + 1) 2 (.int (f 2 + nI 1))) m (drF f j) := SA.wr (k := 2) (x := f 2 + nI 1) hS3
  have hw4 := hw3.put (k := 2) (v := .int (f 2 + nI 1))
  have ei : drF f j (oM j 0) = f (oM j 0) := by
    unfold drF
    rw [pk_un (by unfold oM; omega), pk_un (oM_ne (by decide)), pk_un (oM_ne (by decide))]
  have hP := hP.row h hw4 hS4
  rw [show (nI 2).toNatClampNeg = 2 from rfl]
  generalize hu V3 (m + 1) 2 (.int (f 2 + nI 1)) = V4 at hS4 hP ⊢
  refine g_aload_n dX7_doDrill_47 rfl ?_
  refine g_iload_n dX7_doDrill_48 rfl ?_
  refine g_iconst (v := nI 0) dX7_doDrill_49 (by decide) ?_
  refine g_callVp (Y := YX7_get) sv_X7_67 rfl yn_X7_get 9 (by decide) rfl rfl dX7_doDrill_50 (k_get hS4 hj (k := 0) (by decide) pR_ok) h0 rfl rfl rfl (Nat.le_of_ble_eq_true rfl) ⟨rfl, rfl⟩ ?_
  rw [ei]
  exact g_iret rfl (nr_int _) dX7_doDrill_53 (by decide) hP
end REF8

