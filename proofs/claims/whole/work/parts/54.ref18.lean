/-! the reference reads its text: signs and numbers -/
section REF18
/-- what the sign at p is asked for -/
def hr (tx : Nat → Int32) (n p : Nat) (w : Bool) (lo hi : Int32) : Prop := w = false ∧ p < n ∧ lo ≤ tx p ∧ tx p ≤ hi
/-- fields 13 and 14 alone may change -/
def Pf (V V' : Vl) (m : Nat) : Prop := (∀ a, a ≠ m → V' a = V a) ∧ ∀ j, j ≠ 13 → j ≠ 14 → V' m j = V m j
theorem Pf.rf {V : Vl} {m : Nat} : Pf V V m := ⟨fun _ _ => rfl, fun _ _ _ => rfl⟩
theorem Pf.trans {V V1 V2 : Vl} {m : Nat} (h : Pf V V1 m) (h2 : Pf V1 V2 m) : Pf V V2 m := ⟨fun a ha => (h2.1 a ha).trans (h.1 a ha), fun j a b => (h2.2 j a b).trans (h.2 j a b)⟩
theorem Pf.p13 {V V1 : Vl} {m : Nat} {v : Value} (h : Pf V V1 m) : Pf V (hu V1 m 13 v) m := ⟨fun a ha => (hu_ne _ _ _ ha).trans (h.1 a ha), fun j a b => (hu_at_ne _ _ _ a).trans (h.2 j a b)⟩
theorem Pf.p14 {V V1 : Vl} {m : Nat} {v : Value} (h : Pf V V1 m) : Pf V (hu V1 m 14 v) m := ⟨fun a ha => (hu_ne _ _ _ ha).trans (h.1 a ha), fun j a b => (hu_at_ne _ _ _ b).trans (h.2 j a b)⟩
variable {E : gE} {M : gM} {P : gP} {sh : Sh} {sz : Nat} {V V' V1 V2 : Vl} {cu su pc : Nat} {L : List (Option Value)} {rest : List Value} {m p n : Nat} {w : Bool} {lo hi : Int32} {tx : Nat → Int32}
/-- the text, as far as it is read -/
def Tx (sh : Sh) (V : Vl) (m n : Nat) (tx : Nat → Int32) (p : Nat) (w : Bool) : Prop := (sh m).1 = 10 ∧ sh (m + 6) = (21, 60) ∧ V m 11 = .ref (m + 6) ∧ V m 12 = .int (nI n) ∧ (∀ k, k < n → V (m + 6) k = .int (tx k)) ∧ n ≤ 60 ∧ p ≤ n ∧ V m 13 = .int (nI p) ∧ V m 14 = .int (bi (w = true))
theorem Tx.pf {p' : Nat} {w' : Bool} (h : Tx sh V m n tx p w) (hF : Pf V V' m) (hp : p' ≤ n) (h1 : V' m 13 = .int (nI p')) (h2 : V' m 14 = .int (bi (w' = true))) : Tx sh V' m n tx p' w' := by
  obtain ⟨a, b, c, d, e, f, -, -, -⟩ := h
  exact ⟨a, b, (hF.2 _ (by decide) (by decide)).trans c, (hF.2 _ (by decide) (by decide)).trans d, fun k hk => by rw [hF.1 _ (by omega)]; exact e k hk, f, hp, h1, h2⟩
theorem k_isHere (h : Tx sh V m n tx p w) (hP : P (.inl (some (.int (ci (hr tx n p w lo hi))))) sh sz V) : MC E YX7_isHere [.ref m, .int lo, .int hi] sh sz V P := by
  obtain ⟨h0, h6, v11, v12, ht, hn, hp, v13, v14⟩ := h
  refine MC.of RX7 "isHere" rfl (by decide +kernel) rfl 0 [_, _, _] rfl (Nat.le_of_ble_eq_true rfl) ?_
  show G E MX7_isHere _ _ _ _ _ _ _ _ _
  refine g_aload_n dX7_isHere_0 rfl ?_
  refine g_get 9 rfl (by decide) inX7 14 (by decide) fl_X7_214 dX7_isHere_1 h0 v14 ?_
  refine g_if_ne (tgt := 39) dX7_isHere_4 (by decide) (fun b1 => ?_) (fun b1 => ?_)
  · rw [ci_f (fun q => by
      have := bi_ne b1
      rw [q.1] at this
      cases this)] at hP
    refine g_iconst (v := nI 0) dX7_isHere_39 (by decide) ?_
    exact g_iret rfl nz0 dX7_isHere_40 (by decide) hP
  have hw : w = false := by
    cases w with
    | false => rfl
    | true => exact absurd rfl (bi_eq b1)
  refine g_aload_n dX7_isHere_7 rfl ?_
  refine g_get 9 rfl (by decide) inX7 13 (by decide) fl_X7_217 dX7_isHere_8 h0 v13 ?_
  refine g_aload_n dX7_isHere_11 rfl ?_
  refine g_get 9 rfl (by decide) inX7 12 (by decide) fl_X7_211 dX7_isHere_12 h0 v12 ?_
  refine g_icmp_ge (tgt := 39) dX7_isHere_15 (by decide) (fun b2 => ?_) (fun b2 => ?_)
  · rw [ci_f (fun q => absurd (nI_lt q.2.1 (by omega)) (Int32.not_lt.mpr b2))] at hP
    refine g_iconst (v := nI 0) dX7_isHere_39 (by decide) ?_
    exact g_iret rfl nz0 dX7_isHere_40 (by decide) hP
  have hpn : p < n := (nI_ltI (by omega) (by omega)).mp (Int32.not_le.mp b2)
  refine g_aload_n dX7_isHere_18 rfl ?_
  refine g_get 9 rfl (by decide) inX7 11 (by decide) fl_X7_25 dX7_isHere_19 h0 v11 ?_
  refine g_aload_n dX7_isHere_22 rfl ?_
  refine g_get 9 rfl (by decide) inX7 13 (by decide) fl_X7_217 dX7_isHere_23 h0 v13 ?_
  refine g_caload dX7_isHere_26 h6 (vp_in_nI (by omega) (by decide)) (at_nI (by omega) (ht p hpn)) ?_
  refine g_iload_n dX7_isHere_27 rfl ?_
  refine g_iload_n dX7_isHere_28 rfl ?_
  refine g_callSp (Y := YX7_in) ss_X7_84 yn_X7_in dX7_isHere_29 (k_in pR_ok) rfl rfl rfl (Nat.le_of_ble_eq_true rfl) ⟨rfl, rfl⟩ ?_
  refine g_if_eq (tgt := 39) dX7_isHere_32 (by decide) (fun b3 => ?_) (fun b3 => ?_)
  · rw [ci_f (fun q => bi_eq b3 q.2.2)] at hP
    refine g_iconst (v := nI 0) dX7_isHere_39 (by decide) ?_
    exact g_iret rfl nz0 dX7_isHere_40 (by decide) hP
  · rw [ci_t ⟨hw, hpn, bi_ne b3⟩] at hP
    refine g_iconst (v := nI 1) dX7_isHere_35 (by decide) ?_
    refine g_jump (tgt := 40) dX7_isHere_36 (by decide) ?_
    exact g_iret rfl nz1 dX7_isHere_40 (by decide) hP
theorem k_sign1 (h : Tx sh V m n tx p w) (hP1 : hr tx n p w lo hi → ∀ V', Pf V V' m → V' m 13 = .int (nI (p + 1)) → V' m 14 = .int (bi (false = true)) → P (.inl (some (.int (tx p - lo)))) sh sz V') (hP2 : ¬ hr tx n p w lo hi → ∀ V', Pf V V' m → V' m 13 = .int (nI p) → V' m 14 = .int (bi (true = true)) → P (.inl (some (.int (nI 0)))) sh sz V') : MC E YX7_sign1 [.ref m, .int lo, .int hi] sh sz V P := by
  have h0 := h.1
  have v13 := h.2.2.2.2.2.2.2.1
  refine MC.of RX7 "sign1" rfl (by decide +kernel) rfl 0 [_, _, _] rfl (Nat.le_of_ble_eq_true rfl) ?_
  show G E MX7_sign1 _ _ _ _ _ _ _ _ _
  refine g_aload_n dX7_sign1_0 rfl ?_
  refine g_aload_n dX7_sign1_1 rfl ?_
  refine g_iload_n dX7_sign1_2 rfl ?_
  refine g_iload_n dX7_sign1_3 rfl ?_
  refine g_callVp (Y := YX7_isHere) sv_X7_220 rfl yn_X7_isHere 9 (by decide) rfl rfl dX7_sign1_4 (k_isHere h pR_ok) h0 rfl rfl rfl (Nat.le_of_ble_eq_true rfl) ⟨rfl, rfl⟩ ?_
  refine g_if_ne (tgt := 14) dX7_sign1_7 (by decide) (fun b1 => ?_) (fun b1 => ?_)
  rotate_left
  · have hP2 := hP2 (ci_eq b1)
    refine g_iconst (v := nI 1) dX7_sign1_10 (by decide) ?_
    refine g_jump (tgt := 15) dX7_sign1_11 (by decide) ?_
    refine g_put 9 rfl (by decide) inX7 tyX7 tyX7_ok nmX7 14 (by decide) fl_X7_214 rfl dX7_sign1_15 h0 rfl rfl ?_
    have x14 : hu V m 14 (.int (nI 1)) m 14 = .int (nI 1) := hu_at _ _ _ _
    have x13 : hu V m 14 (.int (nI 1)) m 13 = .int (nI p) := (hu_at_ne _ _ _ (by decide)).trans v13
    have hF : Pf V (hu V m 14 (.int (nI 1))) m := Pf.rf.p14
    generalize hu V m 14 (.int (nI 1)) = V1 at x14 x13 hF ⊢
    refine g_aload_n dX7_sign1_18 rfl ?_
    refine g_get 9 rfl (by decide) inX7 14 (by decide) fl_X7_214 dX7_sign1_19 h0 x14 ?_
    refine g_if_eq (tgt := 27) dX7_sign1_22 (by decide) (fun hq => absurd hq ((by decide))) (fun _ => ?_)
    refine g_iconst (v := nI 0) dX7_sign1_25 (by decide) ?_
    exact g_iret rfl (nr_int _) dX7_sign1_26 (by decide) (hP2 V1 hF x13 x14)
  have hh := ci_ne b1
  have hP1 := hP1 hh
  refine g_iconst (v := nI 0) dX7_sign1_14 (by decide) ?_
  refine g_put 9 rfl (by decide) inX7 tyX7 tyX7_ok nmX7 14 (by decide) fl_X7_214 rfl dX7_sign1_15 h0 rfl rfl ?_
  have x14 : hu V m 14 (.int (nI 0)) m 14 = .int (nI 0) := hu_at _ _ _ _
  have x13 : hu V m 14 (.int (nI 0)) m 13 = .int (nI p) := (hu_at_ne _ _ _ (by decide)).trans v13
  have hF : Pf V (hu V m 14 (.int (nI 0))) m := Pf.rf.p14
  generalize hu V m 14 (.int (nI 0)) = V1 at x14 x13 hF ⊢
  refine g_aload_n dX7_sign1_18 rfl ?_
  refine g_get 9 rfl (by decide) inX7 14 (by decide) fl_X7_214 dX7_sign1_19 h0 x14 ?_
  refine g_if_eq (tgt := 27) dX7_sign1_22 (by decide) (fun _ => ?_) (fun hq => absurd (rfl) hq)
  refine g_aload_n dX7_sign1_27 rfl ?_
  refine g_dup dX7_sign1_28 rfl ?_
  refine g_get 9 rfl (by decide) inX7 13 (by decide) fl_X7_217 dX7_sign1_29 h0 x13 ?_
  refine g_iconst (v := nI 1) dX7_sign1_32 (by decide) ?_
  refine g_iadd dX7_sign1_33 ?_
  rw [nI_add]
  refine g_put 9 rfl (by decide) inX7 tyX7 tyX7_ok nmX7 13 (by decide) fl_X7_217 rfl dX7_sign1_34 h0 rfl rfl ?_
  have y14 : hu V1 m 13 (.int (nI (p + 1))) m 14 = .int (nI 0) := (hu_at_ne _ _ _ (by decide)).trans x14
  have y13 : hu V1 m 13 (.int (nI (p + 1))) m 13 = .int (nI (p + 1)) := hu_at _ _ _ _
  have hF := hF.p13 (v := .int (nI (p + 1)))
  generalize hu V1 m 13 (.int (nI (p + 1))) = V2 at y14 y13 hF ⊢
  have hn := h.2.2.2.2.2.1
  have hpn := hh.2.1
  refine g_aload_n dX7_sign1_37 rfl ?_
  refine g_get 9 rfl (by decide) inX7 11 (by decide) fl_X7_25 dX7_sign1_38 h0 ((hF.2 11 (by decide) (by decide)).trans h.2.2.1) ?_
  refine g_aload_n dX7_sign1_41 rfl ?_
  refine g_get 9 rfl (by decide) inX7 13 (by decide) fl_X7_217 dX7_sign1_42 h0 y13 ?_
  refine g_iconst (v := nI 1) dX7_sign1_45 (by decide) ?_
  refine g_isub dX7_sign1_46 ?_
  rw [nI_m1n (by omega) (by omega), show p + 1 - 1 = p by omega]
  refine g_caload dX7_sign1_47 h.2.1 (vp_in_nI (by omega) (by decide)) (at_nI (by omega) ((congrFun (hF.1 (m + 6) (by omega)) p).trans (h.2.2.2.2.1 p hpn))) ?_
  refine g_iload_n dX7_sign1_48 rfl ?_
  refine g_isub dX7_sign1_49 ?_
  exact g_iret rfl (nr_int _) dX7_sign1_50 (by decide) (hP1 V2 hF y13 y14)
theorem hr_dg (p : Nat) : hr tx n p false (nI 48) (nI 57) ↔ dg tx n p := ⟨fun q => q.2, fun q => ⟨rfl, q⟩⟩
theorem hr_ch (p : Nat) (c : Int32) : hr tx n p false c c ↔ ch tx n p c := ⟨fun q => ⟨q.2.1, Int32.le_antisymm q.2.2.2 q.2.2.1⟩, fun q => ⟨rfl, q.1, by rw [q.2]; exact Int32.le_refl _, by rw [q.2]; exact Int32.le_refl _⟩⟩
theorem k_digit (h : Tx sh V m n tx p w) (hP1 : hr tx n p w (nI 48) (nI 57) → ∀ V', Pf V V' m → V' m 13 = .int (nI (p + 1)) → V' m 14 = .int (bi (false = true)) → P (.inl (some (.int (tx p - nI 48)))) sh sz V') (hP2 : ¬ hr tx n p w (nI 48) (nI 57) → ∀ V', Pf V V' m → V' m 13 = .int (nI p) → V' m 14 = .int (bi (true = true)) → P (.inl (some (.int (nI 0)))) sh sz V') : MC E YX7_digit [.ref m] sh sz V P := by
  have h0 := h.1
  refine MC.of RX7 "digit" rfl (by decide +kernel) rfl 0 [_] rfl (Nat.le_of_ble_eq_true rfl) ?_
  show G E MX7_digit _ _ _ _ _ _ _ _ _
  refine g_aload_n dX7_digit_0 rfl ?_
  refine g_bipush (v := nI 48) dX7_digit_1 (by decide) ?_
  refine g_bipush (v := nI 57) dX7_digit_3 (by decide) ?_
  refine g_callVw (Y := YX7_sign1) sv_X7_224 rfl yn_X7_sign1 9 (by decide) rfl rfl dX7_digit_5 (k_sign1 (P := pW (fun v V3 => P (.inl (some v)) sh sz V3 ∧ ∃ x, v = .int x) sh sz) h (fun q V' a b c => ⟨_, rfl, rfl, rfl, hP1 q V' a b c, _, rfl⟩) (fun q V' a b c => ⟨_, rfl, rfl, rfl, hP2 q V' a b c, _, rfl⟩)) h0 rfl rfl rfl (Nat.le_of_ble_eq_true rfl) ⟨rfl, rfl⟩ (fun v V3 q => ?_)
  obtain ⟨q, x, rfl⟩ := q
  exact g_iret rfl (nr_int _) dX7_digit_8 (by decide) q
theorem k_number (h : Tx sh V m n tx p false) (hP1 : dg tx n p → ∀ V', Pf V V' m → V' m 13 = .int (nI (nE tx n p)) → V' m 14 = .int (bi (false = true)) → P (.inl (some (.int (nV tx n p)))) sh sz V') (hP2 : ¬ dg tx n p → ∀ V', Pf V V' m → V' m 13 = .int (nI p) → V' m 14 = .int (bi (true = true)) → P (.inl (some (.int (nI 0)))) sh sz V') : MC E YX7_number [.ref m] sh sz V P := by
  have h0 := h.1
  have hp := h.2.2.2.2.2.2.1
  refine MC.of RX7 "number" rfl (by decide +kernel) rfl 1 [_, none] rfl (Nat.le_of_ble_eq_true rfl) ?_
  show G E MX7_number _ _ _ _ _ _ _ _ _
  by_cases hd : dg tx n p
  rotate_left
  · refine g_aload_n dX7_number_0 rfl ?_
    refine g_callVw (Y := YX7_digit) sv_X7_228 rfl yn_X7_digit 9 (by decide) rfl rfl dX7_number_1 (k_digit (P := pW (fun v V3 => v = .int (nI 0) ∧ Pf V V3 m ∧ V3 m 13 = .int (nI p) ∧ V3 m 14 = .int (bi (true = true))) sh sz) h (fun q => absurd ((hr_dg p).mp q) hd) (fun q V' a b c => ⟨_, rfl, rfl, rfl, rfl, a, b, c⟩)) h0 rfl rfl rfl (Nat.le_of_ble_eq_true rfl) ⟨rfl, rfl⟩ (fun v V3 q => ?_)
    obtain ⟨rfl, a, b, c⟩ := q
    have h3 := h.pf (w' := true) a hp b c
    refine g_istore_n dX7_number_4 (by decide) rfl ?_
    show G _ _ _ _ _ _ _ _ _ [_, _] _
    refine g_aload_n dX7_number_5 rfl ?_
    refine g_bipush (v := nI 48) dX7_number_6 (by decide) ?_
    refine g_bipush (v := nI 57) dX7_number_8 (by decide) ?_
    refine g_callVp (Y := YX7_isHere) sv_X7_220 rfl yn_X7_isHere 9 (by decide) rfl rfl dX7_number_10 (k_isHere h3 pR_ok) h0 rfl rfl rfl (Nat.le_of_ble_eq_true rfl) ⟨rfl, rfl⟩ ?_
    rw [ci_f (fun q => nomatch q.1)]
    refine g_if_eq (tgt := 28) dX7_number_13 (by decide) (fun _ => ?_) (fun hq => absurd (rfl) hq)
    refine g_iload_n dX7_number_28 rfl ?_
    exact g_iret rfl (nr_int _) dX7_number_29 (by decide) (hP2 hd V3 a b c)
  have hP1 := hP1 hd
  unfold nE nV at hP1
  rw [if_pos hd, if_pos hd] at hP1
  refine g_aload_n dX7_number_0 rfl ?_
  refine g_callVw (Y := YX7_digit) sv_X7_228 rfl yn_X7_digit 9 (by decide) rfl rfl dX7_number_1 (k_digit (P := pW (fun v V3 => v = .int (tx p - nI 48) ∧ Pf V V3 m ∧ V3 m 13 = .int (nI (p + 1)) ∧ V3 m 14 = .int (bi (false = true))) sh sz) h (fun q V' a b c => ⟨_, rfl, rfl, rfl, rfl, a, b, c⟩) (fun q => absurd ((hr_dg p).mpr hd) q)) h0 rfl rfl rfl (Nat.le_of_ble_eq_true rfl) ⟨rfl, rfl⟩ (fun v V3 q => ?_)
  obtain ⟨rfl, a, b, c⟩ := q
  have h3 := h.pf (p' := p + 1) (w' := false) a (by have := hd.1; omega) b c
  refine g_istore_n dX7_number_4 (by decide) rfl ?_
  show G _ _ _ _ _ _ _ _ _ [_, _] _
  refine g_aload_n dX7_number_5 rfl ?_
  refine g_bipush (v := nI 48) dX7_number_6 (by decide) ?_
  refine g_bipush (v := nI 57) dX7_number_8 (by decide) ?_
  refine g_callVp (Y := YX7_isHere) sv_X7_220 rfl yn_X7_isHere 9 (by decide) rfl rfl dX7_number_10 (k_isHere h3 pR_ok) h0 rfl rfl rfl (Nat.le_of_ble_eq_true rfl) ⟨rfl, rfl⟩ ?_
  refine g_if_eq (tgt := 28) dX7_number_13 (by decide) (fun b1 => ?_) (fun b1 => ?_)
  · have hd2 : ¬ dg tx n (p + 1) := fun q => ci_eq b1 ((hr_dg _).mpr q)
    rw [if_neg hd2, if_neg hd2] at hP1
    refine g_iload_n dX7_number_28 rfl ?_
    exact g_iret rfl (nr_int _) dX7_number_29 (by decide) (hP1 V3 a b c)
  · have hd2 := (hr_dg _).mp (ci_ne b1)
    rw [if_pos hd2, if_pos hd2] at hP1
    refine g_bipush (v := nI 10) dX7_number_16 (by decide) ?_
    refine g_iload_n dX7_number_18 rfl ?_
    refine g_imul dX7_number_19 ?_
    refine g_aload_n dX7_number_20 rfl ?_
    refine g_callVw (Y := YX7_digit) sv_X7_228 rfl yn_X7_digit 9 (by decide) rfl rfl dX7_number_21 (k_digit (P := pW (fun v V4 => v = .int (tx (p + 1) - nI 48) ∧ Pf V3 V4 m ∧ V4 m 13 = .int (nI (p + 1 + 1)) ∧ V4 m 14 = .int (bi (false = true))) sh sz) h3 (fun q V' a b c => ⟨_, rfl, rfl, rfl, rfl, a, b, c⟩) (fun q => absurd ((hr_dg _).mpr hd2) q)) h0 rfl rfl rfl (Nat.le_of_ble_eq_true rfl) ⟨rfl, rfl⟩ (fun v V4 q => ?_)
    obtain ⟨rfl, a2, b2, c2⟩ := q
    refine g_iadd dX7_number_24 ?_
    refine g_jump (tgt := 29) dX7_number_25 (by decide) ?_
    exact g_iret rfl (nr_int _) dX7_number_29 (by decide) (hP1 V4 (a.trans a2) b2 c2)
/-- what a sign c and a digit behind it come to -/
theorem k_digitBehind {c : Int32} (h : Tx sh V m n tx p w) (hP1 : w = false → ch tx n p c → dg tx n (p + 1) → ∀ V', Pf V V' m → V' m 13 = .int (nI (p + 2)) → V' m 14 = .int (bi (false = true)) → P (.inl (some (.int (tx (p + 1) - nI 48)))) sh sz V') (hP2 : w = false → ch tx n p c → ¬ dg tx n (p + 1) → ∀ V', Pf V V' m → V' m 13 = .int (nI (p + 1)) → V' m 14 = .int (bi (true = true)) → P (.inl (some (.int (nI 0)))) sh sz V')
    (hP3 : ¬ (w = false ∧ ch tx n p c) → ∀ V', Pf V V' m → V' m 13 = .int (nI p) → V' m 14 = .int (bi (true = true)) → P (.inl (some (.int (nI 0)))) sh sz V') : MC E YX7_digitBehind [.ref m, .int c] sh sz V P := by
  have h0 := h.1
  have hp := h.2.2.2.2.2.2.1
  refine MC.of RX7 "digitBehind" rfl (by decide +kernel) rfl 1 [_, _, none] rfl (Nat.le_of_ble_eq_true rfl) ?_
  show G E MX7_digitBehind _ _ _ _ _ _ _ _ _
  by_cases hd : w = false ∧ ch tx n p c
  rotate_left
  · have hP3 := hP3 hd
    have hn : ¬ hr tx n p w c c := fun q => hd (by
      have hw := q.1
      subst hw
      exact ⟨rfl, (hr_ch p c).mp q⟩)
    refine g_aload_n dX7_digitBehind_0 rfl ?_
    refine g_iload_n dX7_digitBehind_1 rfl ?_
    refine g_iload_n dX7_digitBehind_2 rfl ?_
    refine g_callVw (Y := YX7_sign1) sv_X7_224 rfl yn_X7_sign1 9 (by decide) rfl rfl dX7_digitBehind_3 (k_sign1 (P := pW (fun v V3 => v = .int (nI 0) ∧ Pf V V3 m ∧ V3 m 13 = .int (nI p) ∧ V3 m 14 = .int (bi (true = true))) sh sz) h (fun q => absurd q hn) (fun q V' a b c => ⟨_, rfl, rfl, rfl, rfl, a, b, c⟩)) h0 rfl rfl rfl (Nat.le_of_ble_eq_true rfl) ⟨rfl, rfl⟩ (fun v V3 q => ?_)
    obtain ⟨rfl, a, b, c⟩ := q
    have h3 := h.pf (w' := true) a hp b c
    refine g_istore_n dX7_digitBehind_6 (by decide) rfl ?_
    show G _ _ _ _ _ _ _ _ _ [_, _, _] _
    refine g_aload_n dX7_digitBehind_7 rfl ?_
    refine g_callVw (Y := YX7_digit) sv_X7_228 rfl yn_X7_digit 9 (by decide) rfl rfl dX7_digitBehind_8 (k_digit (P := pW (fun v V4 => v = .int (nI 0) ∧ Pf V3 V4 m ∧ V4 m 13 = .int (nI p) ∧ V4 m 14 = .int (bi (true = true))) sh sz) h3 (fun q => nomatch q.1) (fun q V' a b c => ⟨_, rfl, rfl, rfl, rfl, a, b, c⟩)) h0 rfl rfl rfl (Nat.le_of_ble_eq_true rfl) ⟨rfl, rfl⟩ (fun v V4 q => ?_)
    obtain ⟨rfl, a2, b2, c2⟩ := q
    exact g_iret rfl (nr_int _) dX7_digitBehind_11 (by decide) (hP3 V4 (a.trans a2) b2 c2)
  obtain ⟨rfl, hc⟩ := hd
  have hP1 := hP1 rfl hc
  have hP2 := hP2 rfl hc
  refine g_aload_n dX7_digitBehind_0 rfl ?_
  refine g_iload_n dX7_digitBehind_1 rfl ?_
  refine g_iload_n dX7_digitBehind_2 rfl ?_
  refine g_callVw (Y := YX7_sign1) sv_X7_224 rfl yn_X7_sign1 9 (by decide) rfl rfl dX7_digitBehind_3 (k_sign1 (P := pW (fun v V3 => (∃ x : Int32, v = .int x) ∧ Pf V V3 m ∧ V3 m 13 = .int (nI (p + 1)) ∧ V3 m 14 = .int (bi (false = true))) sh sz) h (fun q V' a b c => ⟨_, rfl, rfl, rfl, ⟨_, rfl⟩, a, b, c⟩) (fun q => absurd ((hr_ch p c).mpr hc) q)) h0 rfl rfl rfl (Nat.le_of_ble_eq_true rfl) ⟨rfl, rfl⟩ (fun v V3 q => ?_)
  obtain ⟨⟨x, rfl⟩, a, b, c⟩ := q
  have h3 := h.pf (p' := p + 1) (w' := false) a (by have := hc.1; omega) b c
  refine g_istore_n dX7_digitBehind_6 (by decide) rfl ?_
  show G _ _ _ _ _ _ _ _ _ [_, _, _] _
  refine g_aload_n dX7_digitBehind_7 rfl ?_
  refine g_callVw (Y := YX7_digit) sv_X7_228 rfl yn_X7_digit 9 (by decide) rfl rfl dX7_digitBehind_8 (k_digit (P := pW (fun v V4 => P (.inl (some v)) sh sz V4 ∧ ∃ x, v = .int x) sh sz) h3 (fun q V' a2 b2 c2 => ⟨_, rfl, rfl, rfl, hP1 ((hr_dg _).mp q) V' (a.trans a2) b2 c2, _, rfl⟩) (fun q V' a2 b2 c2 => ⟨_, rfl, rfl, rfl, hP2 (fun z => q ((hr_dg _).mpr z)) V' (a.trans a2) b2 c2, _, rfl⟩)) h0 rfl rfl rfl (Nat.le_of_ble_eq_true rfl) ⟨rfl, rfl⟩ (fun v V4 q => ?_)
  obtain ⟨q, y, rfl⟩ := q
  exact g_iret rfl (nr_int _) dX7_digitBehind_11 (by decide) q
theorem k_signed (h : Tx sh V m n tx p false) (hP1 : ∀ j, j = (if ch tx n p (nI 45) then p + 1 else p) → dg tx n j → ∀ V', Pf V V' m → V' m 13 = .int (nI (nE tx n j)) → V' m 14 = .int (bi (false = true)) → P (.inl (some (.int (if ch tx n p (nI 45) then -nV tx n j else nV tx n j)))) sh sz V') (hP2 : ∀ j x, j = (if ch tx n p (nI 45) then p + 1 else p) → ¬ dg tx n j → ∀ V', Pf V V' m → V' m 13 = .int (nI j) → V' m 14 = .int (bi (true = true)) → P (.inl (some (.int x))) sh sz V') : MC E YX7_signed [.ref m] sh sz V P := by
  have h0 := h.1
  have hp := h.2.2.2.2.2.2.1
  have v13 := h.2.2.2.2.2.2.2.1
  have v14 := h.2.2.2.2.2.2.2.2
  refine MC.of RX7 "signed" rfl (by decide +kernel) rfl 2 [_, none, none] rfl (Nat.le_of_ble_eq_true rfl) ?_
  show G E MX7_signed _ _ _ _ _ _ _ _ _
  refine g_aload_n dX7_signed_0 rfl ?_
  refine g_bipush (v := nI 45) dX7_signed_1 (by decide) ?_
  refine g_bipush (v := nI 45) dX7_signed_3 (by decide) ?_
  refine g_callVp (Y := YX7_isHere) sv_X7_220 rfl yn_X7_isHere 9 (by decide) rfl rfl dX7_signed_5 (k_isHere h pR_ok) h0 rfl rfl rfl (Nat.le_of_ble_eq_true rfl) ⟨rfl, rfl⟩ ?_
  rw [ci_cong (hr_ch (tx := tx) (n := n) p (nI 45))]
  refine g_istore_n dX7_signed_8 (by decide) rfl ?_
  show G _ _ _ _ _ _ _ _ _ [_, _, _] _
  refine g_aload_n dX7_signed_9 rfl ?_
  refine g_dup dX7_signed_10 rfl ?_
  refine g_get 9 rfl (by decide) inX7 13 (by decide) fl_X7_217 dX7_signed_11 h0 v13 ?_
  by_cases hc : ch tx n p (nI 45)
  · rw [ci_t hc]
    refine g_iload_n dX7_signed_14 rfl ?_
    refine g_if_eq (tgt := 22) dX7_signed_15 (by decide) (fun hq => absurd hq ((by decide))) (fun _ => ?_)
    refine g_iconst (v := nI 1) dX7_signed_18 (by decide) ?_
    refine g_jump (tgt := 23) dX7_signed_19 (by decide) ?_
    refine g_iadd dX7_signed_23 ?_
    rw [nI_add]
    refine g_put 9 rfl (by decide) inX7 tyX7 tyX7_ok nmX7 13 (by decide) fl_X7_217 rfl dX7_signed_24 h0 rfl rfl ?_
    have h3 := h.pf (p' := p + 1) (w' := false) (Pf.rf.p13 (v := .int (nI (p + 1)))) (by have := hc.1; omega) (hu_at _ _ _ _) ((hu_at_ne _ _ _ (by decide)).trans v14)
    have hF : Pf V (hu V m 13 (.int (nI (p + 1)))) m := Pf.rf.p13
    generalize hu V m 13 (.int (nI (p + 1))) = V1 at h3 hF ⊢
    have hP1 := hP1 (p + 1) (by rw [if_pos hc])
    have hP2 := fun x => hP2 (p + 1) x (by rw [if_pos hc])
    rw [if_pos hc] at hP1
    refine g_aload_n dX7_signed_27 rfl ?_
    refine g_callVw (Y := YX7_number) sv_X7_231 rfl yn_X7_number 9 (by decide) rfl rfl dX7_signed_28 (k_number (P := pW (fun v V4 => ∃ x, v = .int x ∧ P (.inl (some (.int (-x)))) sh sz V4) sh sz) h3 (fun q V' a2 b2 c2 => ⟨_, rfl, rfl, rfl, _, rfl, hP1 q V' (hF.trans a2) b2 c2⟩) (fun q V' a2 b2 c2 => ⟨_, rfl, rfl, rfl, _, rfl, hP2 _ q V' (hF.trans a2) b2 c2⟩)) h0 rfl rfl rfl (Nat.le_of_ble_eq_true rfl) ⟨rfl, rfl⟩ (fun v V4 q => ?_)
    obtain ⟨x, rfl, q⟩ := q
    refine g_istore_n dX7_signed_31 (by decide) rfl ?_
    show G _ _ _ _ _ _ _ _ _ [_, _, _] _
    refine g_iload_n dX7_signed_32 rfl ?_
    refine g_if_eq (tgt := 41) dX7_signed_33 (by decide) (fun hq => absurd hq ((by decide))) (fun _ => ?_)
    refine g_iload_n dX7_signed_36 rfl ?_
    refine g_ineg dX7_signed_37 ?_
    refine g_jump (tgt := 42) dX7_signed_38 (by decide) ?_
    exact g_iret rfl (nr_int _) dX7_signed_42 (by decide) q
  · rw [ci_f hc]
    refine g_iload_n dX7_signed_14 rfl ?_
    refine g_if_eq (tgt := 22) dX7_signed_15 (by decide) (fun _ => ?_) (fun hq => absurd (rfl) hq)
    refine g_iconst (v := nI 0) dX7_signed_22 (by decide) ?_
    refine g_iadd dX7_signed_23 ?_
    rw [add_nI0]
    refine g_put 9 rfl (by decide) inX7 tyX7 tyX7_ok nmX7 13 (by decide) fl_X7_217 rfl dX7_signed_24 h0 rfl rfl ?_
    have h3 := h.pf (p' := p) (w' := false) (Pf.rf.p13 (v := .int (nI p))) hp (hu_at _ _ _ _) ((hu_at_ne _ _ _ (by decide)).trans v14)
    have hF : Pf V (hu V m 13 (.int (nI p))) m := Pf.rf.p13
    generalize hu V m 13 (.int (nI p)) = V1 at h3 hF ⊢
    have hP1 := hP1 p (by rw [if_neg hc])
    have hP2 := fun x => hP2 p x (by rw [if_neg hc])
    rw [if_neg hc] at hP1
    refine g_aload_n dX7_signed_27 rfl ?_
    refine g_callVw (Y := YX7_number) sv_X7_231 rfl yn_X7_number 9 (by decide) rfl rfl dX7_signed_28 (k_number (P := pW (fun v V4 => ∃ x, v = .int x ∧ P (.inl (some (.int x))) sh sz V4) sh sz) h3 (fun q V' a2 b2 c2 => ⟨_, rfl, rfl, rfl, _, rfl, hP1 q V' (hF.trans a2) b2 c2⟩) (fun q V' a2 b2 c2 => ⟨_, rfl, rfl, rfl, _, rfl, hP2 _ q V' (hF.trans a2) b2 c2⟩)) h0 rfl rfl rfl (Nat.le_of_ble_eq_true rfl) ⟨rfl, rfl⟩ (fun v V4 q => ?_)
    obtain ⟨x, rfl, q⟩ := q
    refine g_istore_n dX7_signed_31 (by decide) rfl ?_
    show G _ _ _ _ _ _ _ _ _ [_, _, _] _
    refine g_iload_n dX7_signed_32 rfl ?_
    refine g_if_eq (tgt := 41) dX7_signed_33 (by decide) (fun _ => ?_) (fun hq => absurd (rfl) hq)
    refine g_iload_n dX7_signed_41 rfl ?_
    exact g_iret rfl (nr_int _) dX7_signed_42 (by decide) q
end REF18

