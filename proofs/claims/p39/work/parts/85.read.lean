/-! the law reads a text of orders -/
section LREAD2
variable {E : gE} {M : gM} {P : gP} {sh : Sh} {sz : Nat} {V : Vl} {cu su pc : Nat} {L : List (Option Value)} {rest : List Value} {x : Nat} {S S' : St} {A : La} {N : Nat}
/-- a StringBuilder's call that makes nothing -/
theorem g_lSw {z u b idx n : Nat} {Y : gY} {As st : List Value} {Q : Value → Vl → Prop} (hs : GoodIn gW (wsV M.2.2.1 idx RJ4 Y.1 (Cond.code Y.1 Y.2.1 Y.2.2.1 Y.2.2.2.1 :: gW))) (hC : Y.1.cls = RJ4) (hy : gName Y.1 n) (hdg : decode M.1 pc = .ok (.invokevirtual idx, 3))
    (hb : z ≤ sz ∧ cu ≤ u ∧ su ≤ 6 * u) (hr : lRm Y M 0 u) (hc : MC E Y (.ref b :: As) sh sz V (pW Q sh sz)) (hb9 : (sh b).1 = 10) (hn : As.length = n) (hS : st = As.reverse ++ .ref b :: rest) (hcat : (rest.map fun v => v.category).sum ≤ 8)
    (kk : ∀ v V', Q v V' → G E M P sh sz V' cu su (pc + 3) L (v :: rest)) : G E M P sh sz V cu su pc L st :=
  g_callV hs hC hy 9 (by decide) rfl rfl hdg hc hb9 hn hS (hr.g hb.2.1 hb.2.2) hcat (fun _ _ _ _ h => by obtain ⟨v, -, -, h, -⟩ := h; exact Nat.le_of_eq h.symm) (fun v' sh' sz' V' h => by
    obtain ⟨v, h1, rfl, rfl, h2⟩ := h
    cases h1
    have c0 : Y.2.2.2.2.cells = 0 := Nat.le_zero.mp hr.2.1.1
    have s0 : Y.2.2.2.2.slots = 0 := by have := hr.2.1.2; omega
    rw [c0, s0]
    exact kk v V' h2) (fun _ _ _ _ h => by obtain ⟨v, h, -⟩ := h; exact nomatch h)
/-- a String's -/
theorem g_lStr {z u k v9 w idx n : Nat} {Y : gY} {As st : List Value} {v : Value} (hS9 : StrA E sh V k v9 w) (hs : GoodIn gW (wsV M.2.2.1 idx RJ0 Y.1 (Cond.code Y.1 Y.2.1 Y.2.2.1 Y.2.2.2.1 :: gW))) (hC : Y.1.cls = RJ0) (hy : gName Y.1 n) (hdg : decode M.1 pc = .ok (.invokevirtual idx, 3))
    (hb : z ≤ sz ∧ cu ≤ u ∧ su ≤ 6 * u) (hr : lRm Y M 0 u) (hc : MC E Y (.ref k :: As) sh sz V (pR (some v) sh sz V)) (hn : As.length = n) (hS : st = As.reverse ++ .ref k :: rest) (hcat : (rest.map fun v => v.category).sum ≤ 8)
    (kk : G E M P sh sz V cu su (pc + 3) L (v :: rest)) : G E M P sh sz V cu su pc L st :=
  g_scallV hS9 hs hC hy hdg hc hn hS (hr.g hb.2.1 hb.2.2) hcat (fun _ _ _ _ h => Nat.le_of_eq h.2.2.1.symm) (fun _ _ _ _ h => nomatch h.1) (fun v' sh' sz' V' h => by
    obtain ⟨h1, rfl, rfl, rfl⟩ := h
    cases h1
    have c0 : Y.2.2.2.2.cells = 0 := Nat.le_zero.mp hr.2.1.1
    have s0 : Y.2.2.2.2.slots = 0 := by have := hr.2.1.2; omega
    rw [c0, s0]
    exact kk)
theorem g_lStrw {z u k v9 w idx n : Nat} {Y : gY} {As st : List Value} {Q : Value → Vl → Prop} (hS9 : StrA E sh V k v9 w) (hs : GoodIn gW (wsV M.2.2.1 idx RJ0 Y.1 (Cond.code Y.1 Y.2.1 Y.2.2.1 Y.2.2.2.1 :: gW))) (hC : Y.1.cls = RJ0) (hy : gName Y.1 n) (hdg : decode M.1 pc = .ok (.invokevirtual idx, 3))
    (hb : z ≤ sz ∧ cu ≤ u ∧ su ≤ 6 * u) (hr : lRm Y M 0 u) (hc : MC E Y (.ref k :: As) sh sz V (pW Q sh sz)) (hn : As.length = n) (hS : st = As.reverse ++ .ref k :: rest) (hcat : (rest.map fun v => v.category).sum ≤ 8)
    (kk : ∀ v V', Q v V' → G E M P sh sz V' cu su (pc + 3) L (v :: rest)) : G E M P sh sz V cu su pc L st :=
  g_scallV hS9 hs hC hy hdg hc hn hS (hr.g hb.2.1 hb.2.2) hcat (fun _ _ _ _ h => by obtain ⟨v, -, -, h, -⟩ := h; exact Nat.le_of_eq h.symm) (fun _ _ _ _ h => by obtain ⟨v, h, -⟩ := h; exact nomatch h) (fun v' sh' sz' V' h => by
    obtain ⟨v, h1, rfl, rfl, h2⟩ := h
    cases h1
    have c0 : Y.2.2.2.2.cells = 0 := Nat.le_zero.mp hr.2.1.1
    have s0 : Y.2.2.2.2.slots = 0 := by have := hr.2.1.2; omega
    rw [c0, s0]
    exact kk v V' h2)
/-- a change that can be undone, if b; else none -/
def Und (N : Nat) (S S' : St) (b : Prop) : Prop := S'.2.2.2.2.2.1 = 0 ∧ InvD (N + 1000) S'.1 ∧ ((b ∧ S'.2.2.1 = pH S.2.2.1 S.2.2.2.1 S.1 ∧ S'.2.2.2.1 = pC S.2.2.2.1) ∨ (¬ b ∧ S'.1 = S.1 ∧ S'.2.2.1 = S.2.2.1 ∧ S'.2.2.2.1 = S.2.2.2.1))
theorem Und.push {g : Fl} {b : Prop} (hl : S.2.2.2.2.2.1 = 0) (hD : InvD (N + 1000) g) (hb : b) : Und N S (push S g) b := ⟨hl, hD, Or.inl ⟨hb, rfl, rfl⟩⟩
theorem Und.same {b : Prop} (hl : S.2.2.2.2.2.1 = 0) (hD : InvD N S.1) (hb : ¬ b) : Und N S S b := ⟨hl, hD.le (by omega), Or.inr ⟨hb, rfl, rfl, rfl⟩⟩
theorem Und.refu {b : Prop} {q : Int32 × Int32} (hl : S.2.2.2.2.2.1 = 0) (hD : InvD N S.1) (hb : ¬ b) : Und N S (refu S q) b := ⟨hl, hD.le (by omega), Or.inr ⟨hb, rfl, rfl, rfl⟩⟩
/-- i characters appended -/
def Tx (S S' : St) (i : Nat) : Prop := S'.1 = S.1 ∧ S'.2.2.1 = S.2.2.1 ∧ S'.2.2.2.1 = S.2.2.2.1 ∧ S'.2.2.2.2.2.1 = i
theorem u_read {i : Nat} (h : Tx S S' i) (hD : InvD N S.1) : ∃ z, rv [-1, -2] (sp_read S') = .int z ∧ Und N S (sp_read S').2.2 (0 ≤ z) := by
  obtain ⟨h1, h2, h3, -⟩ := h
  have hk := fa_first_le (fun k => cb (¬ more S'.2.2.2.2.1 S'.2.2.2.2.2.1 k)) 30
  have hkk : kkF S'.2.2.2.2.1 S'.2.2.2.2.2.1 ≤ 30 := hk
  have hs : ∀ b : Prop, ¬ b → Und N S (rdS S') b := fun b hb => ⟨rfl, by show InvD (N + 1000) S'.1; rw [h1]; exact hD.le (by omega), Or.inr ⟨hb, h1, h2, h3⟩⟩
  unfold sp_read
  split
  · split
    · split
      · exact ⟨-1, rfl, hs _ (by decide)⟩
      · exact ⟨-2, rfl, hs _ (by decide)⟩
    · rename_i q
      refine ⟨_, rfl, rfl, ?_, Or.inl ⟨nI_pos' (by omega), by show pH S'.2.2.1 S'.2.2.2.1 S'.1 = _; rw [h1, h2, h3], by show pC S'.2.2.2.1 = _; rw [h3]⟩⟩
      show InvD (N + 1000) (rowsK S'.1 S'.2.2.2.2.1 S'.2.2.2.2.2.1 (kkF S'.2.2.2.2.1 S'.2.2.2.2.2.1 + 1))
      rw [h1] at q ⊢
      refine (D_rows hD _ (fun i hi => ?_)).le (by omega)
      have := fa_first_no (fun k => cb (exO (rowsK S.1 S'.2.2.2.2.1 S'.2.2.2.2.2.1 k) (ordK S'.2.2.2.2.1 S'.2.2.2.2.2.1 k) ≠ nI 0)) (kkF S'.2.2.2.2.1 S'.2.2.2.2.2.1 + 1) i (by unfold badK at q; omega)
      exact Classical.byContradiction fun z => by
        have t : cb (exO (rowsK S.1 S'.2.2.2.2.1 S'.2.2.2.2.2.1 i) (ordK S'.2.2.2.2.1 S'.2.2.2.2.2.1 i) ≠ nI 0) = true := cb_t z
        rw [t] at this
        cases this
  · exact ⟨-1, rfl, hs _ (by decide)⟩
theorem l_read {k v w : Nat} (hA : LW x S A sh sz V) (hl : S.2.2.2.2.2.1 = 0) (hD : InvD N S.1) (hT : ∀ S sh sz V, LW x S A sh sz V → StrA E sh V k v w) : MC E YL_read [.ref x, .ref k] sh sz V (PLx x A sz (fun S' r => ∃ zz, r = .int zz ∧ Und N S S' (0 ≤ zz))) := by
  have hw := (hT _ _ _ _ hA).1
  have K2 : ∀ (d i : Nat), i + d = w → ∀ S', Tx S S' i → GL E ML_read (PLx x A sz (fun S' r => ∃ zz, r = .int zz ∧ Und N S S' (0 ≤ zz))) x S' A sz i 2 [some (.ref x), some (.ref k), some (.int (nI i))] [] := by
    intro d
    induction d with
    | zero =>
      intro i hi S' hS sh sz V cu su hA hb
      obtain rfl : i = w := by omega
      refine g_iload_n dL_read_2 rfl ?_
      refine g_aload_n dL_read_3 rfl ?_
      refine g_lStr (M := ML_read) (pc := 4) (Y := YJ0_length_8abf5) (hT _ _ _ _ hA) sv_L_94 rfl yn_J0_length_8abf5 dL_read_4 hb (lRm_of rfl (rm_c (by show _ ≤ 64; omega) (Nat.le_of_ble_eq_true rfl))) (st_len (hT _ _ _ _ hA)) rfl rfl (Nat.le_of_ble_eq_true rfl) ?_
      refine g_icmp_ge (tgt := 34) dL_read_7 (by decide) (fun _ => ?_) (fun hq => absurd (Int32.le_refl _) hq)
      obtain ⟨zz, hz, hU⟩ := u_read hS hD
      have hw2 := w_does (E := E) hA (s_read hA.2.1)
      rw [hz] at hw2
      refine g_aload_n dL_read_34 rfl ?_
      refine g_lcH 1 (M := ML_read) (pc := 35) (Y := YL_does) (gIn_SH ml_L_108 wt_L_does ini_L wc_L_does) yn_L_does dL_read_35 hb (lRm_of rfl (rm_c (by show _ ≤ 64; omega) (Nat.le_of_ble_eq_true rfl))) hw2 rfl rfl (Nat.le_of_ble_eq_true rfl) ?_
      intro sh sz V cu su hA hb
      exact g_iret rfl (nr_int _) dL_read_38 ⟨by show cu ≤ 64; omega, by show su ≤ 384; omega⟩ ⟨hb.1, _, _, hA, ⟨zz, rfl, hU⟩, rfl⟩
    | succ d ih =>
      intro i hi S' hS sh sz V cu su hA hb
      refine g_iload_n dL_read_2 rfl ?_
      refine g_aload_n dL_read_3 rfl ?_
      refine g_lStr (M := ML_read) (pc := 4) (Y := YJ0_length_8abf5) (hT _ _ _ _ hA) sv_L_94 rfl yn_J0_length_8abf5 dL_read_4 hb (lRm_of rfl (rm_c (by show _ ≤ 64; omega) (Nat.le_of_ble_eq_true rfl))) (st_len (hT _ _ _ _ hA)) rfl rfl (Nat.le_of_ble_eq_true rfl) ?_
      refine g_icmp_ge (tgt := 34) dL_read_7 (by decide) (fun hq => absurd hq (nI_ge (by omega) (by omega))) (fun _ => ?_)
      refine g_aload_n dL_read_10 rfl ?_
      refine g_aload_n dL_read_11 rfl ?_
      refine g_iload_n dL_read_12 rfl ?_
      refine g_lStrw (M := ML_read) (pc := 13) (Y := YJ0_charAt_5068e) (hT _ _ _ _ hA) sv_L_99 rfl yn_J0_charAt_5068e dL_read_13 hb (lRm_of rfl (rm_c (by show _ ≤ 64; omega) (Nat.le_of_ble_eq_true rfl))) (st_char (hT _ _ _ _ hA) (j := i) (by omega)) rfl rfl (Nat.le_of_ble_eq_true rfl) (fun c V' hQ => ?_)
      obtain ⟨rfl, c, rfl, hc⟩ := hQ
      have e : sp_append S' c = (0, .int (nI (i + 1)), (S'.1, S'.2.1, S'.2.2.1, S'.2.2.2.1, upd S'.2.2.2.2.1 S'.2.2.2.2.2.1 c, i + 1, S'.2.2.2.2.2.2)) := by
        unfold sp_append
        rw [if_pos (by rw [hS.2.2.2]; omega), hS.2.2.2]
      have h := w_append (E := E) hc hA (s_append hA.2.1)
      rw [e] at h
      refine g_lcH 1 (M := ML_read) (pc := 16) (Y := YL_append) (gIn_SH ml_L_103 wt_L_append ini_L wc_L_append) yn_L_append dL_read_16 hb (lRm_of rfl (rm_c (by show _ ≤ 64; omega) (Nat.le_of_ble_eq_true rfl))) h rfl rfl (Nat.le_of_ble_eq_true rfl) ?_
      intro sh sz V cu su hA hb
      refine g_iload_n dL_read_19 rfl ?_
      refine g_iconst (v := nI 1) dL_read_20 (by decide) ?_
      refine g_iadd dL_read_21 ?_
      rw [nI_add]
      refine g_icmp_eq (tgt := 28) dL_read_22 (by decide) (fun _ => ?_) (fun hq => absurd (rfl) hq)
      refine g_iinc dL_read_28 rfl (by first | exact nI_inc _ | rfl) (by decide) rfl ?_
      show G _ _ _ _ _ _ _ _ _ [_, _, _] _
      refine g_jump (tgt := 2) dL_read_31 (by decide) ?_
      exact (ih (i + 1) (by omega) (S'.1, S'.2.1, S'.2.2.1, S'.2.2.2.1, upd S'.2.2.2.2.1 S'.2.2.2.2.2.1 c, i + 1, S'.2.2.2.2.2.2) ⟨hS.1, hS.2.1, hS.2.2.1, rfl⟩).go hA hb (by omega)
  refine MC.of RL "read" rfl (by decide +kernel) rfl 1 [_, _, none] rfl (Nat.le_of_ble_eq_true rfl) ?_
  show G E ML_read _ _ _ _ _ _ _ _ _
  refine g_iconst (v := nI 0) dL_read_0 (by decide) ?_
  refine g_istore_n dL_read_1 (by decide) rfl ?_
  show G _ _ _ _ _ _ _ _ _ [_, _, _] _
  exact (K2 w 0 (by omega) S ⟨rfl, rfl, rfl, hl⟩).go hA ⟨Nat.le_refl _, Nat.le_refl _, Nat.le_refl _⟩ (by omega)
end LREAD2

