/-! StringBuilder and String, 3 -/
section STRM3
variable {E : gE} {sh : Sh} {sz : Nat} {V : Vl} {b t n k v w : Nat}
/-! appending a number -/
theorem dg_1 : ∀ d, d < 100 → (¬ (-nI d : Int32) ≤ nI 10 * (-10)) ∧ ((-nI d : Int32) ≤ (-10) ↔ 10 ≤ d) ∧ ((-9 : Int32) ≤ -nI d ↔ d ≤ 9) ∧ (-100 : Int32) < -nI d ∧ (- -nI d : Int32) = nI d := by decide +kernel
def dgN (d : Nat) : Nat := if d < 10 then 1 else 2
theorem i_size {d : Nat} (hd : d < 100) : MC E YJ6_stringSize_0f7a4 [.int (nI d)] sh sz V (pR (some (.int (nI (dgN d)))) sh sz V) := by
  obtain ⟨a1, a2, a3, a4, a5⟩ := dg_1 d hd
  refine MC.of RJ6 "stringSize" rfl (by decide +kernel) rfl 3 [_, none, none, none] rfl (Nat.le_of_ble_eq_true rfl) ?_
  show G E MJ6_stringSize_0f7a4 _ _ _ _ _ _ _ _ _
  refine g_iconst (v := nI 1) dJ6_stringSize_0f7a4_0 (by decide) ?_
  refine g_istore_n dJ6_stringSize_0f7a4_1 (by decide) rfl ?_
  show G _ _ _ _ _ _ _ _ _ [_, _, _, _] _
  refine g_iload_n dJ6_stringSize_0f7a4_2 rfl ?_
  refine g_if_lt (tgt := 11) dJ6_stringSize_0f7a4_3 (by decide) (fun hq => absurd hq (nI_pos (by omega))) (fun _ => ?_)
  refine g_iconst (v := nI 0) dJ6_stringSize_0f7a4_6 (by decide) ?_
  refine g_istore_n dJ6_stringSize_0f7a4_7 (by decide) rfl ?_
  show G _ _ _ _ _ _ _ _ _ [_, _, _, _] _
  refine g_iload_n dJ6_stringSize_0f7a4_8 rfl ?_
  refine g_ineg dJ6_stringSize_0f7a4_9 ?_
  refine g_istore_n dJ6_stringSize_0f7a4_10 (by decide) rfl ?_
  show G _ _ _ _ _ _ _ _ _ [_, _, _, _] _
  refine g_bipush (v := (-10)) dJ6_stringSize_0f7a4_11 (by decide) ?_
  refine g_istore_n dJ6_stringSize_0f7a4_13 (by decide) rfl ?_
  show G _ _ _ _ _ _ _ _ _ [_, _, _, _] _
  refine g_iconst (v := nI 1) dJ6_stringSize_0f7a4_14 (by decide) ?_
  refine g_istore_n dJ6_stringSize_0f7a4_15 (by decide) rfl ?_
  show G _ _ _ _ _ _ _ _ _ [_, _, _, _] _
  refine g_iload_n dJ6_stringSize_0f7a4_16 rfl ?_
  refine g_bipush (v := nI 10) dJ6_stringSize_0f7a4_17 (by decide) ?_
  refine g_icmp_ge (tgt := 42) dJ6_stringSize_0f7a4_19 (by decide) (fun hq => absurd hq (by decide)) (fun _ => ?_)
  refine g_iload_n dJ6_stringSize_0f7a4_22 rfl ?_
  refine g_iload_n dJ6_stringSize_0f7a4_23 rfl ?_
  refine g_icmp_le (tgt := 31) dJ6_stringSize_0f7a4_24 (by decide) (fun h => ?_) (fun h => ?_)
  · have e : dgN d = 2 := by
      unfold dgN
      rw [if_neg (by have := a2.mp h; omega)]
    rw [e]
    refine g_bipush (v := nI 10) dJ6_stringSize_0f7a4_31 (by decide) ?_
    refine g_iload_n dJ6_stringSize_0f7a4_33 rfl ?_
    refine g_imul dJ6_stringSize_0f7a4_34 ?_
    refine g_istore_n dJ6_stringSize_0f7a4_35 (by decide) rfl ?_
    show G _ _ _ _ _ _ _ _ _ [_, _, _, _] _
    refine g_iinc dJ6_stringSize_0f7a4_36 rfl (by first | exact nI_inc _ | rfl) (by decide) rfl ?_
    show G _ _ _ _ _ _ _ _ _ [_, _, _, _] _
    refine g_jump (tgt := 16) dJ6_stringSize_0f7a4_39 (by decide) ?_
    refine g_iload_n dJ6_stringSize_0f7a4_16 rfl ?_
    refine g_bipush (v := nI 10) dJ6_stringSize_0f7a4_17 (by decide) ?_
    refine g_icmp_ge (tgt := 42) dJ6_stringSize_0f7a4_19 (by decide) (fun hq => absurd hq (by decide)) (fun _ => ?_)
    refine g_iload_n dJ6_stringSize_0f7a4_22 rfl ?_
    refine g_iload_n dJ6_stringSize_0f7a4_23 rfl ?_
    refine g_icmp_le (tgt := 31) dJ6_stringSize_0f7a4_24 (by decide) (fun hq => absurd hq (a1)) (fun _ => ?_)
    refine g_iload_n dJ6_stringSize_0f7a4_27 rfl ?_
    refine g_iload_n dJ6_stringSize_0f7a4_28 rfl ?_
    refine g_iadd dJ6_stringSize_0f7a4_29 ?_
    exact g_iret rfl (nr_int _) dJ6_stringSize_0f7a4_30 (by decide) ⟨rfl, rfl, rfl, rfl⟩
  · have e : dgN d = 1 := by
      unfold dgN
      rw [if_pos (by
        rcases Nat.lt_or_ge d 10 with q | q
        · exact q
        · exact absurd (a2.mpr q) h)]
    rw [e]
    refine g_iload_n dJ6_stringSize_0f7a4_27 rfl ?_
    refine g_iload_n dJ6_stringSize_0f7a4_28 rfl ?_
    refine g_iadd dJ6_stringSize_0f7a4_29 ?_
    exact g_iret rfl (nr_int _) dJ6_stringSize_0f7a4_30 (by decide) ⟨rfl, rfl, rfl, rfl⟩
theorem nI_dec {e : Nat} (h : 1 ≤ e) : nI e + Int32.ofInt (-1) = nI (e - 1) := by
  have : nI (e - 1) + Int32.ofInt 1 = nI (e - 1 + 1) := nI_inc _
  rw [Nat.sub_add_cancel h] at this
  rw [← this, Int32.add_assoc, show (Int32.ofInt 1 + Int32.ofInt (-1) : Int32) = 0 by decide, Int32.add_zero]
theorem KI.ones {s : State} (h : KI E s) : ∃ t : Nat, va_Z "java/lang/Integer" "DigitOnes" "[B" (.ref t) (gN E) s E.2.2.1 ∧ va_T .byte t 100 (fun j => .int (nI (48 + j % 10))) (gN E) s E.2.2.1 := h.2.2.2.2.2.2.2.1.1.2.2.1
theorem KI.tens {s : State} (h : KI E s) : ∃ t : Nat, va_Z "java/lang/Integer" "DigitTens" "[B" (.ref t) (gN E) s E.2.2.1 ∧ va_T .byte t 100 (fun j => .int (nI (48 + j / 10))) (gN E) s E.2.2.1 := h.2.2.2.2.2.2.2.1.1.2.2.2.1
theorem i_chars {d e : Nat} (hd : d < 100) (ht : sh t = (23, 16)) (hB : Byf V t 16) (he : dgN d ≤ e) (he2 : e ≤ 16) : MC E YJ6_getChars_ba4f3 [.int (nI d), .int (nI e), .ref t] sh sz V (pW (fun r V' => (∃ z, r = .int z) ∧ Byf V' t 16 ∧ ∀ q, q ≠ t → V' q = V q) sh sz) := by
  obtain ⟨a1, a2, a3, a4, a5⟩ := dg_1 d hd
  have e1 : 1 ≤ e := by
    unfold dgN at he
    split at he <;> omega
  refine MC.of RJ6 "getChars" rfl (by decide +kernel) rfl 4 [_, _, _, none, none, none, none] rfl (Nat.le_of_ble_eq_true rfl) ?_
  show G E MJ6_getChars_ba4f3 _ _ _ _ _ _ _ _ _
  refine g_iload_n dJ6_getChars_ba4f3_0 rfl ?_
  refine g_istore dJ6_getChars_ba4f3_1 (by decide) rfl ?_
  show G _ _ _ _ _ _ _ _ _ [_, _, _, _, _, _, _] _
  refine g_iload_n dJ6_getChars_ba4f3_3 rfl ?_
  refine g_if_ge (tgt := 11) dJ6_getChars_ba4f3_4 (by decide) (fun _ => ?_) (fun hq => absurd (nI_pos' (by omega)) hq)
  refine g_iconst (v := nI 0) dJ6_getChars_ba4f3_11 (by decide) ?_
  refine g_istore dJ6_getChars_ba4f3_12 (by decide) rfl ?_
  show G _ _ _ _ _ _ _ _ _ [_, _, _, _, _, _, _] _
  refine g_iload dJ6_getChars_ba4f3_14 rfl ?_
  refine g_if_ne (tgt := 22) dJ6_getChars_ba4f3_16 (by decide) (fun hq => absurd hq (fun h => h rfl)) (fun _ => ?_)
  refine g_iload_n dJ6_getChars_ba4f3_19 rfl ?_
  refine g_ineg dJ6_getChars_ba4f3_20 ?_
  refine g_istore_n dJ6_getChars_ba4f3_21 (by decide) rfl ?_
  show G _ _ _ _ _ _ _ _ _ [_, _, _, _, _, _, _] _
  refine g_iload_n dJ6_getChars_ba4f3_22 rfl ?_
  refine g_bipush (v := (-100)) dJ6_getChars_ba4f3_23 (by decide) ?_
  refine g_icmp_gt (tgt := 72) dJ6_getChars_ba4f3_25 (by decide) (fun _ => ?_) (fun hq => absurd (a4) hq)
  refine g_aload_n dJ6_getChars_ba4f3_72 rfl ?_
  refine g_iinc dJ6_getChars_ba4f3_73 rfl rfl (by decide) rfl ?_
  show G _ _ _ _ _ _ _ _ _ [_, _, _, _, _, _, _] _
  refine g_iload dJ6_getChars_ba4f3_76 rfl ?_
  rw [nI_dec e1]
  refine g_dig fl_J6_83 (fun s hK => hK.ones) dJ6_getChars_ba4f3_78 dJ6_getChars_ba4f3_81 rfl dJ6_getChars_ba4f3_82 a5 hd dJ6_getChars_ba4f3_83 ?_
  refine g_bastore dJ6_getChars_ba4f3_84 ht (vp_in_nI (by omega) (by omega)) ?_
  rw [nI_clamp (by omega)]
  refine g_iload_n dJ6_getChars_ba4f3_85 rfl ?_
  refine g_bipush (v := (-9)) dJ6_getChars_ba4f3_86 (by decide) ?_
  refine g_icmp_ge (tgt := 104) dJ6_getChars_ba4f3_88 (by decide) (fun h => ?_) (fun h => ?_)
  · refine g_iload dJ6_getChars_ba4f3_104 rfl ?_
    refine g_if_eq (tgt := 118) dJ6_getChars_ba4f3_106 (by decide) (fun _ => ?_) (fun hq => absurd (rfl) hq)
    refine g_iload dJ6_getChars_ba4f3_118 rfl ?_
    exact g_iret rfl (nr_int _) dJ6_getChars_ba4f3_120 (by decide) ⟨_, rfl, rfl, rfl, ⟨_, rfl⟩, hB.set _ _, fun q hq => hu_ne _ _ _ hq⟩
  · have e2 : 2 ≤ e := by
      unfold dgN at he
      rw [if_neg (fun q => h (a3.mpr (by omega)))] at he
      exact he
    refine g_aload_n dJ6_getChars_ba4f3_91 rfl ?_
    refine g_iinc dJ6_getChars_ba4f3_92 rfl rfl (by decide) rfl ?_
    show G _ _ _ _ _ _ _ _ _ [_, _, _, _, _, _, _] _
    refine g_iload dJ6_getChars_ba4f3_95 rfl ?_
    rw [nI_dec (by omega)]
    refine g_dig fl_J6_87 (fun s hK => hK.tens) dJ6_getChars_ba4f3_97 dJ6_getChars_ba4f3_100 rfl dJ6_getChars_ba4f3_101 a5 hd dJ6_getChars_ba4f3_102 ?_
    refine g_bastore dJ6_getChars_ba4f3_103 ht (vp_in_nI (by omega) (by omega)) ?_
    rw [nI_clamp (by omega)]
    refine g_iload dJ6_getChars_ba4f3_104 rfl ?_
    refine g_if_eq (tgt := 118) dJ6_getChars_ba4f3_106 (by decide) (fun _ => ?_) (fun hq => absurd (rfl) hq)
    refine g_iload dJ6_getChars_ba4f3_118 rfl ?_
    exact g_iret rfl (nr_int _) dJ6_getChars_ba4f3_120 (by decide) ⟨_, rfl, rfl, rfl, ⟨_, rfl⟩, (hB.set _ _).set _ _, fun q hq => by rw [hu_ne _ _ _ hq, hu_ne _ _ _ hq]⟩
theorem sb_num5 {d : Nat} (hP : SbP sh V b t n) (hd : d < 100) (hnw : n + dgN d ≤ 16) : MC E YJ5_append_c97b9 [.ref b, .int (nI d)] sh sz V (pW (fun r V' => r = .ref b ∧ SbP sh V' b t (n + dgN d) ∧ Oth b t V V') sh sz) := by
  have hP0 := hP
  obtain ⟨h0, hb, h1, h2, h3, h4, h5⟩ := hP
  refine MC.of RJ5 "append" rfl (by decide +kernel) rfl 2 [_, _, none, none] rfl (Nat.le_of_ble_eq_true rfl) ?_
  show G E MJ5_append_c97b9 _ _ _ _ _ _ _ _ _
  refine g_aload_n dJ5_append_c97b9_0 rfl ?_
  refine g_get 9 rfl (by decide) inJ4 3 (by decide) fl_J5_79 dJ5_append_c97b9_1 hb h3 ?_
  refine g_istore_n dJ5_append_c97b9_4 (by decide) rfl ?_
  show G _ _ _ _ _ _ _ _ _ [_, _, _, _] _
  refine g_iload_n dJ5_append_c97b9_5 rfl ?_
  refine g_iload_n dJ5_append_c97b9_6 rfl ?_
  refine g_callSp (Y := YJ6_stringSize_0f7a4) ss_J5_245 yn_J6_stringSize_0f7a4 dJ5_append_c97b9_7 (i_size hd) rfl rfl rfl (Nat.le_of_ble_eq_true rfl) ⟨rfl, rfl⟩ ?_
  refine g_iadd dJ5_append_c97b9_10 ?_
  refine g_istore_n dJ5_append_c97b9_11 (by decide) rfl ?_
  show G _ _ _ _ _ _ _ _ _ [_, _, _, _] _
  refine g_aload_n dJ5_append_c97b9_12 rfl ?_
  refine g_iload_n dJ5_append_c97b9_13 rfl ?_
  rw [nI_add]
  refine g_callUn (Y := YJ5_ensureCapacityInternal_d00df) (gIn_U ml_J5_100 wsm_J5_ensureCapacityInternal_d00df wse_J5_ensureCapacityInternal_d00df wi_J5_ensureCapacityInternal_d00df ini_J5 wc_J5_ensureCapacityInternal_d00df) rfl yd_J5_ensureCapacityInternal_d00df 9 (by decide) rfl rfl dJ5_append_c97b9_14 (sb_ens hP0 hnw) hb rfl rfl rfl (Nat.le_of_ble_eq_true rfl) ⟨rfl, rfl⟩ ?_
  refine g_aload_n dJ5_append_c97b9_17 rfl ?_
  refine g_callUp (Y := YJ5_isLatin1_aae02) (gIn_U ml_J5_83 wsm_J5_isLatin1_aae02 wse_J5_isLatin1_aae02 wi_J5_isLatin1_aae02 ini_J5 wc_J5_isLatin1_aae02) rfl yd_J5_isLatin1_aae02 9 (by decide) rfl rfl dJ5_append_c97b9_18 (sb_lat hb h2) hb rfl rfl rfl (Nat.le_of_ble_eq_true rfl) ⟨rfl, rfl⟩ ?_
  refine g_if_eq (tgt := 37) dJ5_append_c97b9_21 (by decide) (fun hq => absurd hq (by decide)) (fun _ => ?_)
  refine g_iload_n dJ5_append_c97b9_24 rfl ?_
  refine g_iload_n dJ5_append_c97b9_25 rfl ?_
  refine g_aload_n dJ5_append_c97b9_26 rfl ?_
  refine g_get 9 rfl (by decide) inJ4 0 (by decide) fl_J5_15 dJ5_append_c97b9_27 hb h1 ?_
  refine g_callSw (Y := YJ6_getChars_ba4f3) ss_J5_248 yn_J6_getChars_ba4f3 dJ5_append_c97b9_30 (i_chars hd h4 h5 (Nat.le_add_left _ _) hnw) rfl rfl rfl (Nat.le_of_ble_eq_true rfl) ⟨rfl, rfl⟩ (fun r V' hQ => ?_)
  obtain ⟨⟨z, rfl⟩, hB, hO⟩ := hQ
  refine g_pop dJ5_append_c97b9_33 rfl ?_
  refine g_jump (tgt := 48) dJ5_append_c97b9_34 (by decide) ?_
  refine g_aload_n dJ5_append_c97b9_48 rfl ?_
  refine g_iload_n dJ5_append_c97b9_49 rfl ?_
  refine g_put 9 rfl (by decide) inJ4 tyJ4 tyJ4_ok nmJ4 3 (by decide) fl_J5_79 rfl dJ5_append_c97b9_50 hb rfl rfl ?_
  refine g_aload_n dJ5_append_c97b9_53 rfl ?_
  exact g_aret rfl (Or.inl ⟨_, rfl⟩) (Or.inr ⟨_, rfl⟩) dJ5_append_c97b9_54 (by decide) ⟨_, rfl, rfl, rfl, rfl, ⟨h0, hb, by rw [hu_at_ne _ _ _ (by decide), hO b h0]; exact h1, by rw [hu_at_ne _ _ _ (by decide), hO b h0]; exact h2, hu_at _ _ _ _, h4, by unfold Byf at hB ⊢; rw [hu_ne _ _ _ (Ne.symm h0)]; exact hB⟩, fun q q1 q2 => by rw [hu_ne _ _ _ q1, hO q q2]⟩
theorem sb_num {d : Nat} (hP : SbP sh V b t n) (hd : d < 100) (hnw : n + dgN d ≤ 16) : MC E YJ4_append_bf812 [.ref b, .int (nI d)] sh sz V (pW (fun r V' => r = .ref b ∧ SbP sh V' b t (n + dgN d) ∧ Oth b t V V') sh sz) := by
  refine MC.of RJ4 "append" rfl (by decide +kernel) rfl 0 [_, _] rfl (Nat.le_of_ble_eq_true rfl) ?_
  show G E MJ4_append_bf812 _ _ _ _ _ _ _ _ _
  refine g_aload_n dJ4_append_bf812_0 rfl ?_
  refine g_iload_n dJ4_append_bf812_1 rfl ?_
  refine g_callSw2 (Y := YJ5_append_c97b9) (gIn_SU ml_J4_53 wsm_J5_append_c97b9 wsup_J4 wi_J5_append_c97b9 ini_J5 wc_J5_append_c97b9) yd2_J5_append_c97b9 9 (by decide) rfl rfl dJ4_append_bf812_2 (sb_num5 hP hd hnw) hP.2.1 rfl rfl rfl (Nat.le_of_ble_eq_true rfl) ⟨rfl, rfl⟩ (fun r V' hQ => ?_)
  obtain ⟨rfl, hQ⟩ := hQ
  refine g_pop dJ4_append_bf812_5 rfl ?_
  refine g_aload_n dJ4_append_bf812_6 rfl ?_
  exact g_aret rfl (Or.inl ⟨_, rfl⟩) (Or.inr ⟨_, rfl⟩) dJ4_append_bf812_7 (by decide) ⟨_, rfl, rfl, rfl, rfl, hQ⟩
end STRM3

