/-! StringBuilder and String, 1 -/
section STRM1
variable {E : gE} {sh : Sh} {sz : Nat} {V : Vl} {b t n k v w : Nat}
/-! of a String -/
theorem st_cod (hS : StrA E sh V k v w) : MC E YJ0_coder_7d493 [.ref k] sh sz V (pR (some (.int (nI 0))) sh sz V) := by
  refine MC.of RJ0 "coder" rfl (by decide +kernel) rfl 0 [_] rfl (Nat.le_of_ble_eq_true rfl) ?_
  show G E MJ0_coder_7d493 _ _ _ _ _ _ _ _ _
  refine g_comp fl_J0_38 dJ0_coder_7d493_0 ?_
  refine g_if_eq (tgt := 13) dJ0_coder_7d493_3 (by decide) (fun hq => absurd hq (by decide)) (fun _ => ?_)
  refine g_aload_n dJ0_coder_7d493_6 rfl ?_
  refine g_scod hS fl_J0_15 dJ0_coder_7d493_7 ?_
  refine g_jump (tgt := 14) dJ0_coder_7d493_10 (by decide) ?_
  exact g_iret rfl nb0 dJ0_coder_7d493_14 (by decide) ⟨rfl, rfl, rfl, rfl⟩
theorem st_lat (hS : StrA E sh V k v w) : MC E YJ0_isLatin1_aae02 [.ref k] sh sz V (pR (some (.int (nI 1))) sh sz V) := by
  refine MC.of RJ0 "isLatin1" rfl (by decide +kernel) rfl 0 [_] rfl (Nat.le_of_ble_eq_true rfl) ?_
  show G E MJ0_isLatin1_aae02 _ _ _ _ _ _ _ _ _
  refine g_comp fl_J0_38 dJ0_isLatin1_aae02_0 ?_
  refine g_if_eq (tgt := 17) dJ0_isLatin1_aae02_3 (by decide) (fun hq => absurd hq (by decide)) (fun _ => ?_)
  refine g_aload_n dJ0_isLatin1_aae02_6 rfl ?_
  refine g_scod hS fl_J0_15 dJ0_isLatin1_aae02_7 ?_
  refine g_if_ne (tgt := 17) dJ0_isLatin1_aae02_10 (by decide) (fun hq => absurd hq (by decide)) (fun _ => ?_)
  refine g_iconst (v := nI 1) dJ0_isLatin1_aae02_13 (by decide) ?_
  refine g_jump (tgt := 18) dJ0_isLatin1_aae02_14 (by decide) ?_
  exact g_iret rfl nz1 dJ0_isLatin1_aae02_18 (by decide) ⟨rfl, rfl, rfl, rfl⟩
theorem st_len (hS : StrA E sh V k v w) : MC E YJ0_length_8abf5 [.ref k] sh sz V (pR (some (.int (nI w))) sh sz V) := by
  have hw := hS.1
  refine MC.of RJ0 "length" rfl (by decide +kernel) rfl 0 [_] rfl (Nat.le_of_ble_eq_true rfl) ?_
  show G E MJ0_length_8abf5 _ _ _ _ _ _ _ _ _
  refine g_aload_n dJ0_length_8abf5_0 rfl ?_
  refine g_sval hS fl_J0_9 dJ0_length_8abf5_1 ?_
  refine g_slenS hS dJ0_length_8abf5_4 ?_
  refine g_aload_n dJ0_length_8abf5_5 rfl ?_
  refine g_scallVp (Y := YJ0_coder_7d493) hS sv_J0_335 rfl yn_J0_coder_7d493 dJ0_length_8abf5_6 (st_cod hS) rfl rfl rfl (Nat.le_of_ble_eq_true rfl) ⟨rfl, rfl⟩ ?_
  refine g_ishr dJ0_length_8abf5_9 ?_
  rw [shr60 w (by omega)]
  exact g_iret rfl (nr_int _) dJ0_length_8abf5_10 (by decide) ⟨rfl, rfl, rfl, rfl⟩
theorem st_chk3 {j : Nat} {z : Value} (hz : z = .null ∨ ∃ a, z = .ref a) (hj : j < w) (hw : w ≤ 60) : MC E YJ3_checkIndex_8e157 [.int (nI j), .int (nI w), z] sh sz V (pR (some (.int (nI j))) sh sz V) := by
  rcases hz with rfl | ⟨a, rfl⟩
  · refine MC.of RJ3 "checkIndex" rfl (by decide +kernel) rfl 0 [_, _, _] rfl (Nat.le_of_ble_eq_true rfl) ?_
    show G E MJ3_checkIndex_8e157 _ _ _ _ _ _ _ _ _
    refine g_iload_n dJ3_checkIndex_8e157_0 rfl ?_
    refine g_if_lt (tgt := 9) dJ3_checkIndex_8e157_1 (by decide) (fun hq => absurd hq (nI_pos (by omega))) (fun _ => ?_)
    refine g_iload_n dJ3_checkIndex_8e157_4 rfl ?_
    refine g_iload_n dJ3_checkIndex_8e157_5 rfl ?_
    refine g_icmp_lt (tgt := 16) dJ3_checkIndex_8e157_6 (by decide) (fun _ => ?_) (fun hq => absurd (nI_lt hj (by omega)) hq)
    refine g_iload_n dJ3_checkIndex_8e157_16 rfl ?_
    exact g_iret rfl (nr_int _) dJ3_checkIndex_8e157_17 (by decide) ⟨rfl, rfl, rfl, rfl⟩
  · refine MC.of RJ3 "checkIndex" rfl (by decide +kernel) rfl 0 [_, _, _] rfl (Nat.le_of_ble_eq_true rfl) ?_
    show G E MJ3_checkIndex_8e157 _ _ _ _ _ _ _ _ _
    refine g_iload_n dJ3_checkIndex_8e157_0 rfl ?_
    refine g_if_lt (tgt := 9) dJ3_checkIndex_8e157_1 (by decide) (fun hq => absurd hq (nI_pos (by omega))) (fun _ => ?_)
    refine g_iload_n dJ3_checkIndex_8e157_4 rfl ?_
    refine g_iload_n dJ3_checkIndex_8e157_5 rfl ?_
    refine g_icmp_lt (tgt := 16) dJ3_checkIndex_8e157_6 (by decide) (fun _ => ?_) (fun hq => absurd (nI_lt hj (by omega)) hq)
    refine g_iload_n dJ3_checkIndex_8e157_16 rfl ?_
    exact g_iret rfl (nr_int _) dJ3_checkIndex_8e157_17 (by decide) ⟨rfl, rfl, rfl, rfl⟩
theorem st_chk {j : Nat} (hj : j < w) (hw : w ≤ 60) : MC E YJ0_checkIndex_df160 [.int (nI j), .int (nI w)] sh sz V (pR none sh sz V) := by
  refine MC.of RJ0 "checkIndex" rfl (by decide +kernel) rfl 0 [_, _] rfl (Nat.le_of_ble_eq_true rfl) ?_
  show G E MJ0_checkIndex_df160 _ _ _ _ _ _ _ _ _
  refine g_iload_n dJ0_checkIndex_df160_0 rfl ?_
  refine g_iload_n dJ0_checkIndex_df160_1 rfl ?_
  refine g_sio fl_J0_1053 dJ0_checkIndex_df160_2 fun z hz => ?_
  refine g_callSp (Y := YJ3_checkIndex_8e157) ss_J0_1059 yn_J3_checkIndex_8e157 dJ0_checkIndex_df160_5 (st_chk3 hz hj hw) rfl rfl rfl (Nat.le_of_ble_eq_true rfl) ⟨rfl, rfl⟩ ?_
  refine g_pop dJ0_checkIndex_df160_8 rfl ?_
  exact g_vret rfl dJ0_checkIndex_df160_9 (by decide) ⟨rfl, rfl, rfl, rfl⟩
/-- a void static call that changes nothing -/
theorem g_callSn {M : gM} {P : gP} {cu su pc : Nat} {L : List (Option Value)} {rest : List Value} {Y : gY} {idx n : Nat} {As S : List Value} (hs : GoodIn gW (va_wsS M.2.2.1 idx Y.1 (Cond.code Y.1 Y.2.1 Y.2.2.1 Y.2.2.2.1 :: gW))) (hy : gName Y.1 n) (hdg : decode M.1 pc = .ok (.invokestatic idx, 3))
    (hc : MC E Y As sh sz V (pR none sh sz V)) (hn : As.length = n) (hS : S = As.reverse ++ rest) (hroom : gRoomB Y M cu su = true) (hcat : (rest.map fun v => v.category).sum ≤ 8) (h0 : Y.2.2.2.2.cells = 0 ∧ Y.2.2.2.2.slots = 0)
    (kk : G E M P sh sz V cu su (pc + 3) L rest) : G E M P sh sz V cu su pc L S :=
  g_callS hs hy hdg hc hn hS (gRoom_of hroom) hcat (fun _ _ _ _ h => Nat.le_of_eq h.2.2.1.symm) (fun v' sh' sz' V' h => by obtain ⟨h1, rfl, rfl, rfl⟩ := h; cases h1; rw [h0.1, h0.2]; exact kk) (fun _ _ _ _ h => nomatch h.1)
theorem st_char1 {j : Nat} (hS : StrA E sh V k v w) (hj : j < w) : MC E YJ1_charAt_3b067 [.ref v, .int (nI j)] sh sz V (pW (fun c V' => V' = V ∧ ∃ z, c = .int z ∧ vp_nar .char z = z) sh sz) := by
  have hw := hS.1
  refine MC.of RJ1 "charAt" rfl (by decide +kernel) rfl 0 [_, _] rfl (Nat.le_of_ble_eq_true rfl) ?_
  show G E MJ1_charAt_3b067 _ _ _ _ _ _ _ _ _
  refine g_iload_n dJ1_charAt_3b067_0 rfl ?_
  refine g_aload_n dJ1_charAt_3b067_1 rfl ?_
  refine g_slenS hS dJ1_charAt_3b067_2 ?_
  refine g_callSn (Y := YJ0_checkIndex_df160) ss_J1_9 yn_J0_checkIndex_df160 dJ1_charAt_3b067_3 (st_chk hj hw) rfl rfl rfl (Nat.le_of_ble_eq_true rfl) ⟨rfl, rfl⟩ ?_
  refine g_aload_n dJ1_charAt_3b067_6 rfl ?_
  refine g_iload_n dJ1_charAt_3b067_7 rfl ?_
  refine g_sbald hS hj dJ1_charAt_3b067_8 fun y => ?_
  refine g_sipush (v := nI 255) dJ1_charAt_3b067_9 (by decide) ?_
  refine g_iand dJ1_charAt_3b067_12 ?_
  refine g_i2c dJ1_charAt_3b067_13 rfl ?_
  exact g_iret rfl (char_nr (char_idem _)) dJ1_charAt_3b067_14 (by decide) ⟨_, rfl, rfl, rfl, rfl, _, rfl, char_idem _⟩
theorem st_char {j : Nat} (hS : StrA E sh V k v w) (hj : j < w) : MC E YJ0_charAt_5068e [.ref k, .int (nI j)] sh sz V (pW (fun c V' => V' = V ∧ ∃ z, c = .int z ∧ vp_nar .char z = z) sh sz) := by
  refine MC.of RJ0 "charAt" rfl (by decide +kernel) rfl 0 [_, _] rfl (Nat.le_of_ble_eq_true rfl) ?_
  show G E MJ0_charAt_5068e _ _ _ _ _ _ _ _ _
  refine g_aload_n dJ0_charAt_5068e_0 rfl ?_
  refine g_scallVp (Y := YJ0_isLatin1_aae02) hS sv_J0_492 rfl yn_J0_isLatin1_aae02 dJ0_charAt_5068e_1 (st_lat hS) rfl rfl rfl (Nat.le_of_ble_eq_true rfl) ⟨rfl, rfl⟩ ?_
  refine g_if_eq (tgt := 16) dJ0_charAt_5068e_4 (by decide) (fun hq => absurd hq (by decide)) (fun _ => ?_)
  refine g_aload_n dJ0_charAt_5068e_7 rfl ?_
  refine g_sval hS fl_J0_9 dJ0_charAt_5068e_8 ?_
  refine g_iload_n dJ0_charAt_5068e_11 rfl ?_
  refine g_callSw (Y := YJ1_charAt_3b067) ss_J0_495 yn_J1_charAt_3b067 dJ0_charAt_5068e_12 (st_char1 hS hj) rfl rfl rfl (Nat.le_of_ble_eq_true rfl) ⟨rfl, rfl⟩ (fun c V' hq => ?_)
  obtain ⟨rfl, z, rfl, hz⟩ := hq
  exact g_iret rfl (char_nr hz) dJ0_charAt_5068e_15 (by decide) ⟨_, rfl, rfl, rfl, rfl, _, rfl, hz⟩
end STRM1

