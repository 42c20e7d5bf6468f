/-! StringBuilder's and String's methods: lengths alone -/
section STRM
variable {E : gE} {sh : Sh} {sz : Nat} {V : Vl} {b t n k v w : Nat}
theorem nar_fit (x : Int32) : fits .byte (.int (vp_nar .byte x)) = true := by
  rw [vp_nar_byte]
  show (decide ((-128 : Int32) ≤ x.toInt8.toInt32) && decide (x.toInt8.toInt32 ≤ 127)) = true
  have h1 := Int8.le_toInt x.toInt8
  have h2 := Int8.toInt_lt x.toInt8
  have e : x.toInt8.toInt32.toInt = x.toInt8.toInt := by simp
  rw [Bool.and_eq_true]
  refine ⟨decide_eq_true (Int32.le_iff_toInt_le.mpr ?_), decide_eq_true (Int32.le_iff_toInt_le.mpr ?_)⟩
  · rw [e, show (-128 : Int32).toInt = -128 by decide]
    omega
  · rw [e, show (127 : Int32).toInt = 127 by decide]
    omega
theorem char_idem (x : Int32) : vp_nar .char ((x.toUInt32 % 65536).toInt32) = (x.toUInt32 % 65536).toInt32 := by
  rw [vp_nar_char]
  apply Int32.toUInt32_inj.mp
  apply UInt32.toNat_inj.mp
  simp
theorem char_nr {z : Int32} (h : vp_nar .char z = z) : narrow .char (.int z) = .int z := by
  have e : narrow .char (.int z) = .int (vp_nar .char z) := by rw [vp_nar_char]; rfl
  rw [e, h]
theorem nb0 : narrow .byte (.int (nI 0)) = .int (nI 0) := by decide +kernel
theorem fb0 : fits .byte (.int (nI 0)) = true := by decide +kernel
theorem shl16 : ∀ n, n < 17 → (nI n <<< (nI 0 &&& 31) : Int32) = nI n := by decide +kernel
theorem shr60 : ∀ n, n < 61 → (nI n >>> (nI 0 &&& 31) : Int32) = nI n := by decide +kernel
theorem sub16 : ∀ n, n < 17 → (nI n - nI 16 : Int32) ≤ 0 := by decide +kernel
/-- an array of bytes of the claim's own -/
def Byf (V : Vl) (t n : Nat) : Prop := ∃ g : Nat → Int32, V t = (fun j => .int (g j)) ∧ ∀ j, j < n → fits .byte (.int (g j)) = true
theorem Byf.set {V : Vl} {t n : Nat} (h : Byf V t n) (k : Nat) (x : Int32) : Byf (hu V t k (.int (vp_nar .byte x))) t n := by
  obtain ⟨g, h1, h2⟩ := h
  refine ⟨fun j => if j = k then vp_nar .byte x else g j, ?_, fun j hj => ?_⟩
  · unfold hu
    rw [if_pos rfl, h1]
    funext j
    unfold updV
    split <;> rfl
  · show fits .byte (.int (if j = k then vp_nar .byte x else g j)) = true
    split
    · exact nar_fit x
    · exact h2 j hj
/-- a StringBuilder whose bytes lie at t -/
def SbP (sh : Sh) (V : Vl) (b t n : Nat) : Prop := b ≠ t ∧ (sh b).1 = 10 ∧ V b 0 = .ref t ∧ V b 1 = .int (nI 0) ∧ V b 3 = .int (nI n) ∧ sh t = (23, 16) ∧ Byf V t 16
theorem SbP.keep {V' : Vl} (h : SbP sh V b t n) (h1 : V' b = V b) (h2 : V' t = V t) : SbP sh V' b t n := by
  obtain ⟨a1, a2, a3, a4, a5, a6, a7⟩ := h
  refine ⟨a1, a2, by rw [h1]; exact a3, by rw [h1]; exact a4, by rw [h1]; exact a5, a6, ?_⟩
  unfold Byf at a7 ⊢
  rw [h2]
  exact a7
/-- nothing but the builder and its bytes has changed -/
def Oth (b t : Nat) (V V' : Vl) : Prop := ∀ q, q ≠ b → q ≠ t → V' q = V q
theorem StrA.keep {V' : Vl} (h : StrA E sh V k v w) (h1 : V' k = V k) (h2 : V' v = V v) : StrA E sh V' k v w := by
  obtain ⟨h0, h | ⟨a1, a2, a3, a4, a5⟩⟩ := h
  · exact ⟨h0, Or.inl h⟩
  · exact ⟨h0, Or.inr ⟨a1, by rw [h1]; exact a2, by rw [h1]; exact a3, a4, fun j hj => by rw [h2]; exact a5 j hj⟩⟩
/-! making one -/
theorem sb_init5 (hb : (sh b).1 = 10) (hlt : b < sz) : MC E YJ5_init_d00df [.ref b, .int (nI 16)] sh sz V (fun o sh' sz' V' => o = .inl none ∧ sh' = hs sh sz (23, 16) ∧ sz' = sz + 1 ∧ V' = hu (hu (hn V sz (fun _ => .int (nI 0))) b 0 (.ref sz)) b 1 (.int (nI 0))) := by
  have hb' : (hs sh sz (23, 16) b).1 = 10 := by
    rw [hs_ne _ _ (by omega)]
    exact hb
  refine MC.of RJ5 "<init>" rfl (by decide +kernel) rfl 0 [_, _] rfl (Nat.le_of_ble_eq_true rfl) ?_
  show G E MJ5_init_d00df _ _ _ _ _ _ _ _ _
  refine g_aload_n dJ5_init_d00df_0 rfl ?_
  refine g_objInit ml_J5_3 obj_inst obj_code dJ5_init_d00df_1 (Nat.le_of_ble_eq_true rfl) (Nat.le_of_ble_eq_true rfl) ?_
  refine g_comp fl_J5_18 dJ5_init_d00df_4 ?_
  refine g_if_eq (tgt := 25) dJ5_init_d00df_7 (by decide) (fun hq => absurd hq (by decide)) (fun _ => ?_)
  refine g_aload_n dJ5_init_d00df_10 rfl ?_
  refine g_iload_n dJ5_init_d00df_11 rfl ?_
  refine g_newa 23 (atype := .byte) rfl (by decide) (by decide) arr_byte 16 (by decide) (by decide) (Nat.le_of_ble_eq_true rfl) dJ5_init_d00df_12 (by decide) ?_
  refine g_put 9 rfl (by decide) inJ4 tyJ4 tyJ4_ok nmJ4 0 (by decide) fl_J5_15 rfl dJ5_init_d00df_14 hb' rfl rfl ?_
  refine g_aload_n dJ5_init_d00df_17 rfl ?_
  refine g_iconst (v := nI 0) dJ5_init_d00df_18 (by decide) ?_
  refine g_put 9 rfl (by decide) inJ4 tyJ4 tyJ4_ok nmJ4 1 (by decide) fl_J5_22 rfl dJ5_init_d00df_19 hb' nb0 fb0 ?_
  refine g_jump (tgt := 38) dJ5_init_d00df_22 (by decide) ?_
  exact g_vret rfl dJ5_init_d00df_38 (by decide) ⟨rfl, rfl, rfl, rfl⟩
theorem sb_init (hb : (sh b).1 = 10) (hlt : b < sz) : MC E YJ4_init_da8c8 [.ref b] sh sz V (fun o sh' sz' V' => o = .inl none ∧ sh' = hs sh sz (23, 16) ∧ sz' = sz + 1 ∧ V' = hu (hu (hn V sz (fun _ => .int (nI 0))) b 0 (.ref sz)) b 1 (.int (nI 0))) := by
  refine MC.of RJ4 "<init>" rfl (by decide +kernel) rfl 0 [_] rfl (Nat.le_of_ble_eq_true rfl) ?_
  show G E MJ4_init_da8c8 _ _ _ _ _ _ _ _ _
  refine g_aload_n dJ4_init_da8c8_0 rfl ?_
  refine g_bipush (v := nI 16) dJ4_init_da8c8_1 (by decide) ?_
  refine g_callI (Y := YJ5_init_d00df) rfl wc_J5_init_d00df ml_J4_1 wi_J5_init_d00df ini_J5 rfl yn_J5_init_d00df dJ4_init_da8c8_3 sb_init5 hb hlt rfl rfl (gRoom_of rfl) (Nat.le_of_ble_eq_true rfl) (fun _ _ _ _ h => by rw [h.2.2.1]; omega) (fun _ _ _ _ h => nomatch h.1) (fun v' sh' sz' V' h => ?_)
  obtain ⟨h1, rfl, rfl, rfl⟩ := h
  cases h1
  exact g_vret rfl dJ4_init_da8c8_6 (by decide) ⟨rfl, rfl, rfl, rfl⟩
/-! small methods -/
theorem sb_len5 (hb : (sh b).1 = 10) (h3 : V b 3 = .int (nI n)) : MC E YJ5_length_8abf5 [.ref b] sh sz V (pR (some (.int (nI n))) sh sz V) := by
  refine MC.of RJ5 "length" rfl (by decide +kernel) rfl 0 [_] rfl (Nat.le_of_ble_eq_true rfl) ?_
  show G E MJ5_length_8abf5 _ _ _ _ _ _ _ _ _
  refine g_aload_n dJ5_length_8abf5_0 rfl ?_
  refine g_get 9 rfl (by decide) inJ4 3 (by decide) fl_J5_79 dJ5_length_8abf5_1 hb h3 ?_
  exact g_iret rfl (nr_int _) dJ5_length_8abf5_4 (by decide) ⟨rfl, rfl, rfl, rfl⟩
theorem sb_len (hb : (sh b).1 = 10) (h3 : V b 3 = .int (nI n)) : MC E YJ4_length_8abf5 [.ref b] sh sz V (pR (some (.int (nI n))) sh sz V) := by
  refine MC.of RJ4 "length" rfl (by decide +kernel) rfl 0 [_] rfl (Nat.le_of_ble_eq_true rfl) ?_
  show G E MJ4_length_8abf5 _ _ _ _ _ _ _ _ _
  refine g_aload_n dJ4_length_8abf5_0 rfl ?_
  refine g_callSp2 (Y := YJ5_length_8abf5) (gIn_SU ml_J4_343 wsm_J5_length_8abf5 wsup_J4 wi_J5_length_8abf5 ini_J5 wc_J5_length_8abf5) yd2_J5_length_8abf5 9 (by decide) rfl rfl dJ4_length_8abf5_1 sb_len5 hb h3 hb rfl rfl rfl (Nat.le_of_ble_eq_true rfl) ⟨rfl, rfl⟩ ?_
  exact g_iret rfl (nr_int _) dJ4_length_8abf5_4 (by decide) ⟨rfl, rfl, rfl, rfl⟩
theorem sb_val (hb : (sh b).1 = 10) (h3 : V b 0 = .ref t) : MC E YJ5_getValue_6d5f1 [.ref b] sh sz V (pR (some (.ref t)) sh sz V) := by
  refine MC.of RJ5 "getValue" rfl (by decide +kernel) rfl 0 [_] rfl (Nat.le_of_ble_eq_true rfl) ?_
  show G E MJ5_getValue_6d5f1 _ _ _ _ _ _ _ _ _
  refine g_aload_n dJ5_getValue_6d5f1_0 rfl ?_
  refine g_get 9 rfl (by decide) inJ4 0 (by decide) fl_J5_15 dJ5_getValue_6d5f1_1 hb h3 ?_
  exact g_aret rfl (Or.inr ⟨_, rfl⟩) (Or.inr ⟨_, rfl⟩) dJ5_getValue_6d5f1_4 (by decide) ⟨rfl, rfl, rfl, rfl⟩
theorem sb_lat (hb : (sh b).1 = 10) (h3 : V b 1 = .int (nI 0)) : MC E YJ5_isLatin1_aae02 [.ref b] sh sz V (pR (some (.int (nI 1))) sh sz V) := by
  refine MC.of RJ5 "isLatin1" rfl (by decide +kernel) rfl 0 [_] rfl (Nat.le_of_ble_eq_true rfl) ?_
  show G E MJ5_isLatin1_aae02 _ _ _ _ _ _ _ _ _
  refine g_comp fl_J5_18 dJ5_isLatin1_aae02_0 ?_
  refine g_if_eq (tgt := 17) dJ5_isLatin1_aae02_3 (by decide) (fun hq => absurd hq (by decide)) (fun _ => ?_)
  refine g_aload_n dJ5_isLatin1_aae02_6 rfl ?_
  refine g_get 9 rfl (by decide) inJ4 1 (by decide) fl_J5_22 dJ5_isLatin1_aae02_7 hb h3 ?_
  refine g_if_ne (tgt := 17) dJ5_isLatin1_aae02_10 (by decide) (fun hq => absurd hq (by decide)) (fun _ => ?_)
  refine g_iconst (v := nI 1) dJ5_isLatin1_aae02_13 (by decide) ?_
  refine g_jump (tgt := 18) dJ5_isLatin1_aae02_14 (by decide) ?_
  exact g_iret rfl nz1 dJ5_isLatin1_aae02_18 (by decide) ⟨rfl, rfl, rfl, rfl⟩
theorem sb_ens (hS : SbP sh V b t n) {m : Nat} (hm : m ≤ 16) : MC E YJ5_ensureCapacityInternal_d00df [.ref b, .int (nI m)] sh sz V (pR none sh sz V) := by
  obtain ⟨h0, hb, h1, h2, h3, h4, h5⟩ := hS
  refine MC.of RJ5 "ensureCapacityInternal" rfl (by decide +kernel) rfl 1 [_, _, none] rfl (Nat.le_of_ble_eq_true rfl) ?_
  show G E MJ5_ensureCapacityInternal_d00df _ _ _ _ _ _ _ _ _
  refine g_aload_n dJ5_ensureCapacityInternal_d00df_0 rfl ?_
  refine g_get 9 rfl (by decide) inJ4 0 (by decide) fl_J5_15 dJ5_ensureCapacityInternal_d00df_1 hb h1 ?_
  refine g_alen (v := nI 16) dJ5_ensureCapacityInternal_d00df_4 h4 (by decide) (by decide) rfl ?_
  refine g_aload_n dJ5_ensureCapacityInternal_d00df_5 rfl ?_
  refine g_get 9 rfl (by decide) inJ4 1 (by decide) fl_J5_22 dJ5_ensureCapacityInternal_d00df_6 hb h2 ?_
  refine g_ishr dJ5_ensureCapacityInternal_d00df_9 ?_
  refine g_istore_n dJ5_ensureCapacityInternal_d00df_10 (by decide) rfl ?_
  show G _ _ _ _ _ _ _ _ _ [_, _, _] _
  refine g_iload_n dJ5_ensureCapacityInternal_d00df_11 rfl ?_
  refine g_iload_n dJ5_ensureCapacityInternal_d00df_12 rfl ?_
  refine g_isub dJ5_ensureCapacityInternal_d00df_13 ?_
  rw [shr60 16 (by decide)]
  refine g_if_le (tgt := 38) dJ5_ensureCapacityInternal_d00df_14 (by decide) (fun _ => ?_) (fun hq => absurd (sub16 m (by omega)) hq)
  exact g_vret rfl dJ5_ensureCapacityInternal_d00df_38 (by decide) ⟨rfl, rfl, rfl, rfl⟩
/-! of a String -/
theorem st_cod (hS : StrA E sh V k v w) : MC E YJ0_coder_7d493 [.ref k] sh sz V (pR (some (.int (nI 0))) sh sz V) := by
  refine MC.of RJ0 "coder" rfl (by decide +kernel) rfl 0 [_] rfl (Nat.le_of_ble_eq_true rfl) ?_
  show G E MJ0_coder_7d493 _ _ _ _ _ _ _ _ _
  refine g_comp fl_J0_38 dJ0_coder_7d493_0 ?_
  refine g_if_eq (tgt := 13) dJ0_coder_7d493_3 (by decide) (fun hq => absurd hq (by decide)) (fun _ => ?_)
  refine g_aload_n dJ0_coder_7d493_6 rfl ?_
  refine g_scod hS fl_J0_15 dJ0_coder_7d493_7 ?_
  refine g_jump (tgt := 14) dJ0_coder_7d493_10 (by decide) ?_
  exact g_iret rfl nb0 dJ0_coder_7d493_14 (by decide) ⟨rfl, rfl, rfl, rfl⟩
theorem st_lat (hS : StrA E sh V k v w) : MC E YJ0_isLatin1_aae02 [.ref k] sh sz V (pR (some (.int (nI 1))) sh sz V) := by
  refine MC.of RJ0 "isLatin1" rfl (by decide +kernel) rfl 0 [_] rfl (Nat.le_of_ble_eq_true rfl) ?_
  show G E MJ0_isLatin1_aae02 _ _ _ _ _ _ _ _ _
  refine g_comp fl_J0_38 dJ0_isLatin1_aae02_0 ?_
  refine g_if_eq (tgt := 17) dJ0_isLatin1_aae02_3 (by decide) (fun hq => absurd hq (by decide)) (fun _ => ?_)
  refine g_aload_n dJ0_isLatin1_aae02_6 rfl ?_
  refine g_scod hS fl_J0_15 dJ0_isLatin1_aae02_7 ?_
  refine g_if_ne (tgt := 17) dJ0_isLatin1_aae02_10 (by decide) (fun hq => absurd hq (by decide)) (fun _ => ?_)
  refine g_iconst (v := nI 1) dJ0_isLatin1_aae02_13 (by decide) ?_
  refine g_jump (tgt := 18) dJ0_isLatin1_aae02_14 (by decide) ?_
  exact g_iret rfl nz1 dJ0_isLatin1_aae02_18 (by decide) ⟨rfl, rfl, rfl, rfl⟩
theorem st_len (hS : StrA E sh V k v w) : MC E YJ0_length_8abf5 [.ref k] sh sz V (pR (some (.int (nI w))) sh sz V) := by
  have hw := hS.1
  refine MC.of RJ0 "length" rfl (by decide +kernel) rfl 0 [_] rfl (Nat.le_of_ble_eq_true rfl) ?_
  show G E MJ0_length_8abf5 _ _ _ _ _ _ _ _ _
  refine g_aload_n dJ0_length_8abf5_0 rfl ?_
  refine g_sval hS fl_J0_9 dJ0_length_8abf5_1 ?_
  refine g_slenS hS dJ0_length_8abf5_4 ?_
  refine g_aload_n dJ0_length_8abf5_5 rfl ?_
  refine g_scallVp (Y := YJ0_coder_7d493) hS sv_J0_335 rfl yn_J0_coder_7d493 dJ0_length_8abf5_6 st_cod hS rfl rfl rfl (Nat.le_of_ble_eq_true rfl) ⟨rfl, rfl⟩ ?_
  refine g_ishr dJ0_length_8abf5_9 ?_
  rw [shr60 w (by omega)]
  exact g_iret rfl (nr_int _) dJ0_length_8abf5_10 (by decide) ⟨rfl, rfl, rfl, rfl⟩
theorem st_chk3 {j : Nat} {z : Value} (hz : z = .null ∨ ∃ a, z = .ref a) (hj : j < w) (hw : w ≤ 60) : MC E YJ3_checkIndex_8e157 [.int (nI j), .int (nI w), z] sh sz V (pR (some (.int (nI j))) sh sz V) := by
  rcases hz with rfl | ⟨a, rfl⟩
    refine MC.of RJ3 "checkIndex" rfl (by decide +kernel) rfl 0 [_, _, _] rfl (Nat.le_of_ble_eq_true rfl) ?_
    show G E MJ3_checkIndex_8e157 _ _ _ _ _ _ _ _ _
    refine g_iload_n dJ3_checkIndex_8e157_0 rfl ?_
    refine g_if_lt (tgt := 9) dJ3_checkIndex_8e157_1 (by decide) (fun hq => absurd hq (nI_pos (by omega))) (fun _ => ?_)
    refine g_iload_n dJ3_checkIndex_8e157_4 rfl ?_
    refine g_iload_n dJ3_checkIndex_8e157_5 rfl ?_
    refine g_icmp_lt (tgt := 16) dJ3_checkIndex_8e157_6 (by decide) (fun _ => ?_) (fun hq => absurd (nI_lt hj (by omega)) hq)
    refine g_iload_n dJ3_checkIndex_8e157_16 rfl ?_
    exact g_iret rfl (nr_int _) dJ3_checkIndex_8e157_17 (by decide) ⟨rfl, rfl, rfl, rfl⟩
    refine MC.of RJ3 "checkIndex" rfl (by decide +kernel) rfl 0 [_, _, _] rfl (Nat.le_of_ble_eq_true rfl) ?_
    show G E MJ3_checkIndex_8e157 _ _ _ _ _ _ _ _ _
    refine g_iload_n dJ3_checkIndex_8e157_0 rfl ?_
    refine g_if_lt (tgt := 9) dJ3_checkIndex_8e157_1 (by decide) (fun hq => absurd hq (nI_pos (by omega))) (fun _ => ?_)
    refine g_iload_n dJ3_checkIndex_8e157_4 rfl ?_
    refine g_iload_n dJ3_checkIndex_8e157_5 rfl ?_
    refine g_icmp_lt (tgt := 16) dJ3_checkIndex_8e157_6 (by decide) (fun _ => ?_) (fun hq => absurd (nI_lt hj (by omega)) hq)
    refine g_iload_n dJ3_checkIndex_8e157_16 rfl ?_
    exact g_iret rfl (nr_int _) dJ3_checkIndex_8e157_17 (by decide) ⟨rfl, rfl, rfl, rfl⟩
theorem st_chk {j : Nat} (hj : j < w) (hw : w ≤ 60) : MC E YJ0_checkIndex_df160 [.int (nI j), .int (nI w)] sh sz V (pR none sh sz V) := by
  refine MC.of RJ0 "checkIndex" rfl (by decide +kernel) rfl 0 [_, _] rfl (Nat.le_of_ble_eq_true rfl) ?_
  show G E MJ0_checkIndex_df160 _ _ _ _ _ _ _ _ _
  refine g_iload_n dJ0_checkIndex_df160_0 rfl ?_
  refine g_iload_n dJ0_checkIndex_df160_1 rfl ?_
  refine g_sio fl_J0_1053 dJ0_checkIndex_df160_2 fun z hz => ?_
  refine g_callSp (Y := YJ3_checkIndex_8e157) ss_J0_1059 yn_J3_checkIndex_8e157 dJ0_checkIndex_df160_5 st_chk3 hz hj hw rfl rfl rfl (Nat.le_of_ble_eq_true rfl) ⟨rfl, rfl⟩ ?_
  refine g_pop dJ0_checkIndex_df160_8 rfl ?_
  exact g_vret rfl dJ0_checkIndex_df160_9 (by decide) ⟨rfl, rfl, rfl, rfl⟩
/-- a void static call that changes nothing -/
theorem g_callSn {M : gM} {P : gP} {cu su pc : Nat} {L : List (Option Value)} {rest : List Value} {Y : gY} {idx n : Nat} {As S : List Value} (hs : GoodIn gW (va_wsS M.2.2.1 idx Y.1 (Cond.code Y.1 Y.2.1 Y.2.2.1 Y.2.2.2.1 :: gW))) (hy : gName Y.1 n) (hdg : decode M.1 pc = .ok (.invokestatic idx, 3))
    (hc : MC E Y As sh sz V (pR none sh sz V)) (hn : As.length = n) (hS : S = As.reverse ++ rest) (hroom : gRoomB Y M cu su = true) (hcat : (rest.map fun v => v.category).sum ≤ 8) (h0 : Y.2.2.2.2.cells = 0 ∧ Y.2.2.2.2.slots = 0)
    (kk : G E M P sh sz V cu su (pc + 3) L rest) : G E M P sh sz V cu su pc L S :=
  g_callS hs hy hdg hc hn hS (gRoom_of hroom) hcat (fun _ _ _ _ h => Nat.le_of_eq h.2.2.1.symm) (fun v' sh' sz' V' h => by obtain ⟨h1, rfl, rfl, rfl⟩ := h; cases h1; rw [h0.1, h0.2]; exact kk) (fun _ _ _ _ h => nomatch h.1)
theorem st_char1 {j : Nat} (hS : StrA E sh V k v w) (hj : j < w) : MC E YJ1_charAt_3b067 [.ref v, .int (nI j)] sh sz V (pW (fun c V' => V' = V ∧ ∃ z, c = .int z ∧ vp_nar .char z = z) sh sz) := by
  have hw := hS.1
  refine MC.of RJ1 "charAt" rfl (by decide +kernel) rfl 0 [_, _] rfl (Nat.le_of_ble_eq_true rfl) ?_
  show G E MJ1_charAt_3b067 _ _ _ _ _ _ _ _ _
  refine g_iload_n dJ1_charAt_3b067_0 rfl ?_
  refine g_aload_n dJ1_charAt_3b067_1 rfl ?_
  refine g_slenS hS dJ1_charAt_3b067_2 ?_
  refine g_callSn (Y := YJ0_checkIndex_df160) ss_J1_9 yn_J0_checkIndex_df160 dJ1_charAt_3b067_3 (st_chk hj hw) rfl rfl rfl (Nat.le_of_ble_eq_true rfl) ⟨rfl, rfl⟩ ?_
  refine g_aload_n dJ1_charAt_3b067_6 rfl ?_
  refine g_iload_n dJ1_charAt_3b067_7 rfl ?_
  refine g_sbald hS hj dJ1_charAt_3b067_8 fun y => ?_
  refine g_sipush (v := nI 255) dJ1_charAt_3b067_9 (by decide) ?_
  refine g_iand dJ1_charAt_3b067_12 ?_
  refine g_i2c dJ1_charAt_3b067_13 rfl ?_
  exact g_iret rfl (char_nr (char_idem _)) dJ1_charAt_3b067_14 (by decide) ⟨_, rfl, rfl, rfl, rfl, _, rfl, char_idem _⟩
theorem st_char {j : Nat} (hS : StrA E sh V k v w) (hj : j < w) : MC E YJ0_charAt_5068e [.ref k, .int (nI j)] sh sz V (pW (fun c V' => V' = V ∧ ∃ z, c = .int z ∧ vp_nar .char z = z) sh sz) := by
  refine MC.of RJ0 "charAt" rfl (by decide +kernel) rfl 0 [_, _] rfl (Nat.le_of_ble_eq_true rfl) ?_
  show G E MJ0_charAt_5068e _ _ _ _ _ _ _ _ _
  refine g_aload_n dJ0_charAt_5068e_0 rfl ?_
  refine g_scallVp (Y := YJ0_isLatin1_aae02) hS sv_J0_492 rfl yn_J0_isLatin1_aae02 dJ0_charAt_5068e_1 st_lat hS rfl rfl rfl (Nat.le_of_ble_eq_true rfl) ⟨rfl, rfl⟩ ?_
  refine g_if_eq (tgt := 16) dJ0_charAt_5068e_4 (by decide) (fun hq => absurd hq (by decide)) (fun _ => ?_)
  refine g_aload_n dJ0_charAt_5068e_7 rfl ?_
  refine g_sval hS fl_J0_9 dJ0_charAt_5068e_8 ?_
  refine g_iload_n dJ0_charAt_5068e_11 rfl ?_
  refine g_callSw (Y := YJ1_charAt_3b067) ss_J0_495 yn_J1_charAt_3b067 dJ0_charAt_5068e_12 st_char1 hS hj rfl rfl rfl (Nat.le_of_ble_eq_true rfl) ⟨rfl, rfl⟩ (fun c V' hq => ?_)
  obtain ⟨rfl, z, rfl, hz⟩ := hq
  exact g_iret rfl (char_nr hz) dJ0_charAt_5068e_15 (by decide) ⟨_, rfl, rfl, rfl, rfl, _, rfl, hz⟩
/-! appending a text -/
theorem st_get (hS : StrA E sh V k v w) (ht : sh t = (23, 16)) (hB : Byf V t 16) (hnw : n + w ≤ 16) : MC E YJ0_getBytes_840e7 [.ref k, .ref t, .int (nI n), .int (nI 0)] sh sz V (pV (fun V' => ∃ g : Nat → Int32, (∀ j, j < 16 → fits .byte (.int (g j)) = true) ∧ V' = hn V t (fun j => .int (g j))) sh sz) := by
  obtain ⟨f, hsrc, hf⟩ := hS.src (sz := sz)
  obtain ⟨g, hg, hgf⟩ := hB
  refine MC.of RJ0 "getBytes" rfl (by decide +kernel) rfl 0 [_, _, _, _] rfl (Nat.le_of_ble_eq_true rfl) ?_
  show G E MJ0_getBytes_840e7 _ _ _ _ _ _ _ _ _
  refine g_aload_n dJ0_getBytes_840e7_0 rfl ?_
  refine g_scallVp (Y := YJ0_coder_7d493) hS sv_J0_335 rfl yn_J0_coder_7d493 dJ0_getBytes_840e7_1 st_cod hS rfl rfl rfl (Nat.le_of_ble_eq_true rfl) ⟨rfl, rfl⟩ ?_
  refine g_iload_n dJ0_getBytes_840e7_4 rfl ?_
  refine g_icmp_ne (tgt := 28) dJ0_getBytes_840e7_5 (by decide) (fun hq => absurd hq (fun h => h rfl)) (fun _ => ?_)
  refine g_aload_n dJ0_getBytes_840e7_8 rfl ?_
  refine g_sval hS fl_J0_9 dJ0_getBytes_840e7_9 ?_
  refine g_iconst (v := nI 0) dJ0_getBytes_840e7_12 (by decide) ?_
  refine g_aload_n dJ0_getBytes_840e7_13 rfl ?_
  refine g_iload_n dJ0_getBytes_840e7_14 rfl ?_
  refine g_iload_n dJ0_getBytes_840e7_15 rfl ?_
  refine g_ishl dJ0_getBytes_840e7_16 ?_
  rw [shl16 n (by omega)]
  refine g_aload_n dJ0_getBytes_840e7_17 rfl ?_
  refine g_sval hS fl_J0_9 dJ0_getBytes_840e7_18 ?_
  refine g_slenS hS dJ0_getBytes_840e7_21 ?_
  refine g_bcopyC (n1 := 16) (w := w) (sp := 0) (dp := n) (n := w) ml_J0_212 wn_acopy wt_acopy wi_sys dJ0_getBytes_840e7_22 f hsrc hf ht g hg (by omega) (by omega) (by have := hS.1; omega) (by decide) (Nat.le_of_ble_eq_true rfl) (Nat.le_of_ble_eq_true rfl) ?_
  refine g_jump (tgt := 43) dJ0_getBytes_840e7_25 (by decide) ?_
  exact g_vret rfl dJ0_getBytes_840e7_43 (by decide) ⟨rfl, rfl, rfl, _, cpy_fit hf hgf (by omega), rfl⟩
theorem sb_infl (hP : SbP sh V b t n) (hS : StrA E sh V k v w) : MC E YJ5_inflateIfNeededFor_a7421 [.ref b, .ref k] sh sz V (pR none sh sz V) := by
  obtain ⟨h0, hb, h1, h2, h3, h4, h5⟩ := hP
  refine MC.of RJ5 "inflateIfNeededFor" rfl (by decide +kernel) rfl 0 [_, _] rfl (Nat.le_of_ble_eq_true rfl) ?_
  show G E MJ5_inflateIfNeededFor_a7421 _ _ _ _ _ _ _ _ _
  refine g_comp fl_J5_18 dJ5_inflateIfNeededFor_a7421_0 ?_
  refine g_if_eq (tgt := 21) dJ5_inflateIfNeededFor_a7421_3 (by decide) (fun hq => absurd hq (by decide)) (fun _ => ?_)
  refine g_aload_n dJ5_inflateIfNeededFor_a7421_6 rfl ?_
  refine g_get 9 rfl (by decide) inJ4 1 (by decide) fl_J5_22 dJ5_inflateIfNeededFor_a7421_7 hb h2 ?_
  refine g_aload_n dJ5_inflateIfNeededFor_a7421_10 rfl ?_
  refine g_scallVp (Y := YJ0_coder_7d493) hS sv_J5_40 rfl yn_J0_coder_7d493 dJ5_inflateIfNeededFor_a7421_11 st_cod hS rfl rfl rfl (Nat.le_of_ble_eq_true rfl) ⟨rfl, rfl⟩ ?_
  refine g_icmp_eq (tgt := 21) dJ5_inflateIfNeededFor_a7421_14 (by decide) (fun _ => ?_) (fun hq => absurd (rfl) hq)
  exact g_vret rfl dJ5_inflateIfNeededFor_a7421_21 (by decide) ⟨rfl, rfl, rfl, rfl⟩
theorem sb_putS (hP : SbP sh V b t n) (hS : StrA E sh V k v w) (hnw : n + w ≤ 16) : MC E YJ5_putStringAt_47b60 [.ref b, .int (nI n), .ref k] sh sz V (pV (fun V' => ∃ g : Nat → Int32, (∀ j, j < 16 → fits .byte (.int (g j)) = true) ∧ V' = hn V t (fun j => .int (g j))) sh sz) := by
  have hP0 := hP
  obtain ⟨h0, hb, h1, h2, h3, h4, h5⟩ := hP
  refine MC.of RJ5 "putStringAt" rfl (by decide +kernel) rfl 0 [_, _, _] rfl (Nat.le_of_ble_eq_true rfl) ?_
  show G E MJ5_putStringAt_47b60 _ _ _ _ _ _ _ _ _
  refine g_aload_n dJ5_putStringAt_47b60_0 rfl ?_
  refine g_aload_n dJ5_putStringAt_47b60_1 rfl ?_
  refine g_callUn (Y := YJ5_inflateIfNeededFor_a7421) (gIn_U ml_J5_397 wsm_J5_inflateIfNeededFor_a7421 wse_J5_inflateIfNeededFor_a7421 wi_J5_inflateIfNeededFor_a7421 ini_J5 wc_J5_inflateIfNeededFor_a7421) rfl yd_J5_inflateIfNeededFor_a7421 9 (by decide) rfl rfl dJ5_putStringAt_47b60_2 sb_infl hP0 hS hb rfl rfl rfl (Nat.le_of_ble_eq_true rfl) ⟨rfl, rfl⟩ ?_
  refine g_aload_n dJ5_putStringAt_47b60_5 rfl ?_
  refine g_aload_n dJ5_putStringAt_47b60_6 rfl ?_
  refine g_get 9 rfl (by decide) inJ4 0 (by decide) fl_J5_15 dJ5_putStringAt_47b60_7 hb h1 ?_
  refine g_iload_n dJ5_putStringAt_47b60_10 rfl ?_
  refine g_aload_n dJ5_putStringAt_47b60_11 rfl ?_
  refine g_get 9 rfl (by decide) inJ4 1 (by decide) fl_J5_22 dJ5_putStringAt_47b60_12 hb h2 ?_
  refine g_scallVv (Y := YJ0_getBytes_840e7) hS sv_J5_399 rfl yn_J0_getBytes_840e7 dJ5_putStringAt_47b60_15 st_get hS h4 h5 hnw rfl rfl rfl (Nat.le_of_ble_eq_true rfl) ⟨rfl, rfl⟩ (fun V' hQ => ?_)
  exact g_vret rfl dJ5_putStringAt_47b60_18 (by decide) ⟨rfl, rfl, rfl, hQ⟩
theorem sb_app5 (hP : SbP sh V b t n) (hS : StrA E sh V k v w) (hnw : n + w ≤ 16) : MC E YJ5_append_cf1ce [.ref b, .ref k] sh sz V (pW (fun r V' => r = .ref b ∧ SbP sh V' b t (n + w) ∧ Oth b t V V') sh sz) := by
  have hP0 := hP
  obtain ⟨h0, hb, h1, h2, h3, h4, h5⟩ := hP
  refine MC.of RJ5 "append" rfl (by decide +kernel) rfl 1 [_, _, none] rfl (Nat.le_of_ble_eq_true rfl) ?_
  show G E MJ5_append_cf1ce _ _ _ _ _ _ _ _ _
  refine g_aload_n dJ5_append_cf1ce_0 rfl ?_
  refine g_ifnonnull (tgt := 9) dJ5_append_cf1ce_1 (by decide) ?_
  refine g_aload_n dJ5_append_cf1ce_9 rfl ?_
  refine g_scallVp (Y := YJ0_length_8abf5) hS sv_J5_32 rfl yn_J0_length_8abf5 dJ5_append_cf1ce_10 st_len hS rfl rfl rfl (Nat.le_of_ble_eq_true rfl) ⟨rfl, rfl⟩ ?_
  refine g_istore_n dJ5_append_cf1ce_13 (by decide) rfl ?_
  show G _ _ _ _ _ _ _ _ _ [_, _, _] _
  refine g_aload_n dJ5_append_cf1ce_14 rfl ?_
  refine g_aload_n dJ5_append_cf1ce_15 rfl ?_
  refine g_get 9 rfl (by decide) inJ4 3 (by decide) fl_J5_79 dJ5_append_cf1ce_16 hb h3 ?_
  refine g_iload_n dJ5_append_cf1ce_19 rfl ?_
  refine g_iadd dJ5_append_cf1ce_20 ?_
  rw [nI_add]
  refine g_callUn (Y := YJ5_ensureCapacityInternal_d00df) (gIn_U ml_J5_100 wsm_J5_ensureCapacityInternal_d00df wse_J5_ensureCapacityInternal_d00df wi_J5_ensureCapacityInternal_d00df ini_J5 wc_J5_ensureCapacityInternal_d00df) rfl yd_J5_ensureCapacityInternal_d00df 9 (by decide) rfl rfl dJ5_append_cf1ce_21 sb_ens hP0 hnw hb rfl rfl rfl (Nat.le_of_ble_eq_true rfl) ⟨rfl, rfl⟩ ?_
  refine g_aload_n dJ5_append_cf1ce_24 rfl ?_
  refine g_aload_n dJ5_append_cf1ce_25 rfl ?_
  refine g_get 9 rfl (by decide) inJ4 3 (by decide) fl_J5_79 dJ5_append_cf1ce_26 hb h3 ?_
  refine g_aload_n dJ5_append_cf1ce_29 rfl ?_
  refine g_callUv (Y := YJ5_putStringAt_47b60) (gIn_U ml_J5_208 wsm_J5_putStringAt_47b60 wse_J5_putStringAt_47b60 wi_J5_putStringAt_47b60 ini_J5 wc_J5_putStringAt_47b60) rfl yd_J5_putStringAt_47b60 9 (by decide) rfl rfl dJ5_append_cf1ce_30 sb_putS hP0 hS hnw hb rfl rfl rfl (Nat.le_of_ble_eq_true rfl) ⟨rfl, rfl⟩ (fun V' hQ => ?_)
  obtain ⟨g, hg, rfl⟩ := hQ
  refine g_aload_n dJ5_append_cf1ce_33 rfl ?_
  refine g_dup dJ5_append_cf1ce_34 rfl ?_
  refine g_get 9 rfl (by decide) inJ4 3 (by decide) fl_J5_79 dJ5_append_cf1ce_35 hb (by rw [hn_ne _ _ h0]; exact h3) ?_
  refine g_iload_n dJ5_append_cf1ce_38 rfl ?_
  refine g_iadd dJ5_append_cf1ce_39 ?_
  rw [nI_add]
  refine g_put 9 rfl (by decide) inJ4 tyJ4 tyJ4_ok nmJ4 3 (by decide) fl_J5_79 rfl dJ5_append_cf1ce_40 hb rfl rfl ?_
  refine g_aload_n dJ5_append_cf1ce_43 rfl ?_
  exact g_aret rfl (Or.inl ⟨_, rfl⟩) (Or.inr ⟨_, rfl⟩) dJ5_append_cf1ce_44 (by decide) ⟨_, rfl, rfl, rfl, rfl, ⟨h0, hb, by rw [hu_at_ne _ _ _ (by decide), hn_ne _ _ h0]; exact h1, by rw [hu_at_ne _ _ _ (by decide), hn_ne _ _ h0]; exact h2, hu_at _ _ _ _, h4, g, by rw [hu_ne _ _ _ (Ne.symm h0), hn_at], hg⟩, fun q q1 q2 => by rw [hu_ne _ _ _ q1, hn_ne _ _ q2]⟩
theorem sb_app (hP : SbP sh V b t n) (hS : StrA E sh V k v w) (hnw : n + w ≤ 16) : MC E YJ4_append_15ec4 [.ref b, .ref k] sh sz V (pW (fun r V' => r = .ref b ∧ SbP sh V' b t (n + w) ∧ Oth b t V V') sh sz) := by
  refine MC.of RJ4 "append" rfl (by decide +kernel) rfl 0 [_, _] rfl (Nat.le_of_ble_eq_true rfl) ?_
  show G E MJ4_append_15ec4 _ _ _ _ _ _ _ _ _
  refine g_aload_n dJ4_append_15ec4_0 rfl ?_
  refine g_aload_n dJ4_append_15ec4_1 rfl ?_
  refine g_callSw2 (Y := YJ5_append_cf1ce) (gIn_SU ml_J4_29 wsm_J5_append_cf1ce wsup_J4 wi_J5_append_cf1ce ini_J5 wc_J5_append_cf1ce) yd2_J5_append_cf1ce 9 (by decide) rfl rfl dJ4_append_15ec4_2 sb_app5 hP hS hnw hP.2.1 rfl rfl rfl (Nat.le_of_ble_eq_true rfl) ⟨rfl, rfl⟩ (fun r V' hQ => ?_)
  obtain ⟨rfl, hQ⟩ := hQ
  refine g_pop dJ4_append_15ec4_5 rfl ?_
  refine g_aload_n dJ4_append_15ec4_6 rfl ?_
  exact g_aret rfl (Or.inl ⟨_, rfl⟩) (Or.inr ⟨_, rfl⟩) dJ4_append_15ec4_7 (by decide) ⟨_, rfl, rfl, rfl, rfl, hQ⟩
/-! appending a number -/
theorem dg_1 : ∀ d, d < 100 → (¬ (-nI d : Int32) ≤ nI 10 * (-10)) ∧ ((-nI d : Int32) ≤ (-10) ↔ 10 ≤ d) ∧ ((-9 : Int32) ≤ -nI d ↔ d ≤ 9) ∧ (-100 : Int32) < -nI d ∧ (- -nI d : Int32) = nI d := by decide +kernel
def dgN (d : Nat) : Nat := if d < 10 then 1 else 2
theorem i_size {d : Nat} (hd : d < 100) : MC E YJ6_stringSize_0f7a4 [.int (nI d)] sh sz V (pR (some (.int (nI (dgN d)))) sh sz V) := by
  obtain ⟨a1, a2, a3, a4, a5⟩ := dg_1 d hd
  refine MC.of RJ6 "stringSize" rfl (by decide +kernel) rfl 3 [_, none, none, none] rfl (Nat.le_of_ble_eq_true rfl) ?_
  show G E MJ6_stringSize_0f7a4 _ _ _ _ _ _ _ _ _
  refine g_iconst (v := nI 1) dJ6_stringSize_0f7a4_0 (by decide) ?_
  refine g_istore_n dJ6_stringSize_0f7a4_1 (by decide) rfl ?_
  show G _ _ _ _ _ _ _ _ _ [_, _, _, _] _
  refine g_iload_n dJ6_stringSize_0f7a4_2 rfl ?_
  refine g_if_lt (tgt := 11) dJ6_stringSize_0f7a4_3 (by decide) (fun hq => absurd hq (nI_pos (by omega))) (fun _ => ?_)
  refine g_iconst (v := nI 0) dJ6_stringSize_0f7a4_6 (by decide) ?_
  refine g_istore_n dJ6_stringSize_0f7a4_7 (by decide) rfl ?_
  show G _ _ _ _ _ _ _ _ _ [_, _, _, _] _
  refine g_iload_n dJ6_stringSize_0f7a4_8 rfl ?_
  refine g_ineg dJ6_stringSize_0f7a4_9 ?_
  refine g_istore_n dJ6_stringSize_0f7a4_10 (by decide) rfl ?_
  show G _ _ _ _ _ _ _ _ _ [_, _, _, _] _
  refine g_bipush (v := (-10)) dJ6_stringSize_0f7a4_11 (by decide) ?_
  refine g_istore_n dJ6_stringSize_0f7a4_13 (by decide) rfl ?_
  show G _ _ _ _ _ _ _ _ _ [_, _, _, _] _
  refine g_iconst (v := nI 1) dJ6_stringSize_0f7a4_14 (by decide) ?_
  refine g_istore_n dJ6_stringSize_0f7a4_15 (by decide) rfl ?_
  show G _ _ _ _ _ _ _ _ _ [_, _, _, _] _
  refine g_iload_n dJ6_stringSize_0f7a4_16 rfl ?_
  refine g_bipush (v := nI 10) dJ6_stringSize_0f7a4_17 (by decide) ?_
  refine g_icmp_ge (tgt := 42) dJ6_stringSize_0f7a4_19 (by decide) (fun hq => absurd hq (by decide)) (fun _ => ?_)
  refine g_iload_n dJ6_stringSize_0f7a4_22 rfl ?_
  refine g_iload_n dJ6_stringSize_0f7a4_23 rfl ?_
  refine g_icmp_le (tgt := 31) dJ6_stringSize_0f7a4_24 (by decide) (fun h => ?_) (fun h => ?_)
  · have e : dgN d = 2 := by
      unfold dgN
      rw [if_neg (by have := a2.mp h; omega)]
    rw [e]
    refine g_bipush (v := nI 10) dJ6_stringSize_0f7a4_31 (by decide) ?_
    refine g_iload_n dJ6_stringSize_0f7a4_33 rfl ?_
    refine g_imul dJ6_stringSize_0f7a4_34 ?_
    refine g_istore_n dJ6_stringSize_0f7a4_35 (by decide) rfl ?_
    show G _ _ _ _ _ _ _ _ _ [_, _, _, _] _
    refine g_iinc dJ6_stringSize_0f7a4_36 rfl (by first | exact nI_inc _ | rfl) (by decide) rfl ?_
    show G _ _ _ _ _ _ _ _ _ [_, _, _, _] _
    refine g_jump (tgt := 16) dJ6_stringSize_0f7a4_39 (by decide) ?_
    refine g_iload_n dJ6_stringSize_0f7a4_16 rfl ?_
    refine g_bipush (v := nI 10) dJ6_stringSize_0f7a4_17 (by decide) ?_
    refine g_icmp_ge (tgt := 42) dJ6_stringSize_0f7a4_19 (by decide) (fun hq => absurd hq (by decide)) (fun _ => ?_)
    refine g_iload_n dJ6_stringSize_0f7a4_22 rfl ?_
    refine g_iload_n dJ6_stringSize_0f7a4_23 rfl ?_
    refine g_icmp_le (tgt := 31) dJ6_stringSize_0f7a4_24 (by decide) (fun hq => absurd hq (a1)) (fun _ => ?_)
    refine g_iload_n dJ6_stringSize_0f7a4_27 rfl ?_
    refine g_iload_n dJ6_stringSize_0f7a4_28 rfl ?_
    refine g_iadd dJ6_stringSize_0f7a4_29 ?_
    exact g_iret rfl (nr_int _) dJ6_stringSize_0f7a4_30 (by decide) ⟨rfl, rfl, rfl, rfl⟩
  · have e : dgN d = 1 := by
      unfold dgN
      rw [if_pos (by
        rcases Nat.lt_or_ge d 10 with q | q
        · exact q
        · exact absurd (a2.mpr q) h)]
    rw [e]
    refine g_iload_n dJ6_stringSize_0f7a4_27 rfl ?_
    refine g_iload_n dJ6_stringSize_0f7a4_28 rfl ?_
    refine g_iadd dJ6_stringSize_0f7a4_29 ?_
    exact g_iret rfl (nr_int _) dJ6_stringSize_0f7a4_30 (by decide) ⟨rfl, rfl, rfl, rfl⟩
theorem nI_dec {e : Nat} (h : 1 ≤ e) : nI e + Int32.ofInt (-1) = nI (e - 1) := by
  have : nI (e - 1) + Int32.ofInt 1 = nI (e - 1 + 1) := nI_inc _
  rw [Nat.sub_add_cancel h] at this
  rw [← this, Int32.add_assoc, show (Int32.ofInt 1 + Int32.ofInt (-1) : Int32) = 0 by decide, Int32.add_zero]
theorem KI.ones {s : State} (h : KI E s) : ∃ t : Nat, va_Z "java/lang/Integer" "DigitOnes" "[B" (.ref t) (gN E) s E.2.2.1 ∧ va_T .byte t 100 (fun j => .int (nI (48 + j % 10))) (gN E) s E.2.2.1 := h.2.2.2.2.2.2.2.1.1.2.2.1
theorem KI.tens {s : State} (h : KI E s) : ∃ t : Nat, va_Z "java/lang/Integer" "DigitTens" "[B" (.ref t) (gN E) s E.2.2.1 ∧ va_T .byte t 100 (fun j => .int (nI (48 + j / 10))) (gN E) s E.2.2.1 := h.2.2.2.2.2.2.2.1.1.2.2.2.1
theorem i_chars {d e : Nat} (hd : d < 100) (ht : sh t = (23, 16)) (hB : Byf V t 16) (he : dgN d ≤ e) (he2 : e ≤ 16) : MC E YJ6_getChars_ba4f3 [.int (nI d), .int (nI e), .ref t] sh sz V (pW (fun _ V' => Byf V' t 16 ∧ ∀ q, q ≠ t → V' q = V q) sh sz) := by
  obtain ⟨a1, a2, a3, a4, a5⟩ := dg_1 d hd
  have e1 : 1 ≤ e := by
    unfold dgN at he
    split at he <;> omega
  refine MC.of RJ6 "getChars" rfl (by decide +kernel) rfl 4 [_, _, _, none, none, none, none] rfl (Nat.le_of_ble_eq_true rfl) ?_
  show G E MJ6_getChars_ba4f3 _ _ _ _ _ _ _ _ _
  refine g_iload_n dJ6_getChars_ba4f3_0 rfl ?_
  refine g_istore dJ6_getChars_ba4f3_1 (by decide) rfl ?_
  show G _ _ _ _ _ _ _ _ _ [_, _, _, _, _, _, _] _
  refine g_iload_n dJ6_getChars_ba4f3_3 rfl ?_
  refine g_if_ge (tgt := 11) dJ6_getChars_ba4f3_4 (by decide) (fun _ => ?_) (fun hq => absurd (nI_pos' (by omega)) hq)
  refine g_iconst (v := nI 0) dJ6_getChars_ba4f3_11 (by decide) ?_
  refine g_istore dJ6_getChars_ba4f3_12 (by decide) rfl ?_
  show G _ _ _ _ _ _ _ _ _ [_, _, _, _, _, _, _] _
  refine g_iload dJ6_getChars_ba4f3_14 rfl ?_
  refine g_if_ne (tgt := 22) dJ6_getChars_ba4f3_16 (by decide) (fun hq => absurd hq (fun h => h rfl)) (fun _ => ?_)
  refine g_iload_n dJ6_getChars_ba4f3_19 rfl ?_
  refine g_ineg dJ6_getChars_ba4f3_20 ?_
  refine g_istore_n dJ6_getChars_ba4f3_21 (by decide) rfl ?_
  show G _ _ _ _ _ _ _ _ _ [_, _, _, _, _, _, _] _
  refine g_iload_n dJ6_getChars_ba4f3_22 rfl ?_
  refine g_bipush (v := (-100)) dJ6_getChars_ba4f3_23 (by decide) ?_
  refine g_icmp_gt (tgt := 72) dJ6_getChars_ba4f3_25 (by decide) (fun _ => ?_) (fun hq => absurd (a4) hq)
  refine g_aload_n dJ6_getChars_ba4f3_72 rfl ?_
  refine g_iinc dJ6_getChars_ba4f3_73 rfl rfl (by decide) rfl ?_
  show G _ _ _ _ _ _ _ _ _ [_, _, _, _, _, _, _] _
  refine g_iload dJ6_getChars_ba4f3_76 rfl ?_
  rw [nI_dec e1]
  refine g_dig fl_J6_83 (fun s hK => hK.ones) dJ6_getChars_ba4f3_78 dJ6_getChars_ba4f3_81 rfl dJ6_getChars_ba4f3_82 a5 hd dJ6_getChars_ba4f3_83 ?_
  refine g_bastore dJ6_getChars_ba4f3_84 ht (vp_in_nI (by omega) (by omega)) ?_
  rw [nI_clamp (by omega)]
  refine g_iload_n dJ6_getChars_ba4f3_85 rfl ?_
  refine g_bipush (v := (-9)) dJ6_getChars_ba4f3_86 (by decide) ?_
  refine g_icmp_ge (tgt := 104) dJ6_getChars_ba4f3_88 (by decide) (fun h => ?_) (fun h => ?_)
  · refine g_iload dJ6_getChars_ba4f3_104 rfl ?_
    refine g_if_eq (tgt := 118) dJ6_getChars_ba4f3_106 (by decide) (fun _ => ?_) (fun hq => absurd (rfl) hq)
    refine g_iload dJ6_getChars_ba4f3_118 rfl ?_
    exact g_iret rfl (nr_int _) dJ6_getChars_ba4f3_120 (by decide) ⟨_, rfl, rfl, rfl, hB.set _ _, fun q hq => hu_ne _ _ _ hq⟩
  · have e2 : 2 ≤ e := by
      unfold dgN at he
      rw [if_neg (fun q => h (a3.mpr (by omega)))] at he
      exact he
    refine g_aload_n dJ6_getChars_ba4f3_91 rfl ?_
    refine g_iinc dJ6_getChars_ba4f3_92 rfl rfl (by decide) rfl ?_
    show G _ _ _ _ _ _ _ _ _ [_, _, _, _, _, _, _] _
    refine g_iload dJ6_getChars_ba4f3_95 rfl ?_
    rw [nI_dec (by omega)]
    refine g_dig fl_J6_87 (fun s hK => hK.tens) dJ6_getChars_ba4f3_97 dJ6_getChars_ba4f3_100 rfl dJ6_getChars_ba4f3_101 a5 hd dJ6_getChars_ba4f3_102 ?_
    refine g_bastore dJ6_getChars_ba4f3_103 ht (vp_in_nI (by omega) (by omega)) ?_
    rw [nI_clamp (by omega)]
    refine g_iload dJ6_getChars_ba4f3_104 rfl ?_
    refine g_if_eq (tgt := 118) dJ6_getChars_ba4f3_106 (by decide) (fun _ => ?_) (fun hq => absurd (rfl) hq)
    refine g_iload dJ6_getChars_ba4f3_118 rfl ?_
    exact g_iret rfl (nr_int _) dJ6_getChars_ba4f3_120 (by decide) ⟨_, rfl, rfl, rfl, (hB.set _ _).set _ _, fun q hq => by rw [hu_ne _ _ _ hq, hu_ne _ _ _ hq]⟩
theorem sb_num5 {d : Nat} (hP : SbP sh V b t n) (hd : d < 100) (hnw : n + dgN d ≤ 16) : MC E YJ5_append_c97b9 [.ref b, .int (nI d)] sh sz V (pW (fun r V' => r = .ref b ∧ SbP sh V' b t (n + dgN d) ∧ Oth b t V V') sh sz) := by
  have hP0 := hP
  obtain ⟨h0, hb, h1, h2, h3, h4, h5⟩ := hP
  refine MC.of RJ5 "append" rfl (by decide +kernel) rfl 2 [_, _, none, none] rfl (Nat.le_of_ble_eq_true rfl) ?_
  show G E MJ5_append_c97b9 _ _ _ _ _ _ _ _ _
  refine g_aload_n dJ5_append_c97b9_0 rfl ?_
  refine g_get 9 rfl (by decide) inJ4 3 (by decide) fl_J5_79 dJ5_append_c97b9_1 hb h3 ?_
  refine g_istore_n dJ5_append_c97b9_4 (by decide) rfl ?_
  show G _ _ _ _ _ _ _ _ _ [_, _, _, _] _
  refine g_iload_n dJ5_append_c97b9_5 rfl ?_
  refine g_iload_n dJ5_append_c97b9_6 rfl ?_
  refine g_callSp (Y := YJ6_stringSize_0f7a4) ss_J5_245 yn_J6_stringSize_0f7a4 dJ5_append_c97b9_7 i_size hd rfl rfl rfl (Nat.le_of_ble_eq_true rfl) ⟨rfl, rfl⟩ ?_
  refine g_iadd dJ5_append_c97b9_10 ?_
  refine g_istore_n dJ5_append_c97b9_11 (by decide) rfl ?_
  show G _ _ _ _ _ _ _ _ _ [_, _, _, _] _
  refine g_aload_n dJ5_append_c97b9_12 rfl ?_
  refine g_iload_n dJ5_append_c97b9_13 rfl ?_
  rw [nI_add]
  refine g_callUn (Y := YJ5_ensureCapacityInternal_d00df) (gIn_U ml_J5_100 wsm_J5_ensureCapacityInternal_d00df wse_J5_ensureCapacityInternal_d00df wi_J5_ensureCapacityInternal_d00df ini_J5 wc_J5_ensureCapacityInternal_d00df) rfl yd_J5_ensureCapacityInternal_d00df 9 (by decide) rfl rfl dJ5_append_c97b9_14 sb_ens hP0 hnw hb rfl rfl rfl (Nat.le_of_ble_eq_true rfl) ⟨rfl, rfl⟩ ?_
  refine g_aload_n dJ5_append_c97b9_17 rfl ?_
  refine g_callUp (Y := YJ5_isLatin1_aae02) (gIn_U ml_J5_83 wsm_J5_isLatin1_aae02 wse_J5_isLatin1_aae02 wi_J5_isLatin1_aae02 ini_J5 wc_J5_isLatin1_aae02) rfl yd_J5_isLatin1_aae02 9 (by decide) rfl rfl dJ5_append_c97b9_18 sb_lat hb h2 hb rfl rfl rfl (Nat.le_of_ble_eq_true rfl) ⟨rfl, rfl⟩ ?_
  refine g_if_eq (tgt := 37) dJ5_append_c97b9_21 (by decide) (fun hq => absurd hq (by decide)) (fun _ => ?_)
  refine g_iload_n dJ5_append_c97b9_24 rfl ?_
  refine g_iload_n dJ5_append_c97b9_25 rfl ?_
  refine g_aload_n dJ5_append_c97b9_26 rfl ?_
  refine g_get 9 rfl (by decide) inJ4 0 (by decide) fl_J5_15 dJ5_append_c97b9_27 hb h1 ?_
  refine g_callSw (Y := YJ6_getChars_ba4f3) ss_J5_248 yn_J6_getChars_ba4f3 dJ5_append_c97b9_30 i_chars hd h4 h5 (Nat.le_add_left _ _) hnw rfl rfl rfl (Nat.le_of_ble_eq_true rfl) ⟨rfl, rfl⟩ (fun r V' hQ => ?_)
  obtain ⟨hB, hO⟩ := hQ
  refine g_pop dJ5_append_c97b9_33 rfl ?_
  refine g_jump (tgt := 48) dJ5_append_c97b9_34 (by decide) ?_
  refine g_aload_n dJ5_append_c97b9_48 rfl ?_
  refine g_iload_n dJ5_append_c97b9_49 rfl ?_
  refine g_put 9 rfl (by decide) inJ4 tyJ4 tyJ4_ok nmJ4 3 (by decide) fl_J5_79 rfl dJ5_append_c97b9_50 hb rfl rfl ?_
  refine g_aload_n dJ5_append_c97b9_53 rfl ?_
  exact g_aret rfl (Or.inl ⟨_, rfl⟩) (Or.inr ⟨_, rfl⟩) dJ5_append_c97b9_54 (by decide) ⟨_, rfl, rfl, rfl, rfl, ⟨h0, hb, by rw [hu_at_ne _ _ _ (by decide), hO b h0]; exact h1, by rw [hu_at_ne _ _ _ (by decide), hO b h0]; exact h2, hu_at _ _ _ _, h4, by unfold Byf at hB ⊢; rw [hu_ne _ _ _ (Ne.symm h0)]; exact hB⟩, fun q q1 q2 => by rw [hu_ne _ _ _ q1, hO q q2]⟩
theorem sb_num {d : Nat} (hP : SbP sh V b t n) (hd : d < 100) (hnw : n + dgN d ≤ 16) : MC E YJ4_append_bf812 [.ref b, .int (nI d)] sh sz V (pW (fun r V' => r = .ref b ∧ SbP sh V' b t (n + dgN d) ∧ Oth b t V V') sh sz) := by
  refine MC.of RJ4 "append" rfl (by decide +kernel) rfl 0 [_, _] rfl (Nat.le_of_ble_eq_true rfl) ?_
  show G E MJ4_append_bf812 _ _ _ _ _ _ _ _ _
  refine g_aload_n dJ4_append_bf812_0 rfl ?_
  refine g_iload_n dJ4_append_bf812_1 rfl ?_
  refine g_callSw2 (Y := YJ5_append_c97b9) (gIn_SU ml_J4_53 wsm_J5_append_c97b9 wsup_J4 wi_J5_append_c97b9 ini_J5 wc_J5_append_c97b9) yd2_J5_append_c97b9 9 (by decide) rfl rfl dJ4_append_bf812_2 sb_num5 hP hd hnw hP.2.1 rfl rfl rfl (Nat.le_of_ble_eq_true rfl) ⟨rfl, rfl⟩ (fun r V' hQ => ?_)
  obtain ⟨rfl, hQ⟩ := hQ
  refine g_pop dJ4_append_bf812_5 rfl ?_
  refine g_aload_n dJ4_append_bf812_6 rfl ?_
  exact g_aret rfl (Or.inl ⟨_, rfl⟩) (Or.inr ⟨_, rfl⟩) dJ4_append_bf812_7 (by decide) ⟨_, rfl, rfl, rfl, rfl, hQ⟩
/-! the text as a String -/
theorem sub0 (n : Nat) : (nI n - nI 0 : Int32) = nI n := Int32.sub_zero _
theorem min16 : ∀ n, n < 16 → (if nI n < nI 16 - nI 0 then nI n else nI 16 - nI 0 : Int32) = nI n := by decide +kernel
theorem SbP.of_new {F : Nat → Value} {ty : Nat × Nat} (h : SbP sh V b t n) (hbz : b < sz) (htz : t < sz) : SbP (hs sh sz ty) (hn V sz F) b t n := by
  obtain ⟨h0, hb, h1, h2, h3, h4, h5⟩ := h
  unfold SbP Byf at *
  rw [hs_ne _ _ (show b ≠ sz by omega), hs_ne _ _ (show t ≠ sz by omega), hn_ne _ _ (show b ≠ sz by omega), hn_ne _ _ (show t ≠ sz by omega)]
  exact ⟨h0, hb, h1, h2, h3, h4, h5⟩
theorem st_clen (hn : n ≤ 16) : MC E YJ7_checkLength_df160 [.int (nI 0), .int (nI n)] sh sz V (pR none sh sz V) := by
  refine MC.of RJ7 "checkLength" rfl (by decide +kernel) rfl 0 [_, _] rfl (Nat.le_of_ble_eq_true rfl) ?_
  show G E MJ7_checkLength_df160 _ _ _ _ _ _ _ _ _
  refine g_iload_n dJ7_checkLength_df160_0 rfl ?_
  refine g_iload_n dJ7_checkLength_df160_1 rfl ?_
  refine g_icmp_ge (tgt := 37) dJ7_checkLength_df160_2 (by decide) (fun _ => ?_) (fun hq => absurd (nI_pos' (by omega)) hq)
  exact g_vret rfl dJ7_checkLength_df160_37 (by decide) ⟨rfl, rfl, rfl, rfl⟩
theorem hn_hn (V : Vl) (a : Nat) (F F' : Nat → Value) : hn (hn V a F) a F' = hn V a F' := by
  funext q
  unfold hn
  split <;> rfl
theorem src_own {m : Nat} (hs : sh t = (23, m)) {g : Nat → Int32} (hg : V t = fun j => .int (g j)) (hw : w ≤ m) : ∀ (s : State) (H : Heap), KI E s → (∀ q : Nat, q < E.2.1 → s.heap[q]? = E.2.2.1[q]?) → HR E sh sz V H → ∃ cs : Cell, H[t]? = some cs ∧ s.isArrayOf cs .byte ∧ cs.vm ≠ .unknown ∧ w ≤ cs.slots.size ∧ ∀ j, j < w → cs.slots[j]? = some (.int (g j)) := fun s H hK hH hR =>
  ⟨_, hR.arr hs (by decide), (hK.2.1 23 (by decide) (by decide)).1 m _, (fun q => by cases q), by rw [arrV_size]; exact hw, fun j hj => by rw [arrV_read _ _ (by omega), hg]⟩
theorem st_copyB (ht : sh t = (23, 16)) (htz : t < sz) (hB : Byf V t 16) (hn16 : n < 16) : MC E YJ7_copyOfRangeByte_39247 [.ref t, .int (nI 0), .int (nI n)] sh sz V (fun o sh' sz' V' => o = .inl (some (.ref sz)) ∧ sh' = hs sh sz (23, n) ∧ sz' = sz + 1 ∧ ∃ g : Nat → Int32, (∀ j, j < n → fits .byte (.int (g j)) = true) ∧ V' = hn V sz (fun j => .int (g j))) := by
  obtain ⟨g, hg, hgf⟩ := hB
  refine MC.of RJ7 "copyOfRangeByte" rfl (by decide +kernel) rfl 2 [_, _, _, none, none] rfl (Nat.le_of_ble_eq_true rfl) ?_
  show G E MJ7_copyOfRangeByte_39247 _ _ _ _ _ _ _ _ _
  refine g_iload_n dJ7_copyOfRangeByte_39247_0 rfl ?_
  refine g_iload_n dJ7_copyOfRangeByte_39247_1 rfl ?_
  refine g_callSn (Y := YJ7_checkLength_df160) ss_J7_343 yn_J7_checkLength_df160 dJ7_copyOfRangeByte_39247_2 (st_clen (by omega)) rfl rfl rfl (Nat.le_of_ble_eq_true rfl) ⟨rfl, rfl⟩ ?_
  refine g_iload_n dJ7_copyOfRangeByte_39247_5 rfl ?_
  refine g_iload_n dJ7_copyOfRangeByte_39247_6 rfl ?_
  refine g_isub dJ7_copyOfRangeByte_39247_7 ?_
  rw [show (nI n - nI 0 : Int32) = nI n from sub0 n]
  refine g_istore_n dJ7_copyOfRangeByte_39247_8 (by decide) rfl ?_
  show G _ _ _ _ _ _ _ _ _ [_, _, _, _, _] _
  refine g_iload_n dJ7_copyOfRangeByte_39247_9 rfl ?_
  refine g_newa 23 (atype := .byte) rfl (by decide) (by decide) arr_byte n (nI_pos (by omega)) (nI_clamp (by omega)) (by show n * 1 ≤ 536870912; omega) dJ7_copyOfRangeByte_39247_10 ⟨by decide, by show 0 + n ≤ 60; omega⟩ ?_
  refine g_astore dJ7_copyOfRangeByte_39247_12 (by decide) rfl ?_
  show G _ _ _ _ _ _ _ _ _ [_, _, _, _, _] _
  refine g_aload_n dJ7_copyOfRangeByte_39247_14 rfl ?_
  refine g_iload_n dJ7_copyOfRangeByte_39247_15 rfl ?_
  refine g_aload dJ7_copyOfRangeByte_39247_16 rfl ?_
  refine g_iconst (v := nI 0) dJ7_copyOfRangeByte_39247_18 (by decide) ?_
  refine g_aload_n dJ7_copyOfRangeByte_39247_19 rfl ?_
  refine g_alen (v := nI 16) dJ7_copyOfRangeByte_39247_20 (show hs sh sz (23, n) t = (23, 16) by rw [hs_ne _ _ (by omega)]; exact ht) (by decide) (by decide) rfl ?_
  refine g_iload_n dJ7_copyOfRangeByte_39247_21 rfl ?_
  refine g_isub dJ7_copyOfRangeByte_39247_22 ?_
  refine g_iload_n dJ7_copyOfRangeByte_39247_23 rfl ?_
  refine g_mmin ml_J7_304 wm_mmin_s wm_ini wm_mmin_c dJ7_copyOfRangeByte_39247_24 (Nat.le_of_ble_eq_true rfl) (Nat.le_of_ble_eq_true rfl) ⟨by decide, by show 0 + n ≤ 60; omega⟩ ?_
  rw [show (if nI n < nI 16 - nI 0 then nI n else nI 16 - nI 0 : Int32) = nI n from min16 n hn16]
  refine g_bcopyC (n1 := n) (w := n) (sp := 0) (dp := 0) (n := n) (a0 := t) (a := sz) ml_J7_150 wn_acopy wt_acopy wi_sys dJ7_copyOfRangeByte_39247_27 g (src_own (m := 16) (by rw [hs_ne _ _ (by omega)]; exact ht) (by rw [hn_ne _ _ (by omega)]; exact hg) (by omega)) (fun j hj => hgf j (by omega)) (hs_at _ _ _) (fun _ => nI 0) (by rw [hn_at]; rfl) (by omega) (by omega) (by omega) (by omega) (Nat.le_of_ble_eq_true rfl) (Nat.le_of_ble_eq_true rfl) ?_
  rw [hn_hn]
  refine g_aload (i := 4) dJ7_copyOfRangeByte_39247_30 rfl ?_
  exact g_aret rfl (Or.inr ⟨_, rfl⟩) (Or.inr ⟨_, rfl⟩) dJ7_copyOfRangeByte_39247_32 ⟨by decide, by show 0 + n ≤ 60; omega⟩ ⟨rfl, rfl, rfl, _, cpy_fit (w := n) (fun j hj => hgf j (by omega)) (fun j _ => fb0) (by omega), rfl⟩
theorem st_copy (ht : sh t = (23, 16)) (htz : t < sz) (hB : Byf V t 16) (hn16 : n < 16) : MC E YJ7_copyOfRange_39247 [.ref t, .int (nI 0), .int (nI n)] sh sz V (fun o sh' sz' V' => o = .inl (some (.ref sz)) ∧ sh' = hs sh sz (23, n) ∧ sz' = sz + 1 ∧ ∃ g : Nat → Int32, (∀ j, j < n → fits .byte (.int (g j)) = true) ∧ V' = hn V sz (fun j => .int (g j))) := by
  refine MC.of RJ7 "copyOfRange" rfl (by decide +kernel) rfl 0 [_, _, _] rfl (Nat.le_of_ble_eq_true rfl) ?_
  show G E MJ7_copyOfRange_39247 _ _ _ _ _ _ _ _ _
  refine g_iload_n dJ7_copyOfRange_39247_0 rfl ?_
  refine g_if_ne (tgt := 10) dJ7_copyOfRange_39247_1 (by decide) (fun hq => absurd hq (fun h => h rfl)) (fun _ => ?_)
  refine g_iload_n dJ7_copyOfRange_39247_4 rfl ?_
  refine g_aload_n dJ7_copyOfRange_39247_5 rfl ?_
  refine g_alen (v := nI 16) dJ7_copyOfRange_39247_6 ht (by decide) (by decide) rfl ?_
  refine g_icmp_eq (tgt := 17) dJ7_copyOfRange_39247_7 (by decide) (fun hq => absurd hq (fun q => absurd ((nI_eq (by omega) (by decide)).mp q) (by omega))) (fun _ => ?_)
  refine g_aload_n dJ7_copyOfRange_39247_10 rfl ?_
  refine g_iload_n dJ7_copyOfRange_39247_11 rfl ?_
  refine g_iload_n dJ7_copyOfRange_39247_12 rfl ?_
  refine g_callS (Y := YJ7_copyOfRangeByte_39247) ss_J7_339 yn_J7_copyOfRangeByte_39247 dJ7_copyOfRange_39247_13 (st_copyB ht htz hB hn16) rfl rfl (gRoom_of rfl) (Nat.le_of_ble_eq_true rfl) (fun _ _ _ _ h => by rw [h.2.2.1]; omega) (fun v' sh' sz' V' h => ?_) (fun _ _ _ _ h => nomatch h.1)
  obtain ⟨h1, h2, h3, h4⟩ := h
  cases h1
  exact g_aret rfl (Or.inr ⟨_, rfl⟩) (Or.inr ⟨_, rfl⟩) dJ7_copyOfRange_39247_16 (by decide) ⟨rfl, h2, h3, h4⟩
/-- a String was made: its bytes, its cell -/
theorem st_initA (hP : SbP sh V b t n) (hk : (sh k).1 = 1) (hkz : k < sz) (htz : t < sz) (hkb : k ≠ b) (hkt : k ≠ t) (hn16 : n < 16) : MC E YJ0_init_db425 [.ref k, .ref b, .null] sh sz V (fun o sh' sz' V' => o = .inl none ∧ sh' = hs sh sz (23, n) ∧ sz' = sz + 1 ∧ StrA E sh' V' k sz n ∧ ∀ q, q < sz → q ≠ k → V' q = V q) := by
  have hP0 := hP
  obtain ⟨h0, hb, h1, h2, h3, h4, h5⟩ := hP
  refine MC.of RJ0 "<init>" rfl (by decide +kernel) rfl 2 [_, _, _, none, none] rfl (Nat.le_of_ble_eq_true rfl) ?_
  show G E MJ0_init_db425 _ _ _ _ _ _ _ _ _
  refine g_aload_n dJ0_init_db425_0 rfl ?_
  refine g_objInit ml_J0_1 obj_inst obj_code dJ0_init_db425_1 (Nat.le_of_ble_eq_true rfl) (Nat.le_of_ble_eq_true rfl) ?_
  refine g_aload_n dJ0_init_db425_4 rfl ?_
  refine g_callUp (Y := YJ5_getValue_6d5f1) (gIn_U ml_J0_552 wsm_J5_getValue_6d5f1 wse_J5_getValue_6d5f1 wi_J5_getValue_6d5f1 ini_J5 wc_J5_getValue_6d5f1) rfl yd_J5_getValue_6d5f1 9 (by decide) rfl rfl dJ0_init_db425_5 sb_val hb h1 hb rfl rfl rfl (Nat.le_of_ble_eq_true rfl) ⟨rfl, rfl⟩ ?_
  refine g_astore_n dJ0_init_db425_8 (by decide) rfl ?_
  show G _ _ _ _ _ _ _ _ _ [_, _, _, _, _] _
  refine g_aload_n dJ0_init_db425_9 rfl ?_
  refine g_callOp (Y := YJ4_length_8abf5) (gIn_O ml_J0_549 wsm_J5_length_8abf5 wi_J5_length_8abf5 wse_len wi_J4_length_8abf5 ini_J4 wc_J4_length_8abf5) wc_J5_length_8abf5 yd_J5_length_8abf5 9 (by decide) rfl rfl dJ0_init_db425_10 (sb_len hb h3) hb rfl rfl rfl (Nat.le_of_ble_eq_true rfl) ⟨rfl, rfl⟩ ?_
  refine g_istore dJ0_init_db425_13 (by decide) rfl ?_
  show G _ _ _ _ _ _ _ _ _ [_, _, _, _, _] _
  refine g_aload_n dJ0_init_db425_15 rfl ?_
  refine g_callUp (Y := YJ5_isLatin1_aae02) (gIn_U ml_J0_1047 wsm_J5_isLatin1_aae02 wse_J5_isLatin1_aae02 wi_J5_isLatin1_aae02 ini_J5 wc_J5_isLatin1_aae02) rfl yd_J5_isLatin1_aae02 9 (by decide) rfl rfl dJ0_init_db425_16 sb_lat hb h2 hb rfl rfl rfl (Nat.le_of_ble_eq_true rfl) ⟨rfl, rfl⟩ ?_
  refine g_if_eq (tgt := 41) dJ0_init_db425_19 (by decide) (fun hq => absurd hq (by decide)) (fun _ => ?_)
  refine g_aload_n dJ0_init_db425_22 rfl ?_
  refine g_iconst (v := nI 0) dJ0_init_db425_23 (by decide) ?_
  refine g_putF 0 rfl (by decide) inJ0 tyJ0 tyJ0_ok nmJ0 1 (by decide) fl_J0_15 rfl rfl rfl dJ0_init_db425_24 hk nb0 fb0 ?_
  refine g_aload_n dJ0_init_db425_27 rfl ?_
  refine g_aload_n dJ0_init_db425_28 rfl ?_
  refine g_iconst (v := nI 0) dJ0_init_db425_29 (by decide) ?_
  refine g_iload dJ0_init_db425_30 rfl ?_
  refine g_callS (Y := YJ7_copyOfRange_39247) ss_J0_54 yn_J7_copyOfRange_39247 dJ0_init_db425_32 (st_copy h4 htz (by unfold Byf at h5 ⊢; rw [hu_ne _ _ _ (Ne.symm hkt)]; exact h5) hn16) rfl rfl (gRoom_of rfl) (Nat.le_of_ble_eq_true rfl) (fun _ _ _ _ h => by rw [h.2.2.1]; omega) (fun v' sh' sz' V' h => ?_) (fun _ _ _ _ h => nomatch h.1)
  obtain ⟨e1, rfl, rfl, g, hg, rfl⟩ := h
  cases e1
  have hk' : (hs sh sz (23, n) k).1 = 1 := by
    rw [hs_ne _ _ (by omega)]
    exact hk
  refine g_putF 0 rfl (by decide) inJ0 tyJ0 tyJ0_ok nmJ0 0 (by decide) fl_J0_9 rfl rfl rfl dJ0_init_db425_35 hk' rfl rfl ?_
  refine g_jump (tgt := 97) dJ0_init_db425_38 (by decide) ?_
  exact g_vret rfl dJ0_init_db425_97 (by decide) ⟨rfl, rfl, rfl, ⟨by omega, Or.inr ⟨hk', hu_at _ _ _ _, by rw [hu_at_ne _ _ _ (by decide), hn_ne _ _ (by omega), hu_at], hs_at _ _ _, fun j hj => ⟨g j, by rw [hu_ne _ _ _ (by omega), hn_at], hg j hj⟩⟩⟩, fun q q1 q2 => by rw [hu_ne _ _ _ q2, hn_ne _ _ (by omega), hu_ne _ _ _ q2]⟩
theorem st_init (hP : SbP sh V b t n) (hk : (sh k).1 = 1) (hkz : k < sz) (htz : t < sz) (hkb : k ≠ b) (hkt : k ≠ t) (hn16 : n < 16) : MC E YJ0_init_81219 [.ref k, .ref b] sh sz V (fun o sh' sz' V' => o = .inl none ∧ sh' = hs sh sz (23, n) ∧ sz' = sz + 1 ∧ StrA E sh' V' k sz n ∧ ∀ q, q < sz → q ≠ k → V' q = V q) := by
  refine MC.of RJ0 "<init>" rfl (by decide +kernel) rfl 0 [_, _] rfl (Nat.le_of_ble_eq_true rfl) ?_
  show G E MJ0_init_81219 _ _ _ _ _ _ _ _ _
  refine g_aload_n dJ0_init_81219_0 rfl ?_
  refine g_aload_n dJ0_init_81219_1 rfl ?_
  refine g_null dJ0_init_81219_2 ?_
  refine g_callI (Y := YJ0_init_db425) rfl wc_J0_init_db425 ml_J0_489 wi_J0_init_db425 ini_J0 rfl yn_J0_init_db425 dJ0_init_81219_3 st_initA hP hk hkz htz hkb hkt hn16 rfl rfl (gRoom_of rfl) (Nat.le_of_ble_eq_true rfl) (fun _ _ _ _ h => by rw [h.2.2.1]; omega) (fun _ _ _ _ h => nomatch h.1) (fun v' sh' sz' V' h => ?_)
  obtain ⟨h1, h2, h3, h4, h5⟩ := h
  cases h1
  exact g_vret rfl dJ0_init_81219_6 (by decide) ⟨rfl, h2, h3, h4, h5⟩
theorem sb_str (hP : SbP sh V b t n) (hbz : b < sz) (htz : t < sz) (hn16 : n < 16) : MC E YJ4_toString_0e30d [.ref b] sh sz V (fun o sh' sz' V' => o = .inl (some (.ref sz)) ∧ sh' = hs (hs sh sz (1, 4)) (sz + 1) (23, n) ∧ sz' = sz + 2 ∧ StrA E sh' V' sz (sz + 1) n ∧ ∀ q, q < sz → V' q = V q) := by
  refine MC.of RJ4 "toString" rfl (by decide +kernel) rfl 0 [_] rfl (Nat.le_of_ble_eq_true rfl) ?_
  show G E MJ4_toString_0e30d _ _ _ _ _ _ _ _ _
  refine g_new 0 rfl (by decide) inJ0 tyJ0 tyJ0_ok cl_J4_18 new_J0 ini_J0 dJ4_toString_0e30d_0 (by decide) ?_
  refine g_dup dJ4_toString_0e30d_3 rfl ?_
  refine g_aload_n dJ4_toString_0e30d_4 rfl ?_
  refine g_callI (Y := YJ0_init_81219) rfl wc_J0_init_81219 ml_J4_137 wi_J0_init_81219 ini_J0 rfl yn_J0_init_81219 dJ4_toString_0e30d_5 (st_init (SbP.of_new hP hbz htz) (by rw [hs_at]) (Nat.lt_succ_self _) (by omega) (by omega) (by omega) hn16) rfl rfl (gRoom_of rfl) (Nat.le_of_ble_eq_true rfl) (fun _ _ _ _ h => by rw [h.2.2.1]; omega) (fun _ _ _ _ h => nomatch h.1) (fun v' sh' sz' V' h => ?_)
  obtain ⟨h1, h2, h3, h4, h5⟩ := h
  cases h1
  exact g_aret rfl (Or.inl ⟨_, rfl⟩) (Or.inr ⟨_, rfl⟩) dJ4_toString_0e30d_8 (by decide) ⟨rfl, h2, h3, h4, fun q hq => by rw [h5 q (by omega) (by omega), hn_ne _ _ (by omega)]⟩
end STRM

