/-! StringBuilder and String, 0 -/
section STRM0
variable {E : gE} {sh : Sh} {sz : Nat} {V : Vl} {b t n k v w : Nat}
theorem nar_fit (x : Int32) : fits .byte (.int (vp_nar .byte x)) = true := by
  rw [vp_nar_byte]
  show (decide ((-128 : Int32) ≤ x.toInt8.toInt32) && decide (x.toInt8.toInt32 ≤ 127)) = true
  have h1 := Int8.le_toInt x.toInt8
  have h2 := Int8.toInt_lt x.toInt8
  have e : x.toInt8.toInt32.toInt = x.toInt8.toInt := by simp
  rw [Bool.and_eq_true]
  refine ⟨decide_eq_true (Int32.le_iff_toInt_le.mpr ?_), decide_eq_true (Int32.le_iff_toInt_le.mpr ?_)⟩
  · rw [e, show (-128 : Int32).toInt = -128 by decide]
    omega
  · rw [e, show (127 : Int32).toInt = 127 by decide]
    omega
theorem char_idem (x : Int32) : vp_nar .char ((x.toUInt32 % 65536).toInt32) = (x.toUInt32 % 65536).toInt32 := by
  have e : x.toUInt32 % 65536 % 65536 = x.toUInt32 % 65536 := by
    apply UInt32.toNat_inj.mp
    rw [UInt32.toNat_mod, UInt32.toNat_mod]
    exact Nat.mod_mod _ _
  rw [vp_nar_char]
  simp [e]
theorem char_nr {z : Int32} (h : vp_nar .char z = z) : narrow .char (.int z) = .int z := by
  have e : narrow .char (.int z) = .int (vp_nar .char z) := by rw [vp_nar_char]; rfl
  rw [e, h]
theorem nb0 : narrow .byte (.int (nI 0)) = .int (nI 0) := by decide +kernel
theorem fb0 : fits .byte (.int (nI 0)) = true := by decide +kernel
theorem shl16 : ∀ n, n < 17 → (nI n <<< (nI 0 &&& 31) : Int32) = nI n := by decide +kernel
theorem shr60 : ∀ n, n < 61 → (nI n >>> (nI 0 &&& 31) : Int32) = nI n := by decide +kernel
theorem sub16 : ∀ n, n < 17 → (nI n - nI 16 : Int32) ≤ 0 := by decide +kernel
/-- an array of bytes of the claim's own -/
def Byf (V : Vl) (t n : Nat) : Prop := ∃ g : Nat → Int32, V t = (fun j => .int (g j)) ∧ ∀ j, j < n → fits .byte (.int (g j)) = true
theorem Byf.set {V : Vl} {t n : Nat} (h : Byf V t n) (k : Nat) (x : Int32) : Byf (hu V t k (.int (vp_nar .byte x))) t n := by
  obtain ⟨g, h1, h2⟩ := h
  refine ⟨fun j => if j = k then vp_nar .byte x else g j, ?_, fun j hj => ?_⟩
  · unfold hu
    rw [if_pos rfl, h1]
    funext j
    by_cases q : j = k
    · simp [updV, q]
    · simp [updV, q]
  · show fits .byte (.int (if j = k then vp_nar .byte x else g j)) = true
    split
    · exact nar_fit x
    · exact h2 j hj
/-- a StringBuilder whose bytes lie at t -/
def SbP (sh : Sh) (V : Vl) (b t n : Nat) : Prop := b ≠ t ∧ (sh b).1 = 10 ∧ V b 0 = .ref t ∧ V b 1 = .int (nI 0) ∧ V b 3 = .int (nI n) ∧ sh t = (23, 16) ∧ Byf V t 16
theorem SbP.keep {V' : Vl} (h : SbP sh V b t n) (h1 : V' b = V b) (h2 : V' t = V t) : SbP sh V' b t n := by
  obtain ⟨a1, a2, a3, a4, a5, a6, a7⟩ := h
  refine ⟨a1, a2, by rw [h1]; exact a3, by rw [h1]; exact a4, by rw [h1]; exact a5, a6, ?_⟩
  unfold Byf at a7 ⊢
  rw [h2]
  exact a7
/-- nothing but the builder and its bytes has changed -/
def Oth (b t : Nat) (V V' : Vl) : Prop := ∀ q, q ≠ b → q ≠ t → V' q = V q
theorem StrA.keep {V' : Vl} (h : StrA E sh V k v w) (h1 : V' k = V k) (h2 : V' v = V v) : StrA E sh V' k v w := by
  obtain ⟨h0, h | ⟨a1, a2, a3, a4, a5⟩⟩ := h
  · exact ⟨h0, Or.inl h⟩
  · exact ⟨h0, Or.inr ⟨a1, by rw [h1]; exact a2, by rw [h1]; exact a3, a4, fun j hj => by rw [h2]; exact a5 j hj⟩⟩
/-! making one -/
theorem sb_init5 (hb : (sh b).1 = 10) (hlt : b < sz) : MC E YJ5_init_d00df [.ref b, .int (nI 16)] sh sz V (fun o sh' sz' V' => o = .inl none ∧ sh' = hs sh sz (23, 16) ∧ sz' = sz + 1 ∧ V' = hu (hu (hn V sz (fun _ => .int (nI 0))) b 0 (.ref sz)) b 1 (.int (nI 0))) := by
  have hb' : (hs sh sz (23, 16) b).1 = 10 := by
    rw [hs_ne _ _ (by omega)]
    exact hb
  refine MC.of RJ5 "<init>" rfl (by decide +kernel) rfl 0 [_, _] rfl (Nat.le_of_ble_eq_true rfl) ?_
  show G E MJ5_init_d00df _ _ _ _ _ _ _ _ _
  refine g_aload_n dJ5_init_d00df_0 rfl ?_
  refine g_objInit ml_J5_3 obj_inst obj_code dJ5_init_d00df_1 (Nat.le_of_ble_eq_true rfl) (Nat.le_of_ble_eq_true rfl) ?_
  refine g_comp fl_J5_18 dJ5_init_d00df_4 ?_
  refine g_if_eq (tgt := 25) dJ5_init_d00df_7 (by decide) (fun hq => absurd hq (by decide)) (fun _ => ?_)
  refine g_aload_n dJ5_init_d00df_10 rfl ?_
  refine g_iload_n dJ5_init_d00df_11 rfl ?_
  refine g_newa 23 (atype := .byte) rfl (by decide) (by decide) arr_byte 16 (by decide) (by decide) (Nat.le_of_ble_eq_true rfl) dJ5_init_d00df_12 (by decide) ?_
  refine g_put 9 rfl (by decide) inJ4 tyJ4 tyJ4_ok nmJ4 0 (by decide) fl_J5_15 rfl dJ5_init_d00df_14 hb' rfl rfl ?_
  refine g_aload_n dJ5_init_d00df_17 rfl ?_
  refine g_iconst (v := nI 0) dJ5_init_d00df_18 (by decide) ?_
  refine g_put 9 rfl (by decide) inJ4 tyJ4 tyJ4_ok nmJ4 1 (by decide) fl_J5_22 rfl dJ5_init_d00df_19 hb' nb0 fb0 ?_
  refine g_jump (tgt := 38) dJ5_init_d00df_22 (by decide) ?_
  exact g_vret rfl dJ5_init_d00df_38 (by decide) ⟨rfl, rfl, rfl, rfl⟩
theorem sb_init (hb : (sh b).1 = 10) (hlt : b < sz) : MC E YJ4_init_da8c8 [.ref b] sh sz V (fun o sh' sz' V' => o = .inl none ∧ sh' = hs sh sz (23, 16) ∧ sz' = sz + 1 ∧ V' = hu (hu (hn V sz (fun _ => .int (nI 0))) b 0 (.ref sz)) b 1 (.int (nI 0))) := by
  refine MC.of RJ4 "<init>" rfl (by decide +kernel) rfl 0 [_] rfl (Nat.le_of_ble_eq_true rfl) ?_
  show G E MJ4_init_da8c8 _ _ _ _ _ _ _ _ _
  refine g_aload_n dJ4_init_da8c8_0 rfl ?_
  refine g_bipush (v := nI 16) dJ4_init_da8c8_1 (by decide) ?_
  refine g_callI (Y := YJ5_init_d00df) rfl wc_J5_init_d00df ml_J4_1 wi_J5_init_d00df ini_J5 rfl yn_J5_init_d00df dJ4_init_da8c8_3 (sb_init5 hb hlt) rfl rfl (gRoom_of rfl) (Nat.le_of_ble_eq_true rfl) (fun _ _ _ _ h => by rw [h.2.2.1]; omega) (fun _ _ _ _ h => nomatch h.1) (fun v' sh' sz' V' h => ?_)
  obtain ⟨h1, rfl, rfl, rfl⟩ := h
  cases h1
  exact g_vret rfl dJ4_init_da8c8_6 (by decide) ⟨rfl, rfl, rfl, rfl⟩
/-! small methods -/
theorem sb_len5 (hb : (sh b).1 = 10) (h3 : V b 3 = .int (nI n)) : MC E YJ5_length_8abf5 [.ref b] sh sz V (pR (some (.int (nI n))) sh sz V) := by
  refine MC.of RJ5 "length" rfl (by decide +kernel) rfl 0 [_] rfl (Nat.le_of_ble_eq_true rfl) ?_
  show G E MJ5_length_8abf5 _ _ _ _ _ _ _ _ _
  refine g_aload_n dJ5_length_8abf5_0 rfl ?_
  refine g_get 9 rfl (by decide) inJ4 3 (by decide) fl_J5_79 dJ5_length_8abf5_1 hb h3 ?_
  exact g_iret rfl (nr_int _) dJ5_length_8abf5_4 (by decide) ⟨rfl, rfl, rfl, rfl⟩
theorem sb_len (hb : (sh b).1 = 10) (h3 : V b 3 = .int (nI n)) : MC E YJ4_length_8abf5 [.ref b] sh sz V (pR (some (.int (nI n))) sh sz V) := by
  refine MC.of RJ4 "length" rfl (by decide +kernel) rfl 0 [_] rfl (Nat.le_of_ble_eq_true rfl) ?_
  show G E MJ4_length_8abf5 _ _ _ _ _ _ _ _ _
  refine g_aload_n dJ4_length_8abf5_0 rfl ?_
  refine g_callSp2 (Y := YJ5_length_8abf5) (gIn_SU ml_J4_343 wsm_J5_length_8abf5 wsup_J4 wi_J5_length_8abf5 ini_J5 wc_J5_length_8abf5) yd2_J5_length_8abf5 9 (by decide) rfl rfl dJ4_length_8abf5_1 (sb_len5 hb h3) hb rfl rfl rfl (Nat.le_of_ble_eq_true rfl) ⟨rfl, rfl⟩ ?_
  exact g_iret rfl (nr_int _) dJ4_length_8abf5_4 (by decide) ⟨rfl, rfl, rfl, rfl⟩
theorem sb_val (hb : (sh b).1 = 10) (h3 : V b 0 = .ref t) : MC E YJ5_getValue_6d5f1 [.ref b] sh sz V (pR (some (.ref t)) sh sz V) := by
  refine MC.of RJ5 "getValue" rfl (by decide +kernel) rfl 0 [_] rfl (Nat.le_of_ble_eq_true rfl) ?_
  show G E MJ5_getValue_6d5f1 _ _ _ _ _ _ _ _ _
  refine g_aload_n dJ5_getValue_6d5f1_0 rfl ?_
  refine g_get 9 rfl (by decide) inJ4 0 (by decide) fl_J5_15 dJ5_getValue_6d5f1_1 hb h3 ?_
  exact g_aret rfl (Or.inr ⟨_, rfl⟩) (Or.inr ⟨_, rfl⟩) dJ5_getValue_6d5f1_4 (by decide) ⟨rfl, rfl, rfl, rfl⟩
theorem sb_lat (hb : (sh b).1 = 10) (h3 : V b 1 = .int (nI 0)) : MC E YJ5_isLatin1_aae02 [.ref b] sh sz V (pR (some (.int (nI 1))) sh sz V) := by
  refine MC.of RJ5 "isLatin1" rfl (by decide +kernel) rfl 0 [_] rfl (Nat.le_of_ble_eq_true rfl) ?_
  show G E MJ5_isLatin1_aae02 _ _ _ _ _ _ _ _ _
  refine g_comp fl_J5_18 dJ5_isLatin1_aae02_0 ?_
  refine g_if_eq (tgt := 17) dJ5_isLatin1_aae02_3 (by decide) (fun hq => absurd hq (by decide)) (fun _ => ?_)
  refine g_aload_n dJ5_isLatin1_aae02_6 rfl ?_
  refine g_get 9 rfl (by decide) inJ4 1 (by decide) fl_J5_22 dJ5_isLatin1_aae02_7 hb h3 ?_
  refine g_if_ne (tgt := 17) dJ5_isLatin1_aae02_10 (by decide) (fun hq => absurd hq (by decide)) (fun _ => ?_)
  refine g_iconst (v := nI 1) dJ5_isLatin1_aae02_13 (by decide) ?_
  refine g_jump (tgt := 18) dJ5_isLatin1_aae02_14 (by decide) ?_
  exact g_iret rfl nz1 dJ5_isLatin1_aae02_18 (by decide) ⟨rfl, rfl, rfl, rfl⟩
theorem sb_ens (hS : SbP sh V b t n) {m : Nat} (hm : m ≤ 16) : MC E YJ5_ensureCapacityInternal_d00df [.ref b, .int (nI m)] sh sz V (pR none sh sz V) := by
  obtain ⟨h0, hb, h1, h2, h3, h4, h5⟩ := hS
  refine MC.of RJ5 "ensureCapacityInternal" rfl (by decide +kernel) rfl 1 [_, _, none] rfl (Nat.le_of_ble_eq_true rfl) ?_
  show G E MJ5_ensureCapacityInternal_d00df _ _ _ _ _ _ _ _ _
  refine g_aload_n dJ5_ensureCapacityInternal_d00df_0 rfl ?_
  refine g_get 9 rfl (by decide) inJ4 0 (by decide) fl_J5_15 dJ5_ensureCapacityInternal_d00df_1 hb h1 ?_
  refine g_alen (v := nI 16) dJ5_ensureCapacityInternal_d00df_4 h4 (by decide) (by decide) rfl ?_
  refine g_aload_n dJ5_ensureCapacityInternal_d00df_5 rfl ?_
  refine g_get 9 rfl (by decide) inJ4 1 (by decide) fl_J5_22 dJ5_ensureCapacityInternal_d00df_6 hb h2 ?_
  refine g_ishr dJ5_ensureCapacityInternal_d00df_9 ?_
  refine g_istore_n dJ5_ensureCapacityInternal_d00df_10 (by decide) rfl ?_
  show G _ _ _ _ _ _ _ _ _ [_, _, _] _
  refine g_iload_n dJ5_ensureCapacityInternal_d00df_11 rfl ?_
  refine g_iload_n dJ5_ensureCapacityInternal_d00df_12 rfl ?_
  refine g_isub dJ5_ensureCapacityInternal_d00df_13 ?_
  rw [shr60 16 (by decide)]
  refine g_if_le (tgt := 38) dJ5_ensureCapacityInternal_d00df_14 (by decide) (fun _ => ?_) (fun hq => absurd (sub16 m (by omega)) hq)
  exact g_vret rfl dJ5_ensureCapacityInternal_d00df_38 (by decide) ⟨rfl, rfl, rfl, rfl⟩
end STRM0

