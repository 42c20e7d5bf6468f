/-! StringBuilder and String, 4 -/
section STRM4
variable {E : gE} {sh : Sh} {sz : Nat} {V : Vl} {b t n k v w : Nat}
/-! the text as a String -/
theorem sub0 (n : Nat) : (nI n - nI 0 : Int32) = nI n := Int32.sub_zero _
theorem min16 : ∀ n, n < 16 → (if nI n < nI 16 - nI 0 then nI n else nI 16 - nI 0 : Int32) = nI n := by decide +kernel
theorem SbP.of_new {F : Nat → Value} {ty : Nat × Nat} (h : SbP sh V b t n) (hbz : b < sz) (htz : t < sz) : SbP (hs sh sz ty) (hn V sz F) b t n := by
  obtain ⟨h0, hb, h1, h2, h3, h4, h5⟩ := h
  unfold SbP Byf at *
  rw [hs_ne _ _ (show b ≠ sz by omega), hs_ne _ _ (show t ≠ sz by omega), hn_ne _ _ (show b ≠ sz by omega), hn_ne _ _ (show t ≠ sz by omega)]
  exact ⟨h0, hb, h1, h2, h3, h4, h5⟩
theorem st_clen (hn : n ≤ 16) : MC E YJ7_checkLength_df160 [.int (nI 0), .int (nI n)] sh sz V (pR none sh sz V) := by
  refine MC.of RJ7 "checkLength" rfl (by decide +kernel) rfl 0 [_, _] rfl (Nat.le_of_ble_eq_true rfl) ?_
  show G E MJ7_checkLength_df160 _ _ _ _ _ _ _ _ _
  refine g_iload_n dJ7_checkLength_df160_0 rfl ?_
  refine g_iload_n dJ7_checkLength_df160_1 rfl ?_
  refine g_icmp_ge (tgt := 37) dJ7_checkLength_df160_2 (by decide) (fun _ => ?_) (fun hq => absurd (nI_pos' (by omega)) hq)
  exact g_vret rfl dJ7_checkLength_df160_37 (by decide) ⟨rfl, rfl, rfl, rfl⟩
theorem hn_hn (V : Vl) (a : Nat) (F F' : Nat → Value) : hn (hn V a F) a F' = hn V a F' := by
  funext q
  unfold hn
  split <;> rfl
theorem src_own {m : Nat} (hs : sh t = (23, m)) {g : Nat → Int32} (hg : V t = fun j => .int (g j)) (hw : w ≤ m) : ∀ (s : State) (H : Heap), KI E s → (∀ q : Nat, q < E.2.1 → s.heap[q]? = E.2.2.1[q]?) → HR E sh sz V H → ∃ cs : Cell, H[t]? = some cs ∧ s.isArrayOf cs .byte ∧ cs.vm ≠ .unknown ∧ w ≤ cs.slots.size ∧ ∀ j, j < w → cs.slots[j]? = some (.int (g j)) := fun s H hK hH hR =>
  ⟨_, hR.arr hs (by decide), (hK.2.1 23 (by decide) (by decide)).1 m _, (fun q => by cases q), by rw [arrV_size]; exact hw, fun j hj => by rw [arrV_read _ _ (by omega), hg]⟩
theorem st_copyB (ht : sh t = (23, 16)) (htz : t < sz) (hB : Byf V t 16) (hn16 : n < 16) : MC E YJ7_copyOfRangeByte_39247 [.ref t, .int (nI 0), .int (nI n)] sh sz V (fun o sh' sz' V' => o = .inl (some (.ref sz)) ∧ sh' = hs sh sz (23, n) ∧ sz' = sz + 1 ∧ ∃ g : Nat → Int32, (∀ j, j < n → fits .byte (.int (g j)) = true) ∧ V' = hn V sz (fun j => .int (g j))) := by
  obtain ⟨g, hg, hgf⟩ := hB
  refine MC.of RJ7 "copyOfRangeByte" rfl (by decide +kernel) rfl 2 [_, _, _, none, none] rfl (Nat.le_of_ble_eq_true rfl) ?_
  show G E MJ7_copyOfRangeByte_39247 _ _ _ _ _ _ _ _ _
  refine g_iload_n dJ7_copyOfRangeByte_39247_0 rfl ?_
  refine g_iload_n dJ7_copyOfRangeByte_39247_1 rfl ?_
  refine g_callSn (Y := YJ7_checkLength_df160) ss_J7_343 yn_J7_checkLength_df160 dJ7_copyOfRangeByte_39247_2 (st_clen (by omega)) rfl rfl rfl (Nat.le_of_ble_eq_true rfl) ⟨rfl, rfl⟩ ?_
  refine g_iload_n dJ7_copyOfRangeByte_39247_5 rfl ?_
  refine g_iload_n dJ7_copyOfRangeByte_39247_6 rfl ?_
  refine g_isub dJ7_copyOfRangeByte_39247_7 ?_
  rw [show (nI n - nI 0 : Int32) = nI n from sub0 n]
  refine g_istore_n dJ7_copyOfRangeByte_39247_8 (by decide) rfl ?_
  show G _ _ _ _ _ _ _ _ _ [_, _, _, _, _] _
  refine g_iload_n dJ7_copyOfRangeByte_39247_9 rfl ?_
  refine g_newa 23 (atype := .byte) rfl (by decide) (by decide) arr_byte n (nI_pos (by omega)) (nI_clamp (by omega)) (by show n * 1 ≤ 536870912; omega) dJ7_copyOfRangeByte_39247_10 ⟨by decide, by show 0 + n ≤ 60; omega⟩ ?_
  refine g_astore dJ7_copyOfRangeByte_39247_12 (by decide) rfl ?_
  show G _ _ _ _ _ _ _ _ _ [_, _, _, _, _] _
  refine g_aload_n dJ7_copyOfRangeByte_39247_14 rfl ?_
  refine g_iload_n dJ7_copyOfRangeByte_39247_15 rfl ?_
  refine g_aload dJ7_copyOfRangeByte_39247_16 rfl ?_
  refine g_iconst (v := nI 0) dJ7_copyOfRangeByte_39247_18 (by decide) ?_
  refine g_aload_n dJ7_copyOfRangeByte_39247_19 rfl ?_
  refine g_alen (v := nI 16) dJ7_copyOfRangeByte_39247_20 (show hs sh sz (23, n) t = (23, 16) by rw [hs_ne _ _ (by omega)]; exact ht) (by decide) (by decide) rfl ?_
  refine g_iload_n dJ7_copyOfRangeByte_39247_21 rfl ?_
  refine g_isub dJ7_copyOfRangeByte_39247_22 ?_
  refine g_iload_n dJ7_copyOfRangeByte_39247_23 rfl ?_
  refine g_mmin ml_J7_304 wm_mmin_s wm_ini wm_mmin_c dJ7_copyOfRangeByte_39247_24 (Nat.le_of_ble_eq_true rfl) (Nat.le_of_ble_eq_true rfl) ⟨by decide, by show 0 + n ≤ 60; omega⟩ ?_
  rw [show (if nI n < nI 16 - nI 0 then nI n else nI 16 - nI 0 : Int32) = nI n from min16 n hn16]
  refine g_bcopyC (n1 := n) (w := n) (sp := 0) (dp := 0) (n := n) (a0 := t) (a := sz) ml_J7_150 wn_acopy wt_acopy wi_sys dJ7_copyOfRangeByte_39247_27 g (src_own (m := 16) (by rw [hs_ne _ _ (by omega)]; exact ht) (by rw [hn_ne _ _ (by omega)]; exact hg) (by omega)) (fun j hj => hgf j (by omega)) (hs_at _ _ _) (fun _ => nI 0) (by rw [hn_at]; rfl) (by omega) (by omega) (by omega) (by omega) (Nat.le_of_ble_eq_true rfl) (Nat.le_of_ble_eq_true rfl) ?_
  rw [hn_hn]
  refine g_aload (i := 4) dJ7_copyOfRangeByte_39247_30 rfl ?_
  exact g_aret rfl (Or.inr ⟨_, rfl⟩) (Or.inr ⟨_, rfl⟩) dJ7_copyOfRangeByte_39247_32 ⟨by decide, by show 0 + n ≤ 60; omega⟩ ⟨rfl, rfl, rfl, _, cpy_fit (w := n) (fun j hj => hgf j (by omega)) (fun j _ => fb0) (by omega), rfl⟩
theorem st_copy (ht : sh t = (23, 16)) (htz : t < sz) (hB : Byf V t 16) (hn16 : n < 16) : MC E YJ7_copyOfRange_39247 [.ref t, .int (nI 0), .int (nI n)] sh sz V (fun o sh' sz' V' => o = .inl (some (.ref sz)) ∧ sh' = hs sh sz (23, n) ∧ sz' = sz + 1 ∧ ∃ g : Nat → Int32, (∀ j, j < n → fits .byte (.int (g j)) = true) ∧ V' = hn V sz (fun j => .int (g j))) := by
  refine MC.of RJ7 "copyOfRange" rfl (by decide +kernel) rfl 0 [_, _, _] rfl (Nat.le_of_ble_eq_true rfl) ?_
  show G E MJ7_copyOfRange_39247 _ _ _ _ _ _ _ _ _
  refine g_iload_n dJ7_copyOfRange_39247_0 rfl ?_
  refine g_if_ne (tgt := 10) dJ7_copyOfRange_39247_1 (by decide) (fun hq => absurd hq (fun h => h rfl)) (fun _ => ?_)
  refine g_iload_n dJ7_copyOfRange_39247_4 rfl ?_
  refine g_aload_n dJ7_copyOfRange_39247_5 rfl ?_
  refine g_alen (v := nI 16) dJ7_copyOfRange_39247_6 ht (by decide) (by decide) rfl ?_
  refine g_icmp_eq (tgt := 17) dJ7_copyOfRange_39247_7 (by decide) (fun hq => absurd hq (fun q => absurd ((nI_eq (by omega) (by decide)).mp q) (by omega))) (fun _ => ?_)
  refine g_aload_n dJ7_copyOfRange_39247_10 rfl ?_
  refine g_iload_n dJ7_copyOfRange_39247_11 rfl ?_
  refine g_iload_n dJ7_copyOfRange_39247_12 rfl ?_
  refine g_callS (Y := YJ7_copyOfRangeByte_39247) ss_J7_339 yn_J7_copyOfRangeByte_39247 dJ7_copyOfRange_39247_13 (st_copyB ht htz hB hn16) rfl rfl (gRoom_of rfl) (Nat.le_of_ble_eq_true rfl) (fun _ _ _ _ h => by rw [h.2.2.1]; omega) (fun v' sh' sz' V' h => ?_) (fun _ _ _ _ h => nomatch h.1)
  obtain ⟨h1, h2, h3, h4⟩ := h
  cases h1
  exact g_aret rfl (Or.inr ⟨_, rfl⟩) (Or.inr ⟨_, rfl⟩) dJ7_copyOfRange_39247_16 (by decide) ⟨rfl, h2, h3, h4⟩
/-- a String was made: its bytes, its cell -/
theorem st_initA (hP : SbP sh V b t n) (hk : (sh k).1 = 1) (hkz : k < sz) (htz : t < sz) (hkb : k ≠ b) (hkt : k ≠ t) (hn16 : n < 16) : MC E YJ0_init_db425 [.ref k, .ref b, .null] sh sz V (fun o sh' sz' V' => o = .inl none ∧ sh' = hs sh sz (23, n) ∧ sz' = sz + 1 ∧ StrA E sh' V' k sz n ∧ ∀ q, q < sz → q ≠ k → V' q = V q) := by
  have hP0 := hP
  obtain ⟨h0, hb, h1, h2, h3, h4, h5⟩ := hP
  refine MC.of RJ0 "<init>" rfl (by decide +kernel) rfl 2 [_, _, _, none, none] rfl (Nat.le_of_ble_eq_true rfl) ?_
  show G E MJ0_init_db425 _ _ _ _ _ _ _ _ _
  refine g_aload_n dJ0_init_db425_0 rfl ?_
  refine g_objInit ml_J0_1 obj_inst obj_code dJ0_init_db425_1 (Nat.le_of_ble_eq_true rfl) (Nat.le_of_ble_eq_true rfl) ?_
  refine g_aload_n dJ0_init_db425_4 rfl ?_
  refine g_callUp (Y := YJ5_getValue_6d5f1) (gIn_U ml_J0_552 wsm_J5_getValue_6d5f1 wse_J5_getValue_6d5f1 wi_J5_getValue_6d5f1 ini_J5 wc_J5_getValue_6d5f1) rfl yd_J5_getValue_6d5f1 9 (by decide) rfl rfl dJ0_init_db425_5 (sb_val hb h1) hb rfl rfl rfl (Nat.le_of_ble_eq_true rfl) ⟨rfl, rfl⟩ ?_
  refine g_astore_n dJ0_init_db425_8 (by decide) rfl ?_
  show G _ _ _ _ _ _ _ _ _ [_, _, _, _, _] _
  refine g_aload_n dJ0_init_db425_9 rfl ?_
  refine g_callOp (Y := YJ4_length_8abf5) (gIn_O ml_J0_549 wsm_J5_length_8abf5 wi_J5_length_8abf5 wse_len wi_J4_length_8abf5 ini_J4 wc_J4_length_8abf5) wc_J5_length_8abf5 yd_J5_length_8abf5 9 (by decide) rfl rfl dJ0_init_db425_10 (sb_len hb h3) hb rfl rfl rfl (Nat.le_of_ble_eq_true rfl) ⟨rfl, rfl⟩ ?_
  refine g_istore dJ0_init_db425_13 (by decide) rfl ?_
  show G _ _ _ _ _ _ _ _ _ [_, _, _, _, _] _
  refine g_aload_n dJ0_init_db425_15 rfl ?_
  refine g_callUp (Y := YJ5_isLatin1_aae02) (gIn_U ml_J0_1047 wsm_J5_isLatin1_aae02 wse_J5_isLatin1_aae02 wi_J5_isLatin1_aae02 ini_J5 wc_J5_isLatin1_aae02) rfl yd_J5_isLatin1_aae02 9 (by decide) rfl rfl dJ0_init_db425_16 (sb_lat hb h2) hb rfl rfl rfl (Nat.le_of_ble_eq_true rfl) ⟨rfl, rfl⟩ ?_
  refine g_if_eq (tgt := 41) dJ0_init_db425_19 (by decide) (fun hq => absurd hq (by decide)) (fun _ => ?_)
  refine g_aload_n dJ0_init_db425_22 rfl ?_
  refine g_iconst (v := nI 0) dJ0_init_db425_23 (by decide) ?_
  refine g_putF 0 rfl (by decide) inJ0 tyJ0 tyJ0_ok nmJ0 1 (by decide) fl_J0_15 rfl rfl rfl dJ0_init_db425_24 hk nb0 fb0 ?_
  refine g_aload_n dJ0_init_db425_27 rfl ?_
  refine g_aload_n dJ0_init_db425_28 rfl ?_
  refine g_iconst (v := nI 0) dJ0_init_db425_29 (by decide) ?_
  refine g_iload dJ0_init_db425_30 rfl ?_
  refine g_callS (Y := YJ7_copyOfRange_39247) ss_J0_54 yn_J7_copyOfRange_39247 dJ0_init_db425_32 (st_copy h4 htz (by unfold Byf at h5 ⊢; rw [hu_ne _ _ _ (Ne.symm hkt)]; exact h5) hn16) rfl rfl (gRoom_of rfl) (Nat.le_of_ble_eq_true rfl) (fun _ _ _ _ h => by rw [h.2.2.1]; omega) (fun v' sh' sz' V' h => ?_) (fun _ _ _ _ h => nomatch h.1)
  obtain ⟨e1, rfl, rfl, g, hg, rfl⟩ := h
  cases e1
  have hk' : (hs sh sz (23, n) k).1 = 1 := by
    rw [hs_ne _ _ (by omega)]
    exact hk
  refine g_putF 0 rfl (by decide) inJ0 tyJ0 tyJ0_ok nmJ0 0 (by decide) fl_J0_9 rfl rfl rfl dJ0_init_db425_35 hk' rfl rfl ?_
  refine g_jump (tgt := 97) dJ0_init_db425_38 (by decide) ?_
  exact g_vret rfl dJ0_init_db425_97 (by decide) ⟨rfl, rfl, rfl, ⟨by omega, Or.inr ⟨hk', hu_at _ _ _ _, by rw [hu_at_ne _ _ _ (by decide), hn_ne _ _ (by omega), hu_at], hs_at _ _ _, fun j hj => ⟨g j, by rw [hu_ne _ _ _ (by omega), hn_at], hg j hj⟩⟩⟩, fun q q1 q2 => by rw [hu_ne _ _ _ q2, hn_ne _ _ (by omega), hu_ne _ _ _ q2]⟩
theorem st_init (hP : SbP sh V b t n) (hk : (sh k).1 = 1) (hkz : k < sz) (htz : t < sz) (hkb : k ≠ b) (hkt : k ≠ t) (hn16 : n < 16) : MC E YJ0_init_81219 [.ref k, .ref b] sh sz V (fun o sh' sz' V' => o = .inl none ∧ sh' = hs sh sz (23, n) ∧ sz' = sz + 1 ∧ StrA E sh' V' k sz n ∧ ∀ q, q < sz → q ≠ k → V' q = V q) := by
  refine MC.of RJ0 "<init>" rfl (by decide +kernel) rfl 0 [_, _] rfl (Nat.le_of_ble_eq_true rfl) ?_
  show G E MJ0_init_81219 _ _ _ _ _ _ _ _ _
  refine g_aload_n dJ0_init_81219_0 rfl ?_
  refine g_aload_n dJ0_init_81219_1 rfl ?_
  refine g_null dJ0_init_81219_2 ?_
  refine g_callI (Y := YJ0_init_db425) rfl wc_J0_init_db425 ml_J0_489 wi_J0_init_db425 ini_J0 rfl yn_J0_init_db425 dJ0_init_81219_3 (st_initA hP hk hkz htz hkb hkt hn16) rfl rfl (gRoom_of rfl) (Nat.le_of_ble_eq_true rfl) (fun _ _ _ _ h => by rw [h.2.2.1]; omega) (fun _ _ _ _ h => nomatch h.1) (fun v' sh' sz' V' h => ?_)
  obtain ⟨h1, h2, h3, h4, h5⟩ := h
  cases h1
  exact g_vret rfl dJ0_init_81219_6 (by decide) ⟨rfl, h2, h3, h4, h5⟩
theorem sb_str (hP : SbP sh V b t n) (hbz : b < sz) (htz : t < sz) (hn16 : n < 16) : MC E YJ4_toString_0e30d [.ref b] sh sz V (fun o sh' sz' V' => o = .inl (some (.ref sz)) ∧ sh' = hs (hs sh sz (1, 4)) (sz + 1) (23, n) ∧ sz' = sz + 2 ∧ StrA E sh' V' sz (sz + 1) n ∧ ∀ q, q < sz → V' q = V q) := by
  refine MC.of RJ4 "toString" rfl (by decide +kernel) rfl 0 [_] rfl (Nat.le_of_ble_eq_true rfl) ?_
  show G E MJ4_toString_0e30d _ _ _ _ _ _ _ _ _
  refine g_new 0 rfl (by decide) inJ0 tyJ0 tyJ0_ok cl_J4_18 new_J0 ini_J0 dJ4_toString_0e30d_0 (by decide) ?_
  refine g_dup dJ4_toString_0e30d_3 rfl ?_
  refine g_aload_n dJ4_toString_0e30d_4 rfl ?_
  refine g_callI (Y := YJ0_init_81219) rfl wc_J0_init_81219 ml_J4_137 wi_J0_init_81219 ini_J0 rfl yn_J0_init_81219 dJ4_toString_0e30d_5 (st_init (SbP.of_new hP hbz htz) (by rw [hs_at]) (Nat.lt_succ_self _) (by omega) (by omega) (by omega) hn16) rfl rfl (gRoom_of rfl) (Nat.le_of_ble_eq_true rfl) (fun _ _ _ _ h => by rw [h.2.2.1]; omega) (fun _ _ _ _ h => nomatch h.1) (fun v' sh' sz' V' h => ?_)
  obtain ⟨h1, h2, h3, h4, h5⟩ := h
  cases h1
  exact g_aret rfl (Or.inl ⟨_, rfl⟩) (Or.inr ⟨_, rfl⟩) dJ4_toString_0e30d_8 (by decide) ⟨rfl, h2, h3, h4, fun q hq => by rw [h5 q (by omega) (by omega), hn_ne _ _ (by omega)]⟩
end STRM4

