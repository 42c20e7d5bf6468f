/-! StringBuilder and String, 2 -/
section STRM2
variable {E : gE} {sh : Sh} {sz : Nat} {V : Vl} {b t n k v w : Nat}
/-! appending a text -/
theorem st_get (hS : StrA E sh V k v w) (ht : sh t = (23, 16)) (hB : Byf V t 16) (hnw : n + w ≤ 16) : MC E YJ0_getBytes_840e7 [.ref k, .ref t, .int (nI n), .int (nI 0)] sh sz V (pV (fun V' => ∃ g : Nat → Int32, (∀ j, j < 16 → fits .byte (.int (g j)) = true) ∧ V' = hn V t (fun j => .int (g j))) sh sz) := by
  obtain ⟨f, hsrc, hf⟩ := hS.src (sz := sz)
  obtain ⟨g, hg, hgf⟩ := hB
  refine MC.of RJ0 "getBytes" rfl (by decide +kernel) rfl 0 [_, _, _, _] rfl (Nat.le_of_ble_eq_true rfl) ?_
  show G E MJ0_getBytes_840e7 _ _ _ _ _ _ _ _ _
  refine g_aload_n dJ0_getBytes_840e7_0 rfl ?_
  refine g_scallVp (Y := YJ0_coder_7d493) hS sv_J0_335 rfl yn_J0_coder_7d493 dJ0_getBytes_840e7_1 (st_cod hS) rfl rfl rfl (Nat.le_of_ble_eq_true rfl) ⟨rfl, rfl⟩ ?_
  refine g_iload_n dJ0_getBytes_840e7_4 rfl ?_
  refine g_icmp_ne (tgt := 28) dJ0_getBytes_840e7_5 (by decide) (fun hq => absurd hq (fun h => h rfl)) (fun _ => ?_)
  refine g_aload_n dJ0_getBytes_840e7_8 rfl ?_
  refine g_sval hS fl_J0_9 dJ0_getBytes_840e7_9 ?_
  refine g_iconst (v := nI 0) dJ0_getBytes_840e7_12 (by decide) ?_
  refine g_aload_n dJ0_getBytes_840e7_13 rfl ?_
  refine g_iload_n dJ0_getBytes_840e7_14 rfl ?_
  refine g_iload_n dJ0_getBytes_840e7_15 rfl ?_
  refine g_ishl dJ0_getBytes_840e7_16 ?_
  rw [shl16 n (by omega)]
  refine g_aload_n dJ0_getBytes_840e7_17 rfl ?_
  refine g_sval hS fl_J0_9 dJ0_getBytes_840e7_18 ?_
  refine g_slenS hS dJ0_getBytes_840e7_21 ?_
  refine g_bcopyC (n1 := 16) (w := w) (sp := 0) (dp := n) (n := w) ml_J0_212 wn_acopy wt_acopy wi_sys dJ0_getBytes_840e7_22 f hsrc hf ht g hg (by omega) (by omega) (by have := hS.1; omega) (by decide) (Nat.le_of_ble_eq_true rfl) (Nat.le_of_ble_eq_true rfl) ?_
  refine g_jump (tgt := 43) dJ0_getBytes_840e7_25 (by decide) ?_
  exact g_vret rfl dJ0_getBytes_840e7_43 (by decide) ⟨rfl, rfl, rfl, _, cpy_fit hf hgf (by omega), rfl⟩
theorem sb_infl (hP : SbP sh V b t n) (hS : StrA E sh V k v w) : MC E YJ5_inflateIfNeededFor_a7421 [.ref b, .ref k] sh sz V (pR none sh sz V) := by
  obtain ⟨h0, hb, h1, h2, h3, h4, h5⟩ := hP
  refine MC.of RJ5 "inflateIfNeededFor" rfl (by decide +kernel) rfl 0 [_, _] rfl (Nat.le_of_ble_eq_true rfl) ?_
  show G E MJ5_inflateIfNeededFor_a7421 _ _ _ _ _ _ _ _ _
  refine g_comp fl_J5_18 dJ5_inflateIfNeededFor_a7421_0 ?_
  refine g_if_eq (tgt := 21) dJ5_inflateIfNeededFor_a7421_3 (by decide) (fun hq => absurd hq (by decide)) (fun _ => ?_)
  refine g_aload_n dJ5_inflateIfNeededFor_a7421_6 rfl ?_
  refine g_get 9 rfl (by decide) inJ4 1 (by decide) fl_J5_22 dJ5_inflateIfNeededFor_a7421_7 hb h2 ?_
  refine g_aload_n dJ5_inflateIfNeededFor_a7421_10 rfl ?_
  refine g_scallVp (Y := YJ0_coder_7d493) hS sv_J5_40 rfl yn_J0_coder_7d493 dJ5_inflateIfNeededFor_a7421_11 (st_cod hS) rfl rfl rfl (Nat.le_of_ble_eq_true rfl) ⟨rfl, rfl⟩ ?_
  refine g_icmp_eq (tgt := 21) dJ5_inflateIfNeededFor_a7421_14 (by decide) (fun _ => ?_) (fun hq => absurd (rfl) hq)
  exact g_vret rfl dJ5_inflateIfNeededFor_a7421_21 (by decide) ⟨rfl, rfl, rfl, rfl⟩
theorem sb_putS (hP : SbP sh V b t n) (hS : StrA E sh V k v w) (hnw : n + w ≤ 16) : MC E YJ5_putStringAt_47b60 [.ref b, .int (nI n), .ref k] sh sz V (pV (fun V' => ∃ g : Nat → Int32, (∀ j, j < 16 → fits .byte (.int (g j)) = true) ∧ V' = hn V t (fun j => .int (g j))) sh sz) := by
  have hP0 := hP
  obtain ⟨h0, hb, h1, h2, h3, h4, h5⟩ := hP
  refine MC.of RJ5 "putStringAt" rfl (by decide +kernel) rfl 0 [_, _, _] rfl (Nat.le_of_ble_eq_true rfl) ?_
  show G E MJ5_putStringAt_47b60 _ _ _ _ _ _ _ _ _
  refine g_aload_n dJ5_putStringAt_47b60_0 rfl ?_
  refine g_aload_n dJ5_putStringAt_47b60_1 rfl ?_
  refine g_callUn (Y := YJ5_inflateIfNeededFor_a7421) (gIn_U ml_J5_397 wsm_J5_inflateIfNeededFor_a7421 wse_J5_inflateIfNeededFor_a7421 wi_J5_inflateIfNeededFor_a7421 ini_J5 wc_J5_inflateIfNeededFor_a7421) rfl yd_J5_inflateIfNeededFor_a7421 9 (by decide) rfl rfl dJ5_putStringAt_47b60_2 (sb_infl hP0 hS) hb rfl rfl rfl (Nat.le_of_ble_eq_true rfl) ⟨rfl, rfl⟩ ?_
  refine g_aload_n dJ5_putStringAt_47b60_5 rfl ?_
  refine g_aload_n dJ5_putStringAt_47b60_6 rfl ?_
  refine g_get 9 rfl (by decide) inJ4 0 (by decide) fl_J5_15 dJ5_putStringAt_47b60_7 hb h1 ?_
  refine g_iload_n dJ5_putStringAt_47b60_10 rfl ?_
  refine g_aload_n dJ5_putStringAt_47b60_11 rfl ?_
  refine g_get 9 rfl (by decide) inJ4 1 (by decide) fl_J5_22 dJ5_putStringAt_47b60_12 hb h2 ?_
  refine g_scallVv (Y := YJ0_getBytes_840e7) hS sv_J5_399 rfl yn_J0_getBytes_840e7 dJ5_putStringAt_47b60_15 (st_get hS h4 h5 hnw) rfl rfl rfl (Nat.le_of_ble_eq_true rfl) ⟨rfl, rfl⟩ (fun V' hQ => ?_)
  exact g_vret rfl dJ5_putStringAt_47b60_18 (by decide) ⟨rfl, rfl, rfl, hQ⟩
theorem sb_app5 (hP : SbP sh V b t n) (hS : StrA E sh V k v w) (hnw : n + w ≤ 16) : MC E YJ5_append_cf1ce [.ref b, .ref k] sh sz V (pW (fun r V' => r = .ref b ∧ SbP sh V' b t (n + w) ∧ Oth b t V V') sh sz) := by
  have hP0 := hP
  obtain ⟨h0, hb, h1, h2, h3, h4, h5⟩ := hP
  refine MC.of RJ5 "append" rfl (by decide +kernel) rfl 1 [_, _, none] rfl (Nat.le_of_ble_eq_true rfl) ?_
  show G E MJ5_append_cf1ce _ _ _ _ _ _ _ _ _
  refine g_aload_n dJ5_append_cf1ce_0 rfl ?_
  refine g_ifnonnull (tgt := 9) dJ5_append_cf1ce_1 (by decide) ?_
  refine g_aload_n dJ5_append_cf1ce_9 rfl ?_
  refine g_scallVp (Y := YJ0_length_8abf5) hS sv_J5_32 rfl yn_J0_length_8abf5 dJ5_append_cf1ce_10 (st_len hS) rfl rfl rfl (Nat.le_of_ble_eq_true rfl) ⟨rfl, rfl⟩ ?_
  refine g_istore_n dJ5_append_cf1ce_13 (by decide) rfl ?_
  show G _ _ _ _ _ _ _ _ _ [_, _, _] _
  refine g_aload_n dJ5_append_cf1ce_14 rfl ?_
  refine g_aload_n dJ5_append_cf1ce_15 rfl ?_
  refine g_get 9 rfl (by decide) inJ4 3 (by decide) fl_J5_79 dJ5_append_cf1ce_16 hb h3 ?_
  refine g_iload_n dJ5_append_cf1ce_19 rfl ?_
  refine g_iadd dJ5_append_cf1ce_20 ?_
  rw [nI_add]
  refine g_callUn (Y := YJ5_ensureCapacityInternal_d00df) (gIn_U ml_J5_100 wsm_J5_ensureCapacityInternal_d00df wse_J5_ensureCapacityInternal_d00df wi_J5_ensureCapacityInternal_d00df ini_J5 wc_J5_ensureCapacityInternal_d00df) rfl yd_J5_ensureCapacityInternal_d00df 9 (by decide) rfl rfl dJ5_append_cf1ce_21 (sb_ens hP0 hnw) hb rfl rfl rfl (Nat.le_of_ble_eq_true rfl) ⟨rfl, rfl⟩ ?_
  refine g_aload_n dJ5_append_cf1ce_24 rfl ?_
  refine g_aload_n dJ5_append_cf1ce_25 rfl ?_
  refine g_get 9 rfl (by decide) inJ4 3 (by decide) fl_J5_79 dJ5_append_cf1ce_26 hb h3 ?_
  refine g_aload_n dJ5_append_cf1ce_29 rfl ?_
  refine g_callUv (Y := YJ5_putStringAt_47b60) (gIn_U ml_J5_208 wsm_J5_putStringAt_47b60 wse_J5_putStringAt_47b60 wi_J5_putStringAt_47b60 ini_J5 wc_J5_putStringAt_47b60) rfl yd_J5_putStringAt_47b60 9 (by decide) rfl rfl dJ5_append_cf1ce_30 (sb_putS hP0 hS hnw) hb rfl rfl rfl (Nat.le_of_ble_eq_true rfl) ⟨rfl, rfl⟩ (fun V' hQ => ?_)
  obtain ⟨g, hg, rfl⟩ := hQ
  have h3' : hn V t (fun j => .int (g j)) b 3 = .int (nI n) := by rw [hn_ne _ _ h0]; exact h3
  refine g_aload_n dJ5_append_cf1ce_33 rfl ?_
  refine g_dup dJ5_append_cf1ce_34 rfl ?_
  refine g_get 9 rfl (by decide) inJ4 3 (by decide) fl_J5_79 dJ5_append_cf1ce_35 hb h3' ?_
  refine g_iload_n dJ5_append_cf1ce_38 rfl ?_
  refine g_iadd dJ5_append_cf1ce_39 ?_
  rw [nI_add]
  refine g_put 9 rfl (by decide) inJ4 tyJ4 tyJ4_ok nmJ4 3 (by decide) fl_J5_79 rfl dJ5_append_cf1ce_40 hb rfl rfl ?_
  refine g_aload_n dJ5_append_cf1ce_43 rfl ?_
  exact g_aret rfl (Or.inl ⟨_, rfl⟩) (Or.inr ⟨_, rfl⟩) dJ5_append_cf1ce_44 (by decide) ⟨_, rfl, rfl, rfl, rfl, ⟨h0, hb, by rw [hu_at_ne _ _ _ (by decide), hn_ne _ _ h0]; exact h1, by rw [hu_at_ne _ _ _ (by decide), hn_ne _ _ h0]; exact h2, hu_at _ _ _ _, h4, g, by rw [hu_ne _ _ _ (Ne.symm h0), hn_at], hg⟩, fun q q1 q2 => by rw [hu_ne _ _ _ q1, hn_ne _ _ q2]⟩
theorem sb_app (hP : SbP sh V b t n) (hS : StrA E sh V k v w) (hnw : n + w ≤ 16) : MC E YJ4_append_15ec4 [.ref b, .ref k] sh sz V (pW (fun r V' => r = .ref b ∧ SbP sh V' b t (n + w) ∧ Oth b t V V') sh sz) := by
  refine MC.of RJ4 "append" rfl (by decide +kernel) rfl 0 [_, _] rfl (Nat.le_of_ble_eq_true rfl) ?_
  show G E MJ4_append_15ec4 _ _ _ _ _ _ _ _ _
  refine g_aload_n dJ4_append_15ec4_0 rfl ?_
  refine g_aload_n dJ4_append_15ec4_1 rfl ?_
  refine g_callSw2 (Y := YJ5_append_cf1ce) (gIn_SU ml_J4_29 wsm_J5_append_cf1ce wsup_J4 wi_J5_append_cf1ce ini_J5 wc_J5_append_cf1ce) yd2_J5_append_cf1ce 9 (by decide) rfl rfl dJ4_append_15ec4_2 (sb_app5 hP hS hnw) hP.2.1 rfl rfl rfl (Nat.le_of_ble_eq_true rfl) ⟨rfl, rfl⟩ (fun r V' hQ => ?_)
  obtain ⟨rfl, hQ⟩ := hQ
  refine g_pop dJ4_append_15ec4_5 rfl ?_
  refine g_aload_n dJ4_append_15ec4_6 rfl ?_
  exact g_aret rfl (Or.inl ⟨_, rfl⟩) (Or.inr ⟨_, rfl⟩) dJ4_append_15ec4_7 (by decide) ⟨_, rfl, rfl, rfl, rfl, hQ⟩
end STRM2

