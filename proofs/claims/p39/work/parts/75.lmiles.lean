/-! the law's check of the miles -/
section LMILES
variable {E : gE} {sh : Sh} {sz : Nat} {V : Vl} {x : Nat} {S : St} {A : La}
theorem l_miles {N : Nat} (hA : LW x S A sh sz V) (hD : InvD N S.1) (hN : N ≤ 1000000) : MC E YL_miles [.ref x] sh sz V (PLs x A sz S (.int (nI 1))) := by
  have hI := hA.sB
  have hO := hA.2.1.1.2.1
  have h44 := hI.1.2
  have K348 : ∀ a7 a8 a9 a10 a11, GL E ML_miles (PLs x A sz S (.int (nI 1))) x S A sz (240) 348 [some (.ref x), some (.int (nI (wkst S.1 11))), some (.double (dsum S.1 12)), none, some (.int (sI (fun i => S.1 (oM i 1)) 12)), some (.int (sI (fun i => bgd S.1 i) 12)), some (.int (nI 12)), a7, a8, a9, a10, a11] [] := by
    intro a7 a8 a9 a10 a11 sh sz V cu su hA hb
    refine g_aload_n dL_miles_348 rfl ?_
    refine g_lcV 1 (M := ML_miles) (pc := 349) (Y := YX6_weakest) sv_L_202 rfl yn_X6_weakest 8 (by decide) rfl rfl dL_miles_349 hb (lRm_of rfl (rm_c (by show _ ≤ 320; omega) (Nat.le_of_ble_eq_true rfl))) (k_weakest hA) hA.s9 rfl rfl (Nat.le_of_ble_eq_true rfl) ?_
    intro sh sz V cu su hA hb
    refine g_iload_n dL_miles_352 rfl ?_
    refine g_icmp_ne (tgt := 398) dL_miles_353 (by decide) (fun hq => absurd hq ((fun q => q rfl))) (fun _ => ?_)
    refine g_aload_n dL_miles_356 rfl ?_
    refine g_lcV 1 (M := ML_miles) (pc := 357) (Y := YX6_meanBits) sv_L_205 rfl yn_X6_meanBits 8 (by decide) rfl rfl dL_miles_357 hb (lRm_of rfl (rm_c (by show _ ≤ 320; omega) (Nat.le_of_ble_eq_true rfl))) (k_meanBits hA) hA.s9 rfl rfl (Nat.le_of_ble_eq_true rfl) ?_
    intro sh sz V cu su hA hb
    refine g_dload_n dL_miles_360 rfl ?_
    refine g_ldc2d kc_L_209 dL_miles_361 ?_
    refine g_ddiv dL_miles_364 (fp_mean hI).1 ?_
    refine g_lcP (M := ML_miles) (pc := 365) (Y := YJxe99ae_doubleToLongBits_ccdee) ss_L_211 yn_Jxe99ae_doubleToLongBits_ccdee dL_miles_365 hb (lRm_of rfl (rm_c (by show _ ≤ 320; omega) (Nat.le_of_ble_eq_true rfl))) (c_dtlb (fp_mean hI).2 pR_ok) rfl rfl (Nat.le_of_ble_eq_true rfl) ?_
    refine g_lcmp dL_miles_368 ?_
    refine g_if_ne (tgt := 398) dL_miles_369 (by decide) (fun hq => absurd hq ((fun q => q ((lg_cmp_eq _ _).mpr rfl)))) (fun _ => ?_)
    refine g_aload_n dL_miles_372 rfl ?_
    refine g_bipush (v := nI 9) dL_miles_373 (by decide) ?_
    refine g_lcV 1 (M := ML_miles) (pc := 375) (Y := YX6_account) sv_L_182 rfl yn_X6_account 8 (by decide) rfl rfl dL_miles_375 hb (lRm_of rfl (rm_c (by show _ ≤ 320; omega) (Nat.le_of_ble_eq_true rfl))) (k_account (w := 9) hA (by decide) rfl) hA.s9 rfl rfl (Nat.le_of_ble_eq_true rfl) ?_
    intro sh sz V cu su hA hb
    refine g_iload dL_miles_378 rfl ?_
    refine g_icmp_ne (tgt := 398) dL_miles_380 (by decide) (fun hq => absurd hq ((fun q => q rfl))) (fun _ => ?_)
    refine g_aload_n dL_miles_383 rfl ?_
    refine g_bipush (v := nI 10) dL_miles_384 (by decide) ?_
    refine g_lcV 1 (M := ML_miles) (pc := 386) (Y := YX6_account) sv_L_182 rfl yn_X6_account 8 (by decide) rfl rfl dL_miles_386 hb (lRm_of rfl (rm_c (by show _ ≤ 320; omega) (Nat.le_of_ble_eq_true rfl))) (k_account (w := 10) hA (by decide) rfl) hA.s9 rfl rfl (Nat.le_of_ble_eq_true rfl) ?_
    intro sh sz V cu su hA hb
    refine g_iload dL_miles_389 rfl ?_
    refine g_icmp_ne (tgt := 398) dL_miles_391 (by decide) (fun hq => absurd hq ((fun q => q rfl))) (fun _ => ?_)
    refine g_iconst (v := nI 1) dL_miles_394 (by decide) ?_
    refine g_jump (tgt := 399) dL_miles_395 (by decide) ?_
    exact g_iret rfl nz1 dL_miles_399 ⟨by show cu ≤ 320; omega, by show su ≤ 1920; omega⟩ ⟨hb.1, hA, rfl⟩
  have K13 : ∀ (d j : Nat), j + d = 12 → ∀ a7 a8 a9 a10 a11, GL E ML_miles (PLs x A sz S (.int (nI 1))) x S A sz (20 * j) 13 [some (.ref x), some (.int (nI (wkst S.1 (j - 1)))), some (.double (dsum S.1 j)), none, some (.int (sI (fun i => S.1 (oM i 1)) j)), some (.int (sI (fun i => bgd S.1 i) j)), some (.int (nI j)), a7, a8, a9, a10, a11] [] := by
    intro d
    induction d with
    | zero =>
      intro j hj a7 a8 a9 a10 a11 sh sz V cu su hA hb
      obtain rfl : j = 12 := by omega
      refine g_iload dL_miles_13 rfl ?_
      refine g_bipush (v := nI 12) dL_miles_15 (by decide) ?_
      refine g_icmp_ge (tgt := 348) dL_miles_17 (by decide) (fun _ => ?_) (fun hq => absurd (Int32.le_refl _) hq)
      exact (K348 _ _ _ _ _).go hA hb (by omega)
    | succ d ih =>
      intro j hj
      have hj12 : j < 12 := by omega
      obtain ⟨hm0, hm3, ⟨c1, hc1, ec⟩, s1, hs1, es⟩ := hI.2.2.2.1 j hj12
      obtain ⟨l6, hl6, el⟩ := hI.2.2.1
      have hgd := gd_iff hD hN hj12
      have hwl := wkst_le S.1 (j - 1)
      have J341 : ∀ v, v = nI (wkst S.1 j) → ∀ a7 a8 a9 a10 a11, GL E ML_miles (PLs x A sz S (.int (nI 1))) x S A sz (20 * j + 20) 341 [some (.ref x), some (.int (nI (wkst S.1 (j - 1)))), some (.double (dsum S.1 (j + 1))), none, some (.int (sI (fun i => S.1 (oM i 1)) (j + 1))), some (.int (sI (fun i => bgd S.1 i) (j + 1))), some (.int (nI j)), a7, a8, a9, a10, a11] [.int v] := by
        intro v hv a7 a8 a9 a10 a11 sh sz V cu su hA hb
        subst hv
        refine g_istore_n dL_miles_341 (by decide) rfl ?_
        show G _ _ _ _ _ _ _ _ _ [_, _, _, _, _, _, _, _, _, _, _, _] _
        refine g_iinc dL_miles_342 rfl (by first | exact nI_inc _ | rfl) (by decide) rfl ?_
        show G _ _ _ _ _ _ _ _ _ [_, _, _, _, _, _, _, _, _, _, _, _] _
        refine g_jump (tgt := 13) dL_miles_345 (by decide) ?_
        exact (ih (j + 1) (by omega) _ _ _ _ _).go hA hb (by omega)
      have J324 : ∀ a7 a8 a9 a11, GL E ML_miles (PLs x A sz S (.int (nI 1))) x S A sz (20 * j + 19) 324 [some (.ref x), some (.int (nI (wkst S.1 (j - 1)))), some (.double (dsum S.1 (j + 1))), none, some (.int (sI (fun i => S.1 (oM i 1)) (j + 1))), some (.int (sI (fun i => bgd S.1 i) (j + 1))), some (.int (nI j)), a7, a8, a9, some (.float (bd S.1 j)), a11] [] := by
        intro a7 a8 a9 a11 sh sz V cu su hA hb
        have hst := wk_step hI hj12
        refine g_fload dL_miles_324 rfl ?_
        refine g_aload_n dL_miles_326 rfl ?_
        refine g_iload_n dL_miles_327 rfl ?_
        refine g_lcS 1 (M := ML_miles) (pc := 328) (Y := YL_bears) ss_L_195 yn_L_bears dL_miles_328 hb (lRm_of rfl (rm_c (by show _ ≤ 320; omega) (Nat.le_of_ble_eq_true rfl))) (l_bears (j := wkst S.1 (j - 1)) hA (by omega)) rfl rfl (Nat.le_of_ble_eq_true rfl) ?_
        intro sh sz V cu su hA hb
        refine g_fcmp dL_miles_331 ?_
        refine g_if_ge (tgt := 340) dL_miles_332 (by decide) (fun b1 => ?_) (fun b1 => ?_)
        · refine g_iload_n dL_miles_340 rfl ?_
          rw [if_neg (Int32.not_lt.mpr b1)] at hst
          exact (J341 _ (by rw [hst]) _ _ _ _ _).go hA hb (by omega)
        · refine g_iload dL_miles_335 rfl ?_
          refine g_jump (tgt := 341) dL_miles_337 (by decide) ?_
          rw [if_pos (Int32.not_le.mp b1)] at hst
          exact (J341 _ (by rw [hst]) _ _ _ _ _).go hA hb (by omega)
      have J266 : ∀ a7 a8 a9 a11, GL E ML_miles (PLs x A sz S (.int (nI 1))) x S A sz (20 * j + 14) 266 [some (.ref x), some (.int (nI (wkst S.1 (j - 1)))), some (.double (dsum S.1 (j + 1))), none, some (.int (sI (fun i => S.1 (oM i 1)) (j + 1))), some (.int (sI (fun i => bgd S.1 i) (j + 1))), some (.int (nI j)), a7, a8, a9, some (.float (bd S.1 j)), a11] [] := by
        intro a7 a8 a9 a11 sh sz V cu su hA hb
        refine g_aload_n dL_miles_266 rfl ?_
        refine g_iload dL_miles_267 rfl ?_
        refine g_lcV 1 (M := ML_miles) (pc := 269) (Y := YX6_ice) sv_L_145 rfl yn_X6_ice 8 (by decide) rfl rfl dL_miles_269 hb (lRm_of rfl (rm_c (by show _ ≤ 320; omega) (Nat.le_of_ble_eq_true rfl))) (k_ice (j := j) hA hj12) hA.s9 rfl rfl (Nat.le_of_ble_eq_true rfl) ?_
        intro sh sz V cu su hA hb
        refine g_fconst0 dL_miles_272 ?_
        refine g_fcmp dL_miles_273 ?_
        refine g_if_lt (tgt := 322) dL_miles_274 (by decide) (fun hq => absurd hq ((okI_cmp hm0).1)) (fun _ => ?_)
        refine g_aload_n dL_miles_277 rfl ?_
        refine g_iload dL_miles_278 rfl ?_
        refine g_lcV 1 (M := ML_miles) (pc := 280) (Y := YX6_ice) sv_L_145 rfl yn_X6_ice 8 (by decide) rfl rfl dL_miles_280 hb (lRm_of rfl (rm_c (by show _ ≤ 320; omega) (Nat.le_of_ble_eq_true rfl))) (k_ice (j := j) hA hj12) hA.s9 rfl rfl (Nat.le_of_ble_eq_true rfl) ?_
        intro sh sz V cu su hA hb
        refine g_ldcf kc_L_201 dL_miles_283 ?_
        refine g_fcmp dL_miles_285 ?_
        refine g_if_gt (tgt := 322) dL_miles_286 (by decide) (fun hq => absurd hq ((Int32.not_lt.mpr (okI_cmp hm0).2))) (fun _ => ?_)
        refine g_aload_n dL_miles_289 rfl ?_
        refine g_iload dL_miles_290 rfl ?_
        refine g_iconst (v := nI 0) dL_miles_292 (by decide) ?_
        refine g_lcH 1 (M := ML_miles) (pc := 293) (Y := YL_mileOf) (gIn_SH ml_L_180 wt_L_mileOf ini_L wc_L_mileOf) yn_L_mileOf dL_miles_293 hb (lRm_of rfl (rm_c (by show _ ≤ 320; omega) (Nat.le_of_ble_eq_true rfl))) (l_mileOf (j := j) (w := 0) hA hj12 (by decide) (v := nI c1) (by rw [← ec]; rfl)) rfl rfl (Nat.le_of_ble_eq_true rfl) ?_
        intro sh sz V cu su hA hb
        refine g_iconst (v := nI 5) dL_miles_296 (by decide) ?_
        refine g_icmp_gt (tgt := 322) dL_miles_297 (by decide) (fun hq => absurd hq ((Int32.not_lt.mpr (nI_le (b := 5) (by omega) (by decide))))) (fun _ => ?_)
        refine g_aload_n dL_miles_300 rfl ?_
        refine g_iload dL_miles_301 rfl ?_
        refine g_iconst (v := nI 1) dL_miles_303 (by decide) ?_
        refine g_lcH 1 (M := ML_miles) (pc := 304) (Y := YL_mileOf) (gIn_SH ml_L_180 wt_L_mileOf ini_L wc_L_mileOf) yn_L_mileOf dL_miles_304 hb (lRm_of rfl (rm_c (by show _ ≤ 320; omega) (Nat.le_of_ble_eq_true rfl))) (l_mileOf (j := j) (w := 1) hA hj12 (by decide) (v := nI s1) (by rw [← es]; rfl)) rfl rfl (Nat.le_of_ble_eq_true rfl) ?_
        intro sh sz V cu su hA hb
        refine g_bipush (v := nI 19) dL_miles_307 (by decide) ?_
        refine g_icmp_gt (tgt := 322) dL_miles_309 (by decide) (fun hq => absurd hq ((Int32.not_lt.mpr (nI_le (b := 19) (by omega) (by decide))))) (fun _ => ?_)
        refine g_aload_n dL_miles_312 rfl ?_
        refine g_iload dL_miles_313 rfl ?_
        refine g_iconst (v := nI 1) dL_miles_315 (by decide) ?_
        refine g_lcH 1 (M := ML_miles) (pc := 316) (Y := YL_mileOf) (gIn_SH ml_L_180 wt_L_mileOf ini_L wc_L_mileOf) yn_L_mileOf dL_miles_316 hb (lRm_of rfl (rm_c (by show _ ≤ 320; omega) (Nat.le_of_ble_eq_true rfl))) (l_mileOf (j := j) (w := 1) hA hj12 (by decide) (v := nI s1) (by rw [← es]; rfl)) rfl rfl (Nat.le_of_ble_eq_true rfl) ?_
        intro sh sz V cu su hA hb
        refine g_if_ge (tgt := 324) dL_miles_319 (by decide) (fun _ => ?_) (fun hq => absurd ((nI_pos' (by omega))) hq)
        exact (J324 _ _ _ _).go hA hb (by omega)
      have J263 : ∀ v, v = (if S.1 (oM j 4) < 0 then nI 1 else nI 0) → ∀ a8 a9 a11, GL E ML_miles (PLs x A sz S (.int (nI 1))) x S A sz (20 * j + 14) 263 [some (.ref x), some (.int (nI (wkst S.1 (j - 1)))), some (.double (dsum S.1 (j + 1))), none, some (.int (sI (fun i => S.1 (oM i 1)) (j + 1))), some (.int (sI (fun i => bgd S.1 i) (j + 1))), some (.int (nI j)), some (.int (S.1 (oM j 4))), a8, a9, some (.float (bd S.1 j)), a11] [.int v, .int (if S.1 (oM j 4) < 0 then nI 1 else nI 0)] := by
        intro v hv a8 a9 a11 sh sz V cu su hA hb
        subst hv
        refine g_icmp_ne (tgt := 322) dL_miles_263 (by decide) (fun hq => absurd hq ((fun q => q rfl))) (fun _ => ?_)
        exact (J266 _ _ _ _).go hA hb (by omega)
      have J253 : ∀ v, v = (if S.1 (oM j 4) < 0 then nI 1 else nI 0) → ∀ a8 a9 a11, GL E ML_miles (PLs x A sz S (.int (nI 1))) x S A sz (20 * j + 14) 253 [some (.ref x), some (.int (nI (wkst S.1 (j - 1)))), some (.double (dsum S.1 (j + 1))), none, some (.int (sI (fun i => S.1 (oM i 1)) (j + 1))), some (.int (sI (fun i => bgd S.1 i) (j + 1))), some (.int (nI j)), some (.int (S.1 (oM j 4))), a8, a9, some (.float (bd S.1 j)), a11] [.int v] := by
        intro v hv a8 a9 a11 sh sz V cu su hA hb
        subst hv
        refine g_iload dL_miles_253 rfl ?_
        refine g_if_ge (tgt := 262) dL_miles_255 (by decide) (fun b1 => ?_) (fun b1 => ?_)
        · refine g_iconst (v := nI 0) dL_miles_262 (by decide) ?_
          exact (J263 _ (if_neg (Int32.not_lt.mpr b1)).symm _ _ _).go hA hb (by omega)
        · refine g_iconst (v := nI 1) dL_miles_258 (by decide) ?_
          refine g_jump (tgt := 263) dL_miles_259 (by decide) ?_
          exact (J263 _ (if_pos (Int32.not_le.mp b1)).symm _ _ _).go hA hb (by omega)
      have J234 : ∀ v, v = bgd S.1 j → ∀ a8 a9 a11, GL E ML_miles (PLs x A sz S (.int (nI 1))) x S A sz (20 * j + 13) 234 [some (.ref x), some (.int (nI (wkst S.1 (j - 1)))), some (.double (dsum S.1 (j + 1))), none, some (.int (sI (fun i => S.1 (oM i 1)) (j + 1))), some (.int (sI (fun i => bgd S.1 i) (j + 1))), some (.int (nI j)), some (.int (S.1 (oM j 4))), a8, a9, some (.float (bd S.1 j)), a11] [.int v, .int (bgd S.1 j)] := by
        intro v hv a8 a9 a11 sh sz V cu su hA hb
        subst hv
        refine g_icmp_ne (tgt := 322) dL_miles_234 (by decide) (fun hq => absurd hq ((fun q => q rfl))) (fun _ => ?_)
        refine g_aload_n dL_miles_237 rfl ?_
        refine g_iload dL_miles_238 rfl ?_
        refine g_lcH 1 (M := ML_miles) (pc := 240) (Y := YL_drilled) (gIn_SH ml_L_188 wt_L_drilled ini_L wc_L_drilled) yn_L_drilled dL_miles_240 hb (lRm_of rfl (rm_c (by show _ ≤ 320; omega) (Nat.le_of_ble_eq_true rfl))) (l_drilled (j := j) hA hj12 rfl) rfl rfl (Nat.le_of_ble_eq_true rfl) ?_
        intro sh sz V cu su hA hb
        refine g_bipush (v := (-13)) dL_miles_243 (by decide) ?_
        refine g_icmp_ne (tgt := 252) dL_miles_245 (by decide) (fun b1 => ?_) (fun b1 => ?_)
        · refine g_iconst (v := nI 0) dL_miles_252 (by decide) ?_
          exact (J253 _ (if_neg (fun q => b1 ((drl_13 hI hj12).mpr q))).symm _ _ _).go hA hb (by omega)
        · refine g_iconst (v := nI 1) dL_miles_248 (by decide) ?_
          refine g_jump (tgt := 253) dL_miles_249 (by decide) ?_
          exact (J253 _ (if_pos ((drl_13 hI hj12).mp b1)).symm _ _ _).go hA hb (by omega)
      have J191 : ∀ v, v = bgd S.1 j → ∀ a9, GL E ML_miles (PLs x A sz S (.int (nI 1))) x S A sz (20 * j + 10) 191 [some (.ref x), some (.int (nI (wkst S.1 (j - 1)))), some (.double (dsum S.1 (j + 1))), none, some (.int (sI (fun i => S.1 (oM i 1)) (j + 1))), some (.int (sI (fun i => bgd S.1 i) j)), some (.int (nI j)), some (.int (S.1 (oM j 4))), some (.int (bgd S.1 j)), a9, some (.float (bd S.1 j)), some (.int (signV S.1 j))] [.int v, .int (sI (fun i => bgd S.1 i) j)] := by
        intro v hv a9 sh sz V cu su hA hb
        subst hv
        refine g_iadd dL_miles_191 ?_
        refine g_istore dL_miles_192 (by decide) rfl ?_
        show G _ _ _ _ _ _ _ _ _ [_, _, _, _, _, _, _, _, _, _, _, _] _
        refine g_aload_n dL_miles_194 rfl ?_
        refine g_iload dL_miles_195 rfl ?_
        refine g_lcS 1 (M := ML_miles) (pc := 197) (Y := YL_bears) ss_L_195 yn_L_bears dL_miles_197 hb (lRm_of rfl (rm_c (by show _ ≤ 320; omega) (Nat.le_of_ble_eq_true rfl))) (l_bears (j := j) hA hj12) rfl rfl (Nat.le_of_ble_eq_true rfl) ?_
        intro sh sz V cu su hA hb
        refine g_fload dL_miles_200 rfl ?_
        refine g_fcmp dL_miles_202 ?_
        refine g_if_ne (tgt := 322) dL_miles_203 (by decide) (fun hq => absurd hq ((fun q => q (fp_selfA (bd_okN hI hj12))))) (fun _ => ?_)
        refine g_aload_n dL_miles_206 rfl ?_
        refine g_iload dL_miles_207 rfl ?_
        refine g_lcV 1 (M := ML_miles) (pc := 209) (Y := YX6_sign) sv_L_198 rfl yn_X6_sign 8 (by decide) rfl rfl dL_miles_209 hb (lRm_of rfl (rm_c (by show _ ≤ 320; omega) (Nat.le_of_ble_eq_true rfl))) (k_sign (j := j) hA hj12) hA.s9 rfl rfl (Nat.le_of_ble_eq_true rfl) ?_
        intro sh sz V cu su hA hb
        refine g_iload dL_miles_212 rfl ?_
        refine g_icmp_ne (tgt := 322) dL_miles_214 (by decide) (fun hq => absurd hq ((fun q => q rfl))) (fun _ => ?_)
        refine g_aload_n dL_miles_217 rfl ?_
        refine g_iload dL_miles_218 rfl ?_
        refine g_iconst (v := nI 3) dL_miles_220 (by decide) ?_
        refine g_lcH 1 (M := ML_miles) (pc := 221) (Y := YL_mileOf) (gIn_SH ml_L_180 wt_L_mileOf ini_L wc_L_mileOf) yn_L_mileOf dL_miles_221 hb (lRm_of rfl (rm_c (by show _ ≤ 320; omega) (Nat.le_of_ble_eq_true rfl))) (l_mileOf (j := j) (w := 3) hA hj12 (by decide) (v := bgd S.1 j) rfl) rfl rfl (Nat.le_of_ble_eq_true rfl) ?_
        intro sh sz V cu su hA hb
        refine g_iload dL_miles_224 rfl ?_
        refine g_if_eq (tgt := 233) dL_miles_226 (by decide) (fun b1 => ?_) (fun b1 => ?_)
        · refine g_iconst (v := nI 0) dL_miles_233 (by decide) ?_
          exact (J234 _ b1.symm _ _ _).go hA hb (by omega)
        · refine g_iconst (v := nI 1) dL_miles_229 (by decide) ?_
          refine g_jump (tgt := 234) dL_miles_230 (by decide) ?_
          exact (J234 _ (bgd_t (bgd_ne b1)).symm _ _ _).go hA hb (by omega)
      have J155 : ∀ v, v = signV S.1 j → ∀ a9 a11, GL E ML_miles (PLs x A sz S (.int (nI 1))) x S A sz (20 * j + 8) 155 [some (.ref x), some (.int (nI (wkst S.1 (j - 1)))), some (.double (dsum S.1 j)), none, some (.int (sI (fun i => S.1 (oM i 1)) j)), some (.int (sI (fun i => bgd S.1 i) j)), some (.int (nI j)), some (.int (S.1 (oM j 4))), some (.int (bgd S.1 j)), a9, some (.float (bd S.1 j)), a11] [.int v] := by
        intro v hv a9 a11 sh sz V cu su hA hb
        subst hv
        refine g_istore dL_miles_155 (by decide) rfl ?_
        show G _ _ _ _ _ _ _ _ _ [_, _, _, _, _, _, _, _, _, _, _, _] _
        refine g_dload_n dL_miles_157 rfl ?_
        refine g_aload_n dL_miles_158 rfl ?_
        refine g_iload dL_miles_159 rfl ?_
        refine g_lcV 1 (M := ML_miles) (pc := 161) (Y := YX6_ice) sv_L_145 rfl yn_X6_ice 8 (by decide) rfl rfl dL_miles_161 hb (lRm_of rfl (rm_c (by show _ ≤ 320; omega) (Nat.le_of_ble_eq_true rfl))) (k_ice (j := j) hA hj12) hA.s9 rfl rfl (Nat.le_of_ble_eq_true rfl) ?_
        intro sh sz V cu su hA hb
        refine g_f2d dL_miles_164 (fp_dsum hI hj12).1 ?_
        refine g_dadd dL_miles_165 (fp_dsum hI hj12).2 ?_
        refine g_dstore_n dL_miles_166 (by decide) rfl rfl ?_
        show G _ _ _ _ _ _ _ _ _ [_, _, _, _, _, _, _, _, _, _, _, _] _
        refine g_iload dL_miles_167 rfl ?_
        refine g_aload_n dL_miles_169 rfl ?_
        refine g_iload dL_miles_170 rfl ?_
        refine g_iconst (v := nI 0) dL_miles_172 (by decide) ?_
        refine g_lcH 1 (M := ML_miles) (pc := 173) (Y := YL_mileOf) (gIn_SH ml_L_180 wt_L_mileOf ini_L wc_L_mileOf) yn_L_mileOf dL_miles_173 hb (lRm_of rfl (rm_c (by show _ ≤ 320; omega) (Nat.le_of_ble_eq_true rfl))) (l_mileOf (j := j) (w := 0) hA hj12 (by decide) rfl) rfl rfl (Nat.le_of_ble_eq_true rfl) ?_
        intro sh sz V cu su hA hb
        refine g_iadd dL_miles_176 ?_
        refine g_istore dL_miles_177 (by decide) rfl ?_
        show G _ _ _ _ _ _ _ _ _ [_, _, _, _, _, _, _, _, _, _, _, _] _
        refine g_iload dL_miles_179 rfl ?_
        refine g_iload dL_miles_181 rfl ?_
        refine g_if_eq (tgt := 190) dL_miles_183 (by decide) (fun b1 => ?_) (fun b1 => ?_)
        · refine g_iconst (v := nI 0) dL_miles_190 (by decide) ?_
          exact (J191 _ b1.symm _).go hA hb (by omega)
        · refine g_iconst (v := nI 1) dL_miles_186 (by decide) ?_
          refine g_jump (tgt := 191) dL_miles_187 (by decide) ?_
          exact (J191 _ (bgd_t (bgd_ne b1)).symm _).go hA hb (by omega)
      have J118 : ∀ v, v = bd S.1 j → ∀ (u9 : UInt32) a10 a11, GL E ML_miles (PLs x A sz S (.int (nI 1))) x S A sz (20 * j + 6) 118 [some (.ref x), some (.int (nI (wkst S.1 (j - 1)))), some (.double (dsum S.1 j)), none, some (.int (sI (fun i => S.1 (oM i 1)) j)), some (.int (sI (fun i => bgd S.1 i) j)), some (.int (nI j)), some (.int (S.1 (oM j 4))), some (.int (bgd S.1 j)), some (.float u9), a10, a11] [.float v] := by
        intro v hv u9 a10 a11 sh sz V cu su hA hb
        subst hv
        refine g_fstore dL_miles_118 (by decide) rfl ?_
        show G _ _ _ _ _ _ _ _ _ [_, _, _, _, _, _, _, _, _, _, _, _] _
        refine g_aload_n dL_miles_120 rfl ?_
        refine g_iload dL_miles_121 rfl ?_
        refine g_lcH 1 (M := ML_miles) (pc := 123) (Y := YL_at) (gIn_SH ml_L_193 wt_L_at ini_L wc_L_at) yn_L_at dL_miles_123 hb (lRm_of rfl (rm_c (by show _ ≤ 320; omega) (Nat.le_of_ble_eq_true rfl))) (l_at (j := j) hA hj12 rfl) rfl rfl (Nat.le_of_ble_eq_true rfl) ?_
        intro sh sz V cu su hA hb
        refine g_if_lt (tgt := 134) dL_miles_126 (by decide) (fun b1 => ?_) (fun b1 => ?_)
        · have nt := (at_neg hI hO hj12).mp b1
          refine g_iload dL_miles_134 rfl ?_
          refine g_if_eq (tgt := 153) dL_miles_136 (by decide) (fun b2 => ?_) (fun b2 => ?_)
          · refine g_bipush (v := nI 63) dL_miles_153 (by decide) ?_
            exact (J155 _ (by unfold signV; rw [if_neg nt, if_neg (bgd_eq b2)]) _ _).go hA hb (by omega)
          · refine g_bipush (v := nI 48) dL_miles_139 (by decide) ?_
            refine g_aload_n dL_miles_141 rfl ?_
            refine g_iload dL_miles_142 rfl ?_
            refine g_iconst (v := nI 0) dL_miles_144 (by decide) ?_
            refine g_lcH 1 (M := ML_miles) (pc := 145) (Y := YL_mileOf) (gIn_SH ml_L_180 wt_L_mileOf ini_L wc_L_mileOf) yn_L_mileOf dL_miles_145 hb (lRm_of rfl (rm_c (by show _ ≤ 320; omega) (Nat.le_of_ble_eq_true rfl))) (l_mileOf (j := j) (w := 0) hA hj12 (by decide) (v := nI c1) (by rw [← ec]; rfl)) rfl rfl (Nat.le_of_ble_eq_true rfl) ?_
            intro sh sz V cu su hA hb
            refine g_iadd dL_miles_148 ?_
            refine g_i2c dL_miles_149 (ch48 c1 (by omega)) ?_
            refine g_jump (tgt := 155) dL_miles_150 (by decide) ?_
            exact (J155 _ (by unfold signV; rw [if_neg nt, if_pos (bgd_ne b2), ec]) _ _).go hA hb (by omega)
        · have ht : tkn S.1 (nI j) (-1) := Classical.byContradiction fun q => b1 ((at_neg hI hO hj12).mpr q)
          refine g_bipush (v := nI 84) dL_miles_129 (by decide) ?_
          refine g_jump (tgt := 155) dL_miles_131 (by decide) ?_
          exact (J155 _ (by unfold signV; rw [if_pos ht]) _ _).go hA hb (by omega)
      have J75 : ∀ v, v = (if S.1 (oM j 4) < 0 then FP.fconst0 else (S.1 (oM j 3)).toUInt32) → ∀ a9 a10 a11, GL E ML_miles (PLs x A sz S (.int (nI 1))) x S A sz (20 * j + 4) 75 [some (.ref x), some (.int (nI (wkst S.1 (j - 1)))), some (.double (dsum S.1 j)), none, some (.int (sI (fun i => S.1 (oM i 1)) j)), some (.int (sI (fun i => bgd S.1 i) j)), some (.int (nI j)), some (.int (S.1 (oM j 4))), some (.int (bgd S.1 j)), a9, a10, a11] [.float v] := by
        intro v hv a9 a10 a11 sh sz V cu su hA hb
        refine g_fstore dL_miles_75 (by decide) rfl ?_
        show G _ _ _ _ _ _ _ _ _ [_, _, _, _, _, _, _, _, _, _, _, _] _
        refine g_iload dL_miles_77 rfl ?_
        refine g_if_eq (tgt := 117) dL_miles_79 (by decide) (fun b1 => ?_) (fun b1 => ?_)
        · refine g_fconst0 dL_miles_117 ?_
          exact (J118 _ (by unfold bd bdF; rw [if_neg (bgd_eq b1)]) _ _ _).go hA hb (by omega)
        · have hg := bgd_ne b1
          have e9 : v = (S.1 (oM j 3)).toUInt32 := by rw [hv, if_neg (hgd.mp hg).1]
          subst e9
          obtain ⟨p1, p2, p3, p4, p5, p6, p7, -⟩ := fp_bor hm3 hc1 hl6
          refine g_fload dL_miles_82 rfl ?_
          refine g_fload dL_miles_84 rfl ?_
          refine g_fmul dL_miles_86 p1 ?_
          refine g_ldcf kc_L_190 dL_miles_87 ?_
          refine g_fmul dL_miles_89 p2 ?_
          refine g_fconst1 dL_miles_90 ?_
          refine g_ldcf kc_L_191 dL_miles_91 ?_
          refine g_aload_n dL_miles_93 rfl ?_
          refine g_iload dL_miles_94 rfl ?_
          refine g_iconst (v := nI 0) dL_miles_96 (by decide) ?_
          refine g_lcH 1 (M := ML_miles) (pc := 97) (Y := YL_mileOf) (gIn_SH ml_L_180 wt_L_mileOf ini_L wc_L_mileOf) yn_L_mileOf dL_miles_97 hb (lRm_of rfl (rm_c (by show _ ≤ 320; omega) (Nat.le_of_ble_eq_true rfl))) (l_mileOf (j := j) (w := 0) hA hj12 (by decide) (v := nI c1) (by rw [← ec]; rfl)) rfl rfl (Nat.le_of_ble_eq_true rfl) ?_
          intro sh sz V cu su hA hb
          refine g_i2f dL_miles_100 ?_
          refine g_fmul dL_miles_101 p3 ?_
          refine g_fsub dL_miles_102 p4 ?_
          refine g_fmul dL_miles_103 p5 ?_
          refine g_aload_n dL_miles_104 rfl ?_
          refine g_iconst (v := nI 1) dL_miles_105 (by decide) ?_
          refine g_lcV 1 (M := ML_miles) (pc := 106) (Y := YX6_setting) sv_L_185 rfl yn_X6_setting 8 (by decide) rfl rfl dL_miles_106 hb (lRm_of rfl (rm_c (by show _ ≤ 320; omega) (Nat.le_of_ble_eq_true rfl))) (k_setting (w := 1) hA (by decide)) hA.s9 rfl rfl (Nat.le_of_ble_eq_true rfl) ?_
          intro sh sz V cu su hA hb
          rw [show S.1 (5 + 1) = nI l6 from el]
          refine g_i2f dL_miles_109 ?_
          refine g_ldcf kc_L_192 dL_miles_110 ?_
          refine g_fdiv dL_miles_112 p6 ?_
          refine g_fmul dL_miles_113 p7 ?_
          refine g_jump (tgt := 118) dL_miles_114 (by decide) ?_
          exact (J118 _ (by unfold bd bdF; rw [if_pos hg, ec, el]; rfl) _ _ _).go hA hb (by omega)
      have J55 : ∀ v, v = bgd S.1 j → ∀ a8 a9 a10 a11, GL E ML_miles (PLs x A sz S (.int (nI 1))) x S A sz (20 * j + 3) 55 [some (.ref x), some (.int (nI (wkst S.1 (j - 1)))), some (.double (dsum S.1 j)), none, some (.int (sI (fun i => S.1 (oM i 1)) j)), some (.int (sI (fun i => bgd S.1 i) j)), some (.int (nI j)), some (.int (S.1 (oM j 4))), a8, a9, a10, a11] [.int v] := by
        intro v hv a8 a9 a10 a11 sh sz V cu su hA hb
        subst hv
        refine g_istore dL_miles_55 (by decide) rfl ?_
        show G _ _ _ _ _ _ _ _ _ [_, _, _, _, _, _, _, _, _, _, _, _] _
        refine g_iload dL_miles_57 rfl ?_
        refine g_if_ge (tgt := 66) dL_miles_59 (by decide) (fun b1 => ?_) (fun b1 => ?_)
        · refine g_aload_n dL_miles_66 rfl ?_
          refine g_iload dL_miles_67 rfl ?_
          refine g_lcH 1 (M := ML_miles) (pc := 69) (Y := YL_drilled) (gIn_SH ml_L_188 wt_L_drilled ini_L wc_L_drilled) yn_L_drilled dL_miles_69 hb (lRm_of rfl (rm_c (by show _ ≤ 320; omega) (Nat.le_of_ble_eq_true rfl))) (l_drilled (j := j) hA hj12 (v := S.1 (oM j 3)) (if_neg (Int32.not_lt.mpr b1))) rfl rfl (Nat.le_of_ble_eq_true rfl) ?_
          intro sh sz V cu su hA hb
          refine g_i2fb ml_L_118 wn_i2fb wt_i2fb wi_flo dL_miles_72 (sn_ok hm3.n) (Nat.le_of_ble_eq_true rfl) (Nat.le_of_ble_eq_true rfl) ?_
          exact (J75 _ (if_neg (Int32.not_lt.mpr b1)).symm _ _ _).go hA hb (by omega)
        · refine g_fconst0 dL_miles_62 ?_
          refine g_jump (tgt := 75) dL_miles_63 (by decide) ?_
          exact (J75 _ (if_pos (Int32.not_le.mp b1)).symm _ _ _).go hA hb (by omega)
      intro a7 a8 a9 a10 a11 sh sz V cu su hA hb
      refine g_iload dL_miles_13 rfl ?_
      refine g_bipush (v := nI 12) dL_miles_15 (by decide) ?_
      refine g_icmp_ge (tgt := 348) dL_miles_17 (by decide) (fun hq => absurd hq (nI_ge (by omega) (by decide))) (fun _ => ?_)
      refine g_aload_n dL_miles_20 rfl ?_
      refine g_iload dL_miles_21 rfl ?_
      refine g_iconst (v := nI 2) dL_miles_23 (by decide) ?_
      refine g_lcH 1 (M := ML_miles) (pc := 24) (Y := YL_mileOf) (gIn_SH ml_L_180 wt_L_mileOf ini_L wc_L_mileOf) yn_L_mileOf dL_miles_24 hb (lRm_of rfl (rm_c (by show _ ≤ 320; omega) (Nat.le_of_ble_eq_true rfl))) (l_mileOf (j := j) (w := 2) hA hj12 (by decide) (v := S.1 (oM j 4)) rfl) rfl rfl (Nat.le_of_ble_eq_true rfl) ?_
      intro sh sz V cu su hA hb
      refine g_istore dL_miles_27 (by decide) rfl ?_
      show G _ _ _ _ _ _ _ _ _ [_, _, _, _, _, _, _, _, _, _, _, _] _
      refine g_iload dL_miles_29 rfl ?_
      refine g_if_lt (tgt := 54) dL_miles_31 (by decide) (fun b1 => ?_) (fun b1 => ?_)
      · refine g_iconst (v := nI 0) dL_miles_54 (by decide) ?_
        exact (J55 _ (bgd_f (fun q => (hgd.mp q).1 b1)).symm _ _ _ _).go hA hb (by omega)
      · refine g_aload_n dL_miles_34 rfl ?_
        refine g_iconst (v := nI 0) dL_miles_35 (by decide) ?_
        refine g_lcV 1 (M := ML_miles) (pc := 36) (Y := YX6_account) sv_L_182 rfl yn_X6_account 8 (by decide) rfl rfl dL_miles_36 hb (lRm_of rfl (rm_c (by show _ ≤ 320; omega) (Nat.le_of_ble_eq_true rfl))) (k_account (w := 0) hA (by decide) (v := S.1 0) rfl) hA.s9 rfl rfl (Nat.le_of_ble_eq_true rfl) ?_
        intro sh sz V cu su hA hb
        refine g_iload dL_miles_39 rfl ?_
        refine g_aload_n dL_miles_41 rfl ?_
        refine g_iconst (v := nI 2) dL_miles_42 (by decide) ?_
        refine g_lcV 1 (M := ML_miles) (pc := 43) (Y := YX6_setting) sv_L_185 rfl yn_X6_setting 8 (by decide) rfl rfl dL_miles_43 hb (lRm_of rfl (rm_c (by show _ ≤ 320; omega) (Nat.le_of_ble_eq_true rfl))) (k_setting (w := 2) hA (by decide)) hA.s9 rfl rfl (Nat.le_of_ble_eq_true rfl) ?_
        intro sh sz V cu su hA hb
        refine g_iadd dL_miles_46 ?_
        refine g_icmp_gt (tgt := 54) dL_miles_47 (by decide) (fun b2 => ?_) (fun b2 => ?_)
        · refine g_iconst (v := nI 0) dL_miles_54 (by decide) ?_
          exact (J55 _ (bgd_f (fun q => absurd (hgd.mp q).2 (Int32.not_le.mpr b2))).symm _ _ _ _).go hA hb (by omega)
        · refine g_iconst (v := nI 1) dL_miles_50 (by decide) ?_
          refine g_jump (tgt := 55) dL_miles_51 (by decide) ?_
          exact (J55 _ (bgd_t (hgd.mpr ⟨b1, Int32.not_lt.mp b2⟩)).symm _ _ _ _).go hA hb (by omega)
  refine MC.of RL "miles" rfl (by decide +kernel) rfl 11 [_, none, none, none, none, none, none, none, none, none, none, none] rfl (Nat.le_of_ble_eq_true rfl) ?_
  show G E ML_miles _ _ _ _ _ _ _ _ _
  refine g_iconst (v := nI 0) dL_miles_0 (by decide) ?_
  refine g_istore_n dL_miles_1 (by decide) rfl ?_
  show G _ _ _ _ _ _ _ _ _ [_, _, _, _, _, _, _, _, _, _, _, _] _
  refine g_dconst0 dL_miles_2 ?_
  refine g_dstore_n dL_miles_3 (by decide) rfl rfl ?_
  show G _ _ _ _ _ _ _ _ _ [_, _, _, _, _, _, _, _, _, _, _, _] _
  refine g_iconst (v := nI 0) dL_miles_4 (by decide) ?_
  refine g_istore dL_miles_5 (by decide) rfl ?_
  show G _ _ _ _ _ _ _ _ _ [_, _, _, _, _, _, _, _, _, _, _, _] _
  refine g_iconst (v := nI 0) dL_miles_7 (by decide) ?_
  refine g_istore dL_miles_8 (by decide) rfl ?_
  show G _ _ _ _ _ _ _ _ _ [_, _, _, _, _, _, _, _, _, _, _, _] _
  refine g_iconst (v := nI 0) dL_miles_10 (by decide) ?_
  refine g_istore dL_miles_11 (by decide) rfl ?_
  show G _ _ _ _ _ _ _ _ _ [_, _, _, _, _, _, _, _, _, _, _, _] _
  exact (K13 12 0 rfl _ _ _ _ _).go hA ⟨Nat.le_refl _, Nat.le_refl _, Nat.le_refl _⟩ (by omega)
end LMILES

