/-! the law's steps, drills and convoys -/
section DRAWN
variable {E : gE} {x z nc m n0 : Nat}
set_option maxRecDepth 100000 in
theorem dr_steps (h1 : 1 ≤ nc) (h3 : nc ≤ 3) (hm : m ≤ 33) (hlen : E.2.2.2.2.2.2.1 ≤ 260) : ∀ (d i : Nat), i + d = m → ∀ S, cnt S.1 = nc → DI (30 + 4 * i) S → ∀ a2 a6 a7 a8 a9, GL E ML_drawn (Pdr x z) x S [] z (560 + 4 * i) 329 [some (.ref E.2.2.2.2.2.1), some (.ref x), a2, some (.int (nI nc)), some (.int (nI m)), some (.int (nI i)), a6, a7, a8, a9] [] := by
  intro d
  induction d with
  | zero =>
    intro i hi S hc hD a2 a6 a7 a8 a9 sh sz V cu su hA hb
    obtain rfl : i = m := by omega
    refine g_iload dL_drawn_329 rfl ?_
    refine g_iload dL_drawn_331 rfl ?_
    refine g_icmp_ge (tgt := 521) dL_drawn_333 (by decide) (fun _ => ?_) (fun hq => absurd (Int32.le_refl _) hq)
    refine g_aload_n dL_drawn_521 rfl ?_
    exact g_aret rfl (Or.inl ⟨_, rfl⟩) (Or.inr ⟨_, rfl⟩) dL_drawn_522 ⟨by show cu ≤ 700; omega, by show su ≤ 6000; omega⟩ ⟨hb.1, S, hA, hD.le (by omega), rfl⟩
  | succ d ih =>
    intro i hi S hc hD a2 a6 a7 a8 a9
    obtain ⟨n, hn, en⟩ := ushr_n (clV E (15 + i)) (k := 1) (by decide) (by decide)
    have J483 : ∀ S2 (v : Int32), cnt S2.1 = nc → DI (30 + 4 * (i + 1)) S2 → (0 ≤ v ∨ (v = -2 ∧ ∃ a, 4 ≤ a ∧ a ≤ 8 ∧ S2.2.2.2.2.2.2.2.1 = nI a)) → GL E ML_drawn (Pdr x z) x S2 [] z (560 + 4 * i + 1) 483 [some (.ref E.2.2.2.2.2.1), some (.ref x), a2, some (.int (nI nc)), some (.int (nI m)), some (.int (nI i)), some (.int (nI n)), some (.int v), a8, a9] [] := by
      intro S2 v hc hD hv sh sz V cu su hA hb
      have fin : ∀ sh sz V cu su, LW x S2 [] sh sz V → (z ≤ sz ∧ cu ≤ 560 + 4 * i + 4 ∧ su ≤ 6 * (560 + 4 * i + 4)) → G E ML_drawn (Pdr x z) sh sz V cu su 515 [some (.ref E.2.2.2.2.2.1), some (.ref x), a2, some (.int (nI nc)), some (.int (nI m)), some (.int (nI i)), some (.int (nI n)), some (.int v), a8, a9] [] := by
        intro sh sz V cu su hA hb
        refine g_iinc dL_drawn_515 rfl (by first | exact nI_inc _ | rfl) (by decide) rfl ?_
        show G _ _ _ _ _ _ _ _ _ [_, _, _, _, _, _, _, _, _, _] _
        refine g_jump (tgt := 329) dL_drawn_518 (by decide) ?_
        exact (ih (i + 1) (by omega) S2 hc hD _ _ _ _ _).go hA hb (by omega)
      rcases hv with hv | ⟨rfl, a, a1, a2, ea⟩
      · refine g_iload dL_drawn_483 rfl ?_
        refine g_iconst (v := (-1)) dL_drawn_485 (by decide) ?_
        refine g_icmp_eq (tgt := 513) dL_drawn_486 (by decide) (fun hq => absurd hq ((fun q => by rw [q] at hv; exact absurd hv (by decide)))) (fun _ => ?_)
        refine g_iload dL_drawn_489 rfl ?_
        refine g_if_ge (tgt := 515) dL_drawn_491 (by decide) (fun _ => ?_) (fun hq => absurd (hv) hq)
        exact fin _ _ _ _ _ hA ⟨hb.1, by omega, by omega⟩
      · have e0 : ¬ S2.2.2.2.2.2.2.2.1 = nI 0 := by
          rw [ea]
          exact fun q => absurd ((nI_eq (by omega) (by decide)).mp q) (by omega)
        have er := (refV_0 e0).1
        rw [ea] at er
        refine g_iload dL_drawn_483 rfl ?_
        refine g_iconst (v := (-1)) dL_drawn_485 (by decide) ?_
        refine g_icmp_eq (tgt := 513) dL_drawn_486 (by decide) (fun hq => absurd hq (by decide)) (fun _ => ?_)
        refine g_iload dL_drawn_489 rfl ?_
        refine g_if_ge (tgt := 515) dL_drawn_491 (by decide) (fun hq => absurd hq (by decide)) (fun _ => ?_)
        refine g_aload_n dL_drawn_494 rfl ?_
        refine g_iconst (v := nI 0) dL_drawn_495 (by decide) ?_
        refine g_lcH 1 (M := ML_drawn) (pc := 496) (Y := YL_refusal) (gIn_SH ml_L_156 wt_L_refusal ini_L wc_L_refusal) yn_L_refusal dL_drawn_496 hb (lRm_of rfl (rm_c (by show _ ≤ 700; omega) (Nat.le_of_ble_eq_true rfl))) (l_refusal (d := nI 0) hA er) rfl rfl (Nat.le_of_ble_eq_true rfl) ?_
        intro sh sz V cu su hA hb
        refine g_iconst (v := nI 4) dL_drawn_499 (by decide) ?_
        refine g_icmp_lt (tgt := 513) dL_drawn_500 (by decide) (fun hq => absurd hq (nI_nlt (by omega) (by omega))) (fun _ => ?_)
        refine g_aload_n dL_drawn_503 rfl ?_
        refine g_iconst (v := nI 0) dL_drawn_504 (by decide) ?_
        refine g_lcH 1 (M := ML_drawn) (pc := 505) (Y := YL_refusal) (gIn_SH ml_L_156 wt_L_refusal ini_L wc_L_refusal) yn_L_refusal dL_drawn_505 hb (lRm_of rfl (rm_c (by show _ ≤ 700; omega) (Nat.le_of_ble_eq_true rfl))) (l_refusal (d := nI 0) hA er) rfl rfl (Nat.le_of_ble_eq_true rfl) ?_
        intro sh sz V cu su hA hb
        refine g_bipush (v := nI 8) dL_drawn_508 (by decide) ?_
        refine g_icmp_le (tgt := 515) dL_drawn_510 (by decide) (fun _ => ?_) (fun hq => absurd (nI_le (by omega) (by decide)) hq)
        exact fin _ _ _ _ _ hA ⟨hb.1, by omega, by omega⟩
    intro sh sz V cu su hA hb
    have hI := hA.sB
    have hq4 : ∀ q, q < 51 → isSV (nI 0) (nI q - nI 40) := by decide +kernel
    refine g_iload dL_drawn_329 rfl ?_
    refine g_iload dL_drawn_331 rfl ?_
    refine g_icmp_ge (tgt := 521) dL_drawn_333 (by decide) (fun hq => absurd hq (nI_ge (by omega) (by omega))) (fun _ => ?_)
    refine g_aload_n dL_drawn_336 rfl ?_
    refine g_bipush (v := nI 15) dL_drawn_337 (by decide) ?_
    refine g_iload dL_drawn_339 rfl ?_
    refine g_iadd dL_drawn_341 ?_
    rw [nI_add]
    refine g_lcP (M := ML_drawn) (pc := 342) (Y := YL_cell) ss_L_125 yn_L_cell dL_drawn_342 hb (lRm_of rfl (rm_c (by show _ ≤ 700; omega) (Nat.le_of_ble_eq_true rfl))) (c_cell (k := 15 + i) (by omega) hlen) rfl rfl (Nat.le_of_ble_eq_true rfl) ?_
    refine g_iconst (v := nI 1) dL_drawn_345 (by decide) ?_
    refine g_iushr dL_drawn_346 rfl ?_
    rw [en]
    refine g_istore dL_drawn_347 (by decide) rfl ?_
    show G _ _ _ _ _ _ _ _ _ [_, _, _, _, _, _, _, _, _, _] _
    refine g_iload dL_drawn_349 rfl ?_
    refine g_bipush (v := nI 10) dL_drawn_351 (by decide) ?_
    refine g_irem dL_drawn_353 (by decide) ?_
    rw [rem_nI hn (by decide) (by decide)]
    have roll : ∀ c, c < nc → G E ML_drawn (Pdr x z) sh sz V cu su 478 [some (.ref E.2.2.2.2.2.1), some (.ref x), a2, some (.int (nI nc)), some (.int (nI m)), some (.int (nI i)), some (.int (nI n)), a7, a8, a9] [.int (nI c), .ref x] := fun c hcc => by
      by_cases h0 : rollO S.1 c = (nI 0, nI 0)
      · refine g_lcH 1 (M := ML_drawn) (pc := 478) (Y := YL_roll) (gIn_SH ml_L_154 wt_L_roll ini_L wc_L_roll) yn_L_roll dL_drawn_478 hb (lRm_of rfl (rm_c (by show _ ≤ 700; omega) (Nat.le_of_ble_eq_true rfl))) (l_roll_ok hA (by omega) h0) rfl rfl (Nat.le_of_ble_eq_true rfl) ?_
        intro sh sz V cu su hA hb
        refine g_istore dL_drawn_481 (by decide) rfl ?_
        show G _ _ _ _ _ _ _ _ _ [_, _, _, _, _, _, _, _, _, _] _
        refine (J483 (push S (advF S.1 c)) _ (advF_cnt.trans hc) (hD.push ((hD.2.1.sm sd_adv).le (by omega)) (advF_W hI hD.2.2)) (Or.inl ?_)).go hA hb (by omega)
        have h5 := fb_ct_le (fun k => decide (isM (mt (advF S.1 c (oC c 2)) (advF S.1 c (oC c 0)) k))) (ncv (advF S.1 c) c)
        have h6 : ncv (advF S.1 c) c = ncv S.1 c := advN_ncv
        have h7 := (hI.cv (c := c) (by omega)).2.2.1
        exact nI_pos' (by unfold onR; omega)
      · refine g_lcH 1 (M := ML_drawn) (pc := 478) (Y := YL_roll) (gIn_SH ml_L_154 wt_L_roll ini_L wc_L_roll) yn_L_roll dL_drawn_478 hb (lRm_of rfl (rm_c (by show _ ≤ 700; omega) (Nat.le_of_ble_eq_true rfl))) (l_roll_no hA (by omega) h0) rfl rfl (Nat.le_of_ble_eq_true rfl) ?_
        intro sh sz V cu su hA hb
        refine g_istore dL_drawn_481 (by decide) rfl ?_
        show G _ _ _ _ _ _ _ _ _ [_, _, _, _, _, _, _, _, _, _] _
        exact (J483 (refu S (rollO S.1 c)) _ hc (hD.le (by omega)) (Or.inr ⟨rfl, roll_48 h0⟩)).go hA hb (by omega)
    have start : ∀ c, c < nc → G E ML_drawn (Pdr x z) sh sz V cu su 463 [some (.ref E.2.2.2.2.2.1), some (.ref x), a2, some (.int (nI nc)), some (.int (nI m)), some (.int (nI i)), some (.int (nI n)), a7, a8, a9] [.int (nI c), .ref x] := fun c hcc => by
      by_cases h0 : startO S.1 c = (nI 0, nI 0)
      · refine g_lcH 1 (M := ML_drawn) (pc := 463) (Y := YL_start) (gIn_SH ml_L_152 wt_L_start ini_L wc_L_start) yn_L_start dL_drawn_463 hb (lRm_of rfl (rm_c (by show _ ≤ 700; omega) (Nat.le_of_ble_eq_true rfl))) (l_start_ok hA (by omega) h0) rfl rfl (Nat.le_of_ble_eq_true rfl) ?_
        intro sh sz V cu su hA hb
        refine g_istore dL_drawn_466 (by decide) rfl ?_
        show G _ _ _ _ _ _ _ _ _ [_, _, _, _, _, _, _, _, _, _] _
        refine g_jump (tgt := 483) dL_drawn_468 (by decide) ?_
        have h7 := (hI.cv (c := c) (by omega)).2.2.1
        have hcs : cnt (startF S.1 c) = nc := startF_cnt.trans hc
        exact (J483 (push S (startF S.1 c)) _ hcs (hD.push ((hD.2.1.sm sd_start).le (by omega)) (W_start hI hD.2.2)) (Or.inl (nI_pos' (by omega)))).go hA hb (by omega)
      · refine g_lcH 1 (M := ML_drawn) (pc := 463) (Y := YL_start) (gIn_SH ml_L_152 wt_L_start ini_L wc_L_start) yn_L_start dL_drawn_463 hb (lRm_of rfl (rm_c (by show _ ≤ 700; omega) (Nat.le_of_ble_eq_true rfl))) (l_start_no hA (by omega) h0) rfl rfl (Nat.le_of_ble_eq_true rfl) ?_
        intro sh sz V cu su hA hb
        refine g_istore dL_drawn_466 (by decide) rfl ?_
        show G _ _ _ _ _ _ _ _ _ [_, _, _, _, _, _, _, _, _, _] _
        refine g_jump (tgt := 483) dL_drawn_468 (by decide) ?_
        exact (J483 (refu S (startO S.1 c)) _ hc (hD.le (by omega)) (Or.inr ⟨rfl, start_48 h0⟩)).go hA hb (by omega)
    by_cases q0 : n % 10 = 0
    · rw [q0]
      refine g_tableIn (off := 30) (tgt := 384) dL_drawn_354 (by decide) (by decide) (by decide +kernel) (by decide) ?_
      refine g_aload_n dL_drawn_384 rfl ?_
      refine g_iconst (v := nI 1) dL_drawn_385 (by decide) ?_
      refine g_iload dL_drawn_386 rfl ?_
      refine g_iconst (v := nI 4) dL_drawn_388 (by decide) ?_
      refine g_iushr dL_drawn_389 rfl ?_
      refine g_iconst (v := nI 4) dL_drawn_390 (by decide) ?_
      refine g_irem dL_drawn_391 (by decide) ?_
      refine g_iadd dL_drawn_392 ?_
      rw [ushr_nI hn (by decide), rem_nI (by omega) (by decide) (by decide), nI_add]
      refine g_lcH 1 (M := ML_drawn) (pc := 393) (Y := YL_pass) (gIn_SH ml_L_132 wt_L_pass ini_L wc_L_pass) yn_L_pass dL_drawn_393 hb (lRm_of rfl (rm_c (by show _ ≤ 700; omega) (Nat.le_of_ble_eq_true rfl))) (l_pass (d := 1 + n / 2 ^ 4 % 4) hA (by omega) (by omega)) rfl rfl (Nat.le_of_ble_eq_true rfl) ?_
      intro sh sz V cu su hA hb
      refine g_istore dL_drawn_396 (by decide) rfl ?_
      show G _ _ _ _ _ _ _ _ _ [_, _, _, _, _, _, _, _, _, _] _
      refine g_jump (tgt := 483) dL_drawn_398 (by decide) ?_
      obtain ⟨ga, gb, g1, g2, g3, g4⟩ := good_mono (n := 1 + n / 2 ^ 4 % 4) hD.2.1 (by omega)
      refine (J483 (push S (passF S.1 (1 + n / 2 ^ 4 % 4))) _ ?_ (hD.push ((passF_D hD.2.1).le (by omega)) (W_pass hD.2.2)) (Or.inl ?_)).go hA hb (by omega)
      · show cnt (passF S.1 _) = nc
        unfold cnt
        rw [passF_out (by decide) (by omega)]
        exact hc
      · rw [g3, g4, pk_sub g2]
        exact nI_pos' (by omega)
    by_cases q1 : n % 10 = 1
    · rw [q1]
      refine g_tableIn (off := 47) (tgt := 401) dL_drawn_354 (by decide) (by decide) (by decide +kernel) (by decide) ?_
      refine g_aload_n dL_drawn_401 rfl ?_
      refine g_iload dL_drawn_402 rfl ?_
      refine g_iconst (v := nI 4) dL_drawn_404 (by decide) ?_
      refine g_iushr dL_drawn_405 rfl ?_
      refine g_bipush (v := nI 12) dL_drawn_406 (by decide) ?_
      refine g_irem dL_drawn_408 (by decide) ?_
      rw [ushr_nI hn (by decide), rem_nI (by omega) (by decide) (by decide)]
      have hj : n / 2 ^ 4 % 12 < 12 := Nat.mod_lt _ (by decide)
      refine g_lcH 1 (M := ML_drawn) (pc := 409) (Y := YL_drill) (gIn_SH ml_L_143 wt_L_drill ini_L wc_L_drill) yn_L_drill dL_drawn_409 hb (lRm_of rfl (rm_c (by show _ ≤ 700; omega) (Nat.le_of_ble_eq_true rfl))) (l_drill (j := n / 2 ^ 4 % 12) hA hj) rfl rfl (Nat.le_of_ble_eq_true rfl) ?_
      intro sh sz V cu su hA hb
      have hok := (hI.2.2.2.1 _ hj).1.n
      refine g_iconst (v := (-1)) dL_drawn_412 (by decide) ?_
      refine g_icmp_ne (tgt := 420) dL_drawn_413 (by decide) (fun _ => ?_) (fun hq => absurd hq ((fun q => by rw [q] at hok; exact absurd (show (-1 : Int32).toUInt32.toNat < 2139095040 from hok) (by decide))))
      refine g_iconst (v := nI 0) dL_drawn_420 (by decide) ?_
      refine g_istore dL_drawn_421 (by decide) rfl ?_
      show G _ _ _ _ _ _ _ _ _ [_, _, _, _, _, _, _, _, _, _] _
      refine g_jump (tgt := 483) dL_drawn_423 (by decide) ?_
      refine (J483 (push S (drF S.1 (n / 2 ^ 4 % 12))) _ ?_ (hD.push ((D_dr hD.2.1).le (by omega)) (W_dr hD.2.2 hj)) (Or.inl (by decide))).go hA hb (by omega)
      show cnt (drF S.1 _) = nc
      rw [← hc]
      unfold cnt drF
      rw [pk_un (by decide), pk_un (by unfold oM; omega), pk_un (by unfold oM; omega)]
    by_cases q2 : n % 10 = 2
    · rw [q2]
      refine g_tableIn (off := 72) (tgt := 426) dL_drawn_354 (by decide) (by decide) (by decide +kernel) (by decide) ?_
      refine g_aload_n dL_drawn_426 rfl ?_
      refine g_iconst (v := nI 0) dL_drawn_427 (by decide) ?_
      refine g_iload dL_drawn_428 rfl ?_
      refine g_iconst (v := nI 4) dL_drawn_430 (by decide) ?_
      refine g_iushr dL_drawn_431 rfl ?_
      refine g_bipush (v := nI 51) dL_drawn_432 (by decide) ?_
      refine g_irem dL_drawn_434 (by decide) ?_
      rw [ushr_nI hn (by decide), rem_nI (by omega) (by decide) (by decide)]
      refine g_bipush (v := nI 40) dL_drawn_435 (by decide) ?_
      refine g_isub dL_drawn_437 ?_
      have hsv := hq4 (n / 2 ^ 4 % 51) (by omega)
      refine g_lcH 1 (M := ML_drawn) (pc := 438) (Y := YL_set) (gIn_SH ml_L_129 wt_L_set ini_L wc_L_set) yn_L_set dL_drawn_438 hb (lRm_of rfl (rm_c (by show _ ≤ 700; omega) (Nat.le_of_ble_eq_true rfl))) (l_set (w := 0) hA (by decide) hsv) rfl rfl (Nat.le_of_ble_eq_true rfl) ?_
      intro sh sz V cu su hA hb
      refine g_bipush (v := (-40)) dL_drawn_441 (by decide) ?_
      refine g_icmp_ge (tgt := 450) dL_drawn_443 (by decide) (fun _ => ?_) (fun hq => absurd (hI.2.1.1) hq)
      refine g_iconst (v := nI 0) dL_drawn_450 (by decide) ?_
      refine g_istore dL_drawn_451 (by decide) rfl ?_
      show G _ _ _ _ _ _ _ _ _ [_, _, _, _, _, _, _, _, _, _] _
      refine g_jump (tgt := 483) dL_drawn_453 (by decide) ?_
      refine (J483 _ _ ?_ (hD.push ((D_set hD.2.1 hsv).le (by omega)) (W_set hD.2.2 hsv)) (Or.inl (by decide))).go hA hb (by omega)
      show cnt (upd S.1 5 _) = nc
      unfold cnt
      rw [pk_un (by decide)]
      exact hc
    by_cases q3 : n % 10 = 3
    · rw [q3]
      refine g_tableIn (off := 102) (tgt := 456) dL_drawn_354 (by decide) (by decide) (by decide +kernel) (by decide) ?_
      refine g_aload_n dL_drawn_456 rfl ?_
      refine g_iload dL_drawn_457 rfl ?_
      refine g_iconst (v := nI 4) dL_drawn_459 (by decide) ?_
      refine g_iushr dL_drawn_460 rfl ?_
      refine g_iload_n dL_drawn_461 rfl ?_
      refine g_irem dL_drawn_462 (nI_ne0 (by omega) (by omega)) ?_
      rw [ushr_nI hn (by decide), rem_nI (by omega) (by omega) (by omega)]
      exact start _ (Nat.mod_lt _ (by omega))
    · refine g_tableOut (tgt := 471) dL_drawn_354 (by rw [nI_toInt (by omega)]; omega) (by decide) ?_
      refine g_aload_n dL_drawn_471 rfl ?_
      refine g_iload dL_drawn_472 rfl ?_
      refine g_iconst (v := nI 4) dL_drawn_474 (by decide) ?_
      refine g_iushr dL_drawn_475 rfl ?_
      refine g_iload_n dL_drawn_476 rfl ?_
      refine g_irem dL_drawn_477 (nI_ne0 (by omega) (by omega)) ?_
      rw [ushr_nI hn (by decide), rem_nI (by omega) (by omega) (by omega)]
      exact roll _ (Nat.mod_lt _ (by omega))
end DRAWN

