/-! the law's undoing -/
section UNDN
variable {E : gE} {P : gP} {sh : Sh} {sz : Nat} {V : Vl} {cu su pc : Nat} {L : List (Option Value)} {rest : List Value} {x z u N n : Nat} {S : St} {A : La} {l0 l2 l3 l4 : Option Value}
theorem g_uset {a b : Int32} (hA : LW x S A sh sz V) (hl : S.2.2.2.2.2.1 = 0) (hD : InvD N S.1) (hN : N ≤ 900000) (hb : z ≤ sz ∧ cu ≤ u ∧ su ≤ 6 * u) (hu : u + 1 ≤ 9000) (kk : ∀ S2 zz, Und N S S2 (¬ zz ≤ -101) → GL E ML_undone P x S2 A z (u + 1) 113 L [.int zz]) : G E ML_undone P sh sz V cu su 110 L [.int b, .int a, .ref x] := by
  obtain ⟨zz, hz, hU⟩ := u_set (w := a) (v := b) hA.2.1 hl hD
  have h := w_set (E := E) (w := a) (v := b) hA (s_set hA.2.1)
  rw [hz] at h
  refine g_lcH 1 (M := ML_undone) (pc := 110) (Y := YL_set) (gIn_SH ml_L_129 wt_L_set ini_L wc_L_set) yn_L_set dL_undone_110 hb (lRm_of rfl (rm_c (by show _ ≤ 9000; omega) (Nat.le_of_ble_eq_true rfl))) h rfl rfl (Nat.le_of_ble_eq_true rfl) ?_
  intro sh sz V cu su hA hb
  exact (kk _ _ hU).go hA hb (by omega)
theorem g_udrill {a : Int32} (hA : LW x S A sh sz V) (hl : S.2.2.2.2.2.1 = 0) (hD : InvD N S.1) (hN : N ≤ 900000) (hb : z ≤ sz ∧ cu ≤ u ∧ su ≤ 6 * u) (hu : u + 1 ≤ 9000) (kk : ∀ S2 zz, Und N S S2 (¬ zz = -1) → GL E ML_undone P x S2 A z (u + 1) 139 L [.int zz]) : G E ML_undone P sh sz V cu su 136 L [.int a, .ref x] := by
  obtain ⟨zz, hz, hU⟩ := u_drill (a := a) hA.2.1 hl hD
  have h := w_drill (E := E) (a := a) hA (s_drill hA.2.1)
  rw [hz] at h
  refine g_lcH 1 (M := ML_undone) (pc := 136) (Y := YL_drill) (gIn_SH ml_L_143 wt_L_drill ini_L wc_L_drill) yn_L_drill dL_undone_136 hb (lRm_of rfl (rm_c (by show _ ≤ 9000; omega) (Nat.le_of_ble_eq_true rfl))) h rfl rfl (Nat.le_of_ble_eq_true rfl) ?_
  intro sh sz V cu su hA hb
  exact (kk _ _ hU).go hA hb (by omega)
theorem g_utruck {a b c d : Int32} (hA : LW x S A sh sz V) (hl : S.2.2.2.2.2.1 = 0) (hD : InvD N S.1) (hN : N ≤ 900000) (hb : z ≤ sz ∧ cu ≤ u ∧ su ≤ 6 * u) (hu : u + 1 ≤ 9000) (kk : ∀ S2 zz, Und N S S2 (¬ zz < 0) → GL E ML_undone P x S2 A z (u + 1) 186 L [.int zz]) : G E ML_undone P sh sz V cu su 183 L [.int d, .int c, .int b, .int a, .ref x] := by
  obtain ⟨zz, hz, hU⟩ := u_truck (kd := a) (w := b) (ax := c) (r := d) hA.2.1 hl hD
  have h := w_truck (E := E) (kd := a) (w := b) (ax := c) (r := d) hA (s_truck hA.2.1)
  rw [hz] at h
  refine g_lcH 1 (M := ML_undone) (pc := 183) (Y := YL_truck) (gIn_SH ml_L_137 wt_L_truck ini_L wc_L_truck) yn_L_truck dL_undone_183 hb (lRm_of rfl (rm_c (by show _ ≤ 9000; omega) (Nat.le_of_ble_eq_true rfl))) h rfl rfl (Nat.le_of_ble_eq_true rfl) ?_
  intro sh sz V cu su hA hb
  exact (kk _ _ hU).go hA hb (by omega)
theorem g_uconvoy {a : Int32} (hA : LW x S A sh sz V) (hl : S.2.2.2.2.2.1 = 0) (hD : InvD N S.1) (hN : N ≤ 900000) (hb : z ≤ sz ∧ cu ≤ u ∧ su ≤ 6 * u) (hu : u + 1 ≤ 9000) (kk : ∀ S2 zz, Und N S S2 (¬ zz < 0) → GL E ML_undone P x S2 A z (u + 1) 209 L [.int zz]) : G E ML_undone P sh sz V cu su 206 L [.int a, .ref x] := by
  obtain ⟨zz, hz, hU⟩ := u_convoy (g := a) hl hD
  have h := w_convoy (E := E) (g := a) hA (s_convoy hA.2.1)
  rw [hz] at h
  refine g_lcH 1 (M := ML_undone) (pc := 206) (Y := YL_convoy) (gIn_SH ml_L_135 wt_L_convoy ini_L wc_L_convoy) yn_L_convoy dL_undone_206 hb (lRm_of rfl (rm_c (by show _ ≤ 9000; omega) (Nat.le_of_ble_eq_true rfl))) h rfl rfl (Nat.le_of_ble_eq_true rfl) ?_
  intro sh sz V cu su hA hb
  exact (kk _ _ hU).go hA hb (by omega)
theorem g_ujoin {a b c : Int32} (hA : LW x S A sh sz V) (hl : S.2.2.2.2.2.1 = 0) (hD : InvD N S.1) (hN : N ≤ 900000) (hb : z ≤ sz ∧ cu ≤ u ∧ su ≤ 6 * u) (hu : u + 1 ≤ 9000) (kk : ∀ S2 zz, Und N S S2 (¬ zz < 0) → GL E ML_undone P x S2 A z (u + 1) 246 L [.int zz]) : G E ML_undone P sh sz V cu su 243 L [.int c, .int b, .int a, .ref x] := by
  obtain ⟨zz, hz, hU⟩ := u_join (c := a) (r := b) (p := c) hA.2.1 hl hD
  have h := w_join (E := E) (c := a) (r := b) (p := c) hA (s_join hA.2.1)
  rw [hz] at h
  refine g_lcH 1 (M := ML_undone) (pc := 243) (Y := YL_join) (gIn_SH ml_L_140 wt_L_join ini_L wc_L_join) yn_L_join dL_undone_243 hb (lRm_of rfl (rm_c (by show _ ≤ 9000; omega) (Nat.le_of_ble_eq_true rfl))) h rfl rfl (Nat.le_of_ble_eq_true rfl) ?_
  intro sh sz V cu su hA hb
  exact (kk _ _ hU).go hA hb (by omega)
theorem g_ustart {a : Int32} (hA : LW x S A sh sz V) (hl : S.2.2.2.2.2.1 = 0) (hD : InvD N S.1) (hN : N ≤ 900000) (hb : z ≤ sz ∧ cu ≤ u ∧ su ≤ 6 * u) (hu : u + 1 ≤ 9000) (kk : ∀ S2 zz, Und N S S2 (¬ zz < 0) → GL E ML_undone P x S2 A z (u + 1) 269 L [.int zz]) : G E ML_undone P sh sz V cu su 266 L [.int a, .ref x] := by
  obtain ⟨zz, hz, hU⟩ := u_start (c := a) hA.2.1 hl hD
  have h := w_start (E := E) (c := a) hA (s_start hA.2.1)
  rw [hz] at h
  refine g_lcH 1 (M := ML_undone) (pc := 266) (Y := YL_start) (gIn_SH ml_L_152 wt_L_start ini_L wc_L_start) yn_L_start dL_undone_266 hb (lRm_of rfl (rm_c (by show _ ≤ 9000; omega) (Nat.le_of_ble_eq_true rfl))) h rfl rfl (Nat.le_of_ble_eq_true rfl) ?_
  intro sh sz V cu su hA hb
  exact (kk _ _ hU).go hA hb (by omega)
theorem g_uroll {a : Int32} (hA : LW x S A sh sz V) (hl : S.2.2.2.2.2.1 = 0) (hD : InvD N S.1) (hN : N ≤ 900000) (hb : z ≤ sz ∧ cu ≤ u ∧ su ≤ 6 * u) (hu : u + 1 ≤ 9000) (kk : ∀ S2 zz, Und N S S2 (¬ zz < 0) → GL E ML_undone P x S2 A z (u + 1) 292 L [.int zz]) : G E ML_undone P sh sz V cu su 289 L [.int a, .ref x] := by
  obtain ⟨zz, hz, hU⟩ := u_roll (c := a) hA.2.1 hl hD
  have h := w_roll (E := E) (c := a) hA (s_roll hA.2.1)
  rw [hz] at h
  refine g_lcH 1 (M := ML_undone) (pc := 289) (Y := YL_roll) (gIn_SH ml_L_154 wt_L_roll ini_L wc_L_roll) yn_L_roll dL_undone_289 hb (lRm_of rfl (rm_c (by show _ ≤ 9000; omega) (Nat.le_of_ble_eq_true rfl))) h rfl rfl (Nat.le_of_ble_eq_true rfl) ?_
  intro sh sz V cu su hA hb
  exact (kk _ _ hU).go hA hb (by omega)
theorem g_upass {a : Int32} (hA : LW x S A sh sz V) (hl : S.2.2.2.2.2.1 = 0) (hD : InvD N S.1) (hN : N ≤ 900000) (hb : z ≤ sz ∧ cu ≤ u ∧ su ≤ 6 * u) (hu : u + 1 ≤ 9000) (kk : ∀ S2 zz, Und N S S2 (¬ zz < 0) → GL E ML_undone P x S2 A z (u + 1) 316 L [.int zz]) : G E ML_undone P sh sz V cu su 313 L [.int a, .ref x] := by
  obtain ⟨zz, hz, hU⟩ := u_pass (d := a) hl hD hN
  have h := w_pass (E := E) (d := a) hA (s_pass hA.2.1)
  rw [hz] at h
  refine g_lcH 1 (M := ML_undone) (pc := 313) (Y := YL_pass) (gIn_SH ml_L_132 wt_L_pass ini_L wc_L_pass) yn_L_pass dL_undone_313 hb (lRm_of rfl (rm_c (by show _ ≤ 9000; omega) (Nat.le_of_ble_eq_true rfl))) h rfl rfl (Nat.le_of_ble_eq_true rfl) ?_
  intro sh sz V cu su hA hb
  exact (kk _ _ hU).go hA hb (by omega)
theorem dgN_le (d : Nat) : dgN d ≤ 2 := by unfold dgN; split <;> omega
theorem dgN_1 {d : Nat} (h : d < 10) : dgN d = 1 := if_pos h
theorem ud_new (d0 : decode ML_undone.1 pc = .ok (.new 278, 3)) (d3 : decode ML_undone.1 (pc + 3) = .ok (.dup, 1)) (d4 : decode ML_undone.1 (pc + 4) = .ok (.invokespecial 280, 3)) (hcat : ((Value.ref sz :: rest).map fun v => v.category).sum ≤ 8) (hA : LW x S A sh sz V) (hr : cu + 2 ≤ 9000 ∧ su + 20 ≤ 54000) (kk : ∀ sh' V', SW x S A sh' (sz + 2) V' sz (sz + 1) 0 → G E ML_undone P sh' (sz + 2) V' (cu + 2) (su + 20) (pc + 7) L (.ref sz :: rest)) : G E ML_undone P sh sz V cu su pc L rest := by
  refine g_new 9 rfl (by decide) inJ4 tyJ4 tyJ4_ok cl_L_278 new_J4 ini_J4 d0 ⟨by show cu + 1 ≤ 9000; omega, by show su + 4 ≤ 54000; omega⟩ ?_
  refine g_dup d3 rfl ?_
  refine g_callI (Y := YJ4_init_da8c8) (pc := pc + 4) rfl wc_J4_init_da8c8 ml_L_280 wi_J4_init_da8c8 ini_J4 rfl yn_J4_init_da8c8 d4 (sb_init (by rw [hs_at]) (Nat.lt_succ_self _)) rfl rfl ⟨Nat.le_of_ble_eq_true rfl, Nat.le_of_ble_eq_true rfl, by show cu + 1 + 1 ≤ 9000; omega, by show su + 4 + 16 ≤ 54000; omega⟩ hcat (fun _ _ _ _ h => by rw [h.2.2.1]; omega) (fun _ _ _ _ h => nomatch h.1) (fun v' sh' sz' V' h => ?_)
  obtain ⟨h1, rfl, rfl, rfl⟩ := h
  cases h1
  exact kk _ _ (SW.mk hA rfl)
theorem ud_tail {b t m k v w : Nat} {a6 : Option Value} (hl : S.2.2.2.2.2.1 = 0) (hD : InvD N S.1) (hu : u + 80 ≤ 9000) (kk : ∀ S2 b v, Und N S S2 b → ((b ∧ v = nI 1) ∨ (¬ b ∧ v = nI 0)) → GL E ML_undone P x S2 A z (u + 80) 448 [l0, some (.ref x), l2, l3, l4, some (.int (nI n)), some (.int v)] []) (hS : SW x S A sh sz V b t m) (hT : StrA E sh V k v w) (hm : m + w < 16) (hb : z ≤ sz ∧ cu ≤ u ∧ su ≤ 6 * u) : G E ML_undone P sh sz V cu su 429 [l0, some (.ref x), l2, l3, l4, some (.int (nI n)), a6] [.ref k, .ref b, .ref x] := by
  refine g_lSw (M := ML_undone) (pc := 429) (Y := YJ4_append_15ec4) sv_L_283 rfl yn_J4_append_15ec4 dL_undone_429 hb (lRm_of rfl (rm_c (by show _ ≤ 9000; omega) (Nat.le_of_ble_eq_true rfl))) (sb_app hS.2.1 hT (by omega)) hS.2.1.2.1 rfl rfl (Nat.le_of_ble_eq_true rfl) (fun r V' hQ => ?_)
  obtain ⟨rfl, hP, hO⟩ := hQ
  have hS := hS.step hP hO
  refine g_callV (M := ML_undone) (pc := 432) (Y := YJ4_toString_0e30d) sv_L_295 rfl yn_J4_toString_0e30d 9 (by decide) rfl rfl dL_undone_432 (sb_str hS.2.1 hS.2.2.1.2 hS.2.2.2.1.2 (by omega)) hS.2.1.2.1 rfl rfl (lRm.g (lRm_of (k := 11) rfl (rm_c (by show _ ≤ 9000; omega) (Nat.le_of_ble_eq_true rfl))) hb.2.1 hb.2.2) (Nat.le_of_ble_eq_true rfl) (fun _ _ _ _ h => by rw [h.2.2.1]; omega) (fun v' sh' sz' V' h => ?_) (fun _ _ _ _ h => nomatch h.1)
  obtain ⟨h1, h2, h3, h4, h5⟩ := h
  cases h1
  have hb : z ≤ sz' ∧ cu + YJ4_toString_0e30d.2.2.2.2.cells ≤ u + 11 ∧ su + YJ4_toString_0e30d.2.2.2.2.slots ≤ 6 * (u + 11) := ⟨by omega, by show cu + 2 ≤ _; omega, by show su + 64 ≤ _; omega⟩
  have hA := hS.str h2 h3 h4 h5
  refine g_lcX 64 (M := ML_undone) (pc := 435) (Y := YL_read) ss_L_299 yn_L_read dL_undone_435 hb (lRm_of rfl (rm_c (by show _ ≤ 9000; omega) (Nat.le_of_ble_eq_true rfl))) (l_read hA hl hD (fun S sh sz V hA => h4.stay hA)) rfl rfl (Nat.le_of_ble_eq_true rfl) (fun S v hQ => ?_)
  obtain ⟨zz, rfl, hU⟩ := hQ
  intro sh sz V cu su hA hb
  have hA := hA.sub (B := A) (fun q hq => List.mem_cons_of_mem _ (List.mem_cons_of_mem _ hq))
  refine g_if_lt (tgt := 445) dL_undone_438 (by decide) (fun b1 => ?_) (fun b1 => ?_)
  · refine g_iconst (v := nI 0) dL_undone_445 (by decide) ?_
    refine g_istore dL_undone_446 (by decide) rfl ?_
    show G _ _ _ _ _ _ _ _ _ [_, _, _, _, _, _, _] _
    exact (kk _ _ _ hU (Or.inr ⟨Int32.not_le.mpr b1, rfl⟩)).go hA hb (by omega)
  · refine g_iconst (v := nI 1) dL_undone_441 (by decide) ?_
    refine g_jump (tgt := 446) dL_undone_442 (by decide) ?_
    refine g_istore dL_undone_446 (by decide) rfl ?_
    show G _ _ _ _ _ _ _ _ _ [_, _, _, _, _, _, _] _
    exact (kk _ _ _ hU (Or.inl ⟨Int32.not_lt.mp b1, rfl⟩)).go hA hb (by omega)
theorem ud_read {a6 : Option Value} (hn : n < 2 ^ 31) (hl : S.2.2.2.2.2.1 = 0) (hD : InvD N S.1) (hu : u + 110 ≤ 9000) (kk : ∀ S2 b v, Und N S S2 b → ((b ∧ v = nI 1) ∨ (¬ b ∧ v = nI 0)) → GL E ML_undone P x S2 A z (u + 100) 448 [l0, some (.ref x), l2, l3, l4, some (.int (nI n)), some (.int v)] []) : GL E ML_undone P x S A z u 329 [l0, some (.ref x), l2, l3, l4, some (.int (nI n)), a6] [] := by
  intro sh sz V cu su hA hb
  have g0 : (gsb 0).length = 2 := rfl
  have g1 : (gsb 1).length = 2 := rfl
  have g2 : (gsb 2).length = 2 := rfl
  have g3 : (gsb 3).length = 3 := rfl
  refine g_aload_n dL_undone_329 rfl ?_
  refine ud_new dL_undone_330 dL_undone_333 dL_undone_334 (Nat.le_of_ble_eq_true rfl) hA ⟨by omega, by omega⟩ (fun sh V hS => ?_)
  have hb : z ≤ sz + 2 ∧ cu + 2 ≤ u + 4 ∧ su + 20 ≤ 6 * (u + 4) := ⟨by omega, by omega, by omega⟩
  refine g_ldcs 0 (by decide) rfl rfl dL_undone_337 ?_
  refine g_lSw (M := ML_undone) (pc := 340) (Y := YJ4_append_15ec4) sv_L_283 rfl yn_J4_append_15ec4 dL_undone_340 hb (lRm_of rfl (rm_c (by show _ ≤ 9000; omega) (Nat.le_of_ble_eq_true rfl))) (sb_app hS.2.1 (strC (i := 0) (by decide)) (by omega)) hS.2.1.2.1 rfl rfl (Nat.le_of_ble_eq_true rfl) (fun r V hQ => ?_)
  obtain ⟨rfl, hP, hO⟩ := hQ
  have hS := hS.step hP hO
  refine g_iload dL_undone_343 rfl ?_
  refine g_iconst (v := nI 4) dL_undone_345 (by decide) ?_
  refine g_iushr dL_undone_346 rfl ?_
  refine g_bipush (v := nI 40) dL_undone_347 (by decide) ?_
  refine g_irem dL_undone_349 (by decide) ?_
  rw [ushr_nI hn (by decide), rem_nI (by omega) (by decide) (by decide)]
  have k1 := dgN_le (n / 2 ^ 4 % 40)
  refine g_lSw (M := ML_undone) (pc := 350) (Y := YJ4_append_bf812) sv_L_286 rfl yn_J4_append_bf812 dL_undone_350 hb (lRm_of rfl (rm_c (by show _ ≤ 9000; omega) (Nat.le_of_ble_eq_true rfl))) (sb_num hS.2.1 (d := n / 2 ^ 4 % 40) (by omega) (by omega)) hS.2.1.2.1 rfl rfl (Nat.le_of_ble_eq_true rfl) (fun r V hQ => ?_)
  obtain ⟨rfl, hP, hO⟩ := hQ
  have hS := hS.step hP hO
  refine g_ldcs 1 (by decide) rfl rfl dL_undone_353 ?_
  refine g_lSw (M := ML_undone) (pc := 356) (Y := YJ4_append_15ec4) sv_L_283 rfl yn_J4_append_15ec4 dL_undone_356 hb (lRm_of rfl (rm_c (by show _ ≤ 9000; omega) (Nat.le_of_ble_eq_true rfl))) (sb_app hS.2.1 (strC (i := 1) (by decide)) (by omega)) hS.2.1.2.1 rfl rfl (Nat.le_of_ble_eq_true rfl) (fun r V hQ => ?_)
  obtain ⟨rfl, hP, hO⟩ := hQ
  have hS := hS.step hP hO
  refine g_iconst (v := nI 1) dL_undone_359 (by decide) ?_
  refine g_iload dL_undone_360 rfl ?_
  refine g_bipush (v := nI 10) dL_undone_362 (by decide) ?_
  refine g_iushr dL_undone_364 rfl ?_
  refine g_bipush (v := nI 6) dL_undone_365 (by decide) ?_
  refine g_irem dL_undone_367 (by decide) ?_
  refine g_iadd dL_undone_368 ?_
  rw [ushr_nI hn (by decide), rem_nI (by omega) (by decide) (by decide), nI_add]
  have k2 := dgN_1 (show 1 + n / 2 ^ 10 % 6 < 10 by omega)
  refine g_lSw (M := ML_undone) (pc := 369) (Y := YJ4_append_bf812) sv_L_286 rfl yn_J4_append_bf812 dL_undone_369 hb (lRm_of rfl (rm_c (by show _ ≤ 9000; omega) (Nat.le_of_ble_eq_true rfl))) (sb_num hS.2.1 (d := 1 + n / 2 ^ 10 % 6) (by omega) (by omega)) hS.2.1.2.1 rfl rfl (Nat.le_of_ble_eq_true rfl) (fun r V hQ => ?_)
  obtain ⟨rfl, hP, hO⟩ := hQ
  have hS := hS.step hP hO
  refine g_ldcs 2 (by decide) rfl rfl dL_undone_372 ?_
  refine g_lSw (M := ML_undone) (pc := 375) (Y := YJ4_append_15ec4) sv_L_283 rfl yn_J4_append_15ec4 dL_undone_375 hb (lRm_of rfl (rm_c (by show _ ≤ 9000; omega) (Nat.le_of_ble_eq_true rfl))) (sb_app hS.2.1 (strC (i := 2) (by decide)) (by omega)) hS.2.1.2.1 rfl rfl (Nat.le_of_ble_eq_true rfl) (fun r V hQ => ?_)
  obtain ⟨rfl, hP, hO⟩ := hQ
  have hS := hS.step hP hO
  refine g_iload dL_undone_378 rfl ?_
  refine g_bipush (v := nI 14) dL_undone_380 (by decide) ?_
  refine g_iushr dL_undone_382 rfl ?_
  refine g_bipush (v := nI 12) dL_undone_383 (by decide) ?_
  refine g_irem dL_undone_385 (by decide) ?_
  rw [ushr_nI hn (by decide), rem_nI (by omega) (by decide) (by decide)]
  have k3 := dgN_le (n / 2 ^ 14 % 12)
  refine g_lSw (M := ML_undone) (pc := 386) (Y := YJ4_append_bf812) sv_L_286 rfl yn_J4_append_bf812 dL_undone_386 hb (lRm_of rfl (rm_c (by show _ ≤ 9000; omega) (Nat.le_of_ble_eq_true rfl))) (sb_num hS.2.1 (d := n / 2 ^ 14 % 12) (by omega) (by omega)) hS.2.1.2.1 rfl rfl (Nat.le_of_ble_eq_true rfl) (fun r V hQ => ?_)
  obtain ⟨rfl, hP, hO⟩ := hQ
  have hS := hS.step hP hO
  refine g_iload dL_undone_389 rfl ?_
  refine g_iconst (v := nI 3) dL_undone_391 (by decide) ?_
  refine g_irem dL_undone_392 (by decide) ?_
  refine g_if_ne (tgt := 402) dL_undone_393 (by decide) (fun b1 => ?_) (fun b1 => ?_)
  · refine ud_new dL_undone_402 dL_undone_405 dL_undone_406 (Nat.le_of_ble_eq_true rfl) hS.push ⟨by omega, by omega⟩ (fun sh2 V2 hS2 => ?_)
    have hb : z ≤ sz + 2 + 2 ∧ cu + 2 + 2 ≤ u + 8 ∧ su + 20 + 20 ≤ 6 * (u + 8) := ⟨by omega, by omega, by omega⟩
    refine g_ldcs 2 (by decide) rfl rfl dL_undone_409 ?_
    refine g_lSw (M := ML_undone) (pc := 412) (Y := YJ4_append_15ec4) sv_L_283 rfl yn_J4_append_15ec4 dL_undone_412 hb (lRm_of rfl (rm_c (by show _ ≤ 9000; omega) (Nat.le_of_ble_eq_true rfl))) (sb_app hS2.2.1 (strC (i := 2) (by decide)) (by omega)) hS2.2.1.2.1 rfl rfl (Nat.le_of_ble_eq_true rfl) (fun r V2 hQ => ?_)
    obtain ⟨rfl, hP, hO⟩ := hQ
    have hS2 := hS2.step hP hO
    refine g_iload dL_undone_415 rfl ?_
    refine g_bipush (v := nI 18) dL_undone_417 (by decide) ?_
    refine g_iushr dL_undone_419 rfl ?_
    refine g_bipush (v := nI 14) dL_undone_420 (by decide) ?_
    refine g_irem dL_undone_422 (by decide) ?_
    rw [ushr_nI hn (by decide), rem_nI (by omega) (by decide) (by decide)]
    have k4 := dgN_le (n / 2 ^ 18 % 14)
    refine g_lSw (M := ML_undone) (pc := 423) (Y := YJ4_append_bf812) sv_L_286 rfl yn_J4_append_bf812 dL_undone_423 hb (lRm_of rfl (rm_c (by show _ ≤ 9000; omega) (Nat.le_of_ble_eq_true rfl))) (sb_num hS2.2.1 (d := n / 2 ^ 18 % 14) (by omega) (by omega)) hS2.2.1.2.1 rfl rfl (Nat.le_of_ble_eq_true rfl) (fun r V2 hQ => ?_)
    obtain ⟨rfl, hP, hO⟩ := hQ
    have hS2 := hS2.step hP hO
    refine g_callV (M := ML_undone) (pc := 426) (Y := YJ4_toString_0e30d) sv_L_295 rfl yn_J4_toString_0e30d 9 (by decide) rfl rfl dL_undone_426 (sb_str hS2.2.1 hS2.2.2.1.2 hS2.2.2.2.1.2 (by omega)) hS2.2.1.2.1 rfl rfl (lRm.g (lRm_of (k := 11) rfl (rm_c (by show _ ≤ 9000; omega) (Nat.le_of_ble_eq_true rfl))) hb.2.1 hb.2.2) (Nat.le_of_ble_eq_true rfl) (fun _ _ _ _ h => by rw [h.2.2.1]; omega) (fun v' sh' sz' V' h => ?_) (fun _ _ _ _ h => nomatch h.1)
    obtain ⟨h1, h2, h3, h4, h5⟩ := h
    cases h1
    have hA3 := hS2.str h2 h3 h4 h5
    have hS := hS.pop (hA3.sub (fun q hq => List.mem_cons_of_mem _ (List.mem_cons_of_mem _ hq)))
    exact ud_tail (u := u + 19) hl hD (by omega) (fun S2 b v q1 q2 => (kk S2 b v q1 q2).le (by omega)) hS h4 (by omega) ⟨by omega, by show cu + 2 + 2 + 2 ≤ _; omega, by show su + 20 + 20 + 64 ≤ _; omega⟩
  · refine g_ldcs 3 (by decide) rfl rfl dL_undone_396 ?_
    refine g_jump (tgt := 429) dL_undone_399 (by decide) ?_
    exact ud_tail (u := u + 4) hl hD (by omega) (fun S2 b v q1 q2 => (kk S2 b v q1 q2).le (by omega)) hS (strC (i := 3) (by decide)) (by omega) hb
end UNDN

