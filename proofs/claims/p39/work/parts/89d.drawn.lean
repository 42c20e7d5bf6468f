/-! what the law draws, from nothing -/
section DRAWN3
variable {E : gE} {x : Nat} {V : Vl}
/-- behind the class' constructor -/
def PX6 (x : Nat) : gP := fun o sh' sz' V' => sz' = x + 284 ∧ (∀ H tx, CAt sh' V' x f0 none H 0 tx 0 (-1) (nI 0, nI 0)) ∧ (∀ a, x + 284 ≤ a → (sh' a).1 = 0) ∧ o = .inl none
theorem dr_sv : (∀ q, q < 41 → isSV (nI 0) (-nI q)) ∧ (∀ q, q < 41 → isSV (nI 1) (nI (60 + q))) ∧ ∀ q, q < 14 → isSV (nI 2) (nI (1 + q)) := by decide +kernel
set_option maxRecDepth 100000 in
theorem l_drawn (hlen : E.2.2.2.2.2.2.1 ≤ 260) : MC E YL_drawn [.ref E.2.2.2.2.2.1] (fun _ => (0, 0)) x V (Pdr x x) := by
  obtain ⟨n0, hn0, en0⟩ := ushr_n (clV E 0) (k := 1) (by decide) (by decide)
  obtain ⟨sv0, sv1, sv2⟩ := dr_sv
  have K329 : ∀ nc, 1 ≤ nc → nc ≤ 3 → ∀ S, cnt S.1 = nc → DI 30 S → ∀ a2 (i4 : Int32) a5 a6 a7 a8 a9, GL E ML_drawn (Pdr x x) x S [] x 400 310 [some (.ref E.2.2.2.2.2.1), some (.ref x), a2, some (.int (nI nc)), some (.int i4), a5, a6, a7, a8, a9] [] := by
    intro nc h1 h3 S hc hD a2 i4 a5 a6 a7 a8 a9 sh sz V cu su hA hb
    obtain ⟨n, hn, en⟩ := ushr_n (clV E 14) (k := 1) (by decide) (by decide)
    refine g_bipush (v := nI 6) dL_drawn_310 (by decide) ?_
    refine g_aload_n dL_drawn_312 rfl ?_
    refine g_bipush (v := nI 14) dL_drawn_313 (by decide) ?_
    refine g_lcP (M := ML_drawn) (pc := 315) (Y := YL_cell) ss_L_125 yn_L_cell dL_drawn_315 hb (lRm_of rfl (rm_c (by show _ ≤ 700; omega) (Nat.le_of_ble_eq_true rfl))) (c_cell (k := 14) (by omega) hlen) rfl rfl (Nat.le_of_ble_eq_true rfl) ?_
    refine g_iconst (v := nI 1) dL_drawn_318 (by decide) ?_
    refine g_iushr dL_drawn_319 rfl ?_
    rw [en]
    refine g_bipush (v := nI 28) dL_drawn_320 (by decide) ?_
    refine g_irem dL_drawn_322 (by decide) ?_
    refine g_iadd dL_drawn_323 ?_
    rw [rem_nI hn (by decide) (by decide), nI_add]
    refine g_istore dL_drawn_324 (by decide) rfl ?_
    show G _ _ _ _ _ _ _ _ _ [_, _, _, _, _, _, _, _, _, _] _
    refine g_iconst (v := nI 0) dL_drawn_326 (by decide) ?_
    refine g_istore dL_drawn_327 (by decide) rfl ?_
    show G _ _ _ _ _ _ _ _ _ [_, _, _, _, _, _, _, _, _, _] _
    exact (dr_steps h1 h3 (m := 6 + n % 28) (by omega) hlen (6 + n % 28) 0 (Nat.zero_add _) S hc hD _ _ _ _ _).go hA hb (by omega)
  have K258 : ∀ nc, 1 ≤ nc → nc ≤ 3 → ∀ S, CV nc S → ∀ a2 (i4 : Int32) a5 a6 a7 a8 a9, GL E ML_drawn (Pdr x x) x S [] x 345 258 [some (.ref E.2.2.2.2.2.1), some (.ref x), a2, some (.int (nI nc)), some (.int i4), a5, a6, a7, a8, a9] [] := by
    intro nc h1 h3 S hS a2 i4 a5 a6 a7 a8 a9 sh sz V cu su hA hb
    refine g_iconst (v := nI 0) dL_drawn_258 (by decide) ?_
    refine g_istore dL_drawn_259 (by decide) rfl ?_
    show G _ _ _ _ _ _ _ _ _ [_, _, _, _, _, _, _, _, _, _] _
    exact (dr_drill (nc := nc) hlen (fun S hc hD i4 a5 a6 a7 a8 a9 => K329 nc h1 h3 S hc hD _ i4 a5 a6 a7 a8 a9) 12 0 rfl S hS.2.1 hS.1 _ _ _ _ _).go hA hb (by omega)
  have K8 : ∀ S, S.1 = f0 → S.2.2.2.2.2.1 = 0 → GL E ML_drawn (Pdr x x) x S [] x 290 8 [some (.ref E.2.2.2.2.2.1), some (.ref x), none, none, none, none, none, none, none, none] [] := by
    intro S hf hl sh sz V cu su hA hb
    have e5 : S.1 (5 + 0) = -20 := by rw [hf]; decide +kernel
    refine g_aload_n dL_drawn_8 rfl ?_
    refine g_iconst (v := nI 0) dL_drawn_9 (by decide) ?_
    refine g_lcP (M := ML_drawn) (pc := 10) (Y := YL_cell) ss_L_125 yn_L_cell dL_drawn_10 hb (lRm_of rfl (rm_c (by show _ ≤ 700; omega) (Nat.le_of_ble_eq_true rfl))) (c_cell (k := 0) (by decide) hlen) rfl rfl (Nat.le_of_ble_eq_true rfl) ?_
    refine g_iconst (v := nI 1) dL_drawn_13 (by decide) ?_
    refine g_iushr dL_drawn_14 rfl ?_
    rw [en0]
    refine g_istore_n dL_drawn_15 (by decide) rfl ?_
    show G _ _ _ _ _ _ _ _ _ [_, _, _, _, _, _, _, _, _, _] _
    refine g_aload_n dL_drawn_16 rfl ?_
    refine g_iconst (v := nI 0) dL_drawn_17 (by decide) ?_
    refine g_iload_n dL_drawn_18 rfl ?_
    refine g_bipush (v := nI 41) dL_drawn_19 (by decide) ?_
    refine g_irem dL_drawn_21 (by decide) ?_
    rw [rem_nI hn0 (by decide) (by decide)]
    refine g_ineg dL_drawn_22 ?_
    refine g_lcH 1 (M := ML_drawn) (pc := 23) (Y := YL_set) (gIn_SH ml_L_129 wt_L_set ini_L wc_L_set) yn_L_set dL_drawn_23 hb (lRm_of rfl (rm_c (by show _ ≤ 700; omega) (Nat.le_of_ble_eq_true rfl))) (l_set (w := 0) hA (by decide) (sv0 (n0 % 41) (by omega))) rfl rfl (Nat.le_of_ble_eq_true rfl) ?_
    intro sh sz V cu su hA hb
    rw [e5]
    refine g_bipush (v := (-20)) dL_drawn_26 (by decide) ?_
    refine g_icmp_ne (tgt := 86) dL_drawn_28 (by decide) (fun hq => absurd hq (fun q => q rfl)) (fun _ => ?_)
    have hS1 : ∃ S1, S1 = push S (upd S.1 (5 + 0) (-nI (n0 % 41))) := ⟨_, rfl⟩
    obtain ⟨S1, hS1⟩ := hS1
    rw [← hS1] at hA
    have d1 : S1.1 = upd f0 5 (-nI (n0 % 41)) := by rw [hS1, hf]; rfl
    have e6 : S1.1 (5 + 1) = nI 100 := by rw [d1, pk_un (by decide)]; decide +kernel
    refine g_aload_n dL_drawn_31 rfl ?_
    refine g_iconst (v := nI 1) dL_drawn_32 (by decide) ?_
    refine g_bipush (v := nI 60) dL_drawn_33 (by decide) ?_
    refine g_iload_n dL_drawn_35 rfl ?_
    refine g_bipush (v := nI 6) dL_drawn_36 (by decide) ?_
    refine g_iushr dL_drawn_38 rfl ?_
    refine g_bipush (v := nI 41) dL_drawn_39 (by decide) ?_
    refine g_irem dL_drawn_41 (by decide) ?_
    rw [ushr_nI hn0 (by decide), rem_nI (by omega) (by decide) (by decide)]
    refine g_iadd dL_drawn_42 ?_
    rw [nI_add]
    refine g_lcH 1 (M := ML_drawn) (pc := 43) (Y := YL_set) (gIn_SH ml_L_129 wt_L_set ini_L wc_L_set) yn_L_set dL_drawn_43 hb (lRm_of rfl (rm_c (by show _ ≤ 700; omega) (Nat.le_of_ble_eq_true rfl))) (l_set (w := 1) hA (by decide) (sv1 (n0 / 2 ^ 6 % 41) (by omega))) rfl rfl (Nat.le_of_ble_eq_true rfl) ?_
    intro sh sz V cu su hA hb
    rw [e6]
    refine g_bipush (v := nI 100) dL_drawn_46 (by decide) ?_
    refine g_icmp_ne (tgt := 86) dL_drawn_48 (by decide) (fun hq => absurd hq (fun q => q rfl)) (fun _ => ?_)
    have hS2 : ∃ S2, S2 = push S1 (upd S1.1 (5 + 1) (nI (60 + n0 / 2 ^ 6 % 41))) := ⟨_, rfl⟩
    obtain ⟨S2, hS2⟩ := hS2
    rw [← hS2] at hA
    have d2 : S2.1 = upd (upd f0 5 (-nI (n0 % 41))) 6 (nI (60 + n0 / 2 ^ 6 % 41)) := by rw [hS2, d1]; rfl
    have e7 : S2.1 (5 + 2) = nI 7 := by rw [d2, pk_un (by decide), pk_un (by decide)]; decide +kernel
    refine g_aload_n dL_drawn_51 rfl ?_
    refine g_iconst (v := nI 2) dL_drawn_52 (by decide) ?_
    refine g_iconst (v := nI 1) dL_drawn_53 (by decide) ?_
    refine g_iload_n dL_drawn_54 rfl ?_
    refine g_bipush (v := nI 12) dL_drawn_55 (by decide) ?_
    refine g_iushr dL_drawn_57 rfl ?_
    refine g_bipush (v := nI 14) dL_drawn_58 (by decide) ?_
    refine g_irem dL_drawn_60 (by decide) ?_
    rw [ushr_nI hn0 (by decide), rem_nI (by omega) (by decide) (by decide)]
    refine g_iadd dL_drawn_61 ?_
    rw [nI_add]
    refine g_lcH 1 (M := ML_drawn) (pc := 62) (Y := YL_set) (gIn_SH ml_L_129 wt_L_set ini_L wc_L_set) yn_L_set dL_drawn_62 hb (lRm_of rfl (rm_c (by show _ ≤ 700; omega) (Nat.le_of_ble_eq_true rfl))) (l_set (w := 2) hA (by decide) (sv2 (n0 / 2 ^ 12 % 14) (by omega))) rfl rfl (Nat.le_of_ble_eq_true rfl) ?_
    intro sh sz V cu su hA hb
    rw [e7]
    refine g_bipush (v := nI 7) dL_drawn_65 (by decide) ?_
    refine g_icmp_ne (tgt := 86) dL_drawn_67 (by decide) (fun hq => absurd hq (fun q => q rfl)) (fun _ => ?_)
    have hS3 : ∃ S3, S3 = push S2 (upd S2.1 (5 + 2) (nI (1 + n0 / 2 ^ 12 % 14))) := ⟨_, rfl⟩
    obtain ⟨S3, hS3⟩ := hS3
    rw [← hS3] at hA
    have d3 : S3.1 = upd (upd (upd f0 5 (-nI (n0 % 41))) 6 (nI (60 + n0 / 2 ^ 6 % 41))) 7 (nI (1 + n0 / 2 ^ 12 % 14)) := by rw [hS3, d2]; rfl
    have lo : ∀ i, i ≠ 5 → i ≠ 6 → i ≠ 7 → S3.1 i = f0 i := fun i a b c => by rw [d3, pk_un c, pk_un b, pk_un a]
    have l3 : S3.2.2.2.2.2.1 = 0 := by rw [hS3, hS2, hS1]; exact hl
    have hD3 : InvD 0 S3.1 := ⟨⟨0, Nat.le_refl _, (lo 0 (by decide) (by decide) (by decide)).trans (by decide +kernel), fun j hj => Or.inl ((lo _ (by unfold oM; omega) (by unfold oM; omega) (by unfold oM; omega)).trans (f0_M hj).2.2.2.2.1)⟩, 1 + n0 / 2 ^ 12 % 14, by omega, by rw [d3]; exact pk_us⟩
    have hW3 : InvW S3.1 := f0_W.out (fun i hi => lo i (by omega) (by omega) (by omega))
    refine g_aload_n dL_drawn_70 rfl ?_
    refine g_iconst (v := nI 1) dL_drawn_71 (by decide) ?_
    refine g_iload_n dL_drawn_72 rfl ?_
    refine g_bipush (v := nI 16) dL_drawn_73 (by decide) ?_
    refine g_iushr dL_drawn_75 rfl ?_
    refine g_bipush (v := nI 25) dL_drawn_76 (by decide) ?_
    refine g_irem dL_drawn_78 (by decide) ?_
    rw [ushr_nI hn0 (by decide), rem_nI (by omega) (by decide) (by decide)]
    refine g_iadd dL_drawn_79 ?_
    rw [nI_add]
    have g0 : ∀ n, goodN (passF S3.1 n) = nI 0 := fun n => goodN_0 (fun j hj => by rw [passF_4, lo _ (by unfold oM; omega) (by unfold oM; omega) (by unfold oM; omega)]; exact (f0_M hj).2.2.2.2.1)
    have hp := l_pass (E := E) (d := 1 + n0 / 2 ^ 16 % 25) hA (by omega) (by omega)
    rw [g0, show goodN S3.1 = nI 0 from g0 0, show (nI 0 - nI 0 : Int32) = nI 0 by decide] at hp
    refine g_lcH 1 (M := ML_drawn) (pc := 80) (Y := YL_pass) (gIn_SH ml_L_132 wt_L_pass ini_L wc_L_pass) yn_L_pass dL_drawn_80 hb (lRm_of rfl (rm_c (by show _ ≤ 700; omega) (Nat.le_of_ble_eq_true rfl))) hp rfl rfl (Nat.le_of_ble_eq_true rfl) ?_
    intro sh sz V cu su hA hb
    refine g_if_eq (tgt := 88) dL_drawn_83 (by decide) (fun _ => ?_) (fun hq => absurd (rfl) hq)
    have hS4 : ∃ S4, S4 = push S3 (passF S3.1 (1 + n0 / 2 ^ 16 % 25)) := ⟨_, rfl⟩
    obtain ⟨S4, hS4⟩ := hS4
    rw [← hS4] at hA
    have p4 : ∀ i, i ≠ 0 → ¬ (8 ≤ i ∧ i < 80) → i ≠ 5 → i ≠ 6 → i ≠ 7 → S4.1 i = f0 i := fun i a b c d e => by
      rw [hS4]
      show passF S3.1 _ i = _
      rw [passF_out a b]
      exact lo i c d e
    have hCV : CV 0 S4 := by
      refine ⟨⟨by rw [hS4]; exact l3, by rw [hS4]; exact (passF_D hD3).le (by omega), by rw [hS4]; exact W_pass hW3⟩, ?_, fun k hk => ?_, fun d hd => absurd hd (Nat.not_lt_zero d)⟩
      · unfold cnt
        rw [p4 1 (by decide) (by decide) (by decide) (by decide) (by decide)]
        decide +kernel
      · rw [p4 _ (by unfold oR; omega) (by unfold oR; omega) (by unfold oR; omega) (by unfold oR; omega) (by unfold oR; omega)]
        exact f0_hi (by unfold oR; omega)
    refine g_iconst (v := nI 1) dL_drawn_88 (by decide) ?_
    refine g_iload_n dL_drawn_89 rfl ?_
    refine g_bipush (v := nI 21) dL_drawn_90 (by decide) ?_
    refine g_iushr dL_drawn_92 rfl ?_
    refine g_iconst (v := nI 3) dL_drawn_93 (by decide) ?_
    refine g_irem dL_drawn_94 (by decide) ?_
    rw [ushr_nI hn0 (by decide), rem_nI (by omega) (by decide) (by decide)]
    refine g_iadd dL_drawn_95 ?_
    rw [nI_add]
    refine g_istore_n dL_drawn_96 (by decide) rfl ?_
    show G _ _ _ _ _ _ _ _ _ [_, _, _, _, _, _, _, _, _, _] _
    refine g_iconst (v := nI 0) dL_drawn_97 (by decide) ?_
    refine g_istore dL_drawn_98 (by decide) rfl ?_
    show G _ _ _ _ _ _ _ _ _ [_, _, _, _, _, _, _, _, _, _] _
    exact (dr_conv (nc := 1 + n0 / 2 ^ 21 % 3) hlen (by omega) (by omega) (fun S hS i4 a5 a6 a7 a8 a9 => K258 _ (by omega) (by omega) S hS _ i4 a5 a6 a7 a8 a9) (1 + n0 / 2 ^ 21 % 3) 0 (by omega) S4 hCV _ _ _ _ _).go hA hb (by omega)
  refine MC.of RL "drawn" rfl (by decide +kernel) rfl 9 [_, none, none, none, none, none, none, none, none, none] rfl (Nat.le_of_ble_eq_true rfl) ?_
  show G E ML_drawn _ _ _ _ _ _ _ _ _
  refine g_new 8 rfl (by decide) inX6 tyX6 tyX6_ok cl_L_9 new_X6 ini_X6 dL_drawn_0 (by decide) ?_
  refine g_dup dL_drawn_3 rfl ?_
  refine g_callI (M := ML_drawn) (pc := 4) (Y := YX6_init) rfl wc_X6_init ml_L_124 wi_X6_init ini_X6 rfl yn_X6_init dL_drawn_4 (c_IceConvoys_init (P := PX6 x) ((congrArg Prod.fst (hs_at _ _ _))) rfl (fun a ha => congrArg Prod.fst (hs_ne _ _ (by omega))) (fun sh' V' h1 h2 h3 => ⟨rfl, h3, fun a ha => by rw [h2 a ha, hs_ne _ _ (by omega)], rfl⟩)) rfl rfl (gRoom_of rfl) (Nat.le_of_ble_eq_true rfl) (fun _ _ _ _ h => by rw [h.1]; omega) (fun _ _ _ _ h => nomatch h.2.2.2) ?_
  rintro v sh1 sz1 V1 ⟨rfl, hC1, hW1, hv⟩
  cases hv
  refine g_astore_n dL_drawn_7 (by decide) rfl ?_
  show G _ _ _ _ _ _ _ _ _ [_, _, _, _, _, _, _, _, _, _] _
  exact (K8 (f0, none, fun _ => f0, 0, fun _ => 0, 0, -1, (nI 0, nI 0)) rfl rfl).go (u := 290) ⟨hC1 _ _, S0_S, hW1, Nat.le_refl _, fun q hq => (nomatch hq)⟩ ⟨by omega, Nat.le_of_ble_eq_true rfl, Nat.le_of_ble_eq_true rfl⟩ (Nat.le_refl _)
end DRAWN3

