/-! the reference is made -/
section REF17
variable {E : gE} {M : gM} {P : gP} {sh : Sh} {sz : Nat} {V V' V1 V2 : Vl} {cu su pc : Nat} {L : List (Option Value)} {rest : List Value} {m : Nat} {f g b : Fl} {th r : Int32} {S : St}
def fm (j : Nat) : Fl := fun k => if k = 5 then -20 else if k = 6 then nI 100 else if k = 7 then nI 7 else if 8 ≤ k ∧ k < 8 + 6 * j then (if (k - 8) % 6 = 0 then 1106247680 else if (k - 8) % 6 = 4 then -1 else 0) else 0
theorem fm_succ (j : Nat) : upd (upd (fm j) (oM j 0) 1106247680) (oM j 4) (-1) = fm (j + 1) := by
  funext k
  unfold upd fm
  by_cases a : k = oM j 4
  · have a1 : ¬ k = 5 := by rw [a]; unfold oM; omega
    have a2 : ¬ k = 6 := by rw [a]; unfold oM; omega
    have a3 : ¬ k = 7 := by rw [a]; unfold oM; omega
    have a4 : 8 ≤ k ∧ k < 8 + 6 * (j + 1) := by rw [a]; unfold oM; omega
    have a5 : ¬ (k - 8) % 6 = 0 := by rw [a]; unfold oM; omega
    have a6 : (k - 8) % 6 = 4 := by rw [a]; unfold oM; omega
    rw [if_pos a, if_neg a1, if_neg a2, if_neg a3, if_pos a4, if_neg a5, if_pos a6]
  · rw [if_neg a]
    by_cases b : k = oM j 0
    · have a1 : ¬ k = 5 := by rw [b]; unfold oM; omega
      have a2 : ¬ k = 6 := by rw [b]; unfold oM; omega
      have a3 : ¬ k = 7 := by rw [b]; unfold oM; omega
      have a4 : 8 ≤ k ∧ k < 8 + 6 * (j + 1) := by rw [b]; unfold oM; omega
      have a5 : (k - 8) % 6 = 0 := by rw [b]; unfold oM; omega
      rw [if_pos b, if_neg a1, if_neg a2, if_neg a3, if_pos a4, if_pos a5]
    · rw [if_neg b]
      by_cases c : 8 ≤ k ∧ k < 8 + 6 * j
      · have a4 : 8 ≤ k ∧ k < 8 + 6 * (j + 1) := by omega
        rw [if_pos c, if_pos a4]
      · rw [if_neg c]
        by_cases d : 8 ≤ k ∧ k < 8 + 6 * (j + 1)
        · rw [if_pos d]
          have a5 : ¬ (k - 8) % 6 = 0 := by unfold oM at b; omega
          have a6 : ¬ (k - 8) % 6 = 4 := by unfold oM at a; omega
          rw [if_neg a5, if_neg a6]
        · rw [if_neg d]
theorem fm_12 : fm 12 = f0 := rfl
theorem fm_0 : upd (upd (upd (fun _ => (0 : Int32)) 5 (-20)) 6 (nI 100)) 7 (nI 7) = fm 0 := by
  funext k
  unfold upd fm
  have d : ¬ (8 ≤ k ∧ k < 8 + 6 * 0) := by omega
  rw [if_neg d]
  by_cases a : k = 7
  · rw [if_pos a, if_neg (show ¬ k = 5 by omega), if_neg (show ¬ k = 6 by omega), if_pos a]
  · rw [if_neg a, if_neg a]
    by_cases b : k = 6
    · rw [if_pos b, if_neg (show ¬ k = 5 by omega), if_pos b]
    · rw [if_neg b, if_neg b]
set_option maxRecDepth 100000 in
theorem r_init (h0 : (sh m).1 = 10) (hV : ∀ k, V m k = defaultValue (tyX7 k)) (hz : sz = m + 1) (hP : ∀ sh' V', (∀ a, a < m → sh' a = sh a ∧ V' a = V a) → (∀ a, m + 8 ≤ a → sh' a = sh a) → (∀ H tx, MS sh' V' m (f0, none, H, 0, tx, 0, -1, (nI 0, nI 0)) 0) → P (.inl none) sh' (m + 8) V') : MC E YX7_init [.ref m] sh sz V P := by
  subst hz
  refine MC.of RX7 "<init>" rfl (by decide +kernel) rfl 1 [_, none] rfl (Nat.le_of_ble_eq_true rfl) ?_
  show G E MX7_init _ _ _ _ _ _ _ _ _
  refine g_aload_n dX7_init_0 rfl ?_
  refine g_objInit ml_X7_3 obj_inst obj_code dX7_init_1 (Nat.le_of_ble_eq_true rfl) (Nat.le_of_ble_eq_true rfl) ?_
  refine g_aload_n dX7_init_4 rfl ?_
  refine g_sipush (v := nI 164) dX7_init_5 (by decide) ?_
  refine g_newa 20 (atype := .int) rfl (by decide) (by decide) arr_int 164 (by decide) (by decide) (Nat.le_of_ble_eq_true rfl) dX7_init_8 (by decide) ?_
  refine g_putF 9 rfl (by decide) inX7 tyX7 tyX7_ok nmX7 0 (by decide) fl_X7_9 rfl rfl rfl dX7_init_10 ((congrArg Prod.fst (hs_ne _ _ (by omega))).trans h0) rfl rfl ?_
  refine g_aload_n dX7_init_13 rfl ?_
  refine g_sipush (v := nI 164) dX7_init_14 (by decide) ?_
  refine g_newa 20 (atype := .int) rfl (by decide) (by decide) arr_int 164 (by decide) (by decide) (Nat.le_of_ble_eq_true rfl) dX7_init_17 (by decide) ?_
  refine g_putF 9 rfl (by decide) inX7 tyX7 tyX7_ok nmX7 1 (by decide) fl_X7_13 rfl rfl rfl dX7_init_19 ((congrArg Prod.fst ((hs_ne _ _ (by omega)).trans (hs_ne _ _ (by omega)))).trans h0) rfl rfl ?_
  refine g_aload_n dX7_init_22 rfl ?_
  refine g_sipush (v := nI 164) dX7_init_23 (by decide) ?_
  refine g_newa 20 (atype := .int) rfl (by decide) (by decide) arr_int 164 (by decide) (by decide) (Nat.le_of_ble_eq_true rfl) dX7_init_26 (by decide) ?_
  refine g_putF 9 rfl (by decide) inX7 tyX7 tyX7_ok nmX7 2 (by decide) fl_X7_16 rfl rfl rfl dX7_init_28 ((congrArg Prod.fst ((hs_ne _ _ (by omega)).trans ((hs_ne _ _ (by omega)).trans (hs_ne _ _ (by omega))))).trans h0) rfl rfl ?_
  refine g_aload_n dX7_init_31 rfl ?_
  refine g_sipush (v := nI 164) dX7_init_32 (by decide) ?_
  refine g_newa 20 (atype := .int) rfl (by decide) (by decide) arr_int 164 (by decide) (by decide) (Nat.le_of_ble_eq_true rfl) dX7_init_35 (by decide) ?_
  refine g_putF 9 rfl (by decide) inX7 tyX7 tyX7_ok nmX7 3 (by decide) fl_X7_19 rfl rfl rfl dX7_init_37 ((congrArg Prod.fst ((hs_ne _ _ (by omega)).trans ((hs_ne _ _ (by omega)).trans ((hs_ne _ _ (by omega)).trans (hs_ne _ _ (by omega)))))).trans h0) rfl rfl ?_
  refine g_aload_n dX7_init_40 rfl ?_
  refine g_sipush (v := nI 1312) dX7_init_41 (by decide) ?_
  refine g_newa 20 (atype := .int) rfl (by decide) (by decide) arr_int 1312 (by decide) (by decide) (Nat.le_of_ble_eq_true rfl) dX7_init_44 (by decide) ?_
  refine g_putF 9 rfl (by decide) inX7 tyX7 tyX7_ok nmX7 5 (by decide) fl_X7_22 rfl rfl rfl dX7_init_46 ((congrArg Prod.fst ((hs_ne _ _ (by omega)).trans ((hs_ne _ _ (by omega)).trans ((hs_ne _ _ (by omega)).trans ((hs_ne _ _ (by omega)).trans (hs_ne _ _ (by omega))))))).trans h0) rfl rfl ?_
  refine g_aload_n dX7_init_49 rfl ?_
  refine g_bipush (v := nI 60) dX7_init_50 (by decide) ?_
  refine g_newa 21 (atype := .char) rfl (by decide) (by decide) arr_char 60 (by decide) (by decide) (Nat.le_of_ble_eq_true rfl) dX7_init_52 (by decide) ?_
  refine g_putF 9 rfl (by decide) inX7 tyX7 tyX7_ok nmX7 11 (by decide) fl_X7_25 rfl rfl rfl dX7_init_54 ((congrArg Prod.fst ((hs_ne _ _ (by omega)).trans ((hs_ne _ _ (by omega)).trans ((hs_ne _ _ (by omega)).trans ((hs_ne _ _ (by omega)).trans ((hs_ne _ _ (by omega)).trans (hs_ne _ _ (by omega)))))))).trans h0) rfl rfl ?_
  refine g_aload_n dX7_init_57 rfl ?_
  refine g_iconst (v := (-1)) dX7_init_58 (by decide) ?_
  refine g_put 9 rfl (by decide) inX7 tyX7 tyX7_ok nmX7 15 (by decide) fl_X7_29 rfl dX7_init_59 ((congrArg Prod.fst ((hs_ne _ _ (by omega)).trans ((hs_ne _ _ (by omega)).trans ((hs_ne _ _ (by omega)).trans ((hs_ne _ _ (by omega)).trans ((hs_ne _ _ (by omega)).trans (hs_ne _ _ (by omega)))))))).trans h0) rfl rfl ?_
  refine g_aload_n dX7_init_62 rfl ?_
  refine g_sipush (v := nI 240) dX7_init_63 (by decide) ?_
  refine g_newa 20 (atype := .int) rfl (by decide) (by decide) arr_int 240 (by decide) (by decide) (Nat.le_of_ble_eq_true rfl) dX7_init_66 (by decide) ?_
  refine g_putF 9 rfl (by decide) inX7 tyX7 tyX7_ok nmX7 16 (by decide) fl_X7_33 rfl rfl rfl dX7_init_68 ((congrArg Prod.fst ((hs_ne _ _ (by omega)).trans ((hs_ne _ _ (by omega)).trans ((hs_ne _ _ (by omega)).trans ((hs_ne _ _ (by omega)).trans ((hs_ne _ _ (by omega)).trans ((hs_ne _ _ (by omega)).trans (hs_ne _ _ (by omega))))))))).trans h0) rfl rfl ?_
  have K : ∀ sh1 V1, (∀ a, a < m → sh1 a = sh a ∧ V1 a = V a) → (∀ a, m + 8 ≤ a → sh1 a = sh a) → (∀ H tx, MB sh1 V1 m (fun _ => 0) 0 0 (f0, none, H, 0, tx, 0, -1, (nI 0, nI 0))) → G E MX7_init P sh1 (m + 8) V1 7 2268 71 [some (.ref m), none] [] := by
    intro sh1 V1 f1 f2 hM
    have hM0 := hM (fun _ => f0) (fun _ => 0)
    have hS := hM0.1
    have hm0 := hS.1
    refine g_aload_n dX7_init_71 rfl ?_
    refine g_get 9 rfl (by decide) inX7 0 (by decide) fl_X7_9 dX7_init_72 hm0 hS.2.2.1 ?_
    refine g_iconst (v := nI 5) dX7_init_75 (by decide) ?_
    refine g_bipush (v := (-20)) dX7_init_76 (by decide) ?_
    refine g_iastore dX7_init_78 hS.2.1 (vp_in_nI (by decide) (by decide)) ?_
    rw [show (nI 5).toNatClampNeg = 5 from rfl]
    have hS2 := SA.wr (k := 5) (x := -20) hS
    have hw2 := (Mw.rf (V := V1) (m := m)).put (k := 5) (v := .int (-20))
    generalize hu V1 (m + 1) 5 (.int (-20)) = V2 at hS2 hw2 ⊢
    refine g_aload_n dX7_init_79 rfl ?_
    refine g_get 9 rfl (by decide) inX7 0 (by decide) fl_X7_9 dX7_init_80 hm0 hS2.2.2.1 ?_
    refine g_bipush (v := nI 6) dX7_init_83 (by decide) ?_
    refine g_bipush (v := nI 100) dX7_init_85 (by decide) ?_
    refine g_iastore dX7_init_87 hS2.2.1 (vp_in_nI (by decide) (by decide)) ?_
    rw [show (nI 6).toNatClampNeg = 6 from rfl]
    have hS3 := SA.wr (k := 6) (x := nI 100) hS2
    have hw3 := hw2.put (k := 6) (v := .int (nI 100))
    generalize hu V2 (m + 1) 6 (.int (nI 100)) = V3 at hS3 hw3 ⊢
    refine g_aload_n dX7_init_88 rfl ?_
    refine g_get 9 rfl (by decide) inX7 0 (by decide) fl_X7_9 dX7_init_89 hm0 hS3.2.2.1 ?_
    refine g_bipush (v := nI 7) dX7_init_92 (by decide) ?_
    refine g_bipush (v := nI 7) dX7_init_94 (by decide) ?_
    refine g_iastore dX7_init_96 hS3.2.1 (vp_in_nI (by decide) (by decide)) ?_
    rw [show (nI 7).toNatClampNeg = 7 from rfl]
    have hS4 := SA.wr (k := 7) (x := nI 7) hS3
    have hw4 := hw3.put (k := 7) (v := .int (nI 7))
    rw [fm_0] at hS4
    generalize hu V3 (m + 1) 7 (.int (nI 7)) = V4 at hS4 hw4 ⊢
    refine g_iconst (v := nI 0) dX7_init_97 (by decide) ?_
    refine g_istore_n dX7_init_98 (by decide) rfl ?_
    show G _ _ _ _ _ _ _ _ _ [_, _] _
    suffices K : ∀ (d j : Nat), j + d = 12 → ∀ V5, Mw V1 V5 m → SA sh1 V5 m (fm j) → G E MX7_init P sh1 (m + 8) V5 7 2268 99 [some (.ref m), some (.int (nI j))] [] from K 12 0 rfl V4 hw4 hS4
    intro d
    induction d with
    | zero =>
      intro j hj V5 hw hS
      have hj : j = 12 := by omega
      subst hj
      rw [fm_12] at hS
      refine g_iload_n dX7_init_99 rfl ?_
      refine g_bipush (v := nI 12) dX7_init_100 (by decide) ?_
      refine g_icmp_ge (tgt := 125) dX7_init_102 (by decide) (fun _ => ?_) (fun hq => absurd (Int32.le_refl _) hq)
      exact g_vret rfl dX7_init_125 (by decide) (hP sh1 V5 (fun a ha => ⟨(f1 a ha).1, (hw a (by omega)).trans (f1 a ha).2⟩) f2 (fun H tx => ⟨0, (hM H tx).row hw hS⟩))
    | succ d ih =>
      intro j hjd V5 hw hS
      have hj : j < 12 := by omega
      refine g_iload_n dX7_init_99 rfl ?_
      refine g_bipush (v := nI 12) dX7_init_100 (by decide) ?_
      refine g_icmp_ge (tgt := 125) dX7_init_102 (by decide) (fun hq => absurd hq (nI_ge (by omega) (by omega))) (fun _ => ?_)
      refine g_aload_n dX7_init_105 rfl ?_
      refine g_iload_n dX7_init_106 rfl ?_
      refine g_ldcf kc_X7_36 dX7_init_107 ?_
      refine g_callVv (Y := YX7_setIce) sv_X7_37 rfl yn_X7_setIce 9 (by decide) rfl rfl dX7_init_109 (k_setIce (P := pV (fun V' => V' = hu V5 (m + 1) (oM j 0) (.int (1106247680 : UInt32).toInt32)) sh1 (m + 8)) hS hj (by unfold okN; decide) ⟨rfl, rfl, rfl, rfl⟩) hm0 rfl rfl rfl (Nat.le_of_ble_eq_true rfl) ⟨rfl, rfl⟩ (fun V6 q => ?_)
      have hS6 := SA.wr (k := oM j 0) (x := (1106247680 : UInt32).toInt32) hS
      have hw6 := hw.put (k := oM j 0) (v := .int (1106247680 : UInt32).toInt32)
      rw [← q] at hS6 hw6
      clear q
      refine g_aload_n dX7_init_112 rfl ?_
      refine g_iload_n dX7_init_113 rfl ?_
      refine g_iconst (v := nI 4) dX7_init_114 (by decide) ?_
      refine g_iconst (v := (-1)) dX7_init_115 (by decide) ?_
      refine g_callVv (Y := YX7_set) sv_X7_41 rfl yn_X7_set 9 (by decide) rfl rfl dX7_init_116 (k_set (P := pV (fun V' => V' = hu V6 (m + 1) (oM j 4) (.int (-1))) sh1 (m + 8)) hS6 hj (k := 4) (by decide) ⟨rfl, rfl, rfl, rfl⟩) hm0 rfl rfl rfl (Nat.le_of_ble_eq_true rfl) ⟨rfl, rfl⟩ (fun V7 q => ?_)
      have hS7 := SA.wr (k := oM j 4) (x := -1) hS6
      have hw7 := hw6.put (k := oM j 4) (v := .int (-1))
      rw [← q] at hS7 hw7
      clear q
      rw [show (1106247680 : UInt32).toInt32 = (1106247680 : Int32) from by decide, fm_succ] at hS7
      refine g_iinc dX7_init_119 rfl (by first | exact nI_inc _ | rfl) (by decide) rfl ?_
      show G _ _ _ _ _ _ _ _ _ [_, _] _
      refine g_jump (tgt := 99) dX7_init_122 (by decide) ?_
      exact ih (j + 1) (by omega) V7 hw7 hS7
  refine K _ _ (fun a ha => ⟨?_, ?_⟩) (fun a ha => ?_) (fun H tx => ⟨⟨?_, ?_, ?_, fun k hk => ?_⟩, ⟨⟨?_, ?_, ?_, ?_, ?_, ?_⟩, ⟨?_, ?_, ?_, ?_, ?_, ?_, ?_, ?_, ?_, ?_, ?_, ?_⟩, fun g hg => (nomatch hg), fun i hi => absurd hi (Nat.not_lt_zero i), fun i hi => absurd hi (Nat.not_lt_zero i), Nat.zero_le _, Nat.zero_le _⟩, ?_, ?_⟩)
  · simp [hs, Nat.add_assoc, Nat.ne_of_lt ha, show a ≠ m + 1 by omega, show a ≠ m + 2 by omega, show a ≠ m + 3 by omega, show a ≠ m + 4 by omega, show a ≠ m + 5 by omega, show a ≠ m + 6 by omega, show a ≠ m + 7 by omega]
  · simp [hu, hn, Nat.add_assoc, Nat.ne_of_lt ha, show a ≠ m + 1 by omega, show a ≠ m + 2 by omega, show a ≠ m + 3 by omega, show a ≠ m + 4 by omega, show a ≠ m + 5 by omega, show a ≠ m + 6 by omega, show a ≠ m + 7 by omega]
  · simp [hs, Nat.add_assoc, show a ≠ m + 1 by omega, show a ≠ m + 2 by omega, show a ≠ m + 3 by omega, show a ≠ m + 4 by omega, show a ≠ m + 5 by omega, show a ≠ m + 6 by omega, show a ≠ m + 7 by omega]
  all_goals simp [hs, hu, hn, updV, Nat.add_assoc, hV, tyX7, h0, gty, defaultValue, nI_0, bi]
end REF17

