/-! what the law expects to bar a convoy -/
section LEXP
variable {E : gE} {sh : Sh} {sz : Nat} {V : Vl} {x : Nat} {S : St} {A : La}
def e100 (z : Int32 × Int32) : Int32 := z.1 * nI 100 + z.2
/-- too weak a mile so far -/
def hvI (f : Fl) (c : Nat) (ld h : Int32) (k : Nat) : Prop := (h = nI 0 ∧ ∀ i, i < k → ¬ wk f c ld i) ∨ ∃ i, i < k ∧ wk f c ld i ∧ (∀ j, j < i → ¬ wk f c ld j) ∧ h = nI 800 + mw ld (f (oC c 0)) i
theorem hvI_ne {f : Fl} {c k : Nat} {ld h : Int32} (H : hvI f c ld h k) (h0 : ¬ h = 0) : ∃ i, i < k ∧ wk f c ld i ∧ (∀ j, j < i → ¬ wk f c ld j) ∧ h = nI 800 + mw ld (f (oC c 0)) i := by
  rcases H with ⟨e, -⟩ | H
  · exact absurd (e.trans nI_0) h0
  · exact H
theorem hvI_0 {f : Fl} {c k : Nat} {ld h : Int32} (H : hvI f c ld h k) (h0 : h = 0) : h = nI 0 ∧ ∀ i, i < k → ¬ wk f c ld i := by
  rcases H with H | ⟨i, -, q, -, e⟩
  · exact H
  · obtain ⟨m, hm, em⟩ := isM_nI q.1
    rw [em, nI_add] at e
    rw [e] at h0
    exact absurd h0 (nI_ne0 (by omega) (by omega))
theorem hvI_up {f : Fl} {c k : Nat} {ld h : Int32} (H : hvI f c ld h k) (hn : ¬ wk f c ld k ∨ ¬ h = 0) : hvI f c ld h (k + 1) := by
  by_cases h0 : h = 0
  · obtain ⟨a, b⟩ := hvI_0 H h0
    have hn := hn.resolve_right (fun q => q h0)
    refine Or.inl ⟨a, fun i hi => ?_⟩
    rcases Nat.lt_or_ge i k with q | q
    · exact b i q
    · rw [show i = k by omega]; exact hn
  · obtain ⟨i, a, b⟩ := hvI_ne H h0
    exact Or.inr ⟨i, by omega, b⟩
theorem l_expected {c l : Nat} (hA : LW x S A sh sz V) (hc : c < cnt S.1) (hl : l ≤ 25) : MC E YL_expected [.ref x, .int (nI c), .int (nI l)] sh sz V (PLs x A sz S (.int (e100 (way S.1 c (nI l))))) := by
  have hI := hA.sB
  have hO := hA.2.1.1.2.1
  have h44 := hI.1.2
  obtain ⟨⟨g, g1, g2, eg⟩, en, hn4, -, -⟩ := hI.cv hc
  have K5 : ∀ (d k : Nat), k + d = ncv S.1 c → ∀ h, hvI S.1 c (nI l) h k → (∀ i, i < k → ¬ bk S.1 c (nI l) i) → ∀ a5 a6, GL E ML_expected (PLs x A sz S (.int (e100 (way S.1 c (nI l))))) x S A sz (6 * k) 5 [some (.ref x), some (.int (nI c)), some (.int (nI l)), some (.int h), some (.int (nI k)), a5, a6] [] := by
    intro d
    induction d with
    | zero =>
      intro k hk h hH hB a5 a6 sh sz V cu su hA hb
      obtain rfl : k = ncv S.1 c := by omega
      refine g_iload dL_expected_5 rfl ?_
      refine g_aload_n dL_expected_7 rfl ?_
      refine g_iload_n dL_expected_8 rfl ?_
      refine g_iconst (v := nI 1) dL_expected_9 (by decide) ?_
      refine g_lcH 1 (M := ML_expected) (pc := 10) (Y := YL_convoyOf) (gIn_SH ml_L_224 wt_L_convoyOf ini_L wc_L_convoyOf) yn_L_convoyOf dL_expected_10 hb (lRm_of rfl (rm_c (by show _ ≤ 40; omega) (Nat.le_of_ble_eq_true rfl))) (l_convoyOf (w := 1) hA hc (by decide) (cvV1 hI hc)) rfl rfl (Nat.le_of_ble_eq_true rfl) ?_
      intro sh sz V cu su hA hb
      refine g_icmp_ge (tgt := 127) dL_expected_13 (by decide) (fun _ => ?_) (fun hq => absurd (Int32.le_refl _) hq)
      refine g_iload_n dL_expected_127 rfl ?_
      have e : h = e100 (way S.1 c (nI l)) := by
        by_cases h0 : h = 0
        · obtain ⟨a, b⟩ := hvI_0 hH h0
          rw [way_0 hB b, a]
          decide
        · obtain ⟨i, a, b, b2, b3⟩ := hvI_ne hH h0
          rw [way_8 hB a b b2, b3]
          unfold e100
          rw [show nI 8 * nI 100 = nI 800 by decide]
      rw [e]
      exact g_iret rfl (nr_int _) dL_expected_128 ⟨by show cu ≤ 40; omega, by show su ≤ 240; omega⟩ ⟨hb.1, hA, rfl⟩
    | succ d ih =>
      intro k hk h hH hB
      have hk4 : k < ncv S.1 c := by omega
      have J120 : ∀ v, hvI S.1 c (nI l) v (k + 1) → ¬ bk S.1 c (nI l) k → ∀ a5 a6, GL E ML_expected (PLs x A sz S (.int (e100 (way S.1 c (nI l))))) x S A sz (6 * k + 6) 120 [some (.ref x), some (.int (nI c)), some (.int (nI l)), some (.int h), some (.int (nI k)), a5, a6] [.int v] := by
        intro v hv hnb a5 a6 sh sz V cu su hA hb
        refine g_istore_n dL_expected_120 (by decide) rfl ?_
        show G _ _ _ _ _ _ _ _ _ [_, _, _, _, _, _, _] _
        refine g_iinc dL_expected_121 rfl (by first | exact nI_inc _ | rfl) (by decide) rfl ?_
        show G _ _ _ _ _ _ _ _ _ [_, _, _, _, _, _, _] _
        refine g_jump (tgt := 5) dL_expected_124 (by decide) ?_
        exact (ih (k + 1) (by omega) v hv (fun i hi => by
          rcases Nat.lt_or_ge i k with q | q
          · exact hB i q
          · rw [show i = k by omega]; exact hnb) _ _).go hA hb (by omega)
      have J84 : ¬ bk S.1 c (nI l) k → GL E ML_expected (PLs x A sz S (.int (e100 (way S.1 c (nI l))))) x S A sz (6 * k + 4) 84 [some (.ref x), some (.int (nI c)), some (.int (nI l)), some (.int h), some (.int (nI k)), some (.int (mw (nI l) (S.1 (oC c 0)) k)), some (.int (bi (isM (mw (nI l) (S.1 (oC c 0)) k))))] [] := by
        intro hnb sh sz V cu su hA hb
        refine g_iload dL_expected_84 rfl ?_
        refine g_if_eq (tgt := 119) dL_expected_86 (by decide) (fun b1 => ?_) (fun b1 => ?_)
        · refine g_iload_n dL_expected_119 rfl ?_
          exact (J120 h (hvI_up hH (Or.inl (fun q => bi_eq b1 q.1))) hnb _ _).go hA hb (by omega)
        · refine g_iload_n dL_expected_89 rfl ?_
          refine g_if_ne (tgt := 119) dL_expected_90 (by decide) (fun b2 => ?_) (fun b2 => ?_)
          · refine g_iload_n dL_expected_119 rfl ?_
            exact (J120 h (hvI_up hH (Or.inr b2)) hnb _ _).go hA hb (by omega)
          · have b2 := b2
            obtain ⟨m, hm, em⟩ := isM_nI (bi_ne b1)
            rw [em]
            refine g_aload_n dL_expected_93 rfl ?_
            refine g_iload dL_expected_94 rfl ?_
            refine g_lcS 1 (M := ML_expected) (pc := 96) (Y := YL_bears) ss_L_195 yn_L_bears dL_expected_96 hb (lRm_of rfl (rm_c (by show _ ≤ 40; omega) (Nat.le_of_ble_eq_true rfl))) (l_bears (j := m) hA hm) rfl rfl (Nat.le_of_ble_eq_true rfl) ?_
            intro sh sz V cu su hA hb
            refine g_aload_n dL_expected_99 rfl ?_
            refine g_iload_n dL_expected_100 rfl ?_
            refine g_iload dL_expected_101 rfl ?_
            refine g_lcV 1 (M := ML_expected) (pc := 103) (Y := YX6_load) sv_L_229 rfl yn_X6_load 8 (by decide) rfl rfl dL_expected_103 hb (lRm_of rfl (rm_c (by show _ ≤ 40; omega) (Nat.le_of_ble_eq_true rfl))) (k_load hA hc hk4) hA.s9 rfl rfl (Nat.le_of_ble_eq_true rfl) ?_
            intro sh sz V cu su hA hb
            obtain ⟨e0, hno⟩ := hvI_0 hH b2
            refine g_fcmp dL_expected_106 ?_
            refine g_if_ge (tgt := 119) dL_expected_107 (by decide) (fun b3 => ?_) (fun b3 => ?_)
            · refine g_iload_n dL_expected_119 rfl ?_
              exact (J120 h (hvI_up hH (Or.inl (fun q => by
                have q := q.2
                rw [em, nI_clamp (by omega)] at q
                exact absurd q (Int32.not_lt.mpr b3)))) hnb _ _).go hA hb (by omega)
            · refine g_sipush (v := nI 800) dL_expected_110 (by decide) ?_
              refine g_iload dL_expected_113 rfl ?_
              refine g_iadd dL_expected_115 ?_
              refine g_jump (tgt := 120) dL_expected_116 (by decide) ?_
              refine (J120 (nI 800 + nI m) (Or.inr ⟨k, Nat.lt_succ_self k, ⟨by rw [em]; exact isM_n hm, by rw [em, nI_clamp (by omega)]; exact Int32.not_le.mp b3⟩, hno, by rw [em]⟩) hnb _ _).go hA hb (by omega)
      have J48 : ∀ v, v = bi (isM (mw (nI l) (S.1 (oC c 0)) k)) → ∀ a6, GL E ML_expected (PLs x A sz S (.int (e100 (way S.1 c (nI l))))) x S A sz (6 * k + 2) 48 [some (.ref x), some (.int (nI c)), some (.int (nI l)), some (.int h), some (.int (nI k)), some (.int (mw (nI l) (S.1 (oC c 0)) k)), a6] [.int v] := by
        intro v hv a6 sh sz V cu su hA hb
        subst hv
        refine g_istore dL_expected_48 (by decide) rfl ?_
        show G _ _ _ _ _ _ _ _ _ [_, _, _, _, _, _, _] _
        refine g_iload dL_expected_50 rfl ?_
        refine g_if_eq (tgt := 84) dL_expected_52 (by decide) (fun b1 => ?_) (fun b1 => ?_)
        · exact (J84 (fun q => bi_eq b1 q.1)).go hA hb (by omega)
        · obtain ⟨m, hm, em⟩ := isM_nI (bi_ne b1)
          have hbk := bk_iff hI hO hc hm em
          refine g_aload_n dL_expected_55 rfl ?_
          refine g_iload dL_expected_56 rfl ?_
          rw [em]
          rw [em] at J84
          refine g_lcH 1 (M := ML_expected) (pc := 58) (Y := YL_at) (gIn_SH ml_L_193 wt_L_at ini_L wc_L_at) yn_L_at dL_expected_58 hb (lRm_of rfl (rm_c (by show _ ≤ 40; omega) (Nat.le_of_ble_eq_true rfl))) (l_at (j := m) hA hm rfl) rfl rfl (Nat.le_of_ble_eq_true rfl) ?_
          intro sh sz V cu su hA hb
          refine g_if_lt (tgt := 84) dL_expected_61 (by decide) (fun b2 => ?_) (fun b2 => ?_)
          · exact (J84 (fun q => absurd (hbk.mp q).1 (Int32.not_le.mpr b2))).go hA hb (by omega)
          · refine g_aload_n dL_expected_64 rfl ?_
            refine g_iload dL_expected_65 rfl ?_
            refine g_lcH 1 (M := ML_expected) (pc := 67) (Y := YL_at) (gIn_SH ml_L_193 wt_L_at ini_L wc_L_at) yn_L_at dL_expected_67 hb (lRm_of rfl (rm_c (by show _ ≤ 40; omega) (Nat.le_of_ble_eq_true rfl))) (l_at (j := m) hA hm rfl) rfl rfl (Nat.le_of_ble_eq_true rfl) ?_
            intro sh sz V cu su hA hb
            refine g_bipush (v := nI 10) dL_expected_70 (by decide) ?_
            refine g_idiv dL_expected_72 (by decide) ?_
            refine g_iload_n dL_expected_73 rfl ?_
            refine g_icmp_eq (tgt := 84) dL_expected_74 (by decide) (fun b3 => ?_) (fun b3 => ?_)
            · exact (J84 (fun q => (hbk.mp q).2 b3)).go hA hb (by omega)
            · refine g_sipush (v := nI 700) dL_expected_77 (by decide) ?_
              refine g_iload dL_expected_80 rfl ?_
              refine g_iadd dL_expected_82 ?_
              have e : nI 700 + nI m = e100 (way S.1 c (nI l)) := by
                rw [way_7 hk4 (hbk.mpr ⟨Int32.not_lt.mp b2, b3⟩) hB, em]
                unfold e100
                rw [show nI 7 * nI 100 = nI 700 by decide]
              rw [e]
              exact g_iret rfl (nr_int _) dL_expected_83 ⟨by show cu ≤ 40; omega, by show su ≤ 240; omega⟩ ⟨hb.1, hA, rfl⟩
      intro a5 a6 sh sz V cu su hA hb
      refine g_iload dL_expected_5 rfl ?_
      refine g_aload_n dL_expected_7 rfl ?_
      refine g_iload_n dL_expected_8 rfl ?_
      refine g_iconst (v := nI 1) dL_expected_9 (by decide) ?_
      refine g_lcH 1 (M := ML_expected) (pc := 10) (Y := YL_convoyOf) (gIn_SH ml_L_224 wt_L_convoyOf ini_L wc_L_convoyOf) yn_L_convoyOf dL_expected_10 hb (lRm_of rfl (rm_c (by show _ ≤ 40; omega) (Nat.le_of_ble_eq_true rfl))) (l_convoyOf (w := 1) hA hc (by decide) (cvV1 hI hc)) rfl rfl (Nat.le_of_ble_eq_true rfl) ?_
      intro sh sz V cu su hA hb
      refine g_icmp_ge (tgt := 127) dL_expected_13 (by decide) (fun hq => absurd hq (nI_ge (by omega) (by omega))) (fun _ => ?_)
      refine g_iload_n dL_expected_16 rfl ?_
      refine g_iload dL_expected_17 rfl ?_
      refine g_iconst (v := nI 1) dL_expected_19 (by decide) ?_
      refine g_aload_n dL_expected_20 rfl ?_
      refine g_iload_n dL_expected_21 rfl ?_
      refine g_iconst (v := nI 0) dL_expected_22 (by decide) ?_
      refine g_lcH 1 (M := ML_expected) (pc := 23) (Y := YL_convoyOf) (gIn_SH ml_L_224 wt_L_convoyOf ini_L wc_L_convoyOf) yn_L_convoyOf dL_expected_23 hb (lRm_of rfl (rm_c (by show _ ≤ 40; omega) (Nat.le_of_ble_eq_true rfl))) (l_convoyOf (w := 0) hA hc (by decide) (v := S.1 (oC c 0)) rfl) rfl rfl (Nat.le_of_ble_eq_true rfl) ?_
      intro sh sz V cu su hA hb
      refine g_iadd dL_expected_26 ?_
      refine g_imul dL_expected_27 ?_
      refine g_isub dL_expected_28 ?_
      rw [show nI l - nI k * (nI 1 + S.1 (oC c 0)) = mw (nI l) (S.1 (oC c 0)) k by unfold mw; rw [Int32.add_comm]]
      refine g_istore dL_expected_29 (by decide) rfl ?_
      show G _ _ _ _ _ _ _ _ _ [_, _, _, _, _, _, _] _
      refine g_iload dL_expected_31 rfl ?_
      refine g_if_lt (tgt := 47) dL_expected_33 (by decide) (fun b1 => ?_) (fun b1 => ?_)
      · refine g_iconst (v := nI 0) dL_expected_47 (by decide) ?_
        exact (J48 _ (bi_f (fun q => absurd q.1 (Int32.not_le.mpr b1))).symm _).go hA hb (by omega)
      · refine g_iload dL_expected_36 rfl ?_
        refine g_bipush (v := nI 12) dL_expected_38 (by decide) ?_
        refine g_icmp_ge (tgt := 47) dL_expected_40 (by decide) (fun b2 => ?_) (fun b2 => ?_)
        · refine g_iconst (v := nI 0) dL_expected_47 (by decide) ?_
          exact (J48 _ (bi_f (fun q => absurd q.2 (Int32.not_lt.mpr b2))).symm _).go hA hb (by omega)
        · refine g_iconst (v := nI 1) dL_expected_43 (by decide) ?_
          refine g_jump (tgt := 48) dL_expected_44 (by decide) ?_
          exact (J48 _ (bi_t ⟨Int32.not_lt.mp b1, Int32.not_le.mp b2⟩).symm _).go hA hb (by omega)
  refine MC.of RL "expected" rfl (by decide +kernel) rfl 4 [_, _, _, none, none, none, none] rfl (Nat.le_of_ble_eq_true rfl) ?_
  show G E ML_expected _ _ _ _ _ _ _ _ _
  refine g_iconst (v := nI 0) dL_expected_0 (by decide) ?_
  refine g_istore_n dL_expected_1 (by decide) rfl ?_
  show G _ _ _ _ _ _ _ _ _ [_, _, _, _, _, _, _] _
  refine g_iconst (v := nI 0) dL_expected_2 (by decide) ?_
  refine g_istore dL_expected_3 (by decide) rfl ?_
  show G _ _ _ _ _ _ _ _ _ [_, _, _, _, _, _, _] _
  exact (K5 (ncv S.1 c) 0 (by omega) (nI 0) (Or.inl ⟨rfl, fun i hi => absurd hi (Nat.not_lt_zero i)⟩) (fun i hi => absurd hi (Nat.not_lt_zero i)) _ _).go hA ⟨Nat.le_refl _, Nat.le_refl _, Nat.le_refl _⟩ (by omega)
end LEXP

