/-! what the law asks of what comes ahead -/
section LAHEAD
variable {E : gE} {M : gM} {P : gP} {sh : Sh} {sz : Nat} {V : Vl} {cu su pc : Nat} {L : List (Option Value)} {rest : List Value} {x z u c : Nat} {S : St} {A : La} {f : Fl}
theorem g_sld {i : Int32} {k : Nat} (hdg : decode M.1 pc = .ok (.iaload, 1)) (hk : i = nI k) (hlt : k < E.2.2.2.2.2.2.1) (hlen : E.2.2.2.2.2.2.1 ≤ 260) (kk : G E M P sh sz V cu su (pc + 1) L (.int (E.2.2.2.2.2.2.2 k) :: rest)) : G E M P sh sz V cu su pc L (.int i :: .ref E.2.2.2.2.2.1 :: rest) := by
  subst hk
  intro p e s m args below meth c C0 H locs ls D
  have hK := C0.2.2.2.2.2.2.2.2.2.1
  obtain ⟨⟨scr, h1, h2, h3, h4, h5⟩, hb⟩ := hK.2.2.2.2.2.2.2.1.2.1
  refine W.iald (v := .int (E.2.2.2.2.2.2.2 k)) C0.1 C0.2.1 (by rw [D.2.1.2.2.1 _ hb]; exact h1) h2 h3 (by rw [h4]; exact vp_in_nI hlt (by omega)) (by rw [nI_clamp (by omega)]; exact h5 _ hlt) rfl rfl hdg (kk p e s m args below meth c C0 H locs ls D)
theorem g_slen (hdg : decode M.1 pc = .ok (.arraylength, 1)) (kk : G E M P sh sz V cu su (pc + 1) L (.int (nI E.2.2.2.2.2.2.1) :: rest)) : G E M P sh sz V cu su pc L (.ref E.2.2.2.2.2.1 :: rest) := by
  intro p e s m args below meth c C0 H locs ls D
  have hK := C0.2.2.2.2.2.2.2.2.2.1
  obtain ⟨⟨scr, h1, h2, h3, h4, h5⟩, hb⟩ := hK.2.2.2.2.2.2.2.1.2.1
  refine W.alen (n := Int32.ofNat E.2.2.2.2.2.2.1) C0.1 C0.2.1 (by rw [D.2.1.2.2.1 _ hb]; exact h1) h2 (by rw [h4] <;> rfl) rfl rfl hdg (kk p e s m args below meth c C0 H locs ls D)
/-- a number of the script -/
def clV (E : gE) (k : Nat) : Int32 := if k < E.2.2.2.2.2.2.1 then E.2.2.2.2.2.2.2 k else 40503 * nI k
theorem c_cell {k : Nat} (hk : k < 1000) (hlen : E.2.2.2.2.2.2.1 ≤ 260) : MC E YL_cell [.ref E.2.2.2.2.2.1, .int (nI k)] sh sz V (pR (some (.int (clV E k))) sh sz V) := by
  refine MC.of RL "cell" rfl (by decide +kernel) rfl 0 [_, _] rfl (Nat.le_of_ble_eq_true rfl) ?_
  show G E ML_cell _ _ _ _ _ _ _ _ _
  refine g_iload_n dL_cell_0 rfl ?_
  refine g_aload_n dL_cell_1 rfl ?_
  refine g_slen dL_cell_2 ?_
  unfold clV
  refine g_icmp_ge (tgt := 12) dL_cell_3 (by decide) (fun b1 => ?_) (fun b1 => ?_)
  · rw [if_neg (fun q => absurd b1 (nI_ge q (by omega)))]
    refine g_ldc kc_L_7 dL_cell_12 ?_
    refine g_iload_n dL_cell_14 rfl ?_
    refine g_imul dL_cell_15 ?_
    exact g_iret rfl (nr_int _) dL_cell_16 (by decide) ⟨rfl, rfl, rfl, rfl⟩
  · have hlt : k < E.2.2.2.2.2.2.1 := Nat.lt_of_not_le fun q => b1 (nI_le q (by omega))
    rw [if_pos hlt]
    refine g_aload_n dL_cell_6 rfl ?_
    refine g_iload_n dL_cell_7 rfl ?_
    refine g_sld dL_cell_8 rfl hlt hlen ?_
    refine g_jump (tgt := 16) dL_cell_9 (by decide) ?_
    exact g_iret rfl (nr_int _) dL_cell_16 (by decide) ⟨rfl, rfl, rfl, rfl⟩
theorem advF_cnt : cnt (advF f c) = cnt f := advN_cnt
theorem rollS_cnt (f : Fl) (c : Nat) : ∀ k, cnt (rollS f c k) = cnt f
  | 0 => rfl
  | k + 1 => by
    show cnt (advF (rollS f c k) c) = cnt f
    rw [advF_cnt]
    exact rollS_cnt f c k
theorem pC_le (S : St) : pC S.2.2.2.1 ≤ 8 := by unfold pC; split <;> omega
set_option maxRecDepth 100000 in
theorem ah_c (hc : c < cnt f) (hI : InvB f) (hu : u + 100 ≤ 4800) (kk : ∀ S, On f S → ∀ a3 a4 a5 a6 a7 a8 a9 a10 a11, GL E ML_ahead P x S A z (u + 60) 161 [some (.ref E.2.2.2.2.2.1), some (.ref x), some (.int (nI c)), a3, a4, a5, a6, a7, a8, a9, a10, a11] []) : ∀ S, On f S → ∀ a3 a4 a5 a6 a7 a8 a9 a10 a11, GL E ML_ahead P x S A z (u) 11 [some (.ref E.2.2.2.2.2.1), some (.ref x), some (.int (nI c)), a3, a4, a5, a6, a7, a8, a9, a10, a11] [] := by
  intro S hS a3 a4 a5 a6 a7 a8 a9 a10 a11
  have hf := hS.1
  have h44 := hI.1.2
  have hC : c < cnt S.1 := by rw [hf]; exact hc
  have hN := rollN_le hI hc
  obtain ⟨rn, hrn⟩ : ∃ rn, rn = rollN f c := ⟨_, rfl⟩
  obtain ⟨mn, hmn⟩ : ∃ mn, mn = min rn 8 := ⟨_, rfl⟩
  rw [← hrn] at hN
  have hcode := roll_code f (c := c) (by omega)
  obtain ⟨-, -, -, e4⟩ := e100_at hcode
  have hN0 := rollN_0 hI hc
  rw [← hrn] at hN0
  have hrs : ∀ k, k ≤ rn → InvB (rollS f c k) := fun k hk => (rollS_all hI hc (by omega)).1
  have K138 : ∀ S, On f S → ∀ a6 a7 a8 a9 a10 a11, GL E ML_ahead P x S A z (u + 58) 138 [some (.ref E.2.2.2.2.2.1), some (.ref x), some (.int (nI c)), some (.int (nI rn)), some (.int (f (oC c 2))), some (.int (nI mn)), a6, a7, a8, a9, a10, a11] [] := by
    intro S hS a6 a7 a8 a9 a10 a11 sh sz V cu su hA hb
    have hf := hS.1
    have hC : c < cnt S.1 := by rw [hf]; exact hc
    refine g_aload_n dL_ahead_138 rfl ?_
    refine g_iload_n dL_ahead_139 rfl ?_
    refine g_iconst (v := nI 2) dL_ahead_140 (by decide) ?_
    refine g_lcH 1 (M := ML_ahead) (pc := 141) (Y := YL_convoyOf) (gIn_SH ml_L_224 wt_L_convoyOf ini_L wc_L_convoyOf) yn_L_convoyOf dL_ahead_141 hb (lRm_of rfl (rm_c (by show _ ≤ 4800; omega) (Nat.le_of_ble_eq_true rfl))) (l_convoyOf (w := 2) hA hC (by decide) (v := f (oC c 2)) (by rw [hf]; rfl)) rfl rfl (Nat.le_of_ble_eq_true rfl) ?_
    intro sh sz V cu su hA hb
    refine g_iload dL_ahead_144 rfl ?_
    refine g_icmp_ne (tgt := 159) dL_ahead_146 (by decide) (fun hq => absurd hq ((fun q => q rfl))) (fun _ => ?_)
    refine g_aload_n dL_ahead_149 rfl ?_
    refine g_iload_n dL_ahead_150 rfl ?_
    refine g_iconst (v := nI 0) dL_ahead_151 (by decide) ?_
    refine g_lcH 1 (M := ML_ahead) (pc := 152) (Y := YL_rolls) (gIn_SH ml_L_249 wt_L_rolls ini_L wc_L_rolls) yn_L_rolls dL_ahead_152 hb (lRm_of rfl (rm_c (by show _ ≤ 4800; omega) (Nat.le_of_ble_eq_true rfl))) (l_rolls (b := nI 0) hA hC) rfl rfl (Nat.le_of_ble_eq_true rfl) ?_
    intro sh sz V cu su hA hb
    rw [hf, ← hrn]
    refine g_iload_n dL_ahead_155 rfl ?_
    refine g_icmp_eq (tgt := 161) dL_ahead_156 (by decide) (fun _ => ?_) (fun hq => absurd (rfl) hq)
    exact (kk S hS _ _ _ _ _ _ _ _ _).go hA hb (by omega)
  have K116 : ∀ (d j : Nat), j + d = mn → ∀ S, S.1 = rollS f c d → S.2.2.2.2.2.1 = 0 → Stk (rollS f c) d S → ∀ a7 a8 a9 a10 a11, GL E ML_ahead P x S A z (u + 40 + j) 116 [some (.ref E.2.2.2.2.2.1), some (.ref x), some (.int (nI c)), some (.int (nI rn)), some (.int (f (oC c 2))), some (.int (nI mn)), some (.int (nI j)), a7, a8, a9, a10, a11] [] := by
    intro d
    induction d with
    | zero =>
      intro j hj S h1 h2 h3 a7 a8 a9 a10 a11 sh sz V cu su hA hb
      obtain rfl : j = mn := by omega
      refine g_iload dL_ahead_116 rfl ?_
      refine g_iload dL_ahead_118 rfl ?_
      refine g_icmp_ge (tgt := 138) dL_ahead_120 (by decide) (fun _ => ?_) (fun hq => absurd (Int32.le_refl _) hq)
      exact (K138 S ⟨h1, h2⟩ _ _ _ _ _ _).go hA hb (by omega)
    | succ d ih =>
      intro j hj S h1 h2 h3 a7 a8 a9 a10 a11 sh sz V cu su hA hb
      obtain ⟨n1, n2, n3⟩ := Stk_und h3
      refine g_iload dL_ahead_116 rfl ?_
      refine g_iload dL_ahead_118 rfl ?_
      refine g_icmp_ge (tgt := 138) dL_ahead_120 (by decide) (fun hq => absurd hq (nI_ge (by omega) (by omega))) (fun _ => ?_)
      have h8 := hA.2.1.2.2.2.1
      refine g_aload_n dL_ahead_123 rfl ?_
      refine g_lcH 1 (M := ML_ahead) (pc := 124) (Y := YL_undo) (gIn_SH ml_L_247 wt_L_undo ini_L wc_L_undo) yn_L_undo dL_ahead_124 hb (lRm_of rfl (rm_c (by show _ ≤ 4800; omega) (Nat.le_of_ble_eq_true rfl))) (l_undo hA n1) rfl rfl (Nat.le_of_ble_eq_true rfl) ?_
      intro sh sz V cu su hA hb
      refine g_if_ge (tgt := 132) dL_ahead_127 (by decide) (fun _ => ?_) (fun hq => absurd ((nI_pos' (by omega))) hq)
      refine g_iinc dL_ahead_132 rfl (by first | exact nI_inc _ | rfl) (by decide) rfl ?_
      show G _ _ _ _ _ _ _ _ _ [_, _, _, _, _, _, _, _, _, _, _, _] _
      refine g_jump (tgt := 116) dL_ahead_135 (by decide) ?_
      exact (ih (j + 1) (by omega) _ n2 h2 n3 _ _ _ _ _).go hA hb (by omega)
  have K75 : ∀ (d k : Nat), k + d = mn → ∀ S, S.1 = rollS f c k → S.2.2.2.2.2.1 = 0 → Stk (rollS f c) k S → ∀ a7 a8 a9 a10 a11, GL E ML_ahead P x S A z (u + 10 + 3 * k) 75 [some (.ref E.2.2.2.2.2.1), some (.ref x), some (.int (nI c)), some (.int (nI rn)), some (.int (f (oC c 2))), some (.int (nI mn)), some (.int (nI k)), a7, a8, a9, a10, a11] [] := by
    intro d
    induction d with
    | zero =>
      intro k hk S h1 h2 h3 a7 a8 a9 a10 a11 sh sz V cu su hA hb
      obtain rfl : k = mn := by omega
      refine g_iload dL_ahead_75 rfl ?_
      refine g_iload dL_ahead_77 rfl ?_
      refine g_icmp_ge (tgt := 113) dL_ahead_79 (by decide) (fun _ => ?_) (fun hq => absurd (Int32.le_refl _) hq)
      refine g_iconst (v := nI 0) dL_ahead_113 (by decide) ?_
      refine g_istore dL_ahead_114 (by decide) rfl ?_
      show G _ _ _ _ _ _ _ _ _ [_, _, _, _, _, _, _, _, _, _, _, _] _
      exact (K116 _ 0 (by omega) S h1 h2 h3 _ _ _ _ _).go hA hb (by omega)
    | succ d ih =>
      intro k hk S h1 h2 h3 a7 a8 a9 a10 a11 sh sz V cu su hA hb
      have hkN : k < rn := by omega
      have hC : c < cnt S.1 := by rw [h1, rollS_cnt]; exact hc
      have h0 : rollO S.1 c = (nI 0, nI 0) := by rw [h1]; exact rollN_lt (by omega)
      have h8 := hA.2.1.2.2.2.1
      refine g_iload dL_ahead_75 rfl ?_
      refine g_iload dL_ahead_77 rfl ?_
      refine g_icmp_ge (tgt := 113) dL_ahead_79 (by decide) (fun hq => absurd hq (nI_ge (by omega) (by omega))) (fun _ => ?_)
      refine g_aload_n dL_ahead_82 rfl ?_
      refine g_iload_n dL_ahead_83 rfl ?_
      refine g_lcH 1 (M := ML_ahead) (pc := 84) (Y := YL_roll) (gIn_SH ml_L_154 wt_L_roll ini_L wc_L_roll) yn_L_roll dL_ahead_84 hb (lRm_of rfl (rm_c (by show _ ≤ 4800; omega) (Nat.le_of_ble_eq_true rfl))) (l_roll_ok hA hC h0) rfl rfl (Nat.le_of_ble_eq_true rfl) ?_
      intro sh sz V cu su hA hb
      refine g_if_lt (tgt := 105) dL_ahead_87 (by decide) (fun hq => absurd hq ((nI_pos (by have := fb_ct_le (fun k => decide (isM (mt (advF S.1 c (oC c 2)) (advF S.1 c (oC c 0)) k))) (ncv (advF S.1 c) c); have := (hA.sB.cv (c := c) (by show c < cnt (advF S.1 c); rw [advF_cnt]; exact hC)).2.2.1; have : ncv (advF S.1 c) c ≤ 4 := this; unfold onR; omega)))) (fun _ => ?_)
      have e1 : (push S (advF S.1 c)).1 = rollS f c (k + 1) := by show advF S.1 c = _; rw [h1]; rfl
      have hC1 : c < cnt (push S (advF S.1 c)).1 := by rw [e1, rollS_cnt]; exact hc
      refine g_aload_n dL_ahead_90 rfl ?_
      refine g_iload_n dL_ahead_91 rfl ?_
      refine g_iconst (v := nI 0) dL_ahead_92 (by decide) ?_
      refine g_lcH 1 (M := ML_ahead) (pc := 93) (Y := YL_rolls) (gIn_SH ml_L_249 wt_L_rolls ini_L wc_L_rolls) yn_L_rolls dL_ahead_93 hb (lRm_of rfl (rm_c (by show _ ≤ 4800; omega) (Nat.le_of_ble_eq_true rfl))) (l_rolls (b := nI 0) hA hC1) rfl rfl (Nat.le_of_ble_eq_true rfl) ?_
      intro sh sz V cu su hA hb
      refine g_iload_n dL_ahead_96 rfl ?_
      refine g_iload dL_ahead_97 rfl ?_
      refine g_isub dL_ahead_99 ?_
      refine g_iconst (v := nI 1) dL_ahead_100 (by decide) ?_
      refine g_isub dL_ahead_101 ?_
      rw [e1, rollN_sub hI hc (by omega), ← hrn, pk_sub (by omega), pk_sub (by omega), show rn - k - 1 = rn - (k + 1) by omega]
      refine g_icmp_eq (tgt := 107) dL_ahead_102 (by decide) (fun _ => ?_) (fun hq => absurd (rfl) hq)
      refine g_iinc dL_ahead_107 rfl (by first | exact nI_inc _ | rfl) (by decide) rfl ?_
      show G _ _ _ _ _ _ _ _ _ [_, _, _, _, _, _, _, _, _, _, _, _] _
      refine g_jump (tgt := 75) dL_ahead_110 (by decide) ?_
      exact (ih (k + 1) (by omega) _ e1 h2 (Stk_push h3 (by omega) h8 h1.symm) _ _ _ _ _).go hA hb (by omega)
  have J56 : ∀ S, On f S → ∀ a4 a5 a6 a7 a8 a9 a10 a11, GL E ML_ahead P x S A z (u + 5) 56 [some (.ref E.2.2.2.2.2.1), some (.ref x), some (.int (nI c)), some (.int (nI rn)), a4, a5, a6, a7, a8, a9, a10, a11] [] := by
    intro S hS a4 a5 a6 a7 a8 a9 a10 a11 sh sz V cu su hA hb
    have hf := hS.1
    have hC : c < cnt S.1 := by rw [hf]; exact hc
    refine g_aload_n dL_ahead_56 rfl ?_
    refine g_iload_n dL_ahead_57 rfl ?_
    refine g_iconst (v := nI 2) dL_ahead_58 (by decide) ?_
    refine g_lcH 1 (M := ML_ahead) (pc := 59) (Y := YL_convoyOf) (gIn_SH ml_L_224 wt_L_convoyOf ini_L wc_L_convoyOf) yn_L_convoyOf dL_ahead_59 hb (lRm_of rfl (rm_c (by show _ ≤ 4800; omega) (Nat.le_of_ble_eq_true rfl))) (l_convoyOf (w := 2) hA hC (by decide) (v := f (oC c 2)) (by rw [hf]; rfl)) rfl rfl (Nat.le_of_ble_eq_true rfl) ?_
    intro sh sz V cu su hA hb
    refine g_istore dL_ahead_62 (by decide) rfl ?_
    show G _ _ _ _ _ _ _ _ _ [_, _, _, _, _, _, _, _, _, _, _, _] _
    refine g_iload_n dL_ahead_64 rfl ?_
    refine g_bipush (v := nI 8) dL_ahead_65 (by decide) ?_
    refine g_mmin ml_L_251 wm_mmin_s wm_ini wm_mmin_c dL_ahead_67 (Nat.le_of_ble_eq_true rfl) (Nat.le_of_ble_eq_true rfl) ⟨by show cu ≤ 4800; omega, by show su ≤ 28800; omega⟩ ?_
    have em : (if nI 8 < nI rn then nI 8 else nI rn) = nI mn := by
      by_cases q : 8 < rn
      · rw [if_pos (nI_lt q (by omega)), hmn, Nat.min_eq_right (by omega)]
      · rw [if_neg (nI_nlt (by omega) (by omega)), hmn, Nat.min_eq_left (by omega)]
    rw [em]
    refine g_istore dL_ahead_70 (by decide) rfl ?_
    show G _ _ _ _ _ _ _ _ _ [_, _, _, _, _, _, _, _, _, _, _, _] _
    refine g_iconst (v := nI 0) dL_ahead_72 (by decide) ?_
    refine g_istore dL_ahead_73 (by decide) rfl ?_
    show G _ _ _ _ _ _ _ _ _ [_, _, _, _, _, _, _, _, _, _, _, _] _
    exact (K75 mn 0 (Nat.zero_add _) S hf hS.2 (Stk_0 _ _) _ _ _ _ _).go hA hb (by omega)
  have J51 : ∀ v, v = bi (rn = 0) → ∀ a4 a5 a6 a7 a8 a9 a10 a11, GL E ML_ahead P x S A z (u + 4) 51 [some (.ref E.2.2.2.2.2.1), some (.ref x), some (.int (nI c)), some (.int (nI rn)), a4, a5, a6, a7, a8, a9, a10, a11] [.int v, .int (bi (rn = 0))] := by
    intro v hv a4 a5 a6 a7 a8 a9 a10 a11 sh sz V cu su hA hb
    rw [hv]
    refine g_icmp_eq (tgt := 56) dL_ahead_51 (by decide) (fun _ => ?_) (fun hq => absurd (rfl) hq)
    exact (J56 S hS _ _ _ _ _ _ _ _).go hA hb (by omega)
  have J37 : ∀ v, v = bi (rn = 0) → ∀ a4 a5 a6 a7 a8 a9 a10 a11, GL E ML_ahead P x S A z (u + 2) 37 [some (.ref E.2.2.2.2.2.1), some (.ref x), some (.int (nI c)), some (.int (nI rn)), a4, a5, a6, a7, a8, a9, a10, a11] [.int v] := by
    intro v hv a4 a5 a6 a7 a8 a9 a10 a11 sh sz V cu su hA hb
    rw [hv]
    refine g_aload_n dL_ahead_37 rfl ?_
    refine g_iload_n dL_ahead_38 rfl ?_
    refine g_iconst (v := nI 0) dL_ahead_39 (by decide) ?_
    refine g_lcH 1 (M := ML_ahead) (pc := 40) (Y := YL_why) (gIn_SH ml_L_244 wt_L_why ini_L wc_L_why) yn_L_why dL_ahead_40 hb (lRm_of rfl (rm_c (by show _ ≤ 4800; omega) (Nat.le_of_ble_eq_true rfl))) (l_why (d := nI 0) hA hC (v := (rollO f c).1) (by rw [hf]; exact if_pos rfl)) rfl rfl (Nat.le_of_ble_eq_true rfl) ?_
    intro sh sz V cu su hA hb
    refine g_if_eq (tgt := 50) dL_ahead_43 (by decide) (fun b1 => ?_) (fun b1 => ?_)
    · refine g_iconst (v := nI 0) dL_ahead_50 (by decide) ?_
      refine (J51 _ (bi_f (fun q => (e4 (hN0.mp q)) (b1.trans nI_0.symm))).symm _ _ _ _ _ _ _ _).go hA hb (by omega)
    · refine g_iconst (v := nI 1) dL_ahead_46 (by decide) ?_
      refine g_jump (tgt := 51) dL_ahead_47 (by decide) ?_
      refine (J51 _ (bi_t (hN0.mpr (fun q => b1 (by rw [q]; exact nI_0)))).symm _ _ _ _ _ _ _ _).go hA hb (by omega)
  intro sh sz V cu su hA hb
  refine g_aload_n dL_ahead_11 rfl ?_
  refine g_iload_n dL_ahead_12 rfl ?_
  refine g_iconst (v := nI 0) dL_ahead_13 (by decide) ?_
  refine g_lcH 1 (M := ML_ahead) (pc := 14) (Y := YL_rolls) (gIn_SH ml_L_249 wt_L_rolls ini_L wc_L_rolls) yn_L_rolls dL_ahead_14 hb (lRm_of rfl (rm_c (by show _ ≤ 4800; omega) (Nat.le_of_ble_eq_true rfl))) (l_rolls (b := nI 0) hA hC) rfl rfl (Nat.le_of_ble_eq_true rfl) ?_
  intro sh sz V cu su hA hb
  rw [hf, ← hrn]
  refine g_istore_n dL_ahead_17 (by decide) rfl ?_
  show G _ _ _ _ _ _ _ _ _ [_, _, _, _, _, _, _, _, _, _, _, _] _
  refine g_aload_n dL_ahead_18 rfl ?_
  refine g_iload_n dL_ahead_19 rfl ?_
  refine g_iconst (v := nI 1) dL_ahead_20 (by decide) ?_
  refine g_lcH 1 (M := ML_ahead) (pc := 21) (Y := YL_rolls) (gIn_SH ml_L_249 wt_L_rolls ini_L wc_L_rolls) yn_L_rolls dL_ahead_21 hb (lRm_of rfl (rm_c (by show _ ≤ 4800; omega) (Nat.le_of_ble_eq_true rfl))) (l_rolls (b := nI 1) hA hC) rfl rfl (Nat.le_of_ble_eq_true rfl) ?_
  intro sh sz V cu su hA hb
  rw [hf, ← hrn]
  refine g_iload_n dL_ahead_24 rfl ?_
  refine g_icmp_ne (tgt := 54) dL_ahead_25 (by decide) (fun hq => absurd hq ((fun q => q rfl))) (fun _ => ?_)
  refine g_iload_n dL_ahead_28 rfl ?_
  refine g_if_ne (tgt := 36) dL_ahead_29 (by decide) (fun b1 => ?_) (fun b1 => ?_)
  · refine g_iconst (v := nI 0) dL_ahead_36 (by decide) ?_
    exact (J37 _ (bi_f (fun q => b1 (by rw [q]; exact nI_0))).symm _ _ _ _ _ _ _ _).go hA hb (by omega)
  · refine g_iconst (v := nI 1) dL_ahead_32 (by decide) ?_
    refine g_jump (tgt := 37) dL_ahead_33 (by decide) ?_
    exact (J37 _ (bi_t ((nI_eq (by omega) (by omega)).mp (b1.trans nI_0.symm))).symm _ _ _ _ _ _ _ _).go hA hb (by omega)
set_option maxRecDepth 100000 in
theorem ah_d {mi tn d N : Nat} (hmi : mi < 12) (ht1 : 1 ≤ tn) (ht2 : tn ≤ 99) (hd1 : 1 ≤ d) (hd2 : d ≤ 9) (hIA : InvA f) (hD : InvD N f) (hN : N ≤ 900000) (hu : u + 420 ≤ 4800) (kk : ∀ S, On f S → ∀ a6 a7 a8 a9 a10 a11, GL E ML_ahead P x S A z (u + 410) 391 [some (.ref E.2.2.2.2.2.1), some (.ref x), some (.int (nI mi)), some (.int (nI tn)), some (.int (brV f mi (nI tn))), some (.int (nI d)), a6, a7, a8, a9, a10, a11] []) : ∀ S, On f S → ∀ a6 a7 a8 a9 a10 a11, GL E ML_ahead P x S A z (u) 211 [some (.ref E.2.2.2.2.2.1), some (.ref x), some (.int (nI mi)), some (.int (nI tn)), some (.int (brV f mi (nI tn))), some (.int (nI d)), a6, a7, a8, a9, a10, a11] [] := by
  intro S hS a6 a7 a8 a9 a10 a11
  have hI := hIA.1
  have hf := hS.1
  have hsub : ∀ {S sh sz V t q F}, LW x S ((t, q, F) :: A) sh sz V → LW x S A sh sz V := fun h => h.sub (fun q hq => List.mem_cons_of_mem _ hq)
  have hDp := passF_D (n := d) hD
  obtain ⟨ga, gb, ga12, gba, ega, egb⟩ := good_mono (n := d) hD (by omega)
  have hpI : InvB (passF f d) := passF_inv hI
  have hok : okI (iceN (f (oM mi 0)).toUInt32 (f 5) d) := okI_iceN (hI.2.2.2.1 mi hmi).1 hI.2.1.1 hI.2.1.2 d
  have eice : (passF f d (oM mi 0)).toUInt32 = (iceN (f (oM mi 0)).toUInt32 (f 5) d) := by rw [passF_ice hmi, i_u]
  have hbr := br_spec (x := (f (oM mi 0)).toUInt32) (t := f 5) (tn := nI tn) (d := d) (by omega)
  have K350 : ∀ (t : Nat) (th : Nat → Int32), (∀ m, m < 12 → th m = (iceN (f (oM m 0)).toUInt32 (f 5) d).toInt32) → ∀ (e m : Nat), m + e = 12 → ∀ a8 a9 (i10 : Int32), GL E ML_ahead P x (push S (passF f d)) ((t, (20, 12), fun m => .int (th m)) :: A) z (u + 360 + m) 350 [some (.ref E.2.2.2.2.2.1), some (.ref x), some (.int (nI mi)), some (.int (nI tn)), some (.int (brV f mi (nI tn))), some (.int (nI d)), some (.ref t), some (.int (goodN f)), a8, a9, some (.int i10), some (.int (nI m))] [] := by
    intro t th hth e
    induction e with
    | zero =>
      intro m hm a8 a9 i10 sh sz V cu su hA hb
      obtain rfl : m = 12 := by omega
      refine g_iload dL_ahead_350 rfl ?_
      refine g_bipush (v := nI 12) dL_ahead_352 (by decide) ?_
      refine g_icmp_ge (tgt := 382) dL_ahead_354 (by decide) (fun _ => ?_) (fun hq => absurd (Int32.le_refl _) hq)
      refine g_aload_n dL_ahead_382 rfl ?_
      refine g_lcH 1 (M := ML_ahead) (pc := 383) (Y := YL_undo) (gIn_SH ml_L_247 wt_L_undo ini_L wc_L_undo) yn_L_undo dL_ahead_383 hb (lRm_of rfl (rm_c (by show _ ≤ 4800; omega) (Nat.le_of_ble_eq_true rfl))) (l_undo hA (pC_pos _)) rfl rfl (Nat.le_of_ble_eq_true rfl) ?_
      intro sh sz V cu su hA hb
      refine g_if_ge (tgt := 391) dL_ahead_386 (by decide) (fun _ => ?_) (fun hq => absurd ((nI_pos' (by have := pC_le S; show pC S.2.2.2.1 - 1 < 2 ^ 31; omega))) hq)
      have hA := hsub hA
      exact (kk _ hS.und _ _ _ _ _ _).go hA hb (by omega)
    | succ e ih =>
      intro m hm a8 a9 i10 sh sz V cu su hA hb
      have hm12 : m < 12 := by omega
      have em : (passF f d (oM m 0)).toUInt32 = iceN (f (oM m 0)).toUInt32 (f 5) d := by rw [passF_ice hm12, i_u]
      refine g_iload dL_ahead_350 rfl ?_
      refine g_bipush (v := nI 12) dL_ahead_352 (by decide) ?_
      refine g_icmp_ge (tgt := 382) dL_ahead_354 (by decide) (fun hq => absurd hq (nI_ge (by omega) (by decide))) (fun _ => ?_)
      refine g_aload_n dL_ahead_357 rfl ?_
      refine g_iload dL_ahead_358 rfl ?_
      refine g_lcV 1 (M := ML_ahead) (pc := 360) (Y := YX6_ice) sv_L_145 rfl yn_X6_ice 8 (by decide) rfl rfl dL_ahead_360 hb (lRm_of rfl (rm_c (by show _ ≤ 4800; omega) (Nat.le_of_ble_eq_true rfl))) (k_ice (j := m) hA hm12) hA.s9 rfl rfl (Nat.le_of_ble_eq_true rfl) ?_
      intro sh sz V cu su hA hb
      have hokm : okI (passF f d (oM m 0)).toUInt32 := (hpI.2.2.2.1 m hm12).1
      refine g_lcP (M := ML_ahead) (pc := 363) (Y := YJxf58ca_floatToIntBits_5c35a) ss_L_148 yn_Jxf58ca_floatToIntBits_5c35a dL_ahead_363 hb (lRm_of rfl (rm_c (by show _ ≤ 4800; omega) (Nat.le_of_ble_eq_true rfl))) (c_ftib hokm.n pR_ok) rfl rfl (Nat.le_of_ble_eq_true rfl) ?_
      refine g_aload dL_ahead_366 rfl ?_
      refine g_iload dL_ahead_368 rfl ?_
      refine g_iaload dL_ahead_370 hA.arr.1 (vp_in_nI (by omega) (by decide)) (show V t (nI m).toNatClampNeg = .int (th m) by rw [hA.arr.2, nI_clamp (by omega)]) ?_
      refine g_icmp_eq (tgt := 376) dL_ahead_371 (by decide) (fun _ => ?_) (fun hq => absurd ((by rw [hth m hm12, ← em])) hq)
      refine g_iinc dL_ahead_376 rfl (by first | exact nI_inc _ | rfl) (by decide) rfl ?_
      show G _ _ _ _ _ _ _ _ _ [_, _, _, _, _, _, _, _, _, _, _, _] _
      refine g_jump (tgt := 350) dL_ahead_379 (by decide) ?_
      exact (ih (m + 1) (by omega) _ _ _).go hA hb (by omega)
  have J338 : ∀ (t : Nat) (th : Nat → Int32), (∀ m, m < 12 → th m = (iceN (f (oM m 0)).toUInt32 (f 5) d).toInt32) → ∀ a8 a9 (i10 : Int32) a11, GL E ML_ahead P x (push S (passF f d)) ((t, (20, 12), fun m => .int (th m)) :: A) z (u + 30) 338 [some (.ref E.2.2.2.2.2.1), some (.ref x), some (.int (nI mi)), some (.int (nI tn)), some (.int (brV f mi (nI tn))), some (.int (nI d)), some (.ref t), some (.int (goodN f)), a8, a9, some (.int i10), a11] [] := by
    intro t th hth a8 a9 i10 a11 sh sz V cu su hA hb
    refine g_aload_n dL_ahead_338 rfl ?_
    refine g_lcS 320 (M := ML_ahead) (pc := 339) (Y := YL_miles) ss_L_163 yn_L_miles dL_ahead_339 hb (lRm_of rfl (rm_c (by show _ ≤ 4800; omega) (Nat.le_of_ble_eq_true rfl))) (l_miles (N := N + d) hA hDp (by omega)) rfl rfl (Nat.le_of_ble_eq_true rfl) ?_
    intro sh sz V cu su hA hb
    refine g_if_ne (tgt := 347) dL_ahead_342 (by decide) (fun _ => ?_) (fun hq => absurd hq ((by decide)))
    refine g_iconst (v := nI 0) dL_ahead_347 (by decide) ?_
    refine g_istore dL_ahead_348 (by decide) rfl ?_
    show G _ _ _ _ _ _ _ _ _ [_, _, _, _, _, _, _, _, _, _, _, _] _
    exact (K350 t th hth 12 0 rfl _ _ _).go hA hb (by omega)
  have J321 : ∀ (t : Nat) (th : Nat → Int32), (∀ m, m < 12 → th m = (iceN (f (oM m 0)).toUInt32 (f 5) d).toInt32) → ∀ a8 a9 a11, GL E ML_ahead P x (push S (passF f d)) ((t, (20, 12), fun m => .int (th m)) :: A) z (u + 30) 321 [some (.ref E.2.2.2.2.2.1), some (.ref x), some (.int (nI mi)), some (.int (nI tn)), some (.int (brV f mi (nI tn))), some (.int (nI d)), some (.ref t), some (.int (goodN f)), a8, a9, some (.int (ci (brg (iceN (f (oM mi 0)).toUInt32 (f 5) d) (nI tn)))), a11] [] := by
    intro t th hth a8 a9 a11 sh sz V cu su hA hb
    refine g_iload dL_ahead_321 rfl ?_
    refine g_if_lt (tgt := 333) dL_ahead_323 (by decide) (fun b1 => ?_) (fun b1 => ?_)
    · have hlt : d < brN (f (oM mi 0)).toUInt32 (f 5) (nI tn) := by
        unfold brV at b1
        by_cases q : brN (f (oM mi 0)).toUInt32 (f 5) (nI tn) < 91
        · rw [if_pos q] at b1
          exact absurd b1 (nI_pos (by omega))
        · omega
      refine g_iload dL_ahead_333 rfl ?_
      refine g_if_ne (tgt := 345) dL_ahead_335 (by decide) (fun hq => absurd hq ((fun q => q (ci_f (hbr.2 hlt))))) (fun _ => ?_)
      exact (J338 t th hth _ _ _ _).go hA hb (by omega)
    · refine g_iload dL_ahead_326 rfl ?_
      refine g_iload dL_ahead_328 rfl ?_
      refine g_icmp_le (tgt := 338) dL_ahead_330 (by decide) (fun b2 => ?_) (fun b2 => ?_)
      · exact (J338 t th hth _ _ _ _).go hA hb (by omega)
      · have hlt : d < brN (f (oM mi 0)).toUInt32 (f 5) (nI tn) := by
          unfold brV at b2
          by_cases q : brN (f (oM mi 0)).toUInt32 (f 5) (nI tn) < 91
          · rw [if_pos q, nI_leI (by omega) (by omega)] at b2
            omega
          · omega
        refine g_iload dL_ahead_333 rfl ?_
        refine g_if_ne (tgt := 345) dL_ahead_335 (by decide) (fun hq => absurd hq ((fun q => q (ci_f (hbr.2 hlt))))) (fun _ => ?_)
        exact (J338 t th hth _ _ _ _).go hA hb (by omega)
  have J288 : ∀ (t : Nat) (th : Nat → Int32), (∀ m, m < 12 → th m = (iceN (f (oM m 0)).toUInt32 (f 5) d).toInt32) → ∀ v, v = (ci (brg (iceN (f (oM mi 0)).toUInt32 (f 5) d) (nI tn))) → ∀ (u9 : UInt32) a10 a11, GL E ML_ahead P x (push S (passF f d)) ((t, (20, 12), fun m => .int (th m)) :: A) z (u + 20) 288 [some (.ref E.2.2.2.2.2.1), some (.ref x), some (.int (nI mi)), some (.int (nI tn)), some (.int (brV f mi (nI tn))), some (.int (nI d)), some (.ref t), some (.int (goodN f)), some (.int (nI (ga - gb))), some (.float u9), a10, a11] [.int v] := by
    intro t th hth v hv u9 a10 a11 sh sz V cu su hA hb
    rw [hv]
    refine g_istore dL_ahead_288 (by decide) rfl ?_
    show G _ _ _ _ _ _ _ _ _ [_, _, _, _, _, _, _, _, _, _, _, _] _
    refine g_iload dL_ahead_290 rfl ?_
    refine g_if_lt (tgt := 345) dL_ahead_292 (by decide) (fun hq => absurd hq ((nI_pos (by omega)))) (fun _ => ?_)
    refine g_aload_n dL_ahead_295 rfl ?_
    refine g_bipush (v := nI 10) dL_ahead_296 (by decide) ?_
    refine g_lcV 1 (M := ML_ahead) (pc := 298) (Y := YX6_account) sv_L_182 rfl yn_X6_account 8 (by decide) rfl rfl dL_ahead_298 hb (lRm_of rfl (rm_c (by show _ ≤ 4800; omega) (Nat.le_of_ble_eq_true rfl))) (k_account (w := 10) hA (by decide) (v := nI gb) (by rw [← egb]; rfl)) hA.s9 rfl rfl (Nat.le_of_ble_eq_true rfl) ?_
    intro sh sz V cu su hA hb
    refine g_iload dL_ahead_301 rfl ?_
    refine g_iload dL_ahead_303 rfl ?_
    refine g_isub dL_ahead_305 ?_
    rw [ega, pk_sub (by omega), show ga - (ga - gb) = gb by omega]
    refine g_icmp_ne (tgt := 345) dL_ahead_306 (by decide) (fun hq => absurd hq ((fun q => q rfl))) (fun _ => ?_)
    refine g_iload dL_ahead_309 rfl ?_
    refine g_iload dL_ahead_311 rfl ?_
    rw [← ega]
    refine g_icmp_ne (tgt := 321) dL_ahead_313 (by decide) (fun b1 => ?_) (fun b1 => ?_)
    · exact (J321 t th hth _ _ _).go hA hb (by omega)
    · have hs : brg (iceN (f (oM mi 0)).toUInt32 (f 5) d) (nI tn) := hbr.1 (by
        unfold brV at b1
        by_cases q : brN (f (oM mi 0)).toUInt32 (f 5) (nI tn) < 91
        · rw [if_pos q] at b1
          exact (nI_eq (by omega) (by omega)).mp b1
        · rw [if_neg q] at b1
          exact absurd b1.symm (fun y => by
            have y2 := congrArg Int32.toInt y
            rw [nI_toInt (by omega)] at y2
            have : ((-13 : Int32).toInt : Int) = -13 := by decide
            omega))
      refine g_iload dL_ahead_316 rfl ?_
      refine g_if_eq (tgt := 345) dL_ahead_318 (by decide) (fun hq => absurd hq ((fun q => by rw [ci_t hs] at q; exact absurd q (by decide)))) (fun _ => ?_)
      exact (J321 t th hth _ _ _).go hA hb (by omega)
  have K228 : ∀ t, (∀ q ∈ A, q.1 ≠ t) → ∀ (e m : Nat), m + e = 12 → ∀ (th : Nat → Int32), (∀ i, i < m → th i = (iceN (f (oM i 0)).toUInt32 (f 5) d).toInt32) → ∀ a9 a10 a11, GL E ML_ahead P x S ((t, (20, 12), fun m => .int (th m)) :: A) z (u + 3 + m) 228 [some (.ref E.2.2.2.2.2.1), some (.ref x), some (.int (nI mi)), some (.int (nI tn)), some (.int (brV f mi (nI tn))), some (.int (nI d)), some (.ref t), some (.int (goodN f)), some (.int (nI m)), a9, a10, a11] [] := by
    intro t hfr e
    induction e with
    | zero =>
      intro m hm th hth a9 a10 a11 sh sz V cu su hA hb
      obtain rfl : m = 12 := by omega
      obtain ⟨p1, p2, -⟩ := fp_bor hok (c := 0) (l := 0) (by omega) (by omega)
      refine g_iload dL_ahead_228 rfl ?_
      refine g_bipush (v := nI 12) dL_ahead_230 (by decide) ?_
      refine g_icmp_ge (tgt := 254) dL_ahead_232 (by decide) (fun _ => ?_) (fun hq => absurd (Int32.le_refl _) hq)
      refine g_aload_n dL_ahead_254 rfl ?_
      refine g_iload dL_ahead_255 rfl ?_
      refine g_lcH 1 (M := ML_ahead) (pc := 257) (Y := YL_pass) (gIn_SH ml_L_132 wt_L_pass ini_L wc_L_pass) yn_L_pass dL_ahead_257 hb (lRm_of rfl (rm_c (by show _ ≤ 4800; omega) (Nat.le_of_ble_eq_true rfl))) (l_pass (d := d) hA hd1 (by omega)) rfl rfl (Nat.le_of_ble_eq_true rfl) ?_
      intro sh sz V cu su hA hb
      rw [hf, ega, egb, pk_sub gba, ← ega]
      rw [hf] at hA
      refine g_istore dL_ahead_260 (by decide) rfl ?_
      show G _ _ _ _ _ _ _ _ _ [_, _, _, _, _, _, _, _, _, _, _, _] _
      refine g_aload_n dL_ahead_262 rfl ?_
      refine g_iload_n dL_ahead_263 rfl ?_
      refine g_lcV 1 (M := ML_ahead) (pc := 264) (Y := YX6_ice) sv_L_145 rfl yn_X6_ice 8 (by decide) rfl rfl dL_ahead_264 hb (lRm_of rfl (rm_c (by show _ ≤ 4800; omega) (Nat.le_of_ble_eq_true rfl))) (k_ice (j := mi) hA hmi) hA.s9 rfl rfl (Nat.le_of_ble_eq_true rfl) ?_
      intro sh sz V cu su hA hb
      rw [show (push S (passF f d)).1 = passF f d from rfl, eice]
      refine g_fstore dL_ahead_267 (by decide) rfl ?_
      show G _ _ _ _ _ _ _ _ _ [_, _, _, _, _, _, _, _, _, _, _, _] _
      refine g_fload dL_ahead_269 rfl ?_
      refine g_fload dL_ahead_271 rfl ?_
      refine g_fmul dL_ahead_273 p1 ?_
      refine g_ldcf kc_L_190 dL_ahead_274 ?_
      refine g_fmul dL_ahead_276 p2 ?_
      refine g_iload_n dL_ahead_277 rfl ?_
      refine g_i2f dL_ahead_278 ?_
      refine g_fcmp dL_ahead_279 ?_
      refine g_if_lt (tgt := 287) dL_ahead_280 (by decide) (fun b1 => ?_) (fun b1 => ?_)
      · refine g_iconst (v := nI 0) dL_ahead_287 (by decide) ?_
        exact (J288 t th hth _ (ci_f (fun q => absurd q (Int32.not_le.mpr b1))).symm _ _ _).go hA hb (by omega)
      · refine g_iconst (v := nI 1) dL_ahead_283 (by decide) ?_
        refine g_jump (tgt := 288) dL_ahead_284 (by decide) ?_
        exact (J288 t th hth _ (ci_t (Int32.not_lt.mp b1)).symm _ _ _).go hA hb (by omega)
    | succ e ih =>
      intro m hm th hth a9 a10 a11 sh sz V cu su hA hb
      refine g_iload dL_ahead_228 rfl ?_
      refine g_bipush (v := nI 12) dL_ahead_230 (by decide) ?_
      refine g_icmp_ge (tgt := 254) dL_ahead_232 (by decide) (fun hq => absurd hq (nI_ge (by omega) (by decide))) (fun _ => ?_)
      refine g_aload dL_ahead_235 rfl ?_
      refine g_iload dL_ahead_237 rfl ?_
      refine g_aload_n dL_ahead_239 rfl ?_
      refine g_iload dL_ahead_240 rfl ?_
      refine g_iload dL_ahead_242 rfl ?_
      refine g_lcH 1 (M := ML_ahead) (pc := 244) (Y := YL_iceIn) (gIn_SH ml_L_256 wt_L_iceIn ini_L wc_L_iceIn) yn_L_iceIn dL_ahead_244 hb (lRm_of rfl (rm_c (by show _ ≤ 4800; omega) (Nat.le_of_ble_eq_true rfl))) (l_iceIn (j := m) (d := d) hA (by omega) (by omega) (v := (iceN (f (oM m 0)).toUInt32 (f 5) d).toInt32) (by rw [hf])) rfl rfl (Nat.le_of_ble_eq_true rfl) ?_
      intro sh sz V cu su hA hb
      refine g_iastore dL_ahead_247 hA.arr.1 (vp_in_nI (by omega) (by decide)) ?_
      rw [nI_clamp (by omega)]
      have hA := hA.put (k := m) (v := .int (iceN (f (oM m 0)).toUInt32 (f 5) d).toInt32) hfr (by show ¬ 20 = 8; decide)
      rw [upd_fun] at hA
      refine g_iinc dL_ahead_248 rfl (by first | exact nI_inc _ | rfl) (by decide) rfl ?_
      show G _ _ _ _ _ _ _ _ _ [_, _, _, _, _, _, _, _, _, _, _, _] _
      refine g_jump (tgt := 228) dL_ahead_251 (by decide) ?_
      refine (ih (m + 1) (by omega) _ (fun i hi => ?_) _ _ _).go hA hb (by omega)
      by_cases y : i = m
      · subst y
        exact pk_us
      · rw [pk_un y]
        exact hth i (by omega)
  intro sh sz V cu su hA hb
  have hfr : ∀ q ∈ A, q.1 ≠ sz := fun q hq => Nat.ne_of_lt (hA.2.2.2.2 q hq).2.1
  obtain ⟨t, ht⟩ : ∃ t, t = sz := ⟨sz, rfl⟩
  have hA := hA.new (t := (20, 12)) (F := fun _ => defaultValue (gty 20))
  rw [← ht] at hfr
  refine g_bipush (v := nI 12) dL_ahead_211 (by decide) ?_
  refine g_newa 20 (atype := .int) rfl (by decide) (by decide) arr_int 12 (by decide) (by decide) (Nat.le_of_ble_eq_true rfl) dL_ahead_213 ⟨by show cu + 1 ≤ 4800; omega, by show su + 12 ≤ 28800; omega⟩ ?_
  have hb : z ≤ sz + 1 ∧ cu + 1 ≤ u + 2 ∧ su + 12 ≤ 6 * (u + 2) := ⟨by omega, by omega, by omega⟩
  refine g_astore dL_ahead_215 (by decide) rfl ?_
  show G _ _ _ _ _ _ _ _ _ [_, _, _, _, _, _, _, _, _, _, _, _] _
  refine g_aload_n dL_ahead_217 rfl ?_
  refine g_bipush (v := nI 10) dL_ahead_218 (by decide) ?_
  refine g_lcV 1 (M := ML_ahead) (pc := 220) (Y := YX6_account) sv_L_182 rfl yn_X6_account 8 (by decide) rfl rfl dL_ahead_220 hb (lRm_of rfl (rm_c (by show _ ≤ 4800; omega) (Nat.le_of_ble_eq_true rfl))) (k_account (w := 10) hA (by decide) (v := goodN f) (by rw [← hf]; rfl)) hA.s9 rfl rfl (Nat.le_of_ble_eq_true rfl) ?_
  intro sh sz V cu su hA hb
  refine g_istore dL_ahead_223 (by decide) rfl ?_
  show G _ _ _ _ _ _ _ _ _ [_, _, _, _, _, _, _, _, _, _, _, _] _
  refine g_iconst (v := nI 0) dL_ahead_225 (by decide) ?_
  refine g_istore dL_ahead_226 (by decide) rfl ?_
  show G _ _ _ _ _ _ _ _ _ [_, _, _, _, _, _, _, _, _, _, _, _] _
  rw [← ht] at hA ⊢
  exact (K228 t hfr 12 0 rfl (fun _ => 0) (fun i hi => absurd hi (Nat.not_lt_zero i)) _ _ _).go hA hb (by omega)
set_option maxRecDepth 100000 in
theorem l_ahead {N : Nat} (hA : LW x S A sh sz V) (hlen : E.2.2.2.2.2.2.1 ≤ 260) (hl : S.2.2.2.2.2.1 = 0) (hD : InvD N S.1) (hN : N ≤ 900000) : MC E YL_ahead [.ref E.2.2.2.2.2.1, .ref x] sh sz V (PLx x A sz (fun S' v => On S.1 S' ∧ v = .int (nI 1))) := by
  have hI := hA.sB
  have hIA := hA.2.1.1
  have h44 := hI.1.2
  obtain ⟨n12, hn12, e12⟩ := ushr_n (clV E 45) (k := 1) (by decide) (by decide)
  obtain ⟨n99, hn99, e99⟩ := ushr_n (clV E 46) (k := 1) (by decide) (by decide)
  obtain ⟨mi, hmi, emi⟩ : ∃ mi, mi < 12 ∧ n12 % 12 = mi := ⟨_, Nat.mod_lt _ (by decide), rfl⟩
  obtain ⟨tn, ht1, ht2, etn⟩ : ∃ tn, 1 ≤ tn ∧ tn ≤ 99 ∧ 1 + n99 % 99 = tn := ⟨_, Nat.le_add_right _ _, by have := Nat.mod_lt n99 (show 0 < 99 by decide); omega, rfl⟩
  have hb0 := br_spec (x := (S.1 (oM mi 0)).toUInt32) (t := S.1 5) (tn := nI tn) (d := 0) (by omega)
  have hok := (hI.2.2.2.1 mi hmi).1
  obtain ⟨p1, p2, -⟩ := fp_bor hok (c := 0) (l := 0) (by omega) (by omega)
  have J432 : ∀ S', On S.1 S' → ∀ v, v = bi (brV S.1 mi (nI tn) = 0) → ∀ a5 a6 a7 a8 a9 a10 a11, GL E ML_ahead (PLx x A sz (fun S' v => On S.1 S' ∧ v = .int (nI 1))) x S' A sz (4600) 432 [some (.ref E.2.2.2.2.2.1), some (.ref x), some (.int (nI mi)), some (.int (nI tn)), some (.int (brV S.1 mi (nI tn))), a5, a6, a7, a8, a9, a10, a11] [.int v, .int (bi (brV S.1 mi (nI tn) = 0))] := by
    intro S' hS v hv a5 a6 a7 a8 a9 a10 a11 sh sz V cu su hA hb
    rw [hv]
    refine g_icmp_ne (tgt := 439) dL_ahead_432 (by decide) (fun hq => absurd hq ((fun q => q rfl))) (fun _ => ?_)
    refine g_iconst (v := nI 1) dL_ahead_435 (by decide) ?_
    refine g_jump (tgt := 440) dL_ahead_436 (by decide) ?_
    exact g_iret rfl nz1 dL_ahead_440 ⟨by show cu ≤ 4800; omega, by show su ≤ 28800; omega⟩ ⟨hb.1, _, _, hA, ⟨hS, rfl⟩, rfl⟩
  have J407 : ∀ S', On S.1 S' → ∀ v, v = bi (brV S.1 mi (nI tn) = 0) → ∀ a5 a6 a7 a8 a9 a10 a11, GL E ML_ahead (PLx x A sz (fun S' v => On S.1 S' ∧ v = .int (nI 1))) x S' A sz (4598) 407 [some (.ref E.2.2.2.2.2.1), some (.ref x), some (.int (nI mi)), some (.int (nI tn)), some (.int (brV S.1 mi (nI tn))), a5, a6, a7, a8, a9, a10, a11] [.int v] := by
    intro S' hS v hv a5 a6 a7 a8 a9 a10 a11 sh sz V cu su hA hb
    rw [hv]
    have hf := hS.1
    refine g_aload_n dL_ahead_407 rfl ?_
    refine g_iload_n dL_ahead_408 rfl ?_
    refine g_lcV 1 (M := ML_ahead) (pc := 409) (Y := YX6_ice) sv_L_145 rfl yn_X6_ice 8 (by decide) rfl rfl dL_ahead_409 hb (lRm_of rfl (rm_c (by show _ ≤ 4800; omega) (Nat.le_of_ble_eq_true rfl))) (k_ice (j := mi) hA hmi) hA.s9 rfl rfl (Nat.le_of_ble_eq_true rfl) ?_
    intro sh sz V cu su hA hb
    refine g_aload_n dL_ahead_412 rfl ?_
    refine g_iload_n dL_ahead_413 rfl ?_
    refine g_lcV 1 (M := ML_ahead) (pc := 414) (Y := YX6_ice) sv_L_145 rfl yn_X6_ice 8 (by decide) rfl rfl dL_ahead_414 hb (lRm_of rfl (rm_c (by show _ ≤ 4800; omega) (Nat.le_of_ble_eq_true rfl))) (k_ice (j := mi) hA hmi) hA.s9 rfl rfl (Nat.le_of_ble_eq_true rfl) ?_
    intro sh sz V cu su hA hb
    rw [hf]
    refine g_fmul dL_ahead_417 p1 ?_
    refine g_ldcf kc_L_190 dL_ahead_418 ?_
    refine g_fmul dL_ahead_420 p2 ?_
    refine g_iload_n dL_ahead_421 rfl ?_
    refine g_i2f dL_ahead_422 ?_
    refine g_fcmp dL_ahead_423 ?_
    have hiff : brV S.1 mi (nI tn) = 0 ↔ brg (S.1 (oM mi 0)).toUInt32 (nI tn) := by
      unfold brV
      by_cases q : brN (S.1 (oM mi 0)).toUInt32 (S.1 5) (nI tn) < 91
      · rw [if_pos q]
        constructor
        · intro y
          exact hb0.1 ((nI_eq (by omega) (by omega)).mp (y.trans nI_0.symm))
        · intro y
          rcases Nat.eq_zero_or_pos (brN (S.1 (oM mi 0)).toUInt32 (S.1 5) (nI tn)) with y2 | y2
          · rw [y2]; exact nI_0
          · exact absurd y (hb0.2 y2)
      · rw [if_neg q]
        exact ⟨fun y => absurd y (by decide), fun y => absurd y (hb0.2 (by omega))⟩
    refine g_if_lt (tgt := 431) dL_ahead_424 (by decide) (fun b1 => ?_) (fun b1 => ?_)
    · refine g_iconst (v := nI 0) dL_ahead_431 (by decide) ?_
      exact (J432 S' hS _ (bi_f (fun q => absurd (hiff.mp q) (Int32.not_le.mpr b1))).symm _ _ _ _ _ _ _).go hA hb (by omega)
    · refine g_iconst (v := nI 1) dL_ahead_427 (by decide) ?_
      refine g_jump (tgt := 432) dL_ahead_428 (by decide) ?_
      exact (J432 S' hS _ (bi_t (hiff.mpr (Int32.not_lt.mp b1))).symm _ _ _ _ _ _ _).go hA hb (by omega)
  have K204 : ∀ (e d : Nat), d + e = 10 → 1 ≤ d → ∀ S', On S.1 S' → ∀ a6 a7 a8 a9 a10 a11, GL E ML_ahead (PLx x A sz (fun S' v => On S.1 S' ∧ v = .int (nI 1))) x S' A sz (460 + 411 * d) 204 [some (.ref E.2.2.2.2.2.1), some (.ref x), some (.int (nI mi)), some (.int (nI tn)), some (.int (brV S.1 mi (nI tn))), some (.int (nI d)), a6, a7, a8, a9, a10, a11] [] := by
    intro e
    induction e with
    | zero =>
      intro d hd hd1 S' hS a6 a7 a8 a9 a10 a11 sh sz V cu su hA hb
      obtain rfl : d = 10 := by omega
      refine g_iload dL_ahead_204 rfl ?_
      refine g_bipush (v := nI 10) dL_ahead_206 (by decide) ?_
      refine g_icmp_ge (tgt := 397) dL_ahead_208 (by decide) (fun _ => ?_) (fun hq => absurd (Int32.le_refl _) hq)
      refine g_iload dL_ahead_397 rfl ?_
      refine g_if_ne (tgt := 406) dL_ahead_399 (by decide) (fun b1 => ?_) (fun b1 => ?_)
      · refine g_iconst (v := nI 0) dL_ahead_406 (by decide) ?_
        exact (J407 S' hS _ (bi_f b1).symm _ _ _ _ _ _ _).go hA hb (by omega)
      · refine g_iconst (v := nI 1) dL_ahead_402 (by decide) ?_
        refine g_jump (tgt := 407) dL_ahead_403 (by decide) ?_
        exact (J407 S' hS _ (bi_t b1).symm _ _ _ _ _ _ _).go hA hb (by omega)
    | succ e ih =>
      intro d hd hd1 S' hS a6 a7 a8 a9 a10 a11 sh sz V cu su hA hb
      refine g_iload dL_ahead_204 rfl ?_
      refine g_bipush (v := nI 10) dL_ahead_206 (by decide) ?_
      refine g_icmp_ge (tgt := 397) dL_ahead_208 (by decide) (fun hq => absurd hq (nI_ge (by omega) (by decide))) (fun _ => ?_)
      refine (ah_d (u := 460 + 411 * d) hmi ht1 ht2 hd1 (by omega) hIA hD hN (by omega) ?_ S' hS _ _ _ _ _ _).go hA hb (by omega)
      intro S2 hS2 a6 a7 a8 a9 a10 a11 sh sz V cu su hA hb
      refine g_iinc dL_ahead_391 rfl (by first | exact nI_inc _ | rfl) (by decide) rfl ?_
      show G _ _ _ _ _ _ _ _ _ [_, _, _, _, _, _, _, _, _, _, _, _] _
      refine g_jump (tgt := 204) dL_ahead_394 (by decide) ?_
      exact (ih (d + 1) (by omega) (by omega) S2 hS2 _ _ _ _ _ _).go hA hb (by omega)
  have K2 : ∀ (d c : Nat), c + d = cnt S.1 → ∀ S', On S.1 S' → ∀ a3 a4 a5 a6 a7 a8 a9 a10 a11, GL E ML_ahead (PLx x A sz (fun S' v => On S.1 S' ∧ v = .int (nI 1))) x S' A sz (62 * c) 2 [some (.ref E.2.2.2.2.2.1), some (.ref x), some (.int (nI c)), a3, a4, a5, a6, a7, a8, a9, a10, a11] [] := by
    intro d
    induction d with
    | zero =>
      intro c hc S' hS a3 a4 a5 a6 a7 a8 a9 a10 a11 sh sz V cu su hA hb
      obtain rfl : c = cnt S.1 := by omega
      refine g_iload_n dL_ahead_2 rfl ?_
      refine g_aload_n dL_ahead_3 rfl ?_
      refine g_iconst (v := nI 2) dL_ahead_4 (by decide) ?_
      refine g_lcV 1 (M := ML_ahead) (pc := 5) (Y := YX6_account) sv_L_182 rfl yn_X6_account 8 (by decide) rfl rfl dL_ahead_5 hb (lRm_of rfl (rm_c (by show _ ≤ 4800; omega) (Nat.le_of_ble_eq_true rfl))) (k_account (w := 2) hA (by decide) (v := nI (cnt S.1)) (by rw [← hS.1]; exact acc2 hA.sB)) hA.s9 rfl rfl (Nat.le_of_ble_eq_true rfl) ?_
      intro sh sz V cu su hA hb
      refine g_icmp_ge (tgt := 167) dL_ahead_8 (by decide) (fun _ => ?_) (fun hq => absurd (Int32.le_refl _) hq)
      refine g_aload_n dL_ahead_167 rfl ?_
      refine g_bipush (v := nI 45) dL_ahead_168 (by decide) ?_
      refine g_lcP (M := ML_ahead) (pc := 170) (Y := YL_cell) ss_L_125 yn_L_cell dL_ahead_170 hb (lRm_of rfl (rm_c (by show _ ≤ 4800; omega) (Nat.le_of_ble_eq_true rfl))) (c_cell (by decide) hlen) rfl rfl (Nat.le_of_ble_eq_true rfl) ?_
      refine g_iconst (v := nI 1) dL_ahead_173 (by decide) ?_
      refine g_iushr dL_ahead_174 e12 ?_
      refine g_bipush (v := nI 12) dL_ahead_175 (by decide) ?_
      refine g_irem dL_ahead_177 (by decide) ?_
      rw [rem_nI hn12 (by decide) (by decide), emi]
      refine g_istore_n dL_ahead_178 (by decide) rfl ?_
      show G _ _ _ _ _ _ _ _ _ [_, _, _, _, _, _, _, _, _, _, _, _] _
      refine g_iconst (v := nI 1) dL_ahead_179 (by decide) ?_
      refine g_aload_n dL_ahead_180 rfl ?_
      refine g_bipush (v := nI 46) dL_ahead_181 (by decide) ?_
      refine g_lcP (M := ML_ahead) (pc := 183) (Y := YL_cell) ss_L_125 yn_L_cell dL_ahead_183 hb (lRm_of rfl (rm_c (by show _ ≤ 4800; omega) (Nat.le_of_ble_eq_true rfl))) (c_cell (by decide) hlen) rfl rfl (Nat.le_of_ble_eq_true rfl) ?_
      refine g_iconst (v := nI 1) dL_ahead_186 (by decide) ?_
      refine g_iushr dL_ahead_187 e99 ?_
      refine g_bipush (v := nI 99) dL_ahead_188 (by decide) ?_
      refine g_irem dL_ahead_190 (by decide) ?_
      rw [rem_nI hn99 (by decide) (by decide)]
      refine g_iadd dL_ahead_191 ?_
      rw [nI_add, etn]
      refine g_istore_n dL_ahead_192 (by decide) rfl ?_
      show G _ _ _ _ _ _ _ _ _ [_, _, _, _, _, _, _, _, _, _, _, _] _
      refine g_aload_n dL_ahead_193 rfl ?_
      refine g_iload_n dL_ahead_194 rfl ?_
      refine g_iload_n dL_ahead_195 rfl ?_
      refine g_lcH 1 (M := ML_ahead) (pc := 196) (Y := YL_bearsIn) (gIn_SH ml_L_254 wt_L_bearsIn ini_L wc_L_bearsIn) yn_L_bearsIn dL_ahead_196 hb (lRm_of rfl (rm_c (by show _ ≤ 4800; omega) (Nat.le_of_ble_eq_true rfl))) (l_bearsIn (j := mi) (t := tn) hA hmi ht1 ht2 (v := brV S.1 mi (nI tn)) (by rw [hS.1])) rfl rfl (Nat.le_of_ble_eq_true rfl) ?_
      intro sh sz V cu su hA hb
      refine g_istore dL_ahead_199 (by decide) rfl ?_
      show G _ _ _ _ _ _ _ _ _ [_, _, _, _, _, _, _, _, _, _, _, _] _
      refine g_iconst (v := nI 1) dL_ahead_201 (by decide) ?_
      refine g_istore dL_ahead_202 (by decide) rfl ?_
      show G _ _ _ _ _ _ _ _ _ [_, _, _, _, _, _, _, _, _, _, _, _] _
      exact (K204 9 1 rfl (Nat.le_refl 1) S' hS _ _ _ _ _ _).go hA hb (by omega)
    | succ d ih =>
      intro c hc S' hS a3 a4 a5 a6 a7 a8 a9 a10 a11 sh sz V cu su hA hb
      refine g_iload_n dL_ahead_2 rfl ?_
      refine g_aload_n dL_ahead_3 rfl ?_
      refine g_iconst (v := nI 2) dL_ahead_4 (by decide) ?_
      refine g_lcV 1 (M := ML_ahead) (pc := 5) (Y := YX6_account) sv_L_182 rfl yn_X6_account 8 (by decide) rfl rfl dL_ahead_5 hb (lRm_of rfl (rm_c (by show _ ≤ 4800; omega) (Nat.le_of_ble_eq_true rfl))) (k_account (w := 2) hA (by decide) (v := nI (cnt S.1)) (by rw [← hS.1]; exact acc2 hA.sB)) hA.s9 rfl rfl (Nat.le_of_ble_eq_true rfl) ?_
      intro sh sz V cu su hA hb
      refine g_icmp_ge (tgt := 167) dL_ahead_8 (by decide) (fun hq => absurd hq (nI_ge (by omega) (by omega))) (fun _ => ?_)
      refine (ah_c (u := 62 * c + 1) (by omega) hI (by omega) ?_ S' hS _ _ _ _ _ _ _ _ _).go hA hb (by omega)
      intro S2 hS2 a3 a4 a5 a6 a7 a8 a9 a10 a11 sh sz V cu su hA hb
      refine g_iinc dL_ahead_161 rfl (by first | exact nI_inc _ | rfl) (by decide) rfl ?_
      show G _ _ _ _ _ _ _ _ _ [_, _, _, _, _, _, _, _, _, _, _, _] _
      refine g_jump (tgt := 2) dL_ahead_164 (by decide) ?_
      exact (ih (c + 1) (by omega) S2 hS2 _ _ _ _ _ _ _ _ _).go hA hb (by omega)
  refine MC.of RL "ahead" rfl (by decide +kernel) rfl 10 [_, _, none, none, none, none, none, none, none, none, none, none] rfl (Nat.le_of_ble_eq_true rfl) ?_
  show G E ML_ahead _ _ _ _ _ _ _ _ _
  refine g_iconst (v := nI 0) dL_ahead_0 (by decide) ?_
  refine g_istore_n dL_ahead_1 (by decide) rfl ?_
  show G _ _ _ _ _ _ _ _ _ [_, _, _, _, _, _, _, _, _, _, _, _] _
  exact (K2 (cnt S.1) 0 (by omega) S ⟨rfl, hl⟩ _ _ _ _ _ _ _ _ _).go hA ⟨Nat.le_refl _, Nat.le_refl _, Nat.le_refl _⟩ (by omega)
end LAHEAD

