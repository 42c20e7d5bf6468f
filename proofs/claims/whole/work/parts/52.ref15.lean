/-! the reference: accounts, is it well, undo, snapshots -/
section REF15
theorem add_sub4 (a1 a2 b1 b2 : Int32) : (a1 + a2) - (b1 + b2) = (a1 - b1) + (a2 - b2) := by
  rw [Int32.sub_eq_add_neg, Int32.neg_add, Int32.sub_eq_add_neg (a := -b1), Int32.sub_eq_add_neg (a := a1), Int32.sub_eq_add_neg (a := a2)]
  ac_rfl
theorem add_subL (a b : Int32) : (a + b) - a = b := by
  rw [Int32.add_comm, Int32.add_sub_cancel]
theorem sI_sub {p q : Nat → Int32} : ∀ {n : Nat}, sI p n - sI q n = sI (fun k => p k - q k) n
  | 0 => by show (nI 0 : Int32) - nI 0 = nI 0; decide
  | n + 1 => by rw [sI_succ, sI_succ, sI_succ, add_sub4, sI_sub]
theorem ov_3 (f : Fl) : sI (fun c => bi (0 ≤ f (oC c 2))) (cnt f) - sI (fun c => bi (dnF f c)) (cnt f) = sI (ovW f (nI 3)) (cnt f) := by
  rw [sI_sub]
  refine sI_cong fun c hc => ?_
  have e : ovW f (nI 3) c = bi (0 ≤ f (oC c 2) ∧ ¬ dnF f c) := if_pos rfl
  rw [e]
  by_cases a : 0 ≤ f (oC c 2)
  · by_cases b : dnF f c
    · rw [bi_t a, bi_t b, bi_f (fun q => q.2 b)]
      rfl
    · rw [bi_t a, bi_f b, bi_t ⟨a, b⟩]
      rfl
  · rw [bi_f a, bi_f (fun q : dnF f c => a q.1), bi_f (fun q => a q.1)]
    rfl
variable {E : gE} {M : gM} {P : gP} {sh : Sh} {sz : Nat} {V V' V1 V2 : Vl} {cu su pc : Nat} {L : List (Option Value)} {rest : List Value} {m : Nat} {f g b : Fl} {th r : Int32} {S : St}
theorem r_account {w : Int32} (h : MS sh V m S th) (hA : InvA S.1) (hP : RI sh m sz V (sp_account S w) P) : MC E YX7_account [.ref m, .int w] sh sz V P := by
  obtain ⟨r, hB⟩ := h
  have h0 := hB.1.1
  obtain ⟨hI, -, hT⟩ := hA
  unfold sp_account at hP
  refine MC.of RX7 "account" rfl (by decide +kernel) rfl 0 [_, _] rfl (Nat.le_of_ble_eq_true rfl) ?_
  show G E MX7_account _ _ _ _ _ _ _ _ _
  refine g_aload_n dX7_account_0 rfl ?_
  refine g_iload_n dX7_account_1 rfl ?_
  refine g_iconst (v := nI 0) dX7_account_2 (by decide) ?_
  refine g_bipush (v := nI 14) dX7_account_3 (by decide) ?_
  refine g_callSp (Y := YX7_in) ss_X7_84 yn_X7_in dX7_account_5 (k_in pR_ok) rfl rfl rfl (Nat.le_of_ble_eq_true rfl) ⟨rfl, rfl⟩ ?_
  rw [in_n w (n := 14) (by decide)]
  refine g_if_eq (tgt := 15) dX7_account_8 (by decide) (fun b1 => ?_) (fun b1 => ?_)
  · rw [if_neg (bi_eq b1)] at hP
    refine g_iconst (v := nI 1) dX7_account_15 (by decide) ?_
    refine g_put 9 rfl (by decide) inX7 tyX7 tyX7_ok nmX7 7 (by decide) fl_X7_45 rfl dX7_account_16 h0 rfl rfl ?_
    refine g_aload_n dX7_account_19 rfl ?_
    refine g_get 9 rfl (by decide) inX7 7 (by decide) fl_X7_45 dX7_account_20 h0 (hu_at _ _ _ _) ?_
    refine g_if_le (tgt := 28) dX7_account_23 (by decide) (fun hq => absurd hq ((by decide))) (fun _ => ?_)
    refine g_iconst (v := nI 0) dX7_account_26 (by decide) ?_
    exact g_iret rfl (nr_int _) dX7_account_27 (by decide) (hP.t7 hB (fun z => absurd z (Nat.succ_ne_zero _)))
  rw [if_pos (bi_ne b1)] at hP
  obtain ⟨k, hk, rfl⟩ := in_nI (bi_ne b1).1 (bi_ne b1).2 (by decide)
  refine g_iconst (v := nI 0) dX7_account_11 (by decide) ?_
  refine g_jump (tgt := 16) dX7_account_12 (by decide) ?_
  refine g_put 9 rfl (by decide) inX7 tyX7 tyX7_ok nmX7 7 (by decide) fl_X7_45 rfl dX7_account_16 h0 rfl rfl ?_
  refine g_aload_n dX7_account_19 rfl ?_
  refine g_get 9 rfl (by decide) inX7 7 (by decide) fl_X7_45 dX7_account_20 h0 (hu_at _ _ _ _) ?_
  refine g_if_le (tgt := 28) dX7_account_23 (by decide) (fun _ => ?_) (fun hq => absurd (Int32.le_refl _) hq)
  have hM : MB sh (hu V m 7 (.int (nI 0))) m S.1 0 r S := hB.thr
  have hw : Mf V (hu V m 7 (.int (nI 0))) m := fun a ha => hu_ne _ _ _ (by omega)
  generalize hu V m 7 (.int (nI 0)) = V1 at hM hw ⊢
  have hS := hM.1
  refine g_iload_n dX7_account_28 rfl ?_
  unfold accV at hP
  rcases (show k = 0 ∨ k = 1 ∨ k = 2 ∨ k = 3 ∨ k = 4 ∨ k = 5 ∨ k = 6 ∨ k = 7 ∨ k = 8 ∨ k = 9 ∨ k = 10 ∨ k = 11 ∨ k = 12 ∨ k = 13 ∨ k = 14 by omega) with rfl | rfl | rfl | rfl | rfl | rfl | rfl | rfl | rfl | rfl | rfl | rfl | rfl | rfl | rfl
  · rw [if_pos rfl] at hP
    refine g_tableIn (off := 71) (tgt := 100) dX7_account_29 (by decide) (by decide) (by decide +kernel) (by decide) ?_
    refine g_aload_n dX7_account_100 rfl ?_
    refine g_get 9 rfl (by decide) inX7 0 (by decide) fl_X7_9 dX7_account_101 h0 hS.2.2.1 ?_
    refine g_iconst (v := nI 0) dX7_account_104 (by decide) ?_
    refine g_iaload dX7_account_105 hS.2.1 (vp_in_nI (by decide) (by decide)) (hS.rd (k := 0) (by decide)) ?_
    exact g_iret rfl (nr_int _) dX7_account_106 (by decide) (hP.re rfl _ hw hM)
  · rw [if_neg (by decide), if_pos rfl] at hP
    refine g_tableIn (off := 78) (tgt := 107) dX7_account_29 (by decide) (by decide) (by decide +kernel) (by decide) ?_
    refine g_aload_n dX7_account_107 rfl ?_
    refine g_callVp (Y := YX7_inRows) sv_X7_258 rfl yn_X7_inRows 9 (by decide) rfl rfl dX7_account_108 (k_inRows hS hI pR_ok) h0 rfl rfl rfl (Nat.le_of_ble_eq_true rfl) ⟨rfl, rfl⟩ ?_
    exact g_iret rfl (nr_int _) dX7_account_111 (by decide) (hP.re rfl _ hw hM)
  · rw [if_neg (by decide), if_neg (by decide), if_pos rfl] at hP
    refine g_tableIn (off := 83) (tgt := 112) dX7_account_29 (by decide) (by decide) (by decide +kernel) (by decide) ?_
    refine g_aload_n dX7_account_112 rfl ?_
    refine g_get 9 rfl (by decide) inX7 0 (by decide) fl_X7_9 dX7_account_113 h0 hS.2.2.1 ?_
    refine g_iconst (v := nI 1) dX7_account_116 (by decide) ?_
    refine g_iaload dX7_account_117 hS.2.1 (vp_in_nI (by decide) (by decide)) (hS.rd (k := 1) (by decide)) ?_
    exact g_iret rfl (nr_int _) dX7_account_118 (by decide) (hP.re rfl _ hw hM)
  · rw [if_neg (by decide), if_neg (by decide), if_neg (by decide), if_pos rfl, ov_3] at hP
    refine g_tableIn (off := 90) (tgt := 119) dX7_account_29 (by decide) (by decide) (by decide +kernel) (by decide) ?_
    refine g_aload_n dX7_account_119 rfl ?_
    refine g_iload_n dX7_account_120 rfl ?_
    refine g_callVp (Y := YX7_overConvoys) sv_X7_261 rfl yn_X7_overConvoys 9 (by decide) rfl rfl dX7_account_121 (k_overConvoys hS hI pR_ok) h0 rfl rfl rfl (Nat.le_of_ble_eq_true rfl) ⟨rfl, rfl⟩ ?_
    exact g_iret rfl (nr_int _) dX7_account_124 (by decide) (hP.re rfl _ hw hM)
  · rw [if_neg (by decide), if_neg (by decide), if_neg (by decide), if_neg (by decide), if_pos rfl] at hP
    refine g_tableIn (off := 90) (tgt := 119) dX7_account_29 (by decide) (by decide) (by decide +kernel) (by decide) ?_
    refine g_aload_n dX7_account_119 rfl ?_
    refine g_iload_n dX7_account_120 rfl ?_
    refine g_callVp (Y := YX7_overConvoys) sv_X7_261 rfl yn_X7_overConvoys 9 (by decide) rfl rfl dX7_account_121 (k_overConvoys hS hI pR_ok) h0 rfl rfl rfl (Nat.le_of_ble_eq_true rfl) ⟨rfl, rfl⟩ ?_
    exact g_iret rfl (nr_int _) dX7_account_124 (by decide) (hP.re rfl _ hw hM)
  · rw [if_neg (by decide), if_neg (by decide), if_neg (by decide), if_neg (by decide), if_neg (by decide), if_pos rfl] at hP
    refine g_tableIn (off := 90) (tgt := 119) dX7_account_29 (by decide) (by decide) (by decide +kernel) (by decide) ?_
    refine g_aload_n dX7_account_119 rfl ?_
    refine g_iload_n dX7_account_120 rfl ?_
    refine g_callVp (Y := YX7_overConvoys) sv_X7_261 rfl yn_X7_overConvoys 9 (by decide) rfl rfl dX7_account_121 (k_overConvoys hS hI pR_ok) h0 rfl rfl rfl (Nat.le_of_ble_eq_true rfl) ⟨rfl, rfl⟩ ?_
    exact g_iret rfl (nr_int _) dX7_account_124 (by decide) (hP.re rfl _ hw hM)
  · rw [if_neg (by decide), if_neg (by decide), if_neg (by decide), if_neg (by decide), if_neg (by decide), if_neg (by decide), if_pos rfl] at hP
    refine g_tableIn (off := 90) (tgt := 119) dX7_account_29 (by decide) (by decide) (by decide +kernel) (by decide) ?_
    refine g_aload_n dX7_account_119 rfl ?_
    refine g_iload_n dX7_account_120 rfl ?_
    refine g_callVp (Y := YX7_overConvoys) sv_X7_261 rfl yn_X7_overConvoys 9 (by decide) rfl rfl dX7_account_121 (k_overConvoys hS hI pR_ok) h0 rfl rfl rfl (Nat.le_of_ble_eq_true rfl) ⟨rfl, rfl⟩ ?_
    exact g_iret rfl (nr_int _) dX7_account_124 (by decide) (hP.re rfl _ hw hM)
  · rw [if_neg (by decide), if_neg (by decide), if_neg (by decide), if_neg (by decide), if_neg (by decide), if_neg (by decide), if_neg (by decide), if_pos rfl] at hP
    refine g_tableIn (off := 96) (tgt := 125) dX7_account_29 (by decide) (by decide) (by decide +kernel) (by decide) ?_
    refine g_aload_n dX7_account_125 rfl ?_
    refine g_get 9 rfl (by decide) inX7 0 (by decide) fl_X7_9 dX7_account_126 h0 hS.2.2.1 ?_
    refine g_iconst (v := nI 4) dX7_account_129 (by decide) ?_
    refine g_iaload dX7_account_130 hS.2.1 (vp_in_nI (by decide) (by decide)) (hS.rd (k := 4) (by decide)) ?_
    exact g_iret rfl (nr_int _) dX7_account_131 (by decide) (hP.re rfl _ hw hM)
  · rw [if_neg (by decide), if_neg (by decide), if_neg (by decide), if_neg (by decide), if_neg (by decide), if_neg (by decide), if_neg (by decide), if_neg (by decide), if_pos rfl, hT, add_subL] at hP
    refine g_tableIn (off := 103) (tgt := 132) dX7_account_29 (by decide) (by decide) (by decide +kernel) (by decide) ?_
    refine g_aload_n dX7_account_132 rfl ?_
    refine g_callVp (Y := YX7_waitingTonnes) sv_X7_264 rfl yn_X7_waitingTonnes 9 (by decide) rfl rfl dX7_account_133 (k_waitingTonnes hS hI pR_ok) h0 rfl rfl rfl (Nat.le_of_ble_eq_true rfl) ⟨rfl, rfl⟩ ?_
    exact g_iret rfl (nr_int _) dX7_account_136 (by decide) (hP.re rfl _ hw hM)
  · rw [if_neg (by decide), if_neg (by decide), if_neg (by decide), if_neg (by decide), if_neg (by decide), if_neg (by decide), if_neg (by decide), if_neg (by decide), if_neg (by decide), if_pos rfl] at hP
    refine g_tableIn (off := 108) (tgt := 137) dX7_account_29 (by decide) (by decide) (by decide +kernel) (by decide) ?_
    refine g_aload_n dX7_account_137 rfl ?_
    refine g_callVp (Y := YX7_allCracks) sv_X7_267 rfl yn_X7_allCracks 9 (by decide) rfl rfl dX7_account_138 (k_allCracks hS pR_ok) h0 rfl rfl rfl (Nat.le_of_ble_eq_true rfl) ⟨rfl, rfl⟩ ?_
    exact g_iret rfl (nr_int _) dX7_account_141 (by decide) (hP.re rfl _ hw hM)
  · rw [if_neg (by decide), if_neg (by decide), if_neg (by decide), if_neg (by decide), if_neg (by decide), if_neg (by decide), if_neg (by decide), if_neg (by decide), if_neg (by decide), if_neg (by decide), if_pos rfl] at hP
    refine g_tableIn (off := 113) (tgt := 142) dX7_account_29 (by decide) (by decide) (by decide +kernel) (by decide) ?_
    refine g_aload_n dX7_account_142 rfl ?_
    refine g_callVp (Y := YX7_goodMany) sv_X7_201 rfl yn_X7_goodMany 9 (by decide) rfl rfl dX7_account_143 (k_goodMany hS pR_ok) h0 rfl rfl rfl (Nat.le_of_ble_eq_true rfl) ⟨rfl, rfl⟩ ?_
    exact g_iret rfl (nr_int _) dX7_account_146 (by decide) (hP.re rfl _ hw hM)
  · rw [if_neg (by decide), if_neg (by decide), if_neg (by decide), if_neg (by decide), if_neg (by decide), if_neg (by decide), if_neg (by decide), if_neg (by decide), if_neg (by decide), if_neg (by decide), if_neg (by decide), if_pos rfl] at hP
    refine g_tableIn (off := 118) (tgt := 147) dX7_account_29 (by decide) (by decide) (by decide +kernel) (by decide) ?_
    refine g_aload_n dX7_account_147 rfl ?_
    refine g_get 9 rfl (by decide) inX7 0 (by decide) fl_X7_9 dX7_account_148 h0 hS.2.2.1 ?_
    refine g_iconst (v := nI 2) dX7_account_151 (by decide) ?_
    refine g_iaload dX7_account_152 hS.2.1 (vp_in_nI (by decide) (by decide)) (hS.rd (k := 2) (by decide)) ?_
    exact g_iret rfl (nr_int _) dX7_account_153 (by decide) (hP.re rfl _ hw hM)
  · rw [if_neg (by decide), if_neg (by decide), if_neg (by decide), if_neg (by decide), if_neg (by decide), if_neg (by decide), if_neg (by decide), if_neg (by decide), if_neg (by decide), if_neg (by decide), if_neg (by decide), if_neg (by decide), if_pos rfl] at hP
    refine g_tableIn (off := 125) (tgt := 154) dX7_account_29 (by decide) (by decide) (by decide +kernel) (by decide) ?_
    refine g_aload_n dX7_account_154 rfl ?_
    refine g_get 9 rfl (by decide) inX7 0 (by decide) fl_X7_9 dX7_account_155 h0 hS.2.2.1 ?_
    refine g_iconst (v := nI 3) dX7_account_158 (by decide) ?_
    refine g_iaload dX7_account_159 hS.2.1 (vp_in_nI (by decide) (by decide)) (hS.rd (k := 3) (by decide)) ?_
    exact g_iret rfl (nr_int _) dX7_account_160 (by decide) (hP.re rfl _ hw hM)
  · rw [if_neg (by decide), if_neg (by decide), if_neg (by decide), if_neg (by decide), if_neg (by decide), if_neg (by decide), if_neg (by decide), if_neg (by decide), if_neg (by decide), if_neg (by decide), if_neg (by decide), if_neg (by decide), if_neg (by decide), if_pos rfl] at hP
    refine g_tableIn (off := 132) (tgt := 161) dX7_account_29 (by decide) (by decide) (by decide +kernel) (by decide) ?_
    refine g_aload_n dX7_account_161 rfl ?_
    refine g_get 9 rfl (by decide) inX7 12 (by decide) fl_X7_211 dX7_account_162 h0 hM.2.1.2.1.2.2.2.2.2.2.2.2.2.1 ?_
    exact g_iret rfl (nr_int _) dX7_account_165 (by decide) (hP.re rfl _ hw hM)
  · rw [if_neg (by decide), if_neg (by decide), if_neg (by decide), if_neg (by decide), if_neg (by decide), if_neg (by decide), if_neg (by decide), if_neg (by decide), if_neg (by decide), if_neg (by decide), if_neg (by decide), if_neg (by decide), if_neg (by decide), if_neg (by decide)] at hP
    refine g_tableOut (tgt := 166) dX7_account_29 (Or.inr (by decide)) (by decide) ?_
    refine g_aload_n dX7_account_166 rfl ?_
    refine g_get 9 rfl (by decide) inX7 6 (by decide) fl_X7_54 dX7_account_167 h0 hM.2.1.2.1.2.2.2.2.2.1 ?_
    exact g_iret rfl (nr_int _) dX7_account_170 (by decide) (hP.re rfl _ hw hM)
/-- a mile has one convoy -/
theorem one_who (hI : InvB f) (hO : One f) {j c k : Nat} (hj : j < 12) (hc : c < cnt f) (hp : paF f c (nI j) = nI k) (hk : k < ncv f c) : ¬ tkn f (nI j) (nI c) := by
  have h44 := hI.1.2
  rintro ⟨d, hd, hne, h0⟩
  have key : ∀ e, e < cnt f → 0 ≤ paF f e (nI j) → ∃ k, k < ncv f e ∧ mt (f (oC e 2)) (f (oC e 0)) k = nI j := by
    intro e he h
    have hs : 0 ≤ f (oC e 2) := Classical.byContradiction fun q => paF_ns (hI.cv he) q (nI_pos' (by omega)) h
    obtain ⟨k, hk, -, h2, -⟩ := fstI_nI h
    exact ⟨k, hk, by rw [mt_st hs]; exact of_decide_eq_true h2⟩
  obtain ⟨k1, a1, b1⟩ := key c hc (by rw [hp]; exact nI_pos' (by have := (hI.cv hc).2.2.1; omega))
  obtain ⟨k2, a2, b2⟩ := key d hd h0
  exact hne (by rw [(hO c d k1 k2 j hc hd a1 a2 hj b1 b2).1])
set_option maxRecDepth 100000 in
theorem r_isWell (h : MS sh V m S th) (hA : InvA S.1) (hP : RI sh m sz V (sp_isWell S) P) : MC E YX7_isWell [.ref m] sh sz V P := by
  obtain ⟨r, hB⟩ := h
  have h0 := hB.1.1
  obtain ⟨hI, hO, hT⟩ := hA
  have h44 := hI.1.2
  unfold sp_isWell at hP
  refine MC.of RX7 "isWell" rfl (by decide +kernel) rfl 3 [_, none, none, none] rfl (Nat.le_of_ble_eq_true rfl) ?_
  show G E MX7_isWell _ _ _ _ _ _ _ _ _
  refine g_aload_n dX7_isWell_0 rfl ?_
  refine g_iconst (v := nI 0) dX7_isWell_1 (by decide) ?_
  refine g_put 9 rfl (by decide) inX7 tyX7 tyX7_ok nmX7 7 (by decide) fl_X7_45 rfl dX7_isWell_2 h0 rfl rfl ?_
  have hM : MB sh (hu V m 7 (.int (nI 0))) m S.1 0 r S := hB.thr
  have hw : Mf V (hu V m 7 (.int (nI 0))) m := fun a ha => hu_ne _ _ _ (by omega)
  generalize hu V m 7 (.int (nI 0)) = V1 at hM hw ⊢
  have hS := hM.1
  refine g_aload_n dX7_isWell_5 rfl ?_
  refine g_get 9 rfl (by decide) inX7 0 (by decide) fl_X7_9 dX7_isWell_6 h0 hS.2.2.1 ?_
  refine g_iconst (v := nI 3) dX7_isWell_9 (by decide) ?_
  refine g_iaload dX7_isWell_10 hS.2.1 (vp_in_nI (by decide) (by decide)) (hS.rd (k := 3) (by decide)) ?_
  refine g_aload_n dX7_isWell_11 rfl ?_
  refine g_get 9 rfl (by decide) inX7 0 (by decide) fl_X7_9 dX7_isWell_12 h0 hS.2.2.1 ?_
  refine g_iconst (v := nI 4) dX7_isWell_15 (by decide) ?_
  refine g_iaload dX7_isWell_16 hS.2.1 (vp_in_nI (by decide) (by decide)) (hS.rd (k := 4) (by decide)) ?_
  refine g_aload_n dX7_isWell_17 rfl ?_
  refine g_callVp (Y := YX7_waitingTonnes) sv_X7_264 rfl yn_X7_waitingTonnes 9 (by decide) rfl rfl dX7_isWell_18 (k_waitingTonnes hS hI pR_ok) h0 rfl rfl rfl (Nat.le_of_ble_eq_true rfl) ⟨rfl, rfl⟩ ?_
  refine g_iadd dX7_isWell_21 ?_
  refine g_icmp_ne (tgt := 29) dX7_isWell_22 (by decide) (fun hq => absurd hq ((fun q => q hT))) (fun _ => ?_)
  refine g_iconst (v := nI 1) dX7_isWell_25 (by decide) ?_
  refine g_jump (tgt := 30) dX7_isWell_26 (by decide) ?_
  refine g_istore_n dX7_isWell_30 (by decide) rfl ?_
  show G _ _ _ _ _ _ _ _ _ [_, _, _, _] _
  refine g_iconst (v := nI 0) dX7_isWell_31 (by decide) ?_
  refine g_istore_n dX7_isWell_32 (by decide) rfl ?_
  show G _ _ _ _ _ _ _ _ _ [_, _, _, _] _
  suffices K : ∀ (d j : Nat), j + d = 12 → ∀ z, G E MX7_isWell P sh sz V1 0 0 33 [some (.ref m), some (.int (nI 1)), some (.int (nI j)), z] [] from K 12 0 rfl _
  intro d
  induction d with
  | zero =>
    intro j hj z
    have e : j = 12 := by omega
    subst e
    refine g_iload_n dX7_isWell_33 rfl ?_
    refine g_bipush (v := nI 12) dX7_isWell_34 (by decide) ?_
    refine g_icmp_ge (tgt := 99) dX7_isWell_36 (by decide) (fun _ => ?_) (fun hq => absurd (Int32.le_refl _) hq)
    refine g_iload_n dX7_isWell_99 rfl ?_
    exact g_iret rfl nz1 dX7_isWell_100 (by decide) (hP.re rfl _ hw hM)
  | succ d ih =>
    intro j hjd z
    have hj : j < 12 := by omega
    have hice := (hI.2.2.2.1 j hj).1
    have c2 := okI_cmp2 hice
    have tail : G E MX7_isWell P sh sz V1 0 0 87 [some (.ref m), some (.int (nI 1)), some (.int (nI j)), some (.int (whoV S.1 (nI j) (-1)))] [] := by
      have ih := ih (j + 1) (by omega) (some (.int (whoV S.1 (nI j) (-1))))
      refine g_iconst (v := nI 1) dX7_isWell_87 (by decide) ?_
      refine g_jump (tgt := 92) dX7_isWell_88 (by decide) ?_
      refine g_istore_n dX7_isWell_92 (by decide) rfl ?_
      show G _ _ _ _ _ _ _ _ _ [_, _, _, _] _
      refine g_iinc dX7_isWell_93 rfl (by first | exact nI_inc _ | rfl) (by decide) rfl ?_
      show G _ _ _ _ _ _ _ _ _ [_, _, _, _] _
      refine g_jump (tgt := 33) dX7_isWell_96 (by decide) ?_
      exact ih
    refine g_iload_n dX7_isWell_33 rfl ?_
    refine g_bipush (v := nI 12) dX7_isWell_34 (by decide) ?_
    refine g_icmp_ge (tgt := 99) dX7_isWell_36 (by decide) (fun hq => absurd hq (nI_ge (by omega) (by omega))) (fun _ => ?_)
    refine g_aload_n dX7_isWell_39 rfl ?_
    refine g_iload_n dX7_isWell_40 rfl ?_
    refine g_iconst (v := (-1)) dX7_isWell_41 (by decide) ?_
    refine g_callVp (Y := YX7_whoIsAt) sv_X7_120 rfl yn_X7_whoIsAt 9 (by decide) rfl rfl dX7_isWell_42 (k_whoIsAt hS hI (nI_pos' (by omega)) pR_ok) h0 rfl rfl rfl (Nat.le_of_ble_eq_true rfl) ⟨rfl, rfl⟩ ?_
    refine g_istore_n dX7_isWell_45 (by decide) rfl ?_
    show G _ _ _ _ _ _ _ _ _ [_, _, _, _] _
    refine g_iload_n dX7_isWell_46 rfl ?_
    refine g_if_eq (tgt := 91) dX7_isWell_47 (by decide) (fun hq => absurd hq ((by decide))) (fun _ => ?_)
    refine g_aload_n dX7_isWell_50 rfl ?_
    refine g_iload_n dX7_isWell_51 rfl ?_
    refine g_callVp (Y := YX7_iceOf) sv_X7_114 rfl yn_X7_iceOf 9 (by decide) rfl rfl dX7_isWell_52 (k_iceOf hS hj hice pR_ok) h0 rfl rfl rfl (Nat.le_of_ble_eq_true rfl) ⟨rfl, rfl⟩ ?_
    refine g_fconst0 dX7_isWell_55 ?_
    refine g_fcmp dX7_isWell_56 ?_
    refine g_if_lt (tgt := 91) dX7_isWell_57 (by decide) (fun hq => absurd hq (c2.1)) (fun _ => ?_)
    refine g_aload_n dX7_isWell_60 rfl ?_
    refine g_iload_n dX7_isWell_61 rfl ?_
    refine g_callVp (Y := YX7_iceOf) sv_X7_114 rfl yn_X7_iceOf 9 (by decide) rfl rfl dX7_isWell_62 (k_iceOf hS hj hice pR_ok) h0 rfl rfl rfl (Nat.le_of_ble_eq_true rfl) ⟨rfl, rfl⟩ ?_
    refine g_ldcf kc_X7_193 dX7_isWell_65 ?_
    refine g_fcmp dX7_isWell_67 ?_
    refine g_if_gt (tgt := 91) dX7_isWell_68 (by decide) (fun hq => absurd hq ((Int32.not_lt.mpr c2.2))) (fun _ => ?_)
    refine g_iload_n dX7_isWell_71 rfl ?_
    refine g_if_lt (tgt := 87) dX7_isWell_72 (by decide) (fun b1 => ?_) (fun b1 => ?_)
    · exact tail
    have ht : tkn S.1 (nI j) (-1) := Classical.byContradiction fun q => b1 ((whoV_neg hI).mpr q)
    refine g_aload_n dX7_isWell_75 rfl ?_
    refine g_iload_n dX7_isWell_76 rfl ?_
    refine g_iload_n dX7_isWell_77 rfl ?_
    refine g_bipush (v := nI 10) dX7_isWell_78 (by decide) ?_
    refine g_idiv dX7_isWell_80 (by decide) ?_
    have hlt : fa_first (fun c => cb (nI c ≠ -1 ∧ 0 ≤ paF S.1 c (nI j))) (cnt S.1) < cnt S.1 := by
      refine Classical.byContradiction fun q => b1 ?_
      have e : whoV S.1 (nI j) (-1) = -1 := if_neg q
      rw [e]
      decide
    have hy := cb_iff.mp (fa_first_yes (fun c => cb (nI c ≠ -1 ∧ 0 ≤ paF S.1 c (nI j))) _ hlt)
    have e : whoV S.1 (nI j) (-1) = nI 10 * nI (fa_first (fun c => cb (nI c ≠ -1 ∧ 0 ≤ paF S.1 c (nI j))) (cnt S.1)) + paF S.1 (fa_first (fun c => cb (nI c ≠ -1 ∧ 0 ≤ paF S.1 c (nI j))) (cnt S.1)) (nI j) := if_pos hlt
    generalize fa_first (fun c => cb (nI c ≠ -1 ∧ 0 ≤ paF S.1 c (nI j))) (cnt S.1) = c at hlt hy e
    obtain ⟨k, hk, ek, -⟩ := fstI_nI hy.2
    have ek : paF S.1 c (nI j) = nI k := ek
    have i2 := (hI.cv hlt).2.2.1
    have e10 : whoV S.1 (nI j) (-1) / nI 10 = nI c := by
      rw [e, ek, pk_mul, nI_add, pk_div (by omega) (by decide) (by decide), show (10 * c + k) / 10 = c by omega]
    rw [e10]
    refine g_callVp (Y := YX7_whoIsAt) sv_X7_120 rfl yn_X7_whoIsAt 9 (by decide) rfl rfl dX7_isWell_81 (k_whoIsAt hS hI (nI_pos' (by omega)) pR_ok) h0 rfl rfl rfl (Nat.le_of_ble_eq_true rfl) ⟨rfl, rfl⟩ ?_
    refine g_if_ge (tgt := 91) dX7_isWell_84 (by decide) (fun hq => absurd hq ((fun q => absurd ((whoV_neg hI).mpr (one_who hI hO hj hlt ek hk)) (Int32.not_lt.mpr q)))) (fun _ => ?_)
    exact tail
end REF15

