/-! the law's reasons -/
section LREAS
variable {E : gE} {P : gP} {sh : Sh} {sz : Nat} {V : Vl} {x z u c : Nat} {S : St} {A : La} {f : Fl}
theorem e100_at {z : Int32 × Int32} (hz : codeOk z) : e100 z / nI 100 = z.1 ∧ e100 z - e100 z / nI 100 * nI 100 = z.2 ∧ (e100 z ≤ 0 ↔ z = (nI 0, nI 0)) ∧ (¬ z = (nI 0, nI 0) → ¬ z.1 = nI 0) := by
  rcases hz with rfl | ⟨a, b, a1, a2, hb, rfl⟩
  · decide +kernel
  · have e : e100 (nI a, nI b) = nI (a * 100 + b) := by
      unfold e100
      rw [pk_mul, nI_add]
    have d1 : (a * 100 + b) / 100 = a := by omega
    have d2 : (a * 100 + b) % 100 = b := by omega
    have hne : ¬ (nI a, nI b) = (nI 0, nI 0) := fun q => nI_ne0 (by omega) (by omega) ((Prod.mk.inj q).1.trans nI_0)
    rw [e]
    refine ⟨by rw [pk_div (by omega) (by decide) (by decide), d1], by rw [pk_rem (by omega) (by decide) (by decide), d2], ⟨fun q => absurd q (nI_nle (by omega) (by omega)), fun q => absurd q hne⟩, fun _ q => nI_ne0 (by omega) (by omega) (q.trans nI_0)⟩
theorem refV_0 {z : Int32 × Int32} (h : ¬ z.1 = nI 0) : refV z (nI 0) = z.1 ∧ refV z (nI 1) = z.2 := by
  unfold refV
  rw [if_neg h, if_neg h]
  exact ⟨if_pos rfl, if_neg (by decide)⟩
/-- how many come to miles with the next lead -/
def cmN (f : Fl) (c k : Nat) : Nat := fb_ct (fun i => decide (isM (mw (f (oC c 2) + nI 1) (f (oC c 0)) i))) k
theorem onR_adv (hI : InvB f) (hc : c < cnt f) (hl : 0 ≤ f (oC c 2)) : onR (advF f c) c = cmN f c (ncv f c) := by
  obtain ⟨g, g1, g2, eg, ⟨b, -⟩ | ⟨l, hl2, -, b, -⟩⟩ := mt_or hI hc
  · rw [b] at hl
    exact absurd hl (by decide)
  · unfold onR cmN
    have e1 : ncv (advF f c) c = ncv f c := advN_ncv
    have e2 : advF f c (oC c 2) = f (oC c 2) + nI 1 := advN_ld
    have e3 : advF f c (oC c 0) = f (oC c 0) := advN_c (Or.inr (by decide)) (by decide)
    rw [e1, e2, e3]
    refine fb_ct_cong (fun k hk => ?_)
    rw [mt_st (by rw [b, nI_add]; exact nI_pos' (by omega))]
theorem advF_W (hI : InvB f) (hW : InvW f) : InvW (advF f c) := by
  unfold InvW at hW ⊢
  have e3 : advF f c 3 = f 3 := (advN_out (by decide) (by omega)).trans (pk_un (by unfold oC; omega))
  have er : rwF (advF f c) = rwF f := sI_cong fun k hk => (advN_out (by unfold oR; omega) (by unfold oR; omega)).trans (pk_un (by unfold oR oC; omega))
  have ec : cnt (advF f c) = cnt f := advN_cnt
  rw [e3, er, ec, hW]
  congr 1
  refine (sI_cong fun d hd => ?_).symm
  unfold wgF
  rw [show ncv (advF f c) d = ncv f d from advN_ncv]
  refine sI_cong fun k hk => ?_
  show advN f c (ncv f c) (oC d (5 + 3 * k)) = f (oC d (5 + 3 * k))
  have := (hI.cv hd).2.2.1
  exact advN_c (Or.inr (by omega)) (by omega)
theorem u3_W {d : Nat} {y : Int32} (hI : InvB f) (hW : InvW f) : InvW (upd f (oC d 3) y) := by
  unfold InvW at hW ⊢
  rw [u3_out (by unfold oC; omega), u3_cnt, hW]
  have er : rwF (upd f (oC d 3) y) = rwF f := sI_cong fun k hk => u3_out (by unfold oR oC; omega)
  rw [er]
  congr 1
  refine (sI_cong fun e he => ?_).symm
  unfold wgF
  rw [u3_ncv]
  have := (hI.cv he).2.2.1
  exact sI_cong fun k hk => u3_out (by unfold oC; omega)
theorem startF_W (hI : InvB f) (hI2 : InvB (upd f (oC c 3) (nI 1))) (hW : InvW f) : InvW (startF f c) := advF_W hI2 (u3_W hI hW)
/-- what a start leaves of a convoy -/
theorem startF_c {d i : Nat} (h1 : d ≠ c ∨ (i ≠ 2 ∧ i ≠ 3)) (hi : i < 16) : startF f c (oC d i) = f (oC d i) := by
  unfold startF
  exact (advN_c (by omega) hi).trans (u3_out (by unfold oC; omega))
theorem startF_ld : startF f c (oC c 2) = f (oC c 2) + nI 1 := by
  unfold startF
  refine advN_ld.trans ?_
  rw [u3_out (by unfold oC; omega)]
theorem startF_cnt : cnt (startF f c) = cnt f := advN_cnt.trans u3_cnt
theorem startF_ncv {d : Nat} : ncv (startF f c) d = ncv f d := advN_ncv.trans u3_ncv
theorem pC_sm (cn : Nat) : 0 ≤ nI (pC cn - 1) := nI_pos' (by unfold pC; split <;> omega)
/-- a state of the road f, its input empty -/
def On (f : Fl) (S : St) : Prop := S.1 = f ∧ S.2.2.2.2.2.1 = 0
theorem On.refu {q : Int32 × Int32} (h : On f S) : On f (refu S q) := h
theorem On.und {g : Fl} (h : On f S) : On f (undS (push S g)) := ⟨(undS_push g).trans h.1, h.2⟩
theorem re_b (hc : c < cnt f) (hI : InvB f) (hu : u + 100 ≤ 2400) (kk : ∀ S, On f S → ∀ a2 a3 a4 a5 a6 a7, GL E ML_reasons P x S A z (u + 60) 353 [some (.ref x), some (.int (nI c)), a2, a3, a4, a5, a6, a7] []) : ∀ S, On f S → ∀ a3 a4 (i5 : Int32) a6 a7, GL E ML_reasons P x S A z (u) 227 [some (.ref x), some (.int (nI c)), some (.int (f (oC c 2))), a3, a4, some (.int i5), a6, a7] [] := by
  intro S hS a3 a4 i5 a6 a7
  have hf := hS.1
  have h44 := hI.1.2
  have hC : c < cnt S.1 := by rw [hf]; exact hc
  have hcode := start_code f (c := c) (by omega)
  obtain ⟨e1, e2, e3, e4⟩ := e100_at hcode
  have en : f (oC c 1) = nI (ncv f c) := (hI.cv hc).2.1
  have J262 : ∀ v, v = e100 (startO f c) → ∀ a6, GL E ML_reasons P x S A z (u + 41) 262 [some (.ref x), some (.int (nI c)), some (.int (f (oC c 2))), a3, a4, some (.int i5), a6, a7] [.int v] := by
    intro v hv a6 sh sz V cu su hA hb
    subst hv
    refine g_istore dL_reasons_262 (by decide) rfl ?_
    show G _ _ _ _ _ _ _ _ _ [_, _, _, _, _, _, _, _] _
    refine g_aload_n dL_reasons_264 rfl ?_
    refine g_iload_n dL_reasons_265 rfl ?_
    by_cases h0 : startO f c = (nI 0, nI 0)
    · have h0S : startO S.1 c = (nI 0, nI 0) := by rw [hf]; exact h0
      refine g_lcH 1 (M := ML_reasons) (pc := 266) (Y := YL_start) (gIn_SH ml_L_152 wt_L_start ini_L wc_L_start) yn_L_start dL_reasons_266 hb (lRm_of rfl (rm_c (by show _ ≤ 2400; omega) (Nat.le_of_ble_eq_true rfl))) (l_start_ok hA hC h0S) rfl rfl (Nat.le_of_ble_eq_true rfl) ?_
      intro sh sz V cu su hA hb
      refine g_istore dL_reasons_269 (by decide) rfl ?_
      show G _ _ _ _ _ _ _ _ _ [_, _, _, _, _, _, _, _] _
      refine g_iload dL_reasons_271 rfl ?_
      refine g_if_le (tgt := 312) dL_reasons_273 (by decide) (fun _ => ?_) (fun hq => absurd ((e3.mpr h0)) hq)
      have e2S : startF S.1 c (oC c 1) = nI (ncv S.1 c) := by rw [startF_c (Or.inr (by decide)) (by decide), hf, en]
      have hC1 : c < cnt (startF S.1 c) := by rw [startF_cnt]; exact hC
      refine g_iload dL_reasons_312 rfl ?_
      refine g_aload_n dL_reasons_314 rfl ?_
      refine g_iload_n dL_reasons_315 rfl ?_
      refine g_iconst (v := nI 1) dL_reasons_316 (by decide) ?_
      refine g_lcH 1 (M := ML_reasons) (pc := 317) (Y := YL_convoyOf) (gIn_SH ml_L_224 wt_L_convoyOf ini_L wc_L_convoyOf) yn_L_convoyOf dL_reasons_317 hb (lRm_of rfl (rm_c (by show _ ≤ 2400; omega) (Nat.le_of_ble_eq_true rfl))) (l_convoyOf (w := 1) hA hC1 (by decide) (v := nI (ncv S.1 c)) (by show cvV (startF S.1 c) c (nI 1) = _; rw [← e2S]; rfl)) rfl rfl (Nat.le_of_ble_eq_true rfl) ?_
      intro sh sz V cu su hA hb
      refine g_icmp_ne (tgt := 351) dL_reasons_320 (by decide) (fun hq => absurd hq ((fun q => q rfl))) (fun _ => ?_)
      have hst := start_0 hI hc h0
      have eld : startF S.1 c (oC c 2) = nI 0 := by
        rw [startF_ld, hf, hst.1]
        decide
      refine g_aload_n dL_reasons_323 rfl ?_
      refine g_iload_n dL_reasons_324 rfl ?_
      refine g_iconst (v := nI 2) dL_reasons_325 (by decide) ?_
      refine g_lcH 1 (M := ML_reasons) (pc := 326) (Y := YL_convoyOf) (gIn_SH ml_L_224 wt_L_convoyOf ini_L wc_L_convoyOf) yn_L_convoyOf dL_reasons_326 hb (lRm_of rfl (rm_c (by show _ ≤ 2400; omega) (Nat.le_of_ble_eq_true rfl))) (l_convoyOf (w := 2) hA hC1 (by decide) (v := nI 0) (by show cvV (startF S.1 c) c (nI 2) = _; rw [← eld]; rfl)) rfl rfl (Nat.le_of_ble_eq_true rfl) ?_
      intro sh sz V cu su hA hb
      refine g_if_ne (tgt := 351) dL_reasons_329 (by decide) (fun hq => absurd hq ((fun q => q rfl))) (fun _ => ?_)
      have hn0 : 0 < ncv (startF S.1 c) c := by
        rw [startF_ncv, hf]
        exact hst.2.2.1
      have hat : atV (startF S.1 c) 0 = nI (10 * c + 0) := at_occ hA.sB hA.2.1.1.2.1 hC1 hn0 (by decide) (by
        show mt (startF S.1 c (oC c 2)) (startF S.1 c (oC c 0)) 0 = nI 0
        rw [mt_st (by rw [eld]; decide), eld]
        unfold mw
        rw [show nI 0 * (startF S.1 c (oC c 0) + nI 1) = 0 from Int32.zero_mul]
        decide)
      refine g_aload_n dL_reasons_332 rfl ?_
      refine g_iconst (v := nI 0) dL_reasons_333 (by decide) ?_
      refine g_lcH 1 (M := ML_reasons) (pc := 334) (Y := YL_at) (gIn_SH ml_L_193 wt_L_at ini_L wc_L_at) yn_L_at dL_reasons_334 hb (lRm_of rfl (rm_c (by show _ ≤ 2400; omega) (Nat.le_of_ble_eq_true rfl))) (l_at (j := 0) hA (by decide) (v := nI (10 * c + 0)) hat) rfl rfl (Nat.le_of_ble_eq_true rfl) ?_
      intro sh sz V cu su hA hb
      refine g_bipush (v := nI 10) dL_reasons_337 (by decide) ?_
      refine g_iload_n dL_reasons_339 rfl ?_
      refine g_imul dL_reasons_340 ?_
      rw [pk_mul]
      refine g_icmp_ne (tgt := 351) dL_reasons_341 (by decide) (fun hq => absurd hq ((fun q => q rfl))) (fun _ => ?_)
      refine g_aload_n dL_reasons_344 rfl ?_
      refine g_lcH 1 (M := ML_reasons) (pc := 345) (Y := YL_undo) (gIn_SH ml_L_247 wt_L_undo ini_L wc_L_undo) yn_L_undo dL_reasons_345 hb (lRm_of rfl (rm_c (by show _ ≤ 2400; omega) (Nat.le_of_ble_eq_true rfl))) (l_undo hA (pC_pos _)) rfl rfl (Nat.le_of_ble_eq_true rfl) ?_
      intro sh sz V cu su hA hb
      refine g_if_ge (tgt := 353) dL_reasons_348 (by decide) (fun _ => ?_) (fun hq => absurd ((pC_sm _)) hq)
      exact (kk _ hS.und _ _ _ _ _ _).go hA hb (by omega)
    · have h0S : ¬ startO S.1 c = (nI 0, nI 0) := by rw [hf]; exact h0
      refine g_lcH 1 (M := ML_reasons) (pc := 266) (Y := YL_start) (gIn_SH ml_L_152 wt_L_start ini_L wc_L_start) yn_L_start dL_reasons_266 hb (lRm_of rfl (rm_c (by show _ ≤ 2400; omega) (Nat.le_of_ble_eq_true rfl))) (l_start_no hA hC h0S) rfl rfl (Nat.le_of_ble_eq_true rfl) ?_
      intro sh sz V cu su hA hb
      refine g_istore dL_reasons_269 (by decide) rfl ?_
      show G _ _ _ _ _ _ _ _ _ [_, _, _, _, _, _, _, _] _
      refine g_iload dL_reasons_271 rfl ?_
      refine g_if_le (tgt := 312) dL_reasons_273 (by decide) (fun hq => absurd hq ((fun q => h0 (e3.mp q)))) (fun _ => ?_)
      refine g_iload dL_reasons_276 rfl ?_
      refine g_bipush (v := (-2)) dL_reasons_278 (by decide) ?_
      refine g_icmp_ne (tgt := 351) dL_reasons_280 (by decide) (fun hq => absurd hq ((fun q => q rfl))) (fun _ => ?_)
      have hz : (refu S (startO S.1 c)).2.2.2.2.2.2.2 = startO f c := by rw [hf]; rfl
      refine g_aload_n dL_reasons_283 rfl ?_
      refine g_iconst (v := nI 0) dL_reasons_284 (by decide) ?_
      refine g_lcH 1 (M := ML_reasons) (pc := 285) (Y := YL_refusal) (gIn_SH ml_L_156 wt_L_refusal ini_L wc_L_refusal) yn_L_refusal dL_reasons_285 hb (lRm_of rfl (rm_c (by show _ ≤ 2400; omega) (Nat.le_of_ble_eq_true rfl))) (l_refusal (d := nI 0) hA (v := (startO f c).1) (by rw [hz]; exact (refV_0 (e4 h0)).1)) rfl rfl (Nat.le_of_ble_eq_true rfl) ?_
      intro sh sz V cu su hA hb
      refine g_iload dL_reasons_288 rfl ?_
      refine g_bipush (v := nI 100) dL_reasons_290 (by decide) ?_
      refine g_idiv dL_reasons_292 (by decide) ?_
      rw [e1]
      refine g_icmp_ne (tgt := 351) dL_reasons_293 (by decide) (fun hq => absurd hq ((fun q => q rfl))) (fun _ => ?_)
      refine g_aload_n dL_reasons_296 rfl ?_
      refine g_iconst (v := nI 1) dL_reasons_297 (by decide) ?_
      refine g_lcH 1 (M := ML_reasons) (pc := 298) (Y := YL_refusal) (gIn_SH ml_L_156 wt_L_refusal ini_L wc_L_refusal) yn_L_refusal dL_reasons_298 hb (lRm_of rfl (rm_c (by show _ ≤ 2400; omega) (Nat.le_of_ble_eq_true rfl))) (l_refusal (d := nI 1) hA (v := (startO f c).2) (by rw [hz]; exact (refV_0 (e4 h0)).2)) rfl rfl (Nat.le_of_ble_eq_true rfl) ?_
      intro sh sz V cu su hA hb
      refine g_iload dL_reasons_301 rfl ?_
      refine g_bipush (v := nI 100) dL_reasons_303 (by decide) ?_
      refine g_irem dL_reasons_305 (by decide) ?_
      rw [e2]
      refine g_icmp_eq (tgt := 353) dL_reasons_306 (by decide) (fun _ => ?_) (fun hq => absurd (rfl) hq)
      exact (kk _ hS.refu _ _ _ _ _ _).go hA hb (by omega)
  intro sh sz V cu su hA hb
  refine g_iload_n dL_reasons_227 rfl ?_
  refine g_if_lt (tgt := 239) dL_reasons_228 (by decide) (fun b1 => ?_) (fun b1 => ?_)
  · have hns : ¬ 0 ≤ f (oC c 2) := Int32.not_le.mpr b1
    refine g_aload_n dL_reasons_239 rfl ?_
    refine g_iload_n dL_reasons_240 rfl ?_
    refine g_iconst (v := nI 1) dL_reasons_241 (by decide) ?_
    refine g_lcH 1 (M := ML_reasons) (pc := 242) (Y := YL_convoyOf) (gIn_SH ml_L_224 wt_L_convoyOf ini_L wc_L_convoyOf) yn_L_convoyOf dL_reasons_242 hb (lRm_of rfl (rm_c (by show _ ≤ 2400; omega) (Nat.le_of_ble_eq_true rfl))) (l_convoyOf (w := 1) hA hC (by decide) (v := nI (ncv f c)) (by rw [hf]; exact cvV1 hI hc)) rfl rfl (Nat.le_of_ble_eq_true rfl) ?_
    intro sh sz V cu su hA hb
    refine g_if_ne (tgt := 256) dL_reasons_245 (by decide) (fun b2 => ?_) (fun b2 => ?_)
    · have hne : ¬ ncv f c = 0 := fun q => b2 (by rw [q]; exact nI_0)
      refine g_aload_n dL_reasons_256 rfl ?_
      refine g_iload_n dL_reasons_257 rfl ?_
      refine g_iconst (v := nI 0) dL_reasons_258 (by decide) ?_
      refine g_lcS 40 (M := ML_reasons) (pc := 259) (Y := YL_expected) ss_L_241 yn_L_expected dL_reasons_259 hb (lRm_of rfl (rm_c (by show _ ≤ 2400; omega) (Nat.le_of_ble_eq_true rfl))) (l_expected (l := 0) hA hC (by omega)) rfl rfl (Nat.le_of_ble_eq_true rfl) ?_
      intro sh sz V cu su hA hb
      refine (J262 _ ?_ _).go hA hb (by omega)
      unfold startO
      rw [if_neg hns, if_neg hne, hf]
      have e0 : f (oC c 2) + nI 1 = nI 0 := by
        obtain ⟨g, -, -, -, ⟨b, -⟩ | ⟨l, hl, -, b, -⟩⟩ := mt_or hI hc
        · rw [b]; decide
        · rw [b] at hns
          exact absurd (nI_pos' (by omega)) hns
      rw [e0]
    · refine g_sipush (v := nI 500) dL_reasons_248 (by decide) ?_
      refine g_iload_n dL_reasons_251 rfl ?_
      refine g_iadd dL_reasons_252 ?_
      refine g_jump (tgt := 262) dL_reasons_253 (by decide) ?_
      refine (J262 _ ?_ _).go hA hb (by omega)
      unfold startO
      have hne : ncv f c = 0 := by
        have := (hI.cv hc).2.2.1
        exact (nI_eq (by omega) (by omega)).mp (b2.trans nI_0.symm)
      rw [if_neg hns, if_pos hne]
      unfold e100
      rw [show nI 5 * nI 100 = nI 500 by decide]
  · refine g_sipush (v := nI 400) dL_reasons_231 (by decide) ?_
    refine g_iload_n dL_reasons_234 rfl ?_
    refine g_iadd dL_reasons_235 ?_
    refine g_jump (tgt := 262) dL_reasons_236 (by decide) ?_
    refine (J262 _ ?_ _).go hA hb (by omega)
    unfold startO
    rw [if_pos (Int32.not_lt.mp b1)]
    unfold e100
    rw [show nI 4 * nI 100 = nI 400 by decide]
theorem re_a (hc : c < cnt f) (hI : InvB f) (hW : InvW f) (hu : u + 500 ≤ 2400) (kk : ∀ S, On f S → ∀ a3 a4 (i5 : Int32) a6 a7, GL E ML_reasons P x S A z (u + 400) 227 [some (.ref x), some (.int (nI c)), some (.int (f (oC c 2))), a3, a4, some (.int i5), a6, a7] []) : ∀ S, On f S → ∀ a2 a3 a4 a5 a6 a7, GL E ML_reasons P x S A z (u) 11 [some (.ref x), some (.int (nI c)), a2, a3, a4, a5, a6, a7] [] := by
  intro S hS a2 a3 a4 a5 a6 a7
  have hf := hS.1
  have h44 := hI.1.2
  have hC : c < cnt S.1 := by rw [hf]; exact hc
  have hcode := roll_code f (c := c) (by omega)
  obtain ⟨e1, e2, e3, e4⟩ := e100_at hcode
  obtain ⟨⟨g, g1, g2, eg⟩, en, hn4, -, -⟩ := hI.cv hc
  have J147 : ∀ a5 a6 a7, GL E ML_reasons P x S A z (u + 54) 147 [some (.ref x), some (.int (nI c)), some (.int (f (oC c 2))), some (.int (e100 (rollO f c))), some (.int (nI (cmN f c (ncv f c)))), a5, a6, a7] [] := by
    intro a5 a6 a7 sh sz V cu su hA hb
    refine g_aload_n dL_reasons_147 rfl ?_
    refine g_iload_n dL_reasons_148 rfl ?_
    by_cases h0 : rollO f c = (nI 0, nI 0)
    · have h0S : rollO S.1 c = (nI 0, nI 0) := by rw [hf]; exact h0
      obtain ⟨r1, r2, r3⟩ := roll_0 hI hc h0
      refine g_lcH 1 (M := ML_reasons) (pc := 149) (Y := YL_roll) (gIn_SH ml_L_154 wt_L_roll ini_L wc_L_roll) yn_L_roll dL_reasons_149 hb (lRm_of rfl (rm_c (by show _ ≤ 2400; omega) (Nat.le_of_ble_eq_true rfl))) (l_roll_ok hA hC h0S) rfl rfl (Nat.le_of_ble_eq_true rfl) ?_
      intro sh sz V cu su hA hb
      refine g_istore dL_reasons_152 (by decide) rfl ?_
      show G _ _ _ _ _ _ _ _ _ [_, _, _, _, _, _, _, _] _
      refine g_iload_n dL_reasons_154 rfl ?_
      refine g_if_le (tgt := 192) dL_reasons_155 (by decide) (fun _ => ?_) (fun hq => absurd ((e3.mpr h0)) hq)
      rw [onR_adv (f := S.1) (by rw [hf]; exact hI) hC (by rw [hf]; exact r1)]
      refine g_iload dL_reasons_192 rfl ?_
      refine g_iload dL_reasons_194 rfl ?_
      refine g_icmp_ne (tgt := 225) dL_reasons_196 (by decide) (fun hq => absurd hq ((fun q => q (by rw [hf])))) (fun _ => ?_)
      have hC1 : c < cnt (advF S.1 c) := by rw [show cnt (advF S.1 c) = cnt S.1 from advN_cnt]; exact hC
      refine g_aload_n dL_reasons_199 rfl ?_
      refine g_iload_n dL_reasons_200 rfl ?_
      refine g_iconst (v := nI 2) dL_reasons_201 (by decide) ?_
      refine g_lcH 1 (M := ML_reasons) (pc := 202) (Y := YL_convoyOf) (gIn_SH ml_L_224 wt_L_convoyOf ini_L wc_L_convoyOf) yn_L_convoyOf dL_reasons_202 hb (lRm_of rfl (rm_c (by show _ ≤ 2400; omega) (Nat.le_of_ble_eq_true rfl))) (l_convoyOf (w := 2) hA hC1 (by decide) (v := f (oC c 2) + nI 1) (by show advF S.1 c (oC c 2) = _; rw [← hf]; exact advN_ld)) rfl rfl (Nat.le_of_ble_eq_true rfl) ?_
      intro sh sz V cu su hA hb
      refine g_iload_n dL_reasons_205 rfl ?_
      refine g_iconst (v := nI 1) dL_reasons_206 (by decide) ?_
      refine g_iadd dL_reasons_207 ?_
      refine g_icmp_ne (tgt := 225) dL_reasons_208 (by decide) (fun hq => absurd hq ((fun q => q rfl))) (fun _ => ?_)
      refine g_aload_n dL_reasons_211 rfl ?_
      refine g_lcS 320 (M := ML_reasons) (pc := 212) (Y := YL_sums) ss_L_167 yn_L_sums dL_reasons_212 hb (lRm_of rfl (rm_c (by show _ ≤ 2400; omega) (Nat.le_of_ble_eq_true rfl))) (l_sums hA (by show InvW (advF S.1 c); rw [hf]; exact advF_W hI hW)) rfl rfl (Nat.le_of_ble_eq_true rfl) ?_
      intro sh sz V cu su hA hb
      refine g_if_eq (tgt := 225) dL_reasons_215 (by decide) (fun hq => absurd hq ((by decide))) (fun _ => ?_)
      refine g_aload_n dL_reasons_218 rfl ?_
      refine g_lcH 1 (M := ML_reasons) (pc := 219) (Y := YL_undo) (gIn_SH ml_L_247 wt_L_undo ini_L wc_L_undo) yn_L_undo dL_reasons_219 hb (lRm_of rfl (rm_c (by show _ ≤ 2400; omega) (Nat.le_of_ble_eq_true rfl))) (l_undo hA (pC_pos _)) rfl rfl (Nat.le_of_ble_eq_true rfl) ?_
      intro sh sz V cu su hA hb
      refine g_if_ge (tgt := 227) dL_reasons_222 (by decide) (fun _ => ?_) (fun hq => absurd ((pC_sm _)) hq)
      exact (kk _ hS.und _ _ _ _ _).go hA hb (by omega)
    · have h0S : ¬ rollO S.1 c = (nI 0, nI 0) := by rw [hf]; exact h0
      refine g_lcH 1 (M := ML_reasons) (pc := 149) (Y := YL_roll) (gIn_SH ml_L_154 wt_L_roll ini_L wc_L_roll) yn_L_roll dL_reasons_149 hb (lRm_of rfl (rm_c (by show _ ≤ 2400; omega) (Nat.le_of_ble_eq_true rfl))) (l_roll_no hA hC h0S) rfl rfl (Nat.le_of_ble_eq_true rfl) ?_
      intro sh sz V cu su hA hb
      refine g_istore dL_reasons_152 (by decide) rfl ?_
      show G _ _ _ _ _ _ _ _ _ [_, _, _, _, _, _, _, _] _
      refine g_iload_n dL_reasons_154 rfl ?_
      refine g_if_le (tgt := 192) dL_reasons_155 (by decide) (fun hq => absurd hq ((fun q => h0 (e3.mp q)))) (fun _ => ?_)
      refine g_iload dL_reasons_158 rfl ?_
      refine g_bipush (v := (-2)) dL_reasons_160 (by decide) ?_
      refine g_icmp_ne (tgt := 225) dL_reasons_162 (by decide) (fun hq => absurd hq ((fun q => q rfl))) (fun _ => ?_)
      have hz : (refu S (rollO S.1 c)).2.2.2.2.2.2.2 = rollO f c := by rw [hf]; rfl
      refine g_aload_n dL_reasons_165 rfl ?_
      refine g_iconst (v := nI 0) dL_reasons_166 (by decide) ?_
      refine g_lcH 1 (M := ML_reasons) (pc := 167) (Y := YL_refusal) (gIn_SH ml_L_156 wt_L_refusal ini_L wc_L_refusal) yn_L_refusal dL_reasons_167 hb (lRm_of rfl (rm_c (by show _ ≤ 2400; omega) (Nat.le_of_ble_eq_true rfl))) (l_refusal (d := nI 0) hA (v := (rollO f c).1) (by rw [hz]; exact (refV_0 (e4 h0)).1)) rfl rfl (Nat.le_of_ble_eq_true rfl) ?_
      intro sh sz V cu su hA hb
      refine g_iload_n dL_reasons_170 rfl ?_
      refine g_bipush (v := nI 100) dL_reasons_171 (by decide) ?_
      refine g_idiv dL_reasons_173 (by decide) ?_
      rw [e1]
      refine g_icmp_ne (tgt := 225) dL_reasons_174 (by decide) (fun hq => absurd hq ((fun q => q rfl))) (fun _ => ?_)
      refine g_aload_n dL_reasons_177 rfl ?_
      refine g_iconst (v := nI 1) dL_reasons_178 (by decide) ?_
      refine g_lcH 1 (M := ML_reasons) (pc := 179) (Y := YL_refusal) (gIn_SH ml_L_156 wt_L_refusal ini_L wc_L_refusal) yn_L_refusal dL_reasons_179 hb (lRm_of rfl (rm_c (by show _ ≤ 2400; omega) (Nat.le_of_ble_eq_true rfl))) (l_refusal (d := nI 1) hA (v := (rollO f c).2) (by rw [hz]; exact (refV_0 (e4 h0)).2)) rfl rfl (Nat.le_of_ble_eq_true rfl) ?_
      intro sh sz V cu su hA hb
      refine g_iload_n dL_reasons_182 rfl ?_
      refine g_bipush (v := nI 100) dL_reasons_183 (by decide) ?_
      refine g_irem dL_reasons_185 (by decide) ?_
      rw [e2]
      refine g_icmp_eq (tgt := 227) dL_reasons_186 (by decide) (fun _ => ?_) (fun hq => absurd (rfl) hq)
      exact (kk _ hS.refu _ _ _ _ _).go hA hb (by omega)
  have K63 : ∀ (d k : Nat), k + d = ncv f c → ∀ a6 a7, GL E ML_reasons P x S A z (u + 43 + 2 * k) 63 [some (.ref x), some (.int (nI c)), some (.int (f (oC c 2))), some (.int (e100 (rollO f c))), some (.int (nI (cmN f c k))), some (.int (nI k)), a6, a7] [] := by
    intro d
    induction d with
    | zero =>
      intro k hk a6 a7 sh sz V cu su hA hb
      obtain rfl : k = ncv f c := by omega
      refine g_iload dL_reasons_63 rfl ?_
      refine g_aload_n dL_reasons_65 rfl ?_
      refine g_iload_n dL_reasons_66 rfl ?_
      refine g_iconst (v := nI 1) dL_reasons_67 (by decide) ?_
      refine g_lcH 1 (M := ML_reasons) (pc := 68) (Y := YL_convoyOf) (gIn_SH ml_L_224 wt_L_convoyOf ini_L wc_L_convoyOf) yn_L_convoyOf dL_reasons_68 hb (lRm_of rfl (rm_c (by show _ ≤ 2400; omega) (Nat.le_of_ble_eq_true rfl))) (l_convoyOf (w := 1) hA hC (by decide) (v := nI (ncv f c)) (by rw [hf]; exact cvV1 hI hc)) rfl rfl (Nat.le_of_ble_eq_true rfl) ?_
      intro sh sz V cu su hA hb
      refine g_icmp_ge (tgt := 119) dL_reasons_71 (by decide) (fun _ => ?_) (fun hq => absurd (Int32.le_refl _) hq)
      refine g_aload_n dL_reasons_119 rfl ?_
      refine g_iload_n dL_reasons_120 rfl ?_
      refine g_iconst (v := nI 0) dL_reasons_121 (by decide) ?_
      refine g_lcH 1 (M := ML_reasons) (pc := 122) (Y := YL_why) (gIn_SH ml_L_244 wt_L_why ini_L wc_L_why) yn_L_why dL_reasons_122 hb (lRm_of rfl (rm_c (by show _ ≤ 2400; omega) (Nat.le_of_ble_eq_true rfl))) (l_why (d := nI 0) hA hC (v := (rollO f c).1) (by rw [hf]; exact if_pos rfl)) rfl rfl (Nat.le_of_ble_eq_true rfl) ?_
      intro sh sz V cu su hA hb
      refine g_iload_n dL_reasons_125 rfl ?_
      refine g_bipush (v := nI 100) dL_reasons_126 (by decide) ?_
      refine g_idiv dL_reasons_128 (by decide) ?_
      rw [e1]
      refine g_icmp_ne (tgt := 145) dL_reasons_129 (by decide) (fun hq => absurd hq ((fun q => q rfl))) (fun _ => ?_)
      refine g_aload_n dL_reasons_132 rfl ?_
      refine g_iload_n dL_reasons_133 rfl ?_
      refine g_iconst (v := nI 1) dL_reasons_134 (by decide) ?_
      refine g_lcH 1 (M := ML_reasons) (pc := 135) (Y := YL_why) (gIn_SH ml_L_244 wt_L_why ini_L wc_L_why) yn_L_why dL_reasons_135 hb (lRm_of rfl (rm_c (by show _ ≤ 2400; omega) (Nat.le_of_ble_eq_true rfl))) (l_why (d := nI 1) hA hC (v := (rollO f c).2) (by rw [hf]; exact if_neg (by decide))) rfl rfl (Nat.le_of_ble_eq_true rfl) ?_
      intro sh sz V cu su hA hb
      refine g_iload_n dL_reasons_138 rfl ?_
      refine g_bipush (v := nI 100) dL_reasons_139 (by decide) ?_
      refine g_irem dL_reasons_141 (by decide) ?_
      rw [e2]
      refine g_icmp_eq (tgt := 147) dL_reasons_142 (by decide) (fun _ => ?_) (fun hq => absurd (rfl) hq)
      exact (J147 _ _ _).go hA hb (by omega)
    | succ d ih =>
      intro k hk a6 a7 sh sz V cu su hA hb
      have J110 : ∀ v, v = bi (isM (mw (f (oC c 2) + nI 1) (f (oC c 0)) k)) → ∀ a6, GL E ML_reasons P x S A z (u + 43 + 2 * k + 2) 110 [some (.ref x), some (.int (nI c)), some (.int (f (oC c 2))), some (.int (e100 (rollO f c))), some (.int (nI (cmN f c k))), some (.int (nI k)), a6, a7] [.int v, .int (nI (cmN f c k))] := by
        intro v hv a6 sh sz V cu su hA hb
        have ey : nI (cmN f c k) + v = nI (cmN f c (k + 1)) := by
          unfold cmN
          rw [fb_ct_succ, hv]
          by_cases q : isM (mw (f (oC c 2) + nI 1) (f (oC c 0)) k)
          · rw [bi_t q, if_pos (decide_eq_true q), nI_add]
          · rw [bi_f q, if_neg (by rw [decide_eq_false q]; decide), nI_add]
        refine g_iadd dL_reasons_110 ?_
        rw [ey]
        refine g_istore dL_reasons_111 (by decide) rfl ?_
        show G _ _ _ _ _ _ _ _ _ [_, _, _, _, _, _, _, _] _
        refine g_iinc dL_reasons_113 rfl (by first | exact nI_inc _ | rfl) (by decide) rfl ?_
        show G _ _ _ _ _ _ _ _ _ [_, _, _, _, _, _, _, _] _
        refine g_jump (tgt := 63) dL_reasons_116 (by decide) ?_
        exact (ih (k + 1) (by omega) _ _).go hA hb (by omega)
      refine g_iload dL_reasons_63 rfl ?_
      refine g_aload_n dL_reasons_65 rfl ?_
      refine g_iload_n dL_reasons_66 rfl ?_
      refine g_iconst (v := nI 1) dL_reasons_67 (by decide) ?_
      refine g_lcH 1 (M := ML_reasons) (pc := 68) (Y := YL_convoyOf) (gIn_SH ml_L_224 wt_L_convoyOf ini_L wc_L_convoyOf) yn_L_convoyOf dL_reasons_68 hb (lRm_of rfl (rm_c (by show _ ≤ 2400; omega) (Nat.le_of_ble_eq_true rfl))) (l_convoyOf (w := 1) hA hC (by decide) (v := nI (ncv f c)) (by rw [hf]; exact cvV1 hI hc)) rfl rfl (Nat.le_of_ble_eq_true rfl) ?_
      intro sh sz V cu su hA hb
      refine g_icmp_ge (tgt := 119) dL_reasons_71 (by decide) (fun hq => absurd hq (nI_ge (by omega) (by omega))) (fun _ => ?_)
      refine g_iload_n dL_reasons_74 rfl ?_
      refine g_iconst (v := nI 1) dL_reasons_75 (by decide) ?_
      refine g_iadd dL_reasons_76 ?_
      refine g_iload dL_reasons_77 rfl ?_
      refine g_iconst (v := nI 1) dL_reasons_79 (by decide) ?_
      refine g_aload_n dL_reasons_80 rfl ?_
      refine g_iload_n dL_reasons_81 rfl ?_
      refine g_iconst (v := nI 0) dL_reasons_82 (by decide) ?_
      refine g_lcH 1 (M := ML_reasons) (pc := 83) (Y := YL_convoyOf) (gIn_SH ml_L_224 wt_L_convoyOf ini_L wc_L_convoyOf) yn_L_convoyOf dL_reasons_83 hb (lRm_of rfl (rm_c (by show _ ≤ 2400; omega) (Nat.le_of_ble_eq_true rfl))) (l_convoyOf (w := 0) hA hC (by decide) (v := f (oC c 0)) (by rw [hf]; rfl)) rfl rfl (Nat.le_of_ble_eq_true rfl) ?_
      intro sh sz V cu su hA hb
      refine g_iadd dL_reasons_86 ?_
      refine g_imul dL_reasons_87 ?_
      refine g_isub dL_reasons_88 ?_
      rw [show f (oC c 2) + nI 1 - nI k * (nI 1 + f (oC c 0)) = mw (f (oC c 2) + nI 1) (f (oC c 0)) k by unfold mw; rw [Int32.add_comm (nI 1)]]
      refine g_istore dL_reasons_89 (by decide) rfl ?_
      show G _ _ _ _ _ _ _ _ _ [_, _, _, _, _, _, _, _] _
      refine g_iload dL_reasons_91 rfl ?_
      refine g_iload dL_reasons_93 rfl ?_
      refine g_if_lt (tgt := 109) dL_reasons_95 (by decide) (fun b1 => ?_) (fun b1 => ?_)
      · refine g_iconst (v := nI 0) dL_reasons_109 (by decide) ?_
        exact (J110 _ (bi_f (fun q => absurd q.1 (Int32.not_le.mpr b1))).symm _).go hA hb (by omega)
      · refine g_iload dL_reasons_98 rfl ?_
        refine g_bipush (v := nI 12) dL_reasons_100 (by decide) ?_
        refine g_icmp_ge (tgt := 109) dL_reasons_102 (by decide) (fun b2 => ?_) (fun b2 => ?_)
        · refine g_iconst (v := nI 0) dL_reasons_109 (by decide) ?_
          exact (J110 _ (bi_f (fun q => absurd q.2 (Int32.not_lt.mpr b2))).symm _).go hA hb (by omega)
        · refine g_iconst (v := nI 1) dL_reasons_105 (by decide) ?_
          refine g_jump (tgt := 110) dL_reasons_106 (by decide) ?_
          exact (J110 _ (bi_t ⟨Int32.not_lt.mp b1, Int32.not_le.mp b2⟩).symm _).go hA hb (by omega)
  have J56 : ∀ v, v = e100 (rollO f c) → ∀ a3 a4 a5 a6 a7, GL E ML_reasons P x S A z (u + 42) 56 [some (.ref x), some (.int (nI c)), some (.int (f (oC c 2))), a3, a4, a5, a6, a7] [.int v] := by
    intro v hv a3 a4 a5 a6 a7 sh sz V cu su hA hb
    subst hv
    refine g_istore_n dL_reasons_56 (by decide) rfl ?_
    show G _ _ _ _ _ _ _ _ _ [_, _, _, _, _, _, _, _] _
    refine g_iconst (v := nI 0) dL_reasons_57 (by decide) ?_
    refine g_istore dL_reasons_58 (by decide) rfl ?_
    show G _ _ _ _ _ _ _ _ _ [_, _, _, _, _, _, _, _] _
    refine g_iconst (v := nI 0) dL_reasons_60 (by decide) ?_
    refine g_istore dL_reasons_61 (by decide) rfl ?_
    show G _ _ _ _ _ _ _ _ _ [_, _, _, _, _, _, _, _] _
    exact (K63 (ncv f c) 0 (by omega) _ _).go hA hb (by omega)
  intro sh sz V cu su hA hb
  refine g_aload_n dL_reasons_11 rfl ?_
  refine g_iload_n dL_reasons_12 rfl ?_
  refine g_iconst (v := nI 2) dL_reasons_13 (by decide) ?_
  refine g_lcH 1 (M := ML_reasons) (pc := 14) (Y := YL_convoyOf) (gIn_SH ml_L_224 wt_L_convoyOf ini_L wc_L_convoyOf) yn_L_convoyOf dL_reasons_14 hb (lRm_of rfl (rm_c (by show _ ≤ 2400; omega) (Nat.le_of_ble_eq_true rfl))) (l_convoyOf (w := 2) hA hC (by decide) (v := f (oC c 2)) (by rw [hf]; rfl)) rfl rfl (Nat.le_of_ble_eq_true rfl) ?_
  intro sh sz V cu su hA hb
  refine g_istore_n dL_reasons_17 (by decide) rfl ?_
  show G _ _ _ _ _ _ _ _ _ [_, _, _, _, _, _, _, _] _
  refine g_iload_n dL_reasons_18 rfl ?_
  refine g_if_ge (tgt := 30) dL_reasons_19 (by decide) (fun b1 => ?_) (fun b1 => ?_)
  · have hst := b1
    refine g_aload_n dL_reasons_30 rfl ?_
    refine g_iload_n dL_reasons_31 rfl ?_
    refine g_iconst (v := nI 5) dL_reasons_32 (by decide) ?_
    refine g_lcH 1 (M := ML_reasons) (pc := 33) (Y := YL_convoyOf) (gIn_SH ml_L_224 wt_L_convoyOf ini_L wc_L_convoyOf) yn_L_convoyOf dL_reasons_33 hb (lRm_of rfl (rm_c (by show _ ≤ 2400; omega) (Nat.le_of_ble_eq_true rfl))) (l_convoyOf (w := 5) hA hC (by decide) (v := bi (dnF f c)) (by rw [hf]; rfl)) rfl rfl (Nat.le_of_ble_eq_true rfl) ?_
    intro sh sz V cu su hA hb
    refine g_iconst (v := nI 1) dL_reasons_36 (by decide) ?_
    refine g_icmp_ne (tgt := 48) dL_reasons_37 (by decide) (fun b2 => ?_) (fun b2 => ?_)
    · have hnd : ¬ dnF f c := fun q => b2 (bi_t q)
      obtain ⟨g, -, -, -, ⟨b, -⟩ | ⟨l, hl, -, b, -⟩⟩ := mt_or hI hc
      · rw [b] at hst
        exact absurd hst (by decide)
      refine g_aload_n dL_reasons_48 rfl ?_
      refine g_iload_n dL_reasons_49 rfl ?_
      refine g_iload_n dL_reasons_50 rfl ?_
      refine g_iconst (v := nI 1) dL_reasons_51 (by decide) ?_
      refine g_iadd dL_reasons_52 ?_
      rw [show f (oC c 2) + nI 1 = nI (l + 1) by rw [b, nI_add]]
      refine g_lcS 40 (M := ML_reasons) (pc := 53) (Y := YL_expected) ss_L_241 yn_L_expected dL_reasons_53 hb (lRm_of rfl (rm_c (by show _ ≤ 2400; omega) (Nat.le_of_ble_eq_true rfl))) (l_expected (l := l + 1) hA hC (by omega)) rfl rfl (Nat.le_of_ble_eq_true rfl) ?_
      intro sh sz V cu su hA hb
      refine (J56 _ ?_ _ _ _ _ _).go hA hb (by omega)
      unfold rollO
      rw [if_neg (fun q => q hst), if_neg hnd, b, nI_add, hf]
    · have hd : dnF f c := Classical.byContradiction fun q => by
        rw [bi_f q] at b2
        exact absurd b2 (by decide)
      refine g_sipush (v := nI 600) dL_reasons_40 (by decide) ?_
      refine g_iload_n dL_reasons_43 rfl ?_
      refine g_iadd dL_reasons_44 ?_
      refine g_jump (tgt := 56) dL_reasons_45 (by decide) ?_
      refine (J56 _ ?_ _ _ _ _ _).go hA hb (by omega)
      unfold rollO
      rw [if_neg (fun q => q hst), if_pos hd]
      unfold e100
      rw [show nI 6 * nI 100 = nI 600 by decide]
  · refine g_sipush (v := nI 400) dL_reasons_22 (by decide) ?_
    refine g_iload_n dL_reasons_25 rfl ?_
    refine g_iadd dL_reasons_26 ?_
    refine g_jump (tgt := 56) dL_reasons_27 (by decide) ?_
    refine (J56 _ ?_ _ _ _ _ _).go hA hb (by omega)
    unfold rollO
    rw [if_pos b1]
    unfold e100
    rw [show nI 4 * nI 100 = nI 400 by decide]
theorem l_reasons (hA : LW x S A sh sz V) (hl : S.2.2.2.2.2.1 = 0) (hW : InvW S.1) : MC E YL_reasons [.ref x] sh sz V (PLx x A sz (fun S' v => On S.1 S' ∧ v = .int (nI 1))) := by
  have hI := hA.sB
  have h44 := hI.1.2
  have K2 : ∀ (d c : Nat), c + d = cnt S.1 → ∀ S', On S.1 S' → ∀ a2 a3 a4 a5 a6 a7, GL E ML_reasons (PLx x A sz (fun S' v => On S.1 S' ∧ v = .int (nI 1))) x S' A sz (470 * c) 2 [some (.ref x), some (.int (nI c)), a2, a3, a4, a5, a6, a7] [] := by
    intro d
    induction d with
    | zero =>
      intro c hc S' hS a2 a3 a4 a5 a6 a7 sh sz V cu su hA hb
      obtain rfl : c = cnt S.1 := by omega
      refine g_iload_n dL_reasons_2 rfl ?_
      refine g_aload_n dL_reasons_3 rfl ?_
      refine g_iconst (v := nI 2) dL_reasons_4 (by decide) ?_
      refine g_lcV 1 (M := ML_reasons) (pc := 5) (Y := YX6_account) sv_L_182 rfl yn_X6_account 8 (by decide) rfl rfl dL_reasons_5 hb (lRm_of rfl (rm_c (by show _ ≤ 2400; omega) (Nat.le_of_ble_eq_true rfl))) (k_account (w := 2) hA (by decide) (v := nI (cnt S.1)) (by rw [← hS.1]; exact acc2 hA.sB)) hA.s9 rfl rfl (Nat.le_of_ble_eq_true rfl) ?_
      intro sh sz V cu su hA hb
      refine g_icmp_ge (tgt := 359) dL_reasons_8 (by decide) (fun _ => ?_) (fun hq => absurd (Int32.le_refl _) hq)
      refine g_iconst (v := nI 1) dL_reasons_359 (by decide) ?_
      exact g_iret rfl nz1 dL_reasons_360 ⟨by show cu ≤ 2400; omega, by show su ≤ 14400; omega⟩ ⟨hb.1, _, _, hA, ⟨hS, rfl⟩, rfl⟩
    | succ d ih =>
      intro c hc S' hS a2 a3 a4 a5 a6 a7 sh sz V cu su hA hb
      refine g_iload_n dL_reasons_2 rfl ?_
      refine g_aload_n dL_reasons_3 rfl ?_
      refine g_iconst (v := nI 2) dL_reasons_4 (by decide) ?_
      refine g_lcV 1 (M := ML_reasons) (pc := 5) (Y := YX6_account) sv_L_182 rfl yn_X6_account 8 (by decide) rfl rfl dL_reasons_5 hb (lRm_of rfl (rm_c (by show _ ≤ 2400; omega) (Nat.le_of_ble_eq_true rfl))) (k_account (w := 2) hA (by decide) (v := nI (cnt S.1)) (by rw [← hS.1]; exact acc2 hA.sB)) hA.s9 rfl rfl (Nat.le_of_ble_eq_true rfl) ?_
      intro sh sz V cu su hA hb
      refine g_icmp_ge (tgt := 359) dL_reasons_8 (by decide) (fun hq => absurd hq (nI_ge (by omega) (by omega))) (fun _ => ?_)
      refine (re_a (u := 470 * c + 1) (by omega) hI hW (by omega) (re_b (u := 470 * c + 401) (by omega) hI (by omega) ?_) S' hS _ _ _ _ _ _).go hA hb (by omega)
      intro S2 hS2 a2 a3 a4 a5 a6 a7 sh sz V cu su hA hb
      refine g_iinc dL_reasons_353 rfl (by first | exact nI_inc _ | rfl) (by decide) rfl ?_
      show G _ _ _ _ _ _ _ _ _ [_, _, _, _, _, _, _, _] _
      refine g_jump (tgt := 2) dL_reasons_356 (by decide) ?_
      exact (ih (c + 1) (by omega) S2 hS2 _ _ _ _ _ _).go hA hb (by omega)
  refine MC.of RL "reasons" rfl (by decide +kernel) rfl 7 [_, none, none, none, none, none, none, none] rfl (Nat.le_of_ble_eq_true rfl) ?_
  show G E ML_reasons _ _ _ _ _ _ _ _ _
  refine g_iconst (v := nI 0) dL_reasons_0 (by decide) ?_
  refine g_istore_n dL_reasons_1 (by decide) rfl ?_
  show G _ _ _ _ _ _ _ _ _ [_, _, _, _, _, _, _, _] _
  exact (K2 (cnt S.1) 0 (by omega) S ⟨rfl, hl⟩ _ _ _ _ _ _).go hA ⟨Nat.le_refl _, Nat.le_refl _, Nat.le_refl _⟩ (by omega)
end LREAS

