/-! the reference: a convoy comes to a lead; tonnes that wait -/
section REF4
theorem upd_twice (f : Fl) (k : Nat) (a b : Int32) : upd (upd f k a) k b = upd f k b := by
  funext i
  unfold upd
  by_cases e : i = k
  · rw [if_pos e, if_pos e]
  · rw [if_neg e, if_neg e, if_neg e]
theorem upd_same (f : Fl) (k : Nat) : upd f k (f k) = f := by
  funext i
  unfold upd
  by_cases e : i = k
  · rw [if_pos e, e]
  · rw [if_neg e]
/-- only the row of numbers has changed -/
def Mw (V V' : Vl) (m : Nat) : Prop := ∀ a, a ≠ m + 1 → V' a = V a
theorem Mw.rf {V : Vl} {m : Nat} : Mw V V m := fun _ _ => rfl
theorem Mw.put {V V' : Vl} {m k : Nat} {v : Value} (h : Mw V V' m) : Mw V (hu V' (m + 1) k v) m := fun a ha => (hu_ne _ _ _ ha).trans (h a ha)
theorem Mw.trans {V V1 V2 : Vl} {m : Nat} (h : Mw V V1 m) (h2 : Mw V1 V2 m) : Mw V V2 m := fun a ha => (h2 a ha).trans (h a ha)
variable {E : gE} {M : gM} {P : gP} {sh : Sh} {sz : Nat} {V V' : Vl} {cu su pc : Nat} {L : List (Option Value)} {rest : List Value} {m : Nat} {f : Fl}
theorem k_setS {j k : Nat} {x : Int32} (h : SA sh V m f) (hj : j < 12) (hk : k < 6) (hP : P (.inl none) sh sz (hu V (m + 1) (oM j k) (.int x))) : MC E YX7_set [.ref m, .int (nI j), .int (nI k), .int x] sh sz V P := k_set h hj hk hP
/-- the strain of a truck that comes to a mile -/
theorem carF_lo {h : Fl} {j : Nat} {x : Int32} (q : ¬ nI 20 ≤ h (oM j 2) + x) : upd (upd h (oM j 5) (h (oM j 5) + nI 1)) (oM j 2) (h (oM j 2) + x) = carF h j x := (if_neg q).symm
theorem carF_hi {h : Fl} {j : Nat} {x : Int32} (q : nI 20 ≤ h (oM j 2) + x) : upd (upd (upd h (oM j 5) (h (oM j 5) + nI 1)) (oM j 2) (h (oM j 2) + x - nI 20)) (oM j 1) (if h (oM j 1) + nI 1 < nI 5 then h (oM j 1) + nI 1 else nI 5) = carF h j x := by
  unfold carF
  rw [if_pos q]
  congr 1
  by_cases a : h (oM j 1) + nI 1 < nI 5
  · rw [if_pos a, if_neg (fun b => Int32.lt_irrefl (Int32.lt_trans a b))]
  · rw [if_neg a]
    by_cases b : nI 5 < h (oM j 1) + nI 1
    · rw [if_pos b]
    · rw [if_neg b]
      exact Int32.le_antisymm (Int32.not_lt.mp a) (Int32.not_lt.mp b)
theorem advN_cs {c d i k : Nat} (hi : i < 16) (h : d ≠ c ∨ i ≠ 2) : advN f c k (oC d i) = f (oC d i) := advN_c h hi
set_option maxRecDepth 100000 in
theorem k_comesTo {c : Nat} (h : SA sh V m f) (hc : c < 4) (hn : ncv f c ≤ 4) (h1 : f (oC c 1) = nI (ncv f c)) (hP : ∀ V', Mw V V' m → SA sh V' m (advF f c) → P (.inl (some (.int (nI (fb_ct (fun k => decide (isM (mw (f (oC c 2) + nI 1) (f (oC c 0)) k))) (ncv f c)))))) sh sz V') : MC E YX7_comesTo [.ref m, .int (nI c), .int (f (oC c 2) + nI 1)] sh sz V P := by
  refine MC.of RX7 "comesTo" rfl (by decide +kernel) rfl 3 [_, _, _, none, none, none] rfl (Nat.le_of_ble_eq_true rfl) ?_
  show G E MX7_comesTo _ _ _ _ _ _ _ _ _
  refine g_iconst (v := nI 0) dX7_comesTo_0 (by decide) ?_
  refine g_istore_n dX7_comesTo_1 (by decide) rfl ?_
  show G _ _ _ _ _ _ _ _ _ [_, _, _, _, _, _] _
  refine g_aload_n dX7_comesTo_2 rfl ?_
  refine g_get 9 rfl (by decide) inX7 0 (by decide) fl_X7_9 dX7_comesTo_3 h.1 h.2.2.1 ?_
  refine g_bipush (v := nI 100) dX7_comesTo_6 (by decide) ?_
  refine g_bipush (v := nI 16) dX7_comesTo_8 (by decide) ?_
  refine g_iload_n dX7_comesTo_10 rfl ?_
  refine g_imul dX7_comesTo_11 ?_
  refine g_iadd dX7_comesTo_12 ?_
  refine g_iconst (v := nI 2) dX7_comesTo_13 (by decide) ?_
  refine g_iadd dX7_comesTo_14 ?_
  refine g_iload_n dX7_comesTo_15 rfl ?_
  rw [ix_C]
  refine g_iastore dX7_comesTo_16 h.2.1 (vp_in_nI (by unfold oC; omega) (by decide)) ?_
  rw [nI_clamp (by unfold oC; omega)]
  have hS := SA.wr (k := oC c 2) (x := f (oC c 2) + nI 1) h
  have hw : Mw V (hu V (m + 1) (oC c 2) (.int (f (oC c 2) + nI 1))) m := Mw.rf.put
  generalize hu V (m + 1) (oC c 2) (.int (f (oC c 2) + nI 1)) = V1 at hS hw ⊢
  refine g_iconst (v := nI 0) dX7_comesTo_17 (by decide) ?_
  refine g_istore dX7_comesTo_18 (by decide) rfl ?_
  show G _ _ _ _ _ _ _ _ _ [_, _, _, _, _, _] _
  suffices K : ∀ (d k : Nat), k + d = ncv f c → ∀ V1 z, Mw V V1 m → SA sh V1 m (advN f c k) → G E MX7_comesTo P sh sz V1 0 0 20 [some (.ref m), some (.int (nI c)), some (.int (f (oC c 2) + nI 1)), some (.int (nI (fb_ct (fun k => decide (isM (mw (f (oC c 2) + nI 1) (f (oC c 0)) k))) k))), some (.int (nI k)), z] [] from K _ 0 (Nat.zero_add _) V1 _ hw hS
  clear hS hw V1
  intro d
  induction d with
  | zero =>
    intro k hk V1 z hw hS
    have hk : k = ncv f c := by omega
    rw [hk] at hS ⊢
    have e1 : advN f c (ncv f c) (oC c 1) = nI (ncv f c) := (advN_c (Or.inr (by decide)) (by decide)).trans h1
    refine g_iload dX7_comesTo_20 rfl ?_
    refine g_aload_n dX7_comesTo_22 rfl ?_
    refine g_iload_n dX7_comesTo_23 rfl ?_
    refine g_iconst (v := nI 1) dX7_comesTo_24 (by decide) ?_
    refine g_callVp (Y := YX7_convoy1) sv_X7_81 rfl yn_X7_convoy1 9 (by decide) rfl rfl dX7_comesTo_25 (k_convoy1 hS (c := c) (k := 1) (by omega) (by decide) pR_ok) hS.1 rfl rfl rfl (Nat.le_of_ble_eq_true rfl) ⟨rfl, rfl⟩ ?_
    rw [e1]
    refine g_icmp_ge (tgt := 179) dX7_comesTo_28 (by decide) (fun _ => ?_) (fun hq => absurd (Int32.le_refl _) hq)
    refine g_iload_n dX7_comesTo_179 rfl ?_
    exact g_iret rfl (nr_int _) dX7_comesTo_180 (by decide) (hP V1 hw hS)
  | succ d ih =>
    intro k hk V1 z hw hS
    have e0 : advN f c k (oC c 0) = f (oC c 0) := advN_c (Or.inr (by decide)) (by decide)
    have e1 : advN f c k (oC c 1) = nI (ncv f c) := (advN_c (Or.inr (by decide)) (by decide)).trans h1
    have e2 : advN f c k (oC c 2) = f (oC c 2) + nI 1 := advN_ld
    have eml : mlF (advN f c k) c k = mw (f (oC c 2) + nI 1) (f (oC c 0)) k := by
      unfold mlF
      rw [e0, e2]
    -- behind the mile
    have tail : ∀ V2 y, Mw V V2 m → SA sh V2 m (stepA (advN f c k) c k) → y = fb_ct (fun k => decide (isM (mw (f (oC c 2) + nI 1) (f (oC c 0)) k))) (k + 1) → G E MX7_comesTo P sh sz V2 0 0 145 [some (.ref m), some (.int (nI c)), some (.int (f (oC c 2) + nI 1)), some (.int (nI y)), some (.int (nI k)), some (.int (mw (f (oC c 2) + nI 1) (f (oC c 0)) k))] [] := by
      intro V2 y hw hS hy
      have ew : stepA (advN f c k) c k (oC c (4 + 3 * k + 1)) = f (oC c (5 + 3 * k)) := by
        rw [stepA_out (by unfold oC; omega), advN_c (Or.inr (by omega)) (by omega), show 4 + 3 * k + 1 = 5 + 3 * k by omega]
      have ew2 : advN f c k (oC c (5 + 3 * k)) = f (oC c (5 + 3 * k)) := advN_c (Or.inr (by omega)) (by omega)
      rw [hy]
      have nxt : ∀ x, upd (stepA (advN f c k) c k) 4 (stepA (advN f c k) c k 4 + x) = advN f c (k + 1) → G E MX7_comesTo P sh sz (hu V2 (m + 1) 4 (.int (stepA (advN f c k) c k 4 + x))) 0 0 173 [some (.ref m), some (.int (nI c)), some (.int (f (oC c 2) + nI 1)), some (.int (nI (fb_ct (fun k => decide (isM (mw (f (oC c 2) + nI 1) (f (oC c 0)) k))) (k + 1)))), some (.int (nI k)), some (.int (mw (f (oC c 2) + nI 1) (f (oC c 0)) k))] [] := by
        intro x hx
        have hS2 := SA.wr (k := 4) (x := stepA (advN f c k) c k 4 + x) hS
        rw [hx] at hS2
        have ih := ih (k + 1) (by omega) _ (some (.int (mw (f (oC c 2) + nI 1) (f (oC c 0)) k))) (hw.put (k := 4) (v := .int (stepA (advN f c k) c k 4 + x))) hS2
        refine g_iinc dX7_comesTo_173 rfl (by first | exact nI_inc _ | rfl) (by decide) rfl ?_
        show G _ _ _ _ _ _ _ _ _ [_, _, _, _, _, _] _
        refine g_jump (tgt := 20) dX7_comesTo_176 (by decide) ?_
        exact ih
      refine g_aload_n dX7_comesTo_145 rfl ?_
      refine g_get 9 rfl (by decide) inX7 0 (by decide) fl_X7_9 dX7_comesTo_146 hS.1 hS.2.2.1 ?_
      refine g_iconst (v := nI 4) dX7_comesTo_149 (by decide) ?_
      refine g_dup2 dX7_comesTo_150 rfl rfl ?_
      refine g_iaload dX7_comesTo_151 hS.2.1 (vp_in_nI (by decide) (by decide)) (hS.rd (k := 4) (by decide)) ?_
      refine g_iload dX7_comesTo_152 rfl ?_
      refine g_bipush (v := nI 12) dX7_comesTo_154 (by decide) ?_
      refine g_icmp_ne (tgt := 170) dX7_comesTo_156 (by decide) (fun b1 => ?_) (fun b1 => ?_)
      · have nx := nxt (nI 0) (by
          show _ = stepF (advN f c k) c k
          unfold stepF
          rw [eml, if_neg b1, add_nI0, upd_same])
        refine g_iconst (v := nI 0) dX7_comesTo_170 (by decide) ?_
        refine g_iadd dX7_comesTo_171 ?_
        refine g_iastore dX7_comesTo_172 hS.2.1 (vp_in_nI (by decide) (by decide)) ?_
        exact nx
      · have nx := nxt (f (oC c (5 + 3 * k))) (by
          show _ = stepF (advN f c k) c k
          unfold stepF
          rw [eml, if_pos b1, ew2])
        refine g_aload_n dX7_comesTo_159 rfl ?_
        refine g_iload_n dX7_comesTo_160 rfl ?_
        refine g_iload dX7_comesTo_161 rfl ?_
        refine g_iconst (v := nI 1) dX7_comesTo_163 (by decide) ?_
        refine g_callVp (Y := YX7_truck1) sv_X7_140 rfl yn_X7_truck1 9 (by decide) rfl rfl dX7_comesTo_164 (k_truck1 hS (c := c) (p := k) (k := 1) (by omega) (by omega) (by decide) pR_ok) hS.1 rfl rfl rfl (Nat.le_of_ble_eq_true rfl) ⟨rfl, rfl⟩ ?_
        rw [ew]
        refine g_jump (tgt := 171) dX7_comesTo_167 (by decide) ?_
        refine g_iadd dX7_comesTo_171 ?_
        refine g_iastore dX7_comesTo_172 hS.2.1 (vp_in_nI (by decide) (by decide)) ?_
        exact nx
    refine g_iload dX7_comesTo_20 rfl ?_
    refine g_aload_n dX7_comesTo_22 rfl ?_
    refine g_iload_n dX7_comesTo_23 rfl ?_
    refine g_iconst (v := nI 1) dX7_comesTo_24 (by decide) ?_
    refine g_callVp (Y := YX7_convoy1) sv_X7_81 rfl yn_X7_convoy1 9 (by decide) rfl rfl dX7_comesTo_25 (k_convoy1 hS (c := c) (k := 1) (by omega) (by decide) pR_ok) hS.1 rfl rfl rfl (Nat.le_of_ble_eq_true rfl) ⟨rfl, rfl⟩ ?_
    rw [e1]
    refine g_icmp_ge (tgt := 179) dX7_comesTo_28 (by decide) (fun hq => absurd hq (nI_ge (by omega) (by omega))) (fun _ => ?_)
    refine g_aload_n dX7_comesTo_31 rfl ?_
    refine g_iload_n dX7_comesTo_32 rfl ?_
    refine g_iload dX7_comesTo_33 rfl ?_
    refine g_iload_n dX7_comesTo_35 rfl ?_
    refine g_callVp (Y := YX7_mileBy) sv_X7_147 rfl yn_X7_mileBy 9 (by decide) rfl rfl dX7_comesTo_36 (k_mileBy hS (c := c) (p := k) (by omega) pR_ok) hS.1 rfl rfl rfl (Nat.le_of_ble_eq_true rfl) ⟨rfl, rfl⟩ ?_
    rw [e0]
    refine g_istore dX7_comesTo_39 (by decide) rfl ?_
    show G _ _ _ _ _ _ _ _ _ [_, _, _, _, _, _] _
    refine g_iload dX7_comesTo_41 rfl ?_
    refine g_callSp (Y := YX7_isMile) ss_X7_101 yn_X7_isMile dX7_comesTo_43 (k_isMile pR_ok) rfl rfl rfl (Nat.le_of_ble_eq_true rfl) ⟨rfl, rfl⟩ ?_
    refine g_if_eq (tgt := 145) dX7_comesTo_46 (by decide) (fun b1 => ?_) (fun b1 => ?_)
    · have t := tail V1 (fb_ct (fun k => decide (isM (mw (f (oC c 2) + nI 1) (f (oC c 0)) k))) k) hw (by
        unfold stepA
        rw [eml, if_neg (bi_eq b1)]
        exact hS) (by rw [fb_ct_succ, if_neg (fun q => bi_eq b1 (of_decide_eq_true q))]; rfl)
      exact t
    have b1 := bi_ne b1
    have tail := fun V2 a b => tail V2 (fb_ct (fun k => decide (isM (mw (f (oC c 2) + nI 1) (f (oC c 0)) k))) k + 1) a b (by rw [fb_ct_succ, if_pos (decide_eq_true b1)])
    have estp : stepA (advN f c k) c k = carF (advN f c k) (mw (f (oC c 2) + nI 1) (f (oC c 0)) k).toNatClampNeg (stn (tkF (advN f c k) c k)) := by
      unfold stepA
      rw [eml, if_pos b1]
    rw [estp] at tail
    obtain ⟨j, hj, ej⟩ := isM_nI b1
    rw [ej] at tail ⊢
    rw [nI_clamp (by omega)] at tail
    have es : stn (tkF (advN f c k) c k) = f (oC c (5 + 3 * k)) / nI 10 + nI 1 := by
      show advN f c k (oC c (5 + 3 * k)) / nI 10 + nI 1 = _
      rw [advN_c (Or.inr (by omega)) (by omega)]
    rw [es] at tail
    have ew : advN f c k (oC c (4 + 3 * k + 1)) = f (oC c (5 + 3 * k)) := by
      rw [show 4 + 3 * k + 1 = 5 + 3 * k by omega]
      exact advN_c (Or.inr (by omega)) (by omega)
    generalize advN f c k = g at tail hS e0 e1 e2 ew
    generalize f (oC c (5 + 3 * k)) = wt at tail ew
    refine g_iinc dX7_comesTo_49 rfl (by first | exact nI_inc _ | rfl) (by decide) rfl ?_
    show G _ _ _ _ _ _ _ _ _ [_, _, _, _, _, _] _
    refine g_aload_n dX7_comesTo_52 rfl ?_
    refine g_iload dX7_comesTo_53 rfl ?_
    refine g_iconst (v := nI 5) dX7_comesTo_55 (by decide) ?_
    refine g_aload_n dX7_comesTo_56 rfl ?_
    refine g_iload dX7_comesTo_57 rfl ?_
    refine g_iconst (v := nI 5) dX7_comesTo_59 (by decide) ?_
    refine g_callVp (Y := YX7_get) sv_X7_67 rfl yn_X7_get 9 (by decide) rfl rfl dX7_comesTo_60 (k_get hS hj (k := 5) (by decide) pR_ok) hS.1 rfl rfl rfl (Nat.le_of_ble_eq_true rfl) ⟨rfl, rfl⟩ ?_
    refine g_iconst (v := nI 1) dX7_comesTo_63 (by decide) ?_
    refine g_iadd dX7_comesTo_64 ?_
    refine g_callVv (Y := YX7_set) sv_X7_41 rfl yn_X7_set 9 (by decide) rfl rfl dX7_comesTo_65 (k_set (P := pV (fun V' => V' = hu V1 (m + 1) (oM j 5) (.int (g (oM j 5) + nI 1))) sh sz) hS hj (k := 5) (by decide) ⟨rfl, rfl, rfl, rfl⟩) hS.1 rfl rfl rfl (Nat.le_of_ble_eq_true rfl) ⟨rfl, rfl⟩ (fun V2 q => ?_)
    have hS2 := SA.wr (k := oM j 5) (x := g (oM j 5) + nI 1) hS
    have hw2 := hw.put (k := oM j 5) (v := .int (g (oM j 5) + nI 1))
    rw [← q] at hS2 hw2
    clear q
    have a2 : upd g (oM j 5) (g (oM j 5) + nI 1) (oM j 2) = g (oM j 2) := pk_un (oM_ne (by decide))
    have a1 : upd g (oM j 5) (g (oM j 5) + nI 1) (oM j 1) = g (oM j 1) := pk_un (oM_ne (by decide))
    have aw : upd g (oM j 5) (g (oM j 5) + nI 1) (oC c (4 + 3 * k + 1)) = wt := (pk_un (by unfold oC oM; omega)).trans ew
    refine g_aload_n dX7_comesTo_68 rfl ?_
    refine g_iload dX7_comesTo_69 rfl ?_
    refine g_iconst (v := nI 2) dX7_comesTo_71 (by decide) ?_
    refine g_aload_n dX7_comesTo_72 rfl ?_
    refine g_iload dX7_comesTo_73 rfl ?_
    refine g_iconst (v := nI 2) dX7_comesTo_75 (by decide) ?_
    refine g_callVp (Y := YX7_get) sv_X7_67 rfl yn_X7_get 9 (by decide) rfl rfl dX7_comesTo_76 (k_get hS2 hj (k := 2) (by decide) pR_ok) hS2.1 rfl rfl rfl (Nat.le_of_ble_eq_true rfl) ⟨rfl, rfl⟩ ?_
    rw [a2]
    refine g_aload_n dX7_comesTo_79 rfl ?_
    refine g_iload_n dX7_comesTo_80 rfl ?_
    refine g_iload dX7_comesTo_81 rfl ?_
    refine g_iconst (v := nI 1) dX7_comesTo_83 (by decide) ?_
    refine g_callVp (Y := YX7_truck1) sv_X7_140 rfl yn_X7_truck1 9 (by decide) rfl rfl dX7_comesTo_84 (k_truck1 hS2 (c := c) (p := k) (k := 1) (by omega) (by omega) (by decide) pR_ok) hS2.1 rfl rfl rfl (Nat.le_of_ble_eq_true rfl) ⟨rfl, rfl⟩ ?_
    rw [aw]
    refine g_bipush (v := nI 10) dX7_comesTo_87 (by decide) ?_
    refine g_idiv dX7_comesTo_89 (by decide) ?_
    refine g_iadd dX7_comesTo_90 ?_
    refine g_iconst (v := nI 1) dX7_comesTo_91 (by decide) ?_
    refine g_iadd dX7_comesTo_92 ?_
    rw [Int32.add_assoc]
    refine g_callVv (Y := YX7_set) sv_X7_41 rfl yn_X7_set 9 (by decide) rfl rfl dX7_comesTo_93 (k_set (P := pV (fun V' => V' = hu V2 (m + 1) (oM j 2) (.int (g (oM j 2) + (wt / nI 10 + nI 1)))) sh sz) hS2 hj (k := 2) (by decide) ⟨rfl, rfl, rfl, rfl⟩) hS2.1 rfl rfl rfl (Nat.le_of_ble_eq_true rfl) ⟨rfl, rfl⟩ (fun V3 q => ?_)
    have hS3 := SA.wr (k := oM j 2) (x := g (oM j 2) + (wt / nI 10 + nI 1)) hS2
    have hw3 := hw2.put (k := oM j 2) (v := .int (g (oM j 2) + (wt / nI 10 + nI 1)))
    rw [← q] at hS3 hw3
    clear q
    refine g_aload_n dX7_comesTo_96 rfl ?_
    refine g_iload dX7_comesTo_97 rfl ?_
    refine g_iconst (v := nI 2) dX7_comesTo_99 (by decide) ?_
    refine g_callVp (Y := YX7_get) sv_X7_67 rfl yn_X7_get 9 (by decide) rfl rfl dX7_comesTo_100 (k_get hS3 hj (k := 2) (by decide) pR_ok) hS3.1 rfl rfl rfl (Nat.le_of_ble_eq_true rfl) ⟨rfl, rfl⟩ ?_
    rw [pk_us]
    refine g_bipush (v := nI 20) dX7_comesTo_103 (by decide) ?_
    refine g_icmp_lt (tgt := 145) dX7_comesTo_105 (by decide) (fun b2 => ?_) (fun b2 => ?_)
    · have t := tail V3 hw3 (by rw [← carF_lo (Int32.not_le.mpr b2)]; exact hS3)
      exact t
    have b2 := Int32.not_lt.mp b2
    refine g_aload_n dX7_comesTo_108 rfl ?_
    refine g_iload dX7_comesTo_109 rfl ?_
    refine g_iconst (v := nI 2) dX7_comesTo_111 (by decide) ?_
    refine g_aload_n dX7_comesTo_112 rfl ?_
    refine g_iload dX7_comesTo_113 rfl ?_
    refine g_iconst (v := nI 2) dX7_comesTo_115 (by decide) ?_
    refine g_callVp (Y := YX7_get) sv_X7_67 rfl yn_X7_get 9 (by decide) rfl rfl dX7_comesTo_116 (k_get hS3 hj (k := 2) (by decide) pR_ok) hS3.1 rfl rfl rfl (Nat.le_of_ble_eq_true rfl) ⟨rfl, rfl⟩ ?_
    rw [pk_us]
    refine g_bipush (v := nI 20) dX7_comesTo_119 (by decide) ?_
    refine g_isub dX7_comesTo_121 ?_
    refine g_callVv (Y := YX7_set) sv_X7_41 rfl yn_X7_set 9 (by decide) rfl rfl dX7_comesTo_122 (k_set (P := pV (fun V' => V' = hu V3 (m + 1) (oM j 2) (.int (g (oM j 2) + (wt / nI 10 + nI 1) - nI 20))) sh sz) hS3 hj (k := 2) (by decide) ⟨rfl, rfl, rfl, rfl⟩) hS3.1 rfl rfl rfl (Nat.le_of_ble_eq_true rfl) ⟨rfl, rfl⟩ (fun V4 q => ?_)
    have hS4 := SA.wr (k := oM j 2) (x := g (oM j 2) + (wt / nI 10 + nI 1) - nI 20) hS3
    have hw4 := hw3.put (k := oM j 2) (v := .int (g (oM j 2) + (wt / nI 10 + nI 1) - nI 20))
    rw [← q] at hS4 hw4
    clear q
    rw [upd_twice] at hS4
    have a1' : upd (upd g (oM j 5) (g (oM j 5) + nI 1)) (oM j 2) (g (oM j 2) + (wt / nI 10 + nI 1) - nI 20) (oM j 1) = g (oM j 1) := (pk_un (oM_ne (by decide))).trans a1
    refine g_aload_n dX7_comesTo_125 rfl ?_
    refine g_iload dX7_comesTo_126 rfl ?_
    refine g_iconst (v := nI 1) dX7_comesTo_128 (by decide) ?_
    refine g_iconst (v := nI 5) dX7_comesTo_129 (by decide) ?_
    refine g_aload_n dX7_comesTo_130 rfl ?_
    refine g_iload dX7_comesTo_131 rfl ?_
    refine g_iconst (v := nI 1) dX7_comesTo_133 (by decide) ?_
    refine g_callVp (Y := YX7_get) sv_X7_67 rfl yn_X7_get 9 (by decide) rfl rfl dX7_comesTo_134 (k_get hS4 hj (k := 1) (by decide) pR_ok) hS4.1 rfl rfl rfl (Nat.le_of_ble_eq_true rfl) ⟨rfl, rfl⟩ ?_
    rw [a1']
    refine g_iconst (v := nI 1) dX7_comesTo_137 (by decide) ?_
    refine g_iadd dX7_comesTo_138 ?_
    refine g_mmin ml_X7_154 wm_mmin_s wm_ini wm_mmin_c dX7_comesTo_139 (Nat.le_of_ble_eq_true rfl) (Nat.le_of_ble_eq_true rfl) ⟨Nat.le_of_ble_eq_true rfl, Nat.le_of_ble_eq_true rfl⟩ ?_
    refine g_callVv (Y := YX7_set) sv_X7_41 rfl yn_X7_set 9 (by decide) rfl rfl dX7_comesTo_142 (k_set (P := pV (fun V' => V' = hu V4 (m + 1) (oM j 1) (.int (if g (oM j 1) + nI 1 < nI 5 then g (oM j 1) + nI 1 else nI 5))) sh sz) hS4 hj (k := 1) (by decide) ⟨rfl, rfl, rfl, rfl⟩) hS4.1 rfl rfl rfl (Nat.le_of_ble_eq_true rfl) ⟨rfl, rfl⟩ (fun V5 q => ?_)
    have hS5 := SA.wr (k := oM j 1) (x := if g (oM j 1) + nI 1 < nI 5 then g (oM j 1) + nI 1 else nI 5) hS4
    have hw5 := hw4.put (k := oM j 1) (v := .int (if g (oM j 1) + nI 1 < nI 5 then g (oM j 1) + nI 1 else nI 5))
    rw [← q] at hS5 hw5
    clear q
    rw [carF_hi b2] at hS5
    exact tail V5 hw5 hS5
/-- sums -/
theorem sI_cong {p q : Nat → Int32} : ∀ {n : Nat}, (∀ k, k < n → p k = q k) → sI p n = sI q n
  | 0, _ => rfl
  | n + 1, h => by rw [sI_succ, sI_succ, sI_cong (fun k hk => h k (by omega)), h n (by omega)]
theorem sI_more {p : Nat → Int32} {n : Nat} : ∀ {d : Nat}, (∀ k, n ≤ k → p k = nI 0) → sI p (n + d) = sI p n
  | 0, _ => rfl
  | d + 1, h => by
    show sI p (n + d) + p (n + d) = _
    rw [sI_more h, h _ (by omega)]
    exact Int32.add_zero _
end REF4

