/-! the reference: join, start, roll, pass -/
section REF9
variable {E : gE} {M : gM} {P : gP} {sh : Sh} {sz : Nat} {V V' : Vl} {cu su pc : Nat} {L : List (Option Value)} {rest : List Value} {m : Nat} {f g b : Fl} {th r : Int32} {S : St}
theorem upd_comm (f : Fl) {i j : Nat} (h : i ≠ j) (a b : Int32) : upd (upd f i a) j b = upd (upd f j b) i a := by
  funext k
  show (if k = j then b else if k = i then a else f k) = (if k = i then a else if k = j then b else f k)
  by_cases e : k = i
  · have e2 : ¬ k = j := by omega
    rw [if_neg e2, if_pos e, if_pos e]
  · rw [if_neg e, if_neg e]
theorem ne_code {a : Nat} {x : Int32} (h : 0 < a) (h2 : a < 2 ^ 31) : (nI a, x) ≠ (nI 0, nI 0) := fun q => absurd (Prod.mk.inj q).1 (nI_ne0 h h2)
def do_join (f : Fl) (c y z : Int32) : Dq := if isC f c ∧ isPl y z then (if f (oR (y.toNatClampNeg * 5 + z.toNatClampNeg)) = 0 then (2, nI 0, f, none) else if joinO f c.toNatClampNeg = (nI 0, nI 0) then (0, nI (ncv f c.toNatClampNeg + 1), jnF f c.toNatClampNeg (y.toNatClampNeg * 5 + z.toNatClampNeg), none) else (3, nI 0, f, some (joinO f c.toNatClampNeg))) else (1, nI 0, f, none)
set_option maxRecDepth 100000 in
theorem k_doJoin {c y z : Int32} (h : MB sh V m f 0 r S) (hI : InvB f) (hP : DP sh m sz V r S (do_join f c y z) P) : MC E YX7_doJoin [.ref m, .int c, .int y, .int z] sh sz V P := by
  have h0 := h.1.1
  have hS := h.1
  have h44 := hI.1.2
  unfold do_join at hP
  refine MC.of RX7 "doJoin" rfl (by decide +kernel) rfl 3 [_, _, _, _, none, none, none] rfl (Nat.le_of_ble_eq_true rfl) ?_
  show G E MX7_doJoin _ _ _ _ _ _ _ _ _
  have bad : ¬ (isC f c ∧ isPl y z) → G E MX7_doJoin P sh sz V 0 0 16 [some (.ref m), some (.int c), some (.int y), some (.int z), none, none, none] [] := by
    intro q
    rw [if_neg q] at hP
    refine g_aload_n dX7_doJoin_16 rfl ?_
    refine g_iconst (v := nI 1) dX7_doJoin_17 (by decide) ?_
    refine g_callVw (Y := YX7_fails) sv_X7_88 rfl yn_X7_fails 9 (by decide) rfl rfl dX7_doJoin_18 (k_fails (P := pW (fun v V' => v = .int (nI 0) ∧ V' = hu V m 7 (.int (nI 1))) sh sz) h0 ⟨_, rfl, rfl, rfl, rfl, rfl⟩) h0 rfl rfl rfl (Nat.le_of_ble_eq_true rfl) ⟨rfl, rfl⟩ (fun v V' q => ?_)
    obtain ⟨rfl, rfl⟩ := q
    exact g_iret rfl (nr_int _) dX7_doJoin_21 (by decide) (hP.fail h)
  refine g_aload_n dX7_doJoin_0 rfl ?_
  refine g_iload_n dX7_doJoin_1 rfl ?_
  refine g_callVp (Y := YX7_isConvoy) sv_X7_134 rfl yn_X7_isConvoy 9 (by decide) rfl rfl dX7_doJoin_2 (k_isConvoy hS hI pR_ok) h0 rfl rfl rfl (Nat.le_of_ble_eq_true rfl) ⟨rfl, rfl⟩ ?_
  refine g_if_eq (tgt := 16) dX7_doJoin_5 (by decide) (fun b1 => ?_) (fun b1 => ?_)
  · exact bad (fun q => bi_eq b1 q.1)
  refine g_iload_n dX7_doJoin_8 rfl ?_
  refine g_iload_n dX7_doJoin_9 rfl ?_
  refine g_callSp (Y := YX7_isPlace) ss_X7_130 yn_X7_isPlace dX7_doJoin_10 (k_isPlace pR_ok) rfl rfl rfl (Nat.le_of_ble_eq_true rfl) ⟨rfl, rfl⟩ ?_
  refine g_if_ne (tgt := 22) dX7_doJoin_13 (by decide) (fun b2 => ?_) (fun b2 => ?_)
  rotate_left
  · exact bad (fun q => bi_eq b2 q.2)
  have b1 := bi_ne b1
  have b2 := bi_ne b2
  rw [if_pos (show isC f c ∧ isPl y z from ⟨b1, b2⟩)] at hP
  obtain ⟨c, hc, rfl⟩ := isC_of hI b1
  obtain ⟨a, ha, rfl⟩ := in_nI b2.1.1 b2.1.2 (by decide)
  obtain ⟨k, hk, rfl⟩ := in_nI b2.2.1 b2.2.2 (by decide)
  rw [nI_clamp (by omega), nI_clamp (by omega), nI_clamp (by omega)] at hP
  obtain ⟨i0, i1, i2, i3, i4⟩ := hI.cv hc
  have hst := st_iff (hI.cv hc)
  refine g_iload_n dX7_doJoin_22 rfl ?_
  refine g_iload_n dX7_doJoin_23 rfl ?_
  refine g_callSp (Y := YX7_placeIn) ss_X7_123 yn_X7_placeIn dX7_doJoin_24 (k_placeIn pR_ok) rfl rfl rfl (Nat.le_of_ble_eq_true rfl) ⟨rfl, rfl⟩ ?_
  refine g_istore dX7_doJoin_27 (by decide) rfl ?_
  show G _ _ _ _ _ _ _ _ _ [_, _, _, _, _, _, _] _
  refine g_aload_n dX7_doJoin_29 rfl ?_
  refine g_get 9 rfl (by decide) inX7 0 (by decide) fl_X7_9 dX7_doJoin_30 h0 hS.2.2.1 ?_
  refine g_iload dX7_doJoin_33 rfl ?_
  refine g_iaload dX7_doJoin_35 hS.2.1 (vp_in_nI (by unfold oR; omega) (by decide)) (hS.rd (k := oR (a * 5 + k)) (by unfold oR; omega)) ?_
  refine g_if_ne (tgt := 45) dX7_doJoin_36 (by decide) (fun b3 => ?_) (fun b3 => ?_)
  rotate_left
  · rw [if_pos b3] at hP
    refine g_aload_n dX7_doJoin_39 rfl ?_
    refine g_iconst (v := nI 2) dX7_doJoin_40 (by decide) ?_
    refine g_callVw (Y := YX7_fails) sv_X7_88 rfl yn_X7_fails 9 (by decide) rfl rfl dX7_doJoin_41 (k_fails (P := pW (fun v V' => v = .int (nI 0) ∧ V' = hu V m 7 (.int (nI 2))) sh sz) h0 ⟨_, rfl, rfl, rfl, rfl, rfl⟩) h0 rfl rfl rfl (Nat.le_of_ble_eq_true rfl) ⟨rfl, rfl⟩ (fun v V' q => ?_)
    obtain ⟨rfl, rfl⟩ := q
    exact g_iret rfl (nr_int _) dX7_doJoin_44 (by decide) (hP.fail h)
  rw [if_neg b3] at hP
  unfold joinO at hP
  refine g_aload_n dX7_doJoin_45 rfl ?_
  refine g_iload_n dX7_doJoin_46 rfl ?_
  refine g_iconst (v := nI 1) dX7_doJoin_47 (by decide) ?_
  refine g_callVp (Y := YX7_convoy1) sv_X7_81 rfl yn_X7_convoy1 9 (by decide) rfl rfl dX7_doJoin_48 (k_convoy1 hS (c := c) (k := 1) (by omega) (by decide) pR_ok) h0 rfl rfl rfl (Nat.le_of_ble_eq_true rfl) ⟨rfl, rfl⟩ ?_
  rw [i1]
  refine g_istore dX7_doJoin_51 (by decide) rfl ?_
  show G _ _ _ _ _ _ _ _ _ [_, _, _, _, _, _, _] _
  refine g_aload_n dX7_doJoin_53 rfl ?_
  refine g_iload_n dX7_doJoin_54 rfl ?_
  refine g_iconst (v := nI 3) dX7_doJoin_55 (by decide) ?_
  refine g_callVp (Y := YX7_convoy1) sv_X7_81 rfl yn_X7_convoy1 9 (by decide) rfl rfl dX7_doJoin_56 (k_convoy1 hS (c := c) (k := 3) (by omega) (by decide) pR_ok) h0 rfl rfl rfl (Nat.le_of_ble_eq_true rfl) ⟨rfl, rfl⟩ ?_
  refine g_iconst (v := nI 1) dX7_doJoin_59 (by decide) ?_
  refine g_icmp_ne (tgt := 71) dX7_doJoin_60 (by decide) (fun b4 => ?_) (fun b4 => ?_)
  rotate_left
  · rw [if_pos (hst.mp b4), if_neg (ne_code (a := 4) (by decide) (by decide))] at hP
    refine g_aload_n dX7_doJoin_63 rfl ?_
    refine g_iconst (v := nI 3) dX7_doJoin_64 (by decide) ?_
    refine g_iconst (v := nI 4) dX7_doJoin_65 (by decide) ?_
    refine g_iload_n dX7_doJoin_66 rfl ?_
    refine g_callVw (Y := YX7_refuse) sv_X7_126 rfl yn_X7_refuse 9 (by decide) rfl rfl dX7_doJoin_67 (k_refuse (P := pW (fun v V' => v = .int (nI 0) ∧ P (.inl (some (.int (nI 0)))) sh sz V') sh sz) h (fun V' q1 q2 q3 => ⟨_, rfl, rfl, rfl, rfl, hP.ref V' q1 q2 q3⟩)) h0 rfl rfl rfl (Nat.le_of_ble_eq_true rfl) ⟨rfl, rfl⟩ (fun v V' q => ?_)
    obtain ⟨rfl, q⟩ := q
    exact g_iret rfl (nr_int _) dX7_doJoin_70 (by decide) q
  rw [if_neg (fun q => b4 (hst.mpr q))] at hP
  refine g_iload dX7_doJoin_71 rfl ?_
  refine g_iconst (v := nI 4) dX7_doJoin_73 (by decide) ?_
  refine g_icmp_ne (tgt := 85) dX7_doJoin_74 (by decide) (fun b5 => ?_) (fun b5 => ?_)
  rotate_left
  · have h4 : ncv f c = 4 := (nI_eq (by omega) (by decide)).mp b5
    rw [if_neg (show ¬ ncv f c < 4 by omega), if_neg (ne_code (a := 1) (by decide) (by decide))] at hP
    refine g_aload_n dX7_doJoin_77 rfl ?_
    refine g_iconst (v := nI 3) dX7_doJoin_78 (by decide) ?_
    refine g_iconst (v := nI 1) dX7_doJoin_79 (by decide) ?_
    refine g_iconst (v := nI 4) dX7_doJoin_80 (by decide) ?_
    refine g_callVw (Y := YX7_refuse) sv_X7_126 rfl yn_X7_refuse 9 (by decide) rfl rfl dX7_doJoin_81 (k_refuse (P := pW (fun v V' => v = .int (nI 0) ∧ P (.inl (some (.int (nI 0)))) sh sz V') sh sz) h (fun V' q1 q2 q3 => ⟨_, rfl, rfl, rfl, rfl, hP.ref V' q1 q2 q3⟩)) h0 rfl rfl rfl (Nat.le_of_ble_eq_true rfl) ⟨rfl, rfl⟩ (fun v V' q => ?_)
    obtain ⟨rfl, q⟩ := q
    exact g_iret rfl (nr_int _) dX7_doJoin_84 (by decide) q
  have h4 : ncv f c < 4 := by
    rcases Nat.lt_or_ge (ncv f c) 4 with q | q
    · exact q
    · exact absurd (by rw [show ncv f c = 4 by omega]) b5
  rw [if_pos h4, if_pos rfl] at hP
  have hnc : nI 100 + nI 16 * nI c + nI 4 + nI 3 * nI (ncv f c) = nI (oC c (4 + 3 * ncv f c)) := by
    rw [ix_C, pk_mul, nI_add]
    unfold oC
    rw [show 100 + 16 * c + 4 + 3 * ncv f c = 100 + 16 * c + (4 + 3 * ncv f c) by omega]
  have lt : ∀ i, i < 16 → oC c i < 164 := fun i hi => by unfold oC; omega
  refine g_bipush (v := nI 100) dX7_doJoin_85 (by decide) ?_
  refine g_bipush (v := nI 16) dX7_doJoin_87 (by decide) ?_
  refine g_iload_n dX7_doJoin_89 rfl ?_
  refine g_imul dX7_doJoin_90 ?_
  refine g_iadd dX7_doJoin_91 ?_
  refine g_iconst (v := nI 4) dX7_doJoin_92 (by decide) ?_
  refine g_iadd dX7_doJoin_93 ?_
  refine g_iconst (v := nI 3) dX7_doJoin_94 (by decide) ?_
  refine g_iload dX7_doJoin_95 rfl ?_
  refine g_imul dX7_doJoin_97 ?_
  refine g_iadd dX7_doJoin_98 ?_
  rw [hnc]
  refine g_istore dX7_doJoin_99 (by decide) rfl ?_
  show G _ _ _ _ _ _ _ _ _ [_, _, _, _, _, _, _] _
  refine g_aload_n dX7_doJoin_101 rfl ?_
  refine g_get 9 rfl (by decide) inX7 0 (by decide) fl_X7_9 dX7_doJoin_102 h0 hS.2.2.1 ?_
  refine g_iload dX7_doJoin_105 rfl ?_
  refine g_iconst (v := nI 0) dX7_doJoin_107 (by decide) ?_
  refine g_iadd dX7_doJoin_108 ?_
  refine g_iload_n dX7_doJoin_109 rfl ?_
  rw [nI_add]
  refine g_iastore dX7_doJoin_110 hS.2.1 (vp_in_nI (by unfold oC; omega) (by decide)) ?_
  rw [nI_clamp (by unfold oC; omega)]
  have hS1 := SA.wr (k := oC c (4 + 3 * ncv f c)) (x := nI a) hS
  have hw1 := (Mw.rf (V := V) (m := m)).put (k := oC c (4 + 3 * ncv f c)) (v := .int (nI a))
  rw [show oC c (4 + 3 * ncv f c) + 0 = oC c (4 + 3 * ncv f c) from rfl]
  have d1 := hS1.rd (k := oR (a * 5 + k)) (by unfold oR; omega)
  rw [pk_un (by unfold oR oC; omega)] at d1
  have d2 := hS1.rd (k := oR (a * 5 + k) + 1) (by unfold oR; omega)
  rw [pk_un (by unfold oR oC; omega)] at d2
  generalize hu V (m + 1) (oC c (4 + 3 * ncv f c)) (.int (nI a)) = V1 at hS1 hw1 d1 d2 ⊢
  refine g_aload_n dX7_doJoin_111 rfl ?_
  refine g_get 9 rfl (by decide) inX7 0 (by decide) fl_X7_9 dX7_doJoin_112 h0 hS1.2.2.1 ?_
  refine g_iload dX7_doJoin_115 rfl ?_
  refine g_iconst (v := nI 1) dX7_doJoin_117 (by decide) ?_
  refine g_iadd dX7_doJoin_118 ?_
  refine g_aload_n dX7_doJoin_119 rfl ?_
  rw [nI_add]
  refine g_get 9 rfl (by decide) inX7 0 (by decide) fl_X7_9 dX7_doJoin_120 h0 hS1.2.2.1 ?_
  refine g_iload dX7_doJoin_123 rfl ?_
  refine g_iaload dX7_doJoin_125 hS1.2.1 (vp_in_nI (by unfold oR; omega) (by decide)) d1 ?_
  refine g_iastore dX7_doJoin_126 hS1.2.1 (vp_in_nI (by unfold oC; omega) (by decide)) ?_
  rw [nI_clamp (by unfold oC; omega), show oC c (4 + 3 * ncv f c) + 1 = oC c (5 + 3 * ncv f c) by unfold oC; omega]
  have hS2 := SA.wr (k := oC c (5 + 3 * ncv f c)) (x := f (oR (a * 5 + k))) hS1
  have hw2 := hw1.put (k := oC c (5 + 3 * ncv f c)) (v := .int (f (oR (a * 5 + k))))
  have d3 := hS2.rd (k := oR (a * 5 + k) + 1) (by unfold oR; omega)
  rw [pk_un (by unfold oR oC; omega), pk_un (by unfold oR oC; omega)] at d3
  generalize hu V1 (m + 1) (oC c (5 + 3 * ncv f c)) (.int (f (oR (a * 5 + k)))) = V2 at hS2 hw2 d3 ⊢
  refine g_aload_n dX7_doJoin_127 rfl ?_
  refine g_get 9 rfl (by decide) inX7 0 (by decide) fl_X7_9 dX7_doJoin_128 h0 hS2.2.2.1 ?_
  refine g_iload dX7_doJoin_131 rfl ?_
  refine g_iconst (v := nI 2) dX7_doJoin_133 (by decide) ?_
  refine g_iadd dX7_doJoin_134 ?_
  refine g_aload_n dX7_doJoin_135 rfl ?_
  rw [nI_add]
  refine g_get 9 rfl (by decide) inX7 0 (by decide) fl_X7_9 dX7_doJoin_136 h0 hS2.2.2.1 ?_
  refine g_iload dX7_doJoin_139 rfl ?_
  refine g_iconst (v := nI 1) dX7_doJoin_141 (by decide) ?_
  refine g_iadd dX7_doJoin_142 ?_
  rw [nI_add]
  refine g_iaload dX7_doJoin_143 hS2.2.1 (vp_in_nI (by unfold oR; omega) (by decide)) d3 ?_
  refine g_iastore dX7_doJoin_144 hS2.2.1 (vp_in_nI (by unfold oC; omega) (by decide)) ?_
  rw [nI_clamp (by unfold oC; omega), show oC c (4 + 3 * ncv f c) + 2 = oC c (6 + 3 * ncv f c) by unfold oC; omega]
  have hS3 := SA.wr (k := oC c (6 + 3 * ncv f c)) (x := f (oR (a * 5 + k) + 1)) hS2
  have hw3 := hw2.put (k := oC c (6 + 3 * ncv f c)) (v := .int (f (oR (a * 5 + k) + 1)))
  generalize hu V2 (m + 1) (oC c (6 + 3 * ncv f c)) (.int (f (oR (a * 5 + k) + 1))) = V3 at hS3 hw3 ⊢
  refine g_aload_n dX7_doJoin_145 rfl ?_
  refine g_get 9 rfl (by decide) inX7 0 (by decide) fl_X7_9 dX7_doJoin_146 h0 hS3.2.2.1 ?_
  refine g_iload dX7_doJoin_149 rfl ?_
  refine g_iconst (v := nI 0) dX7_doJoin_151 (by decide) ?_
  refine g_iastore dX7_doJoin_152 hS3.2.1 (vp_in_nI (by unfold oR; omega) (by decide)) ?_
  rw [nI_clamp (by unfold oR; omega)]
  have hS4 := SA.wr (k := oR (a * 5 + k)) (x := nI 0) hS3
  have hw4 := hw3.put (k := oR (a * 5 + k)) (v := .int (nI 0))
  generalize hu V3 (m + 1) (oR (a * 5 + k)) (.int (nI 0)) = V4 at hS4 hw4 ⊢
  refine g_aload_n dX7_doJoin_153 rfl ?_
  refine g_get 9 rfl (by decide) inX7 0 (by decide) fl_X7_9 dX7_doJoin_154 h0 hS4.2.2.1 ?_
  refine g_iload dX7_doJoin_157 rfl ?_
  refine g_iconst (v := nI 1) dX7_doJoin_159 (by decide) ?_
  refine g_iadd dX7_doJoin_160 ?_
  refine g_iconst (v := nI 0) dX7_doJoin_161 (by decide) ?_
  rw [nI_add]
  refine g_iastore dX7_doJoin_162 hS4.2.1 (vp_in_nI (by unfold oR; omega) (by decide)) ?_
  rw [nI_clamp (by unfold oR; omega)]
  have hS5 := SA.wr (k := oR (a * 5 + k) + 1) (x := nI 0) hS4
  have hw5 := hw4.put (k := oR (a * 5 + k) + 1) (v := .int (nI 0))
  have d5 := hS5.rd (k := oC c 1) (lt 1 (by decide))
  rw [pk_un (by unfold oR oC; omega), pk_un (by unfold oR oC; omega), pk_un (by unfold oC; omega), pk_un (by unfold oC; omega), pk_un (by unfold oC; omega)] at d5
  generalize hu V4 (m + 1) (oR (a * 5 + k) + 1) (.int (nI 0)) = V5 at hS5 hw5 d5 ⊢
  refine g_aload_n dX7_doJoin_163 rfl ?_
  refine g_get 9 rfl (by decide) inX7 0 (by decide) fl_X7_9 dX7_doJoin_164 h0 hS5.2.2.1 ?_
  refine g_bipush (v := nI 100) dX7_doJoin_167 (by decide) ?_
  refine g_bipush (v := nI 16) dX7_doJoin_169 (by decide) ?_
  refine g_iload_n dX7_doJoin_171 rfl ?_
  refine g_imul dX7_doJoin_172 ?_
  refine g_iadd dX7_doJoin_173 ?_
  refine g_iconst (v := nI 1) dX7_doJoin_174 (by decide) ?_
  refine g_iadd dX7_doJoin_175 ?_
  refine g_dup2 dX7_doJoin_176 rfl rfl ?_
  rw [ix_C]
  refine g_iaload dX7_doJoin_177 hS5.2.1 (vp_in_nI (by unfold oC; omega) (by decide)) d5 ?_
  refine g_iconst (v := nI 1) dX7_doJoin_178 (by decide) ?_
  refine g_iadd dX7_doJoin_179 ?_
  refine g_iastore dX7_doJoin_180 hS5.2.1 (vp_in_nI (by unfold oC; omega) (by decide)) ?_
  rw [nI_clamp (by unfold oC; omega)]
  have hS6 := SA.wr (k := oC c 1) (x := f (oC c 1) + nI 1) hS5
  have hw6 := hw5.put (k := oC c 1) (v := .int (f (oC c 1) + nI 1))
  have ej : upd (upd (upd (upd (upd (upd f (oC c (4 + 3 * ncv f c)) (nI a)) (oC c (5 + 3 * ncv f c)) (f (oR (a * 5 + k)))) (oC c (6 + 3 * ncv f c)) (f (oR (a * 5 + k) + 1))) (oR (a * 5 + k)) (nI 0)) (oR (a * 5 + k) + 1) (nI 0)) (oC c 1) (f (oC c 1) + nI 1) = jnF f c (a * 5 + k) := by
    unfold jnF jn1
    rw [show (a * 5 + k) / 5 = a by omega]
    rw [upd_comm _ (i := oR (a * 5 + k) + 1) (j := oC c 1) (by unfold oR oC; omega), upd_comm _ (i := oR (a * 5 + k)) (j := oC c 1) (by unfold oR oC; omega)]
  rw [ej] at hS6
  have hP := hP.row h hw6 hS6
  refine g_iload dX7_doJoin_181 rfl ?_
  refine g_iconst (v := nI 1) dX7_doJoin_183 (by decide) ?_
  refine g_iadd dX7_doJoin_184 ?_
  rw [nI_add]
  exact g_iret rfl (nr_int _) dX7_doJoin_185 (by decide) hP
theorem onR_adv {c : Nat} (h0 : 0 ≤ f (oC c 2) + nI 1) : onR (advF f c) c = fb_ct (fun k => decide (isM (mw (f (oC c 2) + nI 1) (f (oC c 0)) k))) (ncv f c) := by
  unfold onR advF
  rw [advN_ncv]
  refine fb_ct_cong fun k hk => ?_
  rw [advN_ld, advN_c (Or.inr (by decide)) (by decide), mt_st h0]
theorem e100_dm {z : Int32 × Int32} (h : codeOk z) : e100 z / nI 100 = z.1 ∧ e100 z - e100 z / nI 100 * nI 100 = z.2 ∧ (z ≠ (nI 0, nI 0) → 0 < e100 z) ∧ (z = (nI 0, nI 0) → e100 z = nI 0) := by
  rcases h with rfl | ⟨a, b, h1, h2, h3, rfl⟩
  · exact ⟨by decide, by decide, fun q => absurd rfl q, fun _ => by decide⟩
  · have e : e100 (nI a, nI b) = nI (100 * a + b) := by
      show nI a * nI 100 + nI b = _
      rw [pk_mul, nI_add, Nat.mul_comm]
    rw [e, pk_rem (by omega) (by decide) (by decide), pk_div (by omega) (by decide) (by decide)]
    exact ⟨by rw [show (100 * a + b) / 100 = a by omega], by rw [show (100 * a + b) % 100 = b by omega], fun _ => nI_lt (a := 0) (by omega) (by omega), fun q => absurd (Prod.mk.inj q).1 (nI_ne0 (by omega) (by omega))⟩
end REF9

