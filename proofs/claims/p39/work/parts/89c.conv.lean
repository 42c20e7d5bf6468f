/-! the law's drills and convoys; what it draws -/
section DRAWN2
variable {E : gE} {sh : Sh} {sz : Nat} {V : Vl} {x z nc n0 : Nat} {P : gP}
set_option maxRecDepth 100000 in
theorem dr_drill (hlen : E.2.2.2.2.2.2.1 ≤ 260) {a2 : Option Value} {i3 : Int32} (kk : ∀ S, cnt S.1 = nc → DI 30 S → ∀ (i4 : Int32) a5 a6 a7 a8 a9, GL E ML_drawn P x S [] z 400 310 [some (.ref E.2.2.2.2.2.1), some (.ref x), a2, some (.int i3), some (.int i4), a5, a6, a7, a8, a9] []) : ∀ (d j : Nat), j + d = 12 → ∀ S, cnt S.1 = nc → DI 30 S → ∀ a5 a6 a7 a8 a9, GL E ML_drawn P x S [] z (350 + 3 * j) 261 [some (.ref E.2.2.2.2.2.1), some (.ref x), a2, some (.int i3), some (.int (nI j)), a5, a6, a7, a8, a9] [] := by
  intro d
  induction d with
  | zero =>
    intro j hj S hc hD a5 a6 a7 a8 a9 sh sz V cu su hA hb
    obtain rfl : j = 12 := by omega
    refine g_iload dL_drawn_261 rfl ?_
    refine g_bipush (v := nI 12) dL_drawn_263 (by decide) ?_
    refine g_icmp_ge (tgt := 310) dL_drawn_265 (by decide) (fun _ => ?_) (fun hq => absurd (Int32.le_refl _) hq)
    exact (kk S hc hD _ _ _ _ _ _).go hA hb (by omega)
  | succ d ih =>
    intro j hj S hc hD a5 a6 a7 a8 a9 sh sz V cu su hA hb
    have hI := hA.sB
    have hj12 : j < 12 := by omega
    refine g_iload dL_drawn_261 rfl ?_
    refine g_bipush (v := nI 12) dL_drawn_263 (by decide) ?_
    refine g_icmp_ge (tgt := 310) dL_drawn_265 (by decide) (fun hq => absurd hq (nI_ge (by omega) (by decide))) (fun _ => ?_)
    refine g_aload_n dL_drawn_268 rfl ?_
    refine g_bipush (v := nI 13) dL_drawn_269 (by decide) ?_
    refine g_lcP (M := ML_drawn) (pc := 271) (Y := YL_cell) ss_L_125 yn_L_cell dL_drawn_271 hb (lRm_of rfl (rm_c (by show _ ≤ 700; omega) (Nat.le_of_ble_eq_true rfl))) (c_cell (k := 13) (by omega) hlen) rfl rfl (Nat.le_of_ble_eq_true rfl) ?_
    refine g_iload dL_drawn_274 rfl ?_
    refine g_iconst (v := nI 1) dL_drawn_276 (by decide) ?_
    refine g_iadd dL_drawn_277 ?_
    refine g_iushr dL_drawn_278 rfl ?_
    refine g_iconst (v := nI 3) dL_drawn_279 (by decide) ?_
    refine g_iand dL_drawn_280 ?_
    refine g_if_eq (tgt := 304) dL_drawn_281 (by decide) (fun b1 => ?_) (fun b1 => ?_)
    · refine g_iinc dL_drawn_304 rfl (by first | exact nI_inc _ | rfl) (by decide) rfl ?_
      show G _ _ _ _ _ _ _ _ _ [_, _, _, _, _, _, _, _, _, _] _
      refine g_jump (tgt := 261) dL_drawn_307 (by decide) ?_
      exact (ih (j + 1) (by omega) S hc hD _ _ _ _ _).go hA hb (by omega)
    · refine g_aload_n dL_drawn_284 rfl ?_
      refine g_iload dL_drawn_285 rfl ?_
      refine g_lcH 1 (M := ML_drawn) (pc := 287) (Y := YL_drill) (gIn_SH ml_L_143 wt_L_drill ini_L wc_L_drill) yn_L_drill dL_drawn_287 hb (lRm_of rfl (rm_c (by show _ ≤ 700; omega) (Nat.le_of_ble_eq_true rfl))) (l_drill (j := j) hA hj12) rfl rfl (Nat.le_of_ble_eq_true rfl) ?_
      intro sh sz V cu su hA hb
      have e0 : (push S (drF S.1 j)).1 (oM j 0) = S.1 (oM j 0) := by
        show drF S.1 j (oM j 0) = _
        unfold drF
        rw [pk_un (by unfold oM; omega), pk_un (by unfold oM; omega), pk_un (by unfold oM; omega)]
      refine g_aload_n dL_drawn_290 rfl ?_
      refine g_iload dL_drawn_291 rfl ?_
      refine g_lcV 1 (M := ML_drawn) (pc := 293) (Y := YX6_ice) sv_L_145 rfl yn_X6_ice 8 (by decide) rfl rfl dL_drawn_293 hb (lRm_of rfl (rm_c (by show _ ≤ 700; omega) (Nat.le_of_ble_eq_true rfl))) (k_ice (j := j) hA hj12) hA.s9 rfl rfl (Nat.le_of_ble_eq_true rfl) ?_
      intro sh sz V cu su hA hb
      rw [e0]
      refine g_lcP (M := ML_drawn) (pc := 296) (Y := YJxf58ca_floatToIntBits_5c35a) ss_L_148 yn_Jxf58ca_floatToIntBits_5c35a dL_drawn_296 hb (lRm_of rfl (rm_c (by show _ ≤ 700; omega) (Nat.le_of_ble_eq_true rfl))) (c_ftib (hI.2.2.2.1 j hj12).1.n pR_ok) rfl rfl (Nat.le_of_ble_eq_true rfl) ?_
      refine g_icmp_eq (tgt := 304) dL_drawn_299 (by decide) (fun _ => ?_) (fun hq => absurd (rfl) hq)
      refine g_iinc dL_drawn_304 rfl (by first | exact nI_inc _ | rfl) (by decide) rfl ?_
      show G _ _ _ _ _ _ _ _ _ [_, _, _, _, _, _, _, _, _, _] _
      refine g_jump (tgt := 261) dL_drawn_307 (by decide) ?_
      refine (ih (j + 1) (by omega) _ ?_ (hD.push (D_dr hD.2.1) (W_dr hD.2.2 hj12)) _ _ _ _ _).go hA hb (by omega)
      show cnt (drF S.1 j) = nc
      rw [← hc]
      unfold cnt drF
      rw [pk_un (by decide), pk_un (by unfold oM; omega), pk_un (by unfold oM; omega)]
set_option maxRecDepth 100000 in
theorem dr_conv (hlen : E.2.2.2.2.2.2.1 ≤ 260) (h1 : 1 ≤ nc) (h3 : nc ≤ 3) {a2 : Option Value} (kk : ∀ S, CV nc S → ∀ (i4 : Int32) a5 a6 a7 a8 a9, GL E ML_drawn P x S [] z 345 258 [some (.ref E.2.2.2.2.2.1), some (.ref x), a2, some (.int (nI nc)), some (.int i4), a5, a6, a7, a8, a9] []) : ∀ (d c : Nat), c + d = nc → ∀ S, CV c S → ∀ a5 a6 a7 a8 a9, GL E ML_drawn P x S [] z (310 + 10 * c) 100 [some (.ref E.2.2.2.2.2.1), some (.ref x), a2, some (.int (nI nc)), some (.int (nI c)), a5, a6, a7, a8, a9] [] := by
  intro d
  induction d with
  | zero =>
    intro c hc S hS a5 a6 a7 a8 a9 sh sz V cu su hA hb
    obtain rfl : c = nc := by omega
    refine g_iload dL_drawn_100 rfl ?_
    refine g_iload_n dL_drawn_102 rfl ?_
    refine g_icmp_ge (tgt := 258) dL_drawn_103 (by decide) (fun _ => ?_) (fun hq => absurd (Int32.le_refl _) hq)
    exact (kk S hS _ _ _ _ _ _).go hA hb (by omega)
  | succ d ih =>
    intro c hc S hS a5 a6 a7 a8 a9
    obtain ⟨n1, hn1, en1⟩ := ushr_n (clV E (1 + c)) (k := 1) (by decide) (by decide)
    have K138 : ∀ (e p : Nat), p + e = 1 + n1 / 2 ^ 2 % 3 → ∀ S, CV (c + 1) S → ncv S.1 c = p → ∀ a7 a8 a9, GL E ML_drawn P x S [] z (310 + 10 * c + 1 + 2 * p) 138 [some (.ref E.2.2.2.2.2.1), some (.ref x), a2, some (.int (nI nc)), some (.int (nI c)), some (.int (nI n1)), some (.int (nI p)), a7, a8, a9] [] := by
      intro e
      induction e with
      | zero =>
        intro p hp S hS hn a7 a8 a9 sh sz V cu su hA hb
        refine g_iload dL_drawn_138 rfl ?_
        refine g_iconst (v := nI 1) dL_drawn_140 (by decide) ?_
        refine g_iload dL_drawn_141 rfl ?_
        refine g_iconst (v := nI 2) dL_drawn_143 (by decide) ?_
        refine g_iushr dL_drawn_144 rfl ?_
        refine g_iconst (v := nI 3) dL_drawn_145 (by decide) ?_
        refine g_irem dL_drawn_146 (by decide) ?_
        refine g_iadd dL_drawn_147 ?_
        rw [ushr_nI hn1 (by decide), rem_nI (by omega) (by decide) (by decide), nI_add]
        refine g_icmp_ge (tgt := 252) dL_drawn_148 (by decide) (fun _ => ?_) (fun hq => absurd (nI_le (by omega) (by omega)) hq)
        refine g_iinc dL_drawn_252 rfl (by first | exact nI_inc _ | rfl) (by decide) rfl ?_
        show G _ _ _ _ _ _ _ _ _ [_, _, _, _, _, _, _, _, _, _] _
        refine g_jump (tgt := 100) dL_drawn_255 (by decide) ?_
        exact (ih (c + 1) (by omega) S hS _ _ _ _ _).go hA hb (by omega)
      | succ e ih2 =>
        intro p hp S hS hn a7 a8 a9
        obtain ⟨n2, hn2, en2⟩ := ushr_n (clV E (4 + 3 * c + p)) (k := 1) (by decide) (by decide)
        have J204 : ∀ wt, 5 ≤ wt → wt ≤ 60 → ∀ a9, GL E ML_drawn P x S [] z (310 + 10 * c + 1 + 2 * p) 204 [some (.ref E.2.2.2.2.2.1), some (.ref x), a2, some (.int (nI nc)), some (.int (nI c)), some (.int (nI n1)), some (.int (nI p)), some (.int (nI n2)), some (.int (nI (n2 % 2))), a9] [.int (nI wt)] := by
          intro wt w1 w2 a9 sh sz V cu su hA hb
          have hk2 : n2 % 2 < 2 := Nat.mod_lt _ (by decide)
          refine g_istore dL_drawn_204 (by decide) rfl ?_
          show G _ _ _ _ _ _ _ _ _ [_, _, _, _, _, _, _, _, _, _] _
          refine g_aload_n dL_drawn_206 rfl ?_
          refine g_iload dL_drawn_207 rfl ?_
          refine g_iload dL_drawn_209 rfl ?_
          refine g_iconst (v := nI 2) dL_drawn_211 (by decide) ?_
          refine g_iload dL_drawn_212 rfl ?_
          refine g_bipush (v := nI 9) dL_drawn_214 (by decide) ?_
          refine g_iushr dL_drawn_216 rfl ?_
          refine g_iconst (v := nI 5) dL_drawn_217 (by decide) ?_
          refine g_irem dL_drawn_218 (by decide) ?_
          refine g_iadd dL_drawn_219 ?_
          rw [ushr_nI hn2 (by decide), rem_nI (by omega) (by decide) (by decide), nI_add]
          refine g_iload dL_drawn_220 rfl ?_
          refine g_lcH 1 (M := ML_drawn) (pc := 222) (Y := YL_truck) (gIn_SH ml_L_137 wt_L_truck ini_L wc_L_truck) yn_L_truck dL_drawn_222 hb (lRm_of rfl (rm_c (by show _ ≤ 700; omega) (Nat.le_of_ble_eq_true rfl))) (l_truck_ok (kd := n2 % 2) (wt := wt) (ax := 2 + n2 / 2 ^ 9 % 5) hA hk2 w1 w2 (by omega) (by omega) (hS.2.2.1 _ (by omega))) rfl rfl (Nat.le_of_ble_eq_true rfl) ?_
          intro sh sz V cu su hA hb
          refine g_if_ne (tgt := 244) dL_drawn_225 (by decide) (fun hq => absurd hq (fun q => q rfl)) (fun _ => ?_)
          have hcc : c < cnt S.1 := by rw [hS.2.1]; exact Nat.lt_succ_self c
          have hI1 : InvB (trF S.1 (n2 % 2 * 5) (nI wt) (nI (2 + n2 / 2 ^ 9 % 5))) := hA.sB
          obtain ⟨t1, t2⟩ := hS.tj (c := c) (Nat.lt_succ_self c) (show n2 % 2 * 5 < 10 by omega) (by omega) hI1
          have ej := hS.jo (w := nI wt) (ax := nI (2 + n2 / 2 ^ 9 % 5)) (c := c) (Nat.lt_succ_self c) (show n2 % 2 * 5 < 10 by omega) (by omega)
          have en : ncv (trF S.1 (n2 % 2 * 5) (nI wt) (nI (2 + n2 / 2 ^ 9 % 5))) c = p := by
            unfold ncv at hn ⊢
            rw [trF_C (by omega)]
            exact hn
          have hj := l_join_ok (E := E) (c := c) (kd := n2 % 2) hA (by show c < cnt (trF _ _ _ _); rw [trF_cnt]; exact hcc) hk2 (by show ¬ trF _ _ _ _ (oR _) = 0; rw [trF_at]; exact nI_ne0 (by omega) (by omega)) ej
          rw [show ncv (push S (trF S.1 (n2 % 2 * 5) (nI wt) (nI (2 + n2 / 2 ^ 9 % 5)))).1 c = p from en] at hj
          refine g_aload_n dL_drawn_228 rfl ?_
          refine g_iload dL_drawn_229 rfl ?_
          refine g_iload dL_drawn_231 rfl ?_
          refine g_iconst (v := nI 0) dL_drawn_233 (by decide) ?_
          refine g_lcH 1 (M := ML_drawn) (pc := 234) (Y := YL_join) (gIn_SH ml_L_140 wt_L_join ini_L wc_L_join) yn_L_join dL_drawn_234 hb (lRm_of rfl (rm_c (by show _ ≤ 700; omega) (Nat.le_of_ble_eq_true rfl))) hj rfl rfl (Nat.le_of_ble_eq_true rfl) ?_
          intro sh sz V cu su hA hb
          refine g_iload dL_drawn_237 rfl ?_
          refine g_iconst (v := nI 1) dL_drawn_239 (by decide) ?_
          refine g_iadd dL_drawn_240 ?_
          rw [nI_add]
          refine g_icmp_eq (tgt := 246) dL_drawn_241 (by decide) (fun _ => ?_) (fun hq => absurd (rfl) hq)
          refine g_iinc dL_drawn_246 rfl (by first | exact nI_inc _ | rfl) (by decide) rfl ?_
          show G _ _ _ _ _ _ _ _ _ [_, _, _, _, _, _, _, _, _, _] _
          refine g_jump (tgt := 138) dL_drawn_249 (by decide) ?_
          exact (ih2 (p + 1) (by omega) _ t1 (by show ncv (jnF _ _ _) c = _; rw [t2, hn]) _ _ _).go hA hb (by omega)
        intro sh sz V cu su hA hb
        refine g_iload dL_drawn_138 rfl ?_
        refine g_iconst (v := nI 1) dL_drawn_140 (by decide) ?_
        refine g_iload dL_drawn_141 rfl ?_
        refine g_iconst (v := nI 2) dL_drawn_143 (by decide) ?_
        refine g_iushr dL_drawn_144 rfl ?_
        refine g_iconst (v := nI 3) dL_drawn_145 (by decide) ?_
        refine g_irem dL_drawn_146 (by decide) ?_
        refine g_iadd dL_drawn_147 ?_
        rw [ushr_nI hn1 (by decide), rem_nI (by omega) (by decide) (by decide), nI_add]
        refine g_icmp_ge (tgt := 252) dL_drawn_148 (by decide) (fun hq => absurd hq (nI_ge (by omega) (by omega))) (fun _ => ?_)
        refine g_aload_n dL_drawn_151 rfl ?_
        refine g_iconst (v := nI 4) dL_drawn_152 (by decide) ?_
        refine g_iconst (v := nI 3) dL_drawn_153 (by decide) ?_
        refine g_iload dL_drawn_154 rfl ?_
        refine g_imul dL_drawn_156 ?_
        refine g_iadd dL_drawn_157 ?_
        refine g_iload dL_drawn_158 rfl ?_
        refine g_iadd dL_drawn_160 ?_
        rw [pk_mul, nI_add, nI_add]
        refine g_lcP (M := ML_drawn) (pc := 161) (Y := YL_cell) ss_L_125 yn_L_cell dL_drawn_161 hb (lRm_of rfl (rm_c (by show _ ≤ 700; omega) (Nat.le_of_ble_eq_true rfl))) (c_cell (k := 4 + 3 * c + p) (by omega) hlen) rfl rfl (Nat.le_of_ble_eq_true rfl) ?_
        refine g_iconst (v := nI 1) dL_drawn_164 (by decide) ?_
        refine g_iushr dL_drawn_165 rfl ?_
        rw [en2]
        refine g_istore dL_drawn_166 (by decide) rfl ?_
        show G _ _ _ _ _ _ _ _ _ [_, _, _, _, _, _, _, _, _, _] _
        refine g_iload dL_drawn_168 rfl ?_
        refine g_iconst (v := nI 2) dL_drawn_170 (by decide) ?_
        refine g_irem dL_drawn_171 (by decide) ?_
        rw [rem_nI hn2 (by decide) (by decide)]
        refine g_istore dL_drawn_172 (by decide) rfl ?_
        show G _ _ _ _ _ _ _ _ _ [_, _, _, _, _, _, _, _, _, _] _
        refine g_iload dL_drawn_174 rfl ?_
        refine g_iconst (v := nI 1) dL_drawn_176 (by decide) ?_
        refine g_iushr dL_drawn_177 rfl ?_
        refine g_iconst (v := nI 4) dL_drawn_178 (by decide) ?_
        refine g_irem dL_drawn_179 (by decide) ?_
        rw [ushr_nI hn2 (by decide), rem_nI (by omega) (by decide) (by decide)]
        refine g_if_ne (tgt := 195) dL_drawn_180 (by decide) (fun b1 => ?_) (fun b1 => ?_)
        · refine g_iconst (v := nI 5) dL_drawn_195 (by decide) ?_
          refine g_iload dL_drawn_196 rfl ?_
          refine g_iconst (v := nI 3) dL_drawn_198 (by decide) ?_
          refine g_iushr dL_drawn_199 rfl ?_
          refine g_bipush (v := nI 26) dL_drawn_200 (by decide) ?_
          refine g_irem dL_drawn_202 (by decide) ?_
          refine g_iadd dL_drawn_203 ?_
          rw [ushr_nI hn2 (by decide), rem_nI (by omega) (by decide) (by decide), nI_add]
          exact (J204 (5 + n2 / 2 ^ 3 % 26) (by omega) (by omega) _).go hA hb (by omega)
        · refine g_iconst (v := nI 5) dL_drawn_183 (by decide) ?_
          refine g_iload dL_drawn_184 rfl ?_
          refine g_iconst (v := nI 3) dL_drawn_186 (by decide) ?_
          refine g_iushr dL_drawn_187 rfl ?_
          refine g_bipush (v := nI 56) dL_drawn_188 (by decide) ?_
          refine g_irem dL_drawn_190 (by decide) ?_
          refine g_iadd dL_drawn_191 ?_
          rw [ushr_nI hn2 (by decide), rem_nI (by omega) (by decide) (by decide), nI_add]
          refine g_jump (tgt := 204) dL_drawn_192 (by decide) ?_
          exact (J204 (5 + n2 / 2 ^ 3 % 56) (by omega) (by omega) _).go hA hb (by omega)
    intro sh sz V cu su hA hb
    have hI := hA.sB
    refine g_iload dL_drawn_100 rfl ?_
    refine g_iload_n dL_drawn_102 rfl ?_
    refine g_icmp_ge (tgt := 258) dL_drawn_103 (by decide) (fun hq => absurd hq (nI_ge (by omega) (by omega))) (fun _ => ?_)
    refine g_aload_n dL_drawn_106 rfl ?_
    refine g_iconst (v := nI 1) dL_drawn_107 (by decide) ?_
    refine g_iload dL_drawn_108 rfl ?_
    refine g_iadd dL_drawn_110 ?_
    rw [nI_add]
    refine g_lcP (M := ML_drawn) (pc := 111) (Y := YL_cell) ss_L_125 yn_L_cell dL_drawn_111 hb (lRm_of rfl (rm_c (by show _ ≤ 700; omega) (Nat.le_of_ble_eq_true rfl))) (c_cell (k := 1 + c) (by omega) hlen) rfl rfl (Nat.le_of_ble_eq_true rfl) ?_
    refine g_iconst (v := nI 1) dL_drawn_114 (by decide) ?_
    refine g_iushr dL_drawn_115 rfl ?_
    rw [en1]
    refine g_istore dL_drawn_116 (by decide) rfl ?_
    show G _ _ _ _ _ _ _ _ _ [_, _, _, _, _, _, _, _, _, _] _
    refine g_aload_n dL_drawn_118 rfl ?_
    refine g_iconst (v := nI 1) dL_drawn_119 (by decide) ?_
    refine g_iload dL_drawn_120 rfl ?_
    refine g_iconst (v := nI 3) dL_drawn_122 (by decide) ?_
    refine g_irem dL_drawn_123 (by decide) ?_
    refine g_iadd dL_drawn_124 ?_
    rw [rem_nI hn1 (by decide) (by decide), nI_add]
    refine g_lcH 1 (M := ML_drawn) (pc := 125) (Y := YL_convoy) (gIn_SH ml_L_135 wt_L_convoy ini_L wc_L_convoy) yn_L_convoy dL_drawn_125 hb (lRm_of rfl (rm_c (by show _ ≤ 700; omega) (Nat.le_of_ble_eq_true rfl))) (l_convoy (g := 1 + n1 % 3) hA (by omega) (by omega) (by rw [hS.2.1]; omega)) rfl rfl (Nat.le_of_ble_eq_true rfl) ?_
    intro sh sz V cu su hA hb
    refine g_iload dL_drawn_128 rfl ?_
    rw [hS.2.1]
    refine g_icmp_eq (tgt := 135) dL_drawn_130 (by decide) (fun _ => ?_) (fun hq => absurd (rfl) hq)
    obtain ⟨t1, t2⟩ := CV.conv (y := nI (1 + n1 % 3)) hI hS (by omega)
    refine g_iconst (v := nI 0) dL_drawn_135 (by decide) ?_
    refine g_istore dL_drawn_136 (by decide) rfl ?_
    show G _ _ _ _ _ _ _ _ _ [_, _, _, _, _, _, _, _, _, _] _
    exact (K138 (1 + n1 / 2 ^ 2 % 3) 0 (by omega) _ t1 t2 _ _ _).go hA hb (by omega)
end DRAWN2

