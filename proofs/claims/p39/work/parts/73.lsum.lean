/-! the law's sum of all that changes can change: it hangs on the road alone -/
section LSUM
variable {E : gE} {sh : Sh} {sz : Nat} {V : Vl} {x : Nat} {S : St} {A : La}
noncomputable def acF (f : Fl) (w : Nat) : Int32 := accV (f, none, fun _ => f, 0, fun _ => 0, 0, 0, (0, 0)) (nI w)
theorem acF_of {w : Nat} (hw : w < 13) : accV S (nI w) = acF S.1 w := by
  match w, hw with
  | 0, _ | 1, _ | 2, _ | 3, _ | 4, _ | 5, _ | 6, _ | 7, _ | 8, _ | 9, _ | 10, _ | 11, _ | 12, _ => rfl
  | n + 13, h => exact absurd h (by omega)
noncomputable def s1F (f : Fl) : Nat → Int64
  | 0 => 7
  | w + 1 => 31 * s1F f w + (acF f w).toInt64
noncomputable def s2M (f : Fl) (j : Nat) (h : Int64) : Nat → Int64
  | 0 => 37 * (37 * h + (f (oM j 0)).toUInt32.toInt32.toInt64) + (drlV f j).toInt64
  | w + 1 => 41 * s2M f j h w + (mileV f j (nI w)).toInt64
noncomputable def s2F (f : Fl) : Nat → Int64
  | 0 => s1F f 13
  | j + 1 => s2M f j (s2F f j) 5
noncomputable def s3F (f : Fl) : Nat → Int64
  | 0 => s2F f 12
  | k + 1 => 43 * s3F f k + (rowV f k 0).toInt64 + (nI 64 * rowV f k 1).toInt64
noncomputable def s4V (f : Fl) (c : Nat) (h : Int64) : Nat → Int64
  | 0 => h
  | w + 1 => 47 * s4V f c h w + (cvV f c (nI w)).toInt64
noncomputable def s4T (f : Fl) (c : Nat) (h : Int64) : Nat → Int64
  | 0 => s4V f c h 6
  | k + 1 => 53 * s4T f c h k + (tkV f c k (nI 0)).toInt64 + (nI 2 * tkV f c k (nI 1)).toInt64 + (nI 256 * tkV f c k (nI 2)).toInt64
noncomputable def s4F (f : Fl) : Nat → Int64
  | 0 => s3F f 10
  | c + 1 => s4T f c (s4F f c) (ncv f c)
noncomputable def sumF (f : Fl) : Int64 := 59 * s4F f (cnt f) + (f 5).toInt64 + (nI 64 * f 6).toInt64 + (nI 8192 * f 7).toInt64
theorem acc2 (hI : InvB S.1) : accV S (nI 2) = nI (cnt S.1) := hI.1.1
theorem cvV1 {f : Fl} (hI : InvB f) {c : Nat} (hc : c < cnt f) : cvV f c (nI 1) = nI (ncv f c) := by
  show (if nI 1 = nI 0 then _ else if nI 1 = nI 1 then f (oC c 1) else _) = _
  rw [if_neg (by decide), if_pos rfl]
  exact (hI.cv hc).2.1
theorem l_sumC (hA : LW x S A sh sz V) : MC E YL_sum [.ref x] sh sz V (PLs x A sz S (.long (sumF S.1))) := by
  have hI := hA.sB
  have h44 := hI.1.2
  have K5 : ∀ a4, GL E ML_sum (PLs x A sz S (.long (sumF S.1))) x S A sz 214 263 [some (.ref x), some (.long (s4F S.1 (cnt S.1))), none, some (.int (nI (cnt S.1))), a4] [] := by
    intro a4 sh sz V cu su hA hb
    refine g_ldc2 kc_L_272 dL_sum_263 ?_
    refine g_lload_n dL_sum_266 rfl ?_
    refine g_lmul dL_sum_267 ?_
    refine g_aload_n dL_sum_268 rfl ?_
    refine g_iconst (v := nI 0) dL_sum_269 (by decide) ?_
    refine g_lcV 1 (M := ML_sum) (pc := 270) (Y := YX6_setting) sv_L_185 rfl yn_X6_setting 8 (by decide) rfl rfl dL_sum_270 hb (lRm_of rfl (rm_c (by show _ ≤ 300; omega) (Nat.le_of_ble_eq_true rfl))) (k_setting (w := 0) hA (by decide)) hA.s9 rfl rfl (Nat.le_of_ble_eq_true rfl) ?_
    intro sh sz V cu su hA hb
    refine g_i2l dL_sum_273 rfl ?_
    refine g_ladd dL_sum_274 ?_
    refine g_bipush (v := nI 64) dL_sum_275 (by decide) ?_
    refine g_aload_n dL_sum_277 rfl ?_
    refine g_iconst (v := nI 1) dL_sum_278 (by decide) ?_
    refine g_lcV 1 (M := ML_sum) (pc := 279) (Y := YX6_setting) sv_L_185 rfl yn_X6_setting 8 (by decide) rfl rfl dL_sum_279 hb (lRm_of rfl (rm_c (by show _ ≤ 300; omega) (Nat.le_of_ble_eq_true rfl))) (k_setting (w := 1) hA (by decide)) hA.s9 rfl rfl (Nat.le_of_ble_eq_true rfl) ?_
    intro sh sz V cu su hA hb
    refine g_imul dL_sum_282 ?_
    refine g_i2l dL_sum_283 rfl ?_
    refine g_ladd dL_sum_284 ?_
    refine g_sipush (v := nI 8192) dL_sum_285 (by decide) ?_
    refine g_aload_n dL_sum_288 rfl ?_
    refine g_iconst (v := nI 2) dL_sum_289 (by decide) ?_
    refine g_lcV 1 (M := ML_sum) (pc := 290) (Y := YX6_setting) sv_L_185 rfl yn_X6_setting 8 (by decide) rfl rfl dL_sum_290 hb (lRm_of rfl (rm_c (by show _ ≤ 300; omega) (Nat.le_of_ble_eq_true rfl))) (k_setting (w := 2) hA (by decide)) hA.s9 rfl rfl (Nat.le_of_ble_eq_true rfl) ?_
    intro sh sz V cu su hA hb
    refine g_imul dL_sum_293 ?_
    refine g_i2l dL_sum_294 rfl ?_
    refine g_ladd dL_sum_295 ?_
    exact g_lret rfl dL_sum_296 ⟨by show cu ≤ 300; omega, by show su ≤ 1800; omega⟩ ⟨hb.1, hA, rfl⟩
  have K4 : ∀ (d c : Nat), c + d = cnt S.1 → ∀ a4, GL E ML_sum (PLs x A sz S (.long (sumF S.1))) x S A sz (117 + 24 * c) 155 [some (.ref x), some (.long (s4F S.1 c)), none, some (.int (nI c)), a4] [] := by
    intro d
    induction d with
    | zero =>
      intro c hc a4 sh sz V cu su hA hb
      obtain rfl : c = cnt S.1 := by omega
      refine g_iload_n dL_sum_155 rfl ?_
      refine g_aload_n dL_sum_156 rfl ?_
      refine g_iconst (v := nI 2) dL_sum_157 (by decide) ?_
      refine g_lcV 1 (M := ML_sum) (pc := 158) (Y := YX6_account) sv_L_182 rfl yn_X6_account 8 (by decide) rfl rfl dL_sum_158 hb (lRm_of rfl (rm_c (by show _ ≤ 300; omega) (Nat.le_of_ble_eq_true rfl))) (k_account (w := 2) hA (by decide) (acc2 hI)) hA.s9 rfl rfl (Nat.le_of_ble_eq_true rfl) ?_
      intro sh sz V cu su hA hb
      refine g_icmp_ge (tgt := 263) dL_sum_161 (by decide) (fun _ => ?_) (fun hq => absurd (Int32.le_refl _) hq)
      exact (K5 _).go hA hb (by omega)
    | succ d ih =>
      intro c hc a4
      have hc4 : c < cnt S.1 := by omega
      have hn4 := (hI.cv hc4).2.2.1
      have T : ∀ (e k : Nat), k + e = ncv S.1 c → GL E ML_sum (PLs x A sz S (.long (sumF S.1))) x S A sz (117 + 24 * c + 7 + 4 * k) 198 [some (.ref x), some (.long (s4T S.1 c (s4F S.1 c) k)), none, some (.int (nI c)), some (.int (nI k))] [] := by
        intro e
        induction e with
        | zero =>
          intro k hk sh sz V cu su hA hb
          obtain rfl : k = ncv S.1 c := by omega
          refine g_iload dL_sum_198 rfl ?_
          refine g_aload_n dL_sum_200 rfl ?_
          refine g_iload_n dL_sum_201 rfl ?_
          refine g_iconst (v := nI 1) dL_sum_202 (by decide) ?_
          refine g_lcH 1 (M := ML_sum) (pc := 203) (Y := YL_convoyOf) (gIn_SH ml_L_224 wt_L_convoyOf ini_L wc_L_convoyOf) yn_L_convoyOf dL_sum_203 hb (lRm_of rfl (rm_c (by show _ ≤ 300; omega) (Nat.le_of_ble_eq_true rfl))) (l_convoyOf (w := 1) hA hc4 (by decide) (cvV1 hI hc4)) rfl rfl (Nat.le_of_ble_eq_true rfl) ?_
          intro sh sz V cu su hA hb
          refine g_icmp_ge (tgt := 257) dL_sum_206 (by decide) (fun _ => ?_) (fun hq => absurd (Int32.le_refl _) hq)
          refine g_iinc dL_sum_257 rfl (by first | exact nI_inc _ | rfl) (by decide) rfl ?_
          show G _ _ _ _ _ _ _ _ _ [_, _, _, _, _] _
          refine g_jump (tgt := 155) dL_sum_260 (by decide) ?_
          exact (ih (c + 1) (by omega) _).go hA hb (by omega)
        | succ e ih2 =>
          intro k hk sh sz V cu su hA hb
          refine g_iload dL_sum_198 rfl ?_
          refine g_aload_n dL_sum_200 rfl ?_
          refine g_iload_n dL_sum_201 rfl ?_
          refine g_iconst (v := nI 1) dL_sum_202 (by decide) ?_
          refine g_lcH 1 (M := ML_sum) (pc := 203) (Y := YL_convoyOf) (gIn_SH ml_L_224 wt_L_convoyOf ini_L wc_L_convoyOf) yn_L_convoyOf dL_sum_203 hb (lRm_of rfl (rm_c (by show _ ≤ 300; omega) (Nat.le_of_ble_eq_true rfl))) (l_convoyOf (w := 1) hA hc4 (by decide) (cvV1 hI hc4)) rfl rfl (Nat.le_of_ble_eq_true rfl) ?_
          intro sh sz V cu su hA hb
          refine g_icmp_ge (tgt := 257) dL_sum_206 (by decide) (fun hq => absurd hq (nI_ge (by omega) (by omega))) (fun _ => ?_)
          refine g_ldc2 kc_L_270 dL_sum_209 ?_
          refine g_lload_n dL_sum_212 rfl ?_
          refine g_lmul dL_sum_213 ?_
          refine g_aload_n dL_sum_214 rfl ?_
          refine g_iload_n dL_sum_215 rfl ?_
          refine g_iload dL_sum_216 rfl ?_
          refine g_iconst (v := nI 0) dL_sum_218 (by decide) ?_
          refine g_lcH 1 (M := ML_sum) (pc := 219) (Y := YL_truckOf) (gIn_SH ml_L_226 wt_L_truckOf ini_L wc_L_truckOf) yn_L_truckOf dL_sum_219 hb (lRm_of rfl (rm_c (by show _ ≤ 300; omega) (Nat.le_of_ble_eq_true rfl))) (l_truckOf (w := 0) hA hc4 (by omega) (by decide) rfl) rfl rfl (Nat.le_of_ble_eq_true rfl) ?_
          intro sh sz V cu su hA hb
          refine g_i2l dL_sum_222 rfl ?_
          refine g_ladd dL_sum_223 ?_
          refine g_iconst (v := nI 2) dL_sum_224 (by decide) ?_
          refine g_aload_n dL_sum_225 rfl ?_
          refine g_iload_n dL_sum_226 rfl ?_
          refine g_iload dL_sum_227 rfl ?_
          refine g_iconst (v := nI 1) dL_sum_229 (by decide) ?_
          refine g_lcH 1 (M := ML_sum) (pc := 230) (Y := YL_truckOf) (gIn_SH ml_L_226 wt_L_truckOf ini_L wc_L_truckOf) yn_L_truckOf dL_sum_230 hb (lRm_of rfl (rm_c (by show _ ≤ 300; omega) (Nat.le_of_ble_eq_true rfl))) (l_truckOf (w := 1) hA hc4 (by omega) (by decide) rfl) rfl rfl (Nat.le_of_ble_eq_true rfl) ?_
          intro sh sz V cu su hA hb
          refine g_imul dL_sum_233 ?_
          refine g_i2l dL_sum_234 rfl ?_
          refine g_ladd dL_sum_235 ?_
          refine g_sipush (v := nI 256) dL_sum_236 (by decide) ?_
          refine g_aload_n dL_sum_239 rfl ?_
          refine g_iload_n dL_sum_240 rfl ?_
          refine g_iload dL_sum_241 rfl ?_
          refine g_iconst (v := nI 2) dL_sum_243 (by decide) ?_
          refine g_lcH 1 (M := ML_sum) (pc := 244) (Y := YL_truckOf) (gIn_SH ml_L_226 wt_L_truckOf ini_L wc_L_truckOf) yn_L_truckOf dL_sum_244 hb (lRm_of rfl (rm_c (by show _ ≤ 300; omega) (Nat.le_of_ble_eq_true rfl))) (l_truckOf (w := 2) hA hc4 (by omega) (by decide) rfl) rfl rfl (Nat.le_of_ble_eq_true rfl) ?_
          intro sh sz V cu su hA hb
          refine g_imul dL_sum_247 ?_
          refine g_i2l dL_sum_248 rfl ?_
          refine g_ladd dL_sum_249 ?_
          refine g_lstore_n dL_sum_250 (by decide) rfl rfl ?_
          show G _ _ _ _ _ _ _ _ _ [_, _, _, _, _] _
          refine g_iinc dL_sum_251 rfl (by first | exact nI_inc _ | rfl) (by decide) rfl ?_
          show G _ _ _ _ _ _ _ _ _ [_, _, _, _, _] _
          refine g_jump (tgt := 198) dL_sum_254 (by decide) ?_
          exact (ih2 (k + 1) (by omega)).go hA hb (by omega)
      have U : ∀ (e w : Nat), w + e = 6 → GL E ML_sum (PLs x A sz S (.long (sumF S.1))) x S A sz (117 + 24 * c + 1 + w) 167 [some (.ref x), some (.long (s4V S.1 c (s4F S.1 c) w)), none, some (.int (nI c)), some (.int (nI w))] [] := by
        intro e
        induction e with
        | zero =>
          intro w hw sh sz V cu su hA hb
          obtain rfl : w = 6 := by omega
          refine g_iload dL_sum_167 rfl ?_
          refine g_bipush (v := nI 6) dL_sum_169 (by decide) ?_
          refine g_icmp_ge (tgt := 195) dL_sum_171 (by decide) (fun _ => ?_) (fun hq => absurd (Int32.le_refl _) hq)
          refine g_iconst (v := nI 0) dL_sum_195 (by decide) ?_
          refine g_istore dL_sum_196 (by decide) rfl ?_
          show G _ _ _ _ _ _ _ _ _ [_, _, _, _, _] _
          exact (T (ncv S.1 c) 0 (by omega)).go hA hb (by omega)
        | succ e ih2 =>
          intro w hw sh sz V cu su hA hb
          refine g_iload dL_sum_167 rfl ?_
          refine g_bipush (v := nI 6) dL_sum_169 (by decide) ?_
          refine g_icmp_ge (tgt := 195) dL_sum_171 (by decide) (fun hq => absurd hq (nI_ge (by omega) (by decide))) (fun _ => ?_)
          refine g_ldc2 kc_L_268 dL_sum_174 ?_
          refine g_lload_n dL_sum_177 rfl ?_
          refine g_lmul dL_sum_178 ?_
          refine g_aload_n dL_sum_179 rfl ?_
          refine g_iload_n dL_sum_180 rfl ?_
          refine g_iload dL_sum_181 rfl ?_
          refine g_lcH 1 (M := ML_sum) (pc := 183) (Y := YL_convoyOf) (gIn_SH ml_L_224 wt_L_convoyOf ini_L wc_L_convoyOf) yn_L_convoyOf dL_sum_183 hb (lRm_of rfl (rm_c (by show _ ≤ 300; omega) (Nat.le_of_ble_eq_true rfl))) (l_convoyOf (w := w) hA hc4 (by omega) rfl) rfl rfl (Nat.le_of_ble_eq_true rfl) ?_
          intro sh sz V cu su hA hb
          refine g_i2l dL_sum_186 rfl ?_
          refine g_ladd dL_sum_187 ?_
          refine g_lstore_n dL_sum_188 (by decide) rfl rfl ?_
          show G _ _ _ _ _ _ _ _ _ [_, _, _, _, _] _
          refine g_iinc dL_sum_189 rfl (by first | exact nI_inc _ | rfl) (by decide) rfl ?_
          show G _ _ _ _ _ _ _ _ _ [_, _, _, _, _] _
          refine g_jump (tgt := 167) dL_sum_192 (by decide) ?_
          exact (ih2 (w + 1) (by omega)).go hA hb (by omega)
      intro sh sz V cu su hA hb
      refine g_iload_n dL_sum_155 rfl ?_
      refine g_aload_n dL_sum_156 rfl ?_
      refine g_iconst (v := nI 2) dL_sum_157 (by decide) ?_
      refine g_lcV 1 (M := ML_sum) (pc := 158) (Y := YX6_account) sv_L_182 rfl yn_X6_account 8 (by decide) rfl rfl dL_sum_158 hb (lRm_of rfl (rm_c (by show _ ≤ 300; omega) (Nat.le_of_ble_eq_true rfl))) (k_account (w := 2) hA (by decide) (acc2 hI)) hA.s9 rfl rfl (Nat.le_of_ble_eq_true rfl) ?_
      intro sh sz V cu su hA hb
      refine g_icmp_ge (tgt := 263) dL_sum_161 (by decide) (fun hq => absurd hq (nI_ge (by omega) (by omega))) (fun _ => ?_)
      refine g_iconst (v := nI 0) dL_sum_164 (by decide) ?_
      refine g_istore dL_sum_165 (by decide) rfl ?_
      show G _ _ _ _ _ _ _ _ _ [_, _, _, _, _] _
      exact (U 6 0 rfl).go hA hb (by omega)
  have K3 : ∀ (d k : Nat), k + d = 10 → ∀ a4, GL E ML_sum (PLs x A sz S (.long (sumF S.1))) x S A sz (97 + 2 * k) 106 [some (.ref x), some (.long (s3F S.1 k)), none, some (.int (nI k)), a4] [] := by
    intro d
    induction d with
    | zero =>
      intro k hk a4 sh sz V cu su hA hb
      obtain rfl : k = 10 := by omega
      refine g_iload_n dL_sum_106 rfl ?_
      refine g_bipush (v := nI 10) dL_sum_107 (by decide) ?_
      refine g_icmp_ge (tgt := 153) dL_sum_109 (by decide) (fun _ => ?_) (fun hq => absurd (Int32.le_refl _) hq)
      refine g_iconst (v := nI 0) dL_sum_153 (by decide) ?_
      refine g_istore_n dL_sum_154 (by decide) rfl ?_
      show G _ _ _ _ _ _ _ _ _ [_, _, _, _, _] _
      exact (K4 (cnt S.1) 0 (by omega) _).go hA hb (by omega)
    | succ d ih =>
      intro k hk a4 sh sz V cu su hA hb
      refine g_iload_n dL_sum_106 rfl ?_
      refine g_bipush (v := nI 10) dL_sum_107 (by decide) ?_
      refine g_icmp_ge (tgt := 153) dL_sum_109 (by decide) (fun hq => absurd hq (nI_ge (by omega) (by decide))) (fun _ => ?_)
      refine g_ldc2 kc_L_266 dL_sum_112 ?_
      refine g_lload_n dL_sum_115 rfl ?_
      refine g_lmul dL_sum_116 ?_
      refine g_aload_n dL_sum_117 rfl ?_
      refine g_iload_n dL_sum_118 rfl ?_
      refine g_iconst (v := nI 5) dL_sum_119 (by decide) ?_
      refine g_idiv dL_sum_120 (by decide) ?_
      refine g_iload_n dL_sum_121 rfl ?_
      refine g_iconst (v := nI 5) dL_sum_122 (by decide) ?_
      refine g_irem dL_sum_123 (by decide) ?_
      rw [pk_div (by omega) (by decide) (by decide)]
      rw [show nI k - nI (k / 5) * nI 5 = nI (k % 5) by rw [← pk_div (by omega) (by decide) (by decide)]; exact pk_rem (by omega) (by decide) (by decide)]
      refine g_iconst (v := nI 0) dL_sum_124 (by decide) ?_
      refine g_lcH 1 (M := ML_sum) (pc := 125) (Y := YL_inRow) (gIn_SH ml_L_217 wt_L_inRow ini_L wc_L_inRow) yn_L_inRow dL_sum_125 hb (lRm_of rfl (rm_c (by show _ ≤ 300; omega) (Nat.le_of_ble_eq_true rfl))) (l_inRow (k := k) (w := 0) hA (by omega) (by decide) rfl) rfl rfl (Nat.le_of_ble_eq_true rfl) ?_
      intro sh sz V cu su hA hb
      refine g_i2l dL_sum_128 rfl ?_
      refine g_ladd dL_sum_129 ?_
      refine g_bipush (v := nI 64) dL_sum_130 (by decide) ?_
      refine g_aload_n dL_sum_132 rfl ?_
      refine g_iload_n dL_sum_133 rfl ?_
      refine g_iconst (v := nI 5) dL_sum_134 (by decide) ?_
      refine g_idiv dL_sum_135 (by decide) ?_
      refine g_iload_n dL_sum_136 rfl ?_
      refine g_iconst (v := nI 5) dL_sum_137 (by decide) ?_
      refine g_irem dL_sum_138 (by decide) ?_
      rw [pk_div (by omega) (by decide) (by decide)]
      rw [show nI k - nI (k / 5) * nI 5 = nI (k % 5) by rw [← pk_div (by omega) (by decide) (by decide)]; exact pk_rem (by omega) (by decide) (by decide)]
      refine g_iconst (v := nI 1) dL_sum_139 (by decide) ?_
      refine g_lcH 1 (M := ML_sum) (pc := 140) (Y := YL_inRow) (gIn_SH ml_L_217 wt_L_inRow ini_L wc_L_inRow) yn_L_inRow dL_sum_140 hb (lRm_of rfl (rm_c (by show _ ≤ 300; omega) (Nat.le_of_ble_eq_true rfl))) (l_inRow (k := k) (w := 1) hA (by omega) (by decide) rfl) rfl rfl (Nat.le_of_ble_eq_true rfl) ?_
      intro sh sz V cu su hA hb
      refine g_imul dL_sum_143 ?_
      refine g_i2l dL_sum_144 rfl ?_
      refine g_ladd dL_sum_145 ?_
      refine g_lstore_n dL_sum_146 (by decide) rfl rfl ?_
      show G _ _ _ _ _ _ _ _ _ [_, _, _, _, _] _
      refine g_iinc dL_sum_147 rfl (by first | exact nI_inc _ | rfl) (by decide) rfl ?_
      show G _ _ _ _ _ _ _ _ _ [_, _, _, _, _] _
      refine g_jump (tgt := 106) dL_sum_150 (by decide) ?_
      exact (ih (k + 1) (by omega) _).go hA hb (by omega)
  have K2 : ∀ (d j : Nat), j + d = 12 → ∀ a4, GL E ML_sum (PLs x A sz S (.long (sumF S.1))) x S A sz (13 + 7 * j) 33 [some (.ref x), some (.long (s2F S.1 j)), none, some (.int (nI j)), a4] [] := by
    intro d
    induction d with
    | zero =>
      intro j hj a4 sh sz V cu su hA hb
      obtain rfl : j = 12 := by omega
      refine g_iload_n dL_sum_33 rfl ?_
      refine g_bipush (v := nI 12) dL_sum_34 (by decide) ?_
      refine g_icmp_ge (tgt := 104) dL_sum_36 (by decide) (fun _ => ?_) (fun hq => absurd (Int32.le_refl _) hq)
      refine g_iconst (v := nI 0) dL_sum_104 (by decide) ?_
      refine g_istore_n dL_sum_105 (by decide) rfl ?_
      show G _ _ _ _ _ _ _ _ _ [_, _, _, _, _] _
      exact (K3 10 0 rfl _).go hA hb (by omega)
    | succ d ih =>
      intro j hj a4
      have U : ∀ (e w : Nat), w + e = 5 → GL E ML_sum (PLs x A sz S (.long (sumF S.1))) x S A sz (13 + 7 * j + 2 + w) 71 [some (.ref x), some (.long (s2M S.1 j (s2F S.1 j) w)), none, some (.int (nI j)), some (.int (nI w))] [] := by
        intro e
        induction e with
        | zero =>
          intro w hw sh sz V cu su hA hb
          obtain rfl : w = 5 := by omega
          refine g_iload dL_sum_71 rfl ?_
          refine g_iconst (v := nI 5) dL_sum_73 (by decide) ?_
          refine g_icmp_ge (tgt := 98) dL_sum_74 (by decide) (fun _ => ?_) (fun hq => absurd (Int32.le_refl _) hq)
          refine g_iinc dL_sum_98 rfl (by first | exact nI_inc _ | rfl) (by decide) rfl ?_
          show G _ _ _ _ _ _ _ _ _ [_, _, _, _, _] _
          refine g_jump (tgt := 33) dL_sum_101 (by decide) ?_
          exact (ih (j + 1) (by omega) _).go hA hb (by omega)
        | succ e ih2 =>
          intro w hw sh sz V cu su hA hb
          refine g_iload dL_sum_71 rfl ?_
          refine g_iconst (v := nI 5) dL_sum_73 (by decide) ?_
          refine g_icmp_ge (tgt := 98) dL_sum_74 (by decide) (fun hq => absurd hq (nI_ge (by omega) (by decide))) (fun _ => ?_)
          refine g_ldc2 kc_L_264 dL_sum_77 ?_
          refine g_lload_n dL_sum_80 rfl ?_
          refine g_lmul dL_sum_81 ?_
          refine g_aload_n dL_sum_82 rfl ?_
          refine g_iload_n dL_sum_83 rfl ?_
          refine g_iload dL_sum_84 rfl ?_
          refine g_lcH 1 (M := ML_sum) (pc := 86) (Y := YL_mileOf) (gIn_SH ml_L_180 wt_L_mileOf ini_L wc_L_mileOf) yn_L_mileOf dL_sum_86 hb (lRm_of rfl (rm_c (by show _ ≤ 300; omega) (Nat.le_of_ble_eq_true rfl))) (l_mileOf (j := j) (w := w) hA (by omega) (by omega) rfl) rfl rfl (Nat.le_of_ble_eq_true rfl) ?_
          intro sh sz V cu su hA hb
          refine g_i2l dL_sum_89 rfl ?_
          refine g_ladd dL_sum_90 ?_
          refine g_lstore_n dL_sum_91 (by decide) rfl rfl ?_
          show G _ _ _ _ _ _ _ _ _ [_, _, _, _, _] _
          refine g_iinc dL_sum_92 rfl (by first | exact nI_inc _ | rfl) (by decide) rfl ?_
          show G _ _ _ _ _ _ _ _ _ [_, _, _, _, _] _
          refine g_jump (tgt := 71) dL_sum_95 (by decide) ?_
          exact (ih2 (w + 1) (by omega)).go hA hb (by omega)
      intro sh sz V cu su hA hb
      refine g_iload_n dL_sum_33 rfl ?_
      refine g_bipush (v := nI 12) dL_sum_34 (by decide) ?_
      refine g_icmp_ge (tgt := 104) dL_sum_36 (by decide) (fun hq => absurd hq (nI_ge (by omega) (by decide))) (fun _ => ?_)
      refine g_ldc2 kc_L_262 dL_sum_39 ?_
      refine g_lload_n dL_sum_42 rfl ?_
      refine g_lmul dL_sum_43 ?_
      refine g_aload_n dL_sum_44 rfl ?_
      refine g_iload_n dL_sum_45 rfl ?_
      refine g_lcV 1 (M := ML_sum) (pc := 46) (Y := YX6_ice) sv_L_145 rfl yn_X6_ice 8 (by decide) rfl rfl dL_sum_46 hb (lRm_of rfl (rm_c (by show _ ≤ 300; omega) (Nat.le_of_ble_eq_true rfl))) (k_ice (j := j) hA (by omega)) hA.s9 rfl rfl (Nat.le_of_ble_eq_true rfl) ?_
      intro sh sz V cu su hA hb
      refine g_lcP (M := ML_sum) (pc := 49) (Y := YJxf58ca_floatToIntBits_5c35a) ss_L_148 yn_Jxf58ca_floatToIntBits_5c35a dL_sum_49 hb (lRm_of rfl (rm_c (by show _ ≤ 300; omega) (Nat.le_of_ble_eq_true rfl))) (c_ftib (hI.2.2.2.1 j (by omega)).1.n pR_ok) rfl rfl (Nat.le_of_ble_eq_true rfl) ?_
      refine g_i2l dL_sum_52 rfl ?_
      refine g_ladd dL_sum_53 ?_
      refine g_lstore_n dL_sum_54 (by decide) rfl rfl ?_
      show G _ _ _ _ _ _ _ _ _ [_, _, _, _, _] _
      refine g_ldc2 kc_L_262 dL_sum_55 ?_
      refine g_lload_n dL_sum_58 rfl ?_
      refine g_lmul dL_sum_59 ?_
      refine g_aload_n dL_sum_60 rfl ?_
      refine g_iload_n dL_sum_61 rfl ?_
      refine g_lcH 1 (M := ML_sum) (pc := 62) (Y := YL_drilled) (gIn_SH ml_L_188 wt_L_drilled ini_L wc_L_drilled) yn_L_drilled dL_sum_62 hb (lRm_of rfl (rm_c (by show _ ≤ 300; omega) (Nat.le_of_ble_eq_true rfl))) (l_drilled (j := j) hA (by omega) rfl) rfl rfl (Nat.le_of_ble_eq_true rfl) ?_
      intro sh sz V cu su hA hb
      refine g_i2l dL_sum_65 rfl ?_
      refine g_ladd dL_sum_66 ?_
      refine g_lstore_n dL_sum_67 (by decide) rfl rfl ?_
      show G _ _ _ _ _ _ _ _ _ [_, _, _, _, _] _
      refine g_iconst (v := nI 0) dL_sum_68 (by decide) ?_
      refine g_istore dL_sum_69 (by decide) rfl ?_
      show G _ _ _ _ _ _ _ _ _ [_, _, _, _, _] _
      exact (U 5 0 rfl).go hA hb (by omega)
  have K1 : ∀ (d w : Nat), w + d = 13 → GL E ML_sum (PLs x A sz S (.long (sumF S.1))) x S A sz w 6 [some (.ref x), some (.long (s1F S.1 w)), none, some (.int (nI w)), none] [] := by
    intro d
    induction d with
    | zero =>
      intro w hw sh sz V cu su hA hb
      obtain rfl : w = 13 := by omega
      refine g_iload_n dL_sum_6 rfl ?_
      refine g_bipush (v := nI 13) dL_sum_7 (by decide) ?_
      refine g_icmp_ge (tgt := 31) dL_sum_9 (by decide) (fun _ => ?_) (fun hq => absurd (Int32.le_refl _) hq)
      refine g_iconst (v := nI 0) dL_sum_31 (by decide) ?_
      refine g_istore_n dL_sum_32 (by decide) rfl ?_
      show G _ _ _ _ _ _ _ _ _ [_, _, _, _, _] _
      exact (K2 12 0 rfl _).go hA hb (by omega)
    | succ d ih =>
      intro w hw sh sz V cu su hA hb
      refine g_iload_n dL_sum_6 rfl ?_
      refine g_bipush (v := nI 13) dL_sum_7 (by decide) ?_
      refine g_icmp_ge (tgt := 31) dL_sum_9 (by decide) (fun hq => absurd hq (nI_ge (by omega) (by decide))) (fun _ => ?_)
      refine g_ldc2 kc_L_260 dL_sum_12 ?_
      refine g_lload_n dL_sum_15 rfl ?_
      refine g_lmul dL_sum_16 ?_
      refine g_aload_n dL_sum_17 rfl ?_
      refine g_iload_n dL_sum_18 rfl ?_
      refine g_lcV 1 (M := ML_sum) (pc := 19) (Y := YX6_account) sv_L_182 rfl yn_X6_account 8 (by decide) rfl rfl dL_sum_19 hb (lRm_of rfl (rm_c (by show _ ≤ 300; omega) (Nat.le_of_ble_eq_true rfl))) (k_account (w := w) hA (by omega) (acF_of (by omega))) hA.s9 rfl rfl (Nat.le_of_ble_eq_true rfl) ?_
      intro sh sz V cu su hA hb
      refine g_i2l dL_sum_22 rfl ?_
      refine g_ladd dL_sum_23 ?_
      refine g_lstore_n dL_sum_24 (by decide) rfl rfl ?_
      show G _ _ _ _ _ _ _ _ _ [_, _, _, _, _] _
      refine g_iinc dL_sum_25 rfl (by first | exact nI_inc _ | rfl) (by decide) rfl ?_
      show G _ _ _ _ _ _ _ _ _ [_, _, _, _, _] _
      refine g_jump (tgt := 6) dL_sum_28 (by decide) ?_
      exact (ih (w + 1) (by omega)).go hA hb (by omega)
  refine MC.of RL "sum" rfl (by decide +kernel) rfl 4 [_, none, none, none, none] rfl (Nat.le_of_ble_eq_true rfl) ?_
  show G E ML_sum _ _ _ _ _ _ _ _ _
  refine g_ldc2 kc_L_258 dL_sum_0 ?_
  refine g_lstore_n dL_sum_3 (by decide) rfl rfl ?_
  show G _ _ _ _ _ _ _ _ _ [_, _, _, _, _] _
  refine g_iconst (v := nI 0) dL_sum_4 (by decide) ?_
  refine g_istore_n dL_sum_5 (by decide) rfl ?_
  show G _ _ _ _ _ _ _ _ _ [_, _, _, _, _] _
  exact (K1 13 0 rfl).go hA ⟨Nat.le_refl _, Nat.le_refl _, Nat.le_refl _⟩ (by omega)
end LSUM

