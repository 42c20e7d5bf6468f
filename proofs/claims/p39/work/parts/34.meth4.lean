/-! the class' methods: the text, accounts, undo and snapshots -/
section METH4
variable {E : gE} {M : gM} {P : gP} {sh sh' : Sh} {sz : Nat} {V V' : Vl} {cu su pc : Nat} {L : List (Option Value)} {rest : List Value} {x : Nat} {S : St} {f g : Fl} {sn : Option Fl} {H : Nat → Fl} {cn : Nat} {tx : Nat → Int32} {ln : Nat} {er : Int32} {rf : Int32 × Int32}
theorem m_refusal {d : Int32} (hC : CS sh V x S) (hz : codeOk S.2.2.2.2.2.2.2) (hW : Wf sh sz) (hP : CP x sh sz V [nsC] (sp_refusal S d) P) : MC E YX6_refusal [.ref x, .int d] sh sz V P := by
  obtain ⟨o0, o1, o2, o3, o4, o5, o6, o7, o8⟩ := hC.1
  obtain ⟨z1, z2⟩ := enc_dm hz
  unfold sp_refusal at hP
  refine MC.of RX6 "refusal" rfl (by decide +kernel) rfl 0 [_, _] rfl (Nat.le_of_ble_eq_true rfl) ?_
  show G E MX6_refusal _ _ _ _ _ _ _ _ _
  refine g_aload_n dX6_refusal_0 rfl ?_
  refine g_get 8 rfl (by decide) inX6 7 (by decide) fl_X6_44 dX6_refusal_1 o0 o8 ?_
  by_cases h0 : S.2.2.2.2.2.2.2.1 = nI 0
  · rw [if_pos h0] at hP
    have e0 : enc S.2.2.2.2.2.2.2 = 0 := by
      rcases hz with q | ⟨a, b, h1, h2, h3, q⟩
      · rw [q]; rfl
      · rw [q] at h0
        exact absurd h0 (nI_ne0 (by omega) (by omega))
    refine g_if_ne (tgt := 18) dX6_refusal_4 (by decide) (fun hq => absurd hq ((fun q => q e0))) (fun _ => ?_)
    refine g_throwNW (text := "nothing was refused") rfl cl_X6_101 (by decide +kernel) dX6_refusal_7 dX6_refusal_10 dX6_refusal_11 dX6_refusal_14 dX6_refusal_17 rfl (by decide) (by decide) (by decide) (hP.thr hW hC rfl)
  · rw [if_neg h0] at hP
    have e0 : ¬ enc S.2.2.2.2.2.2.2 = 0 := fun q => h0 (by rw [(enc_0 hz).mp q])
    refine g_if_ne (tgt := 18) dX6_refusal_4 (by decide) (fun _ => ?_) (fun hq => absurd hq (e0))
    refine g_iload_n dX6_refusal_18 rfl ?_
    refine g_if_eq (tgt := 32) dX6_refusal_19 (by decide) (fun b2 => ?_) (fun b2 => ?_)
    · rw [if_pos b2, ← z1] at hP
      refine g_aload_n dX6_refusal_32 rfl ?_
      refine g_get 8 rfl (by decide) inX6 7 (by decide) fl_X6_44 dX6_refusal_33 o0 o8 ?_
      refine g_bipush (v := nI 16) dX6_refusal_36 (by decide) ?_
      refine g_idiv dX6_refusal_38 (by decide) ?_
      exact g_iret rfl (nr_int _) dX6_refusal_39 (by decide) (hP.ret hW hC)
    · rw [if_neg b2, ← z2] at hP
      refine g_aload_n dX6_refusal_22 rfl ?_
      refine g_get 8 rfl (by decide) inX6 7 (by decide) fl_X6_44 dX6_refusal_23 o0 o8 ?_
      refine g_bipush (v := nI 16) dX6_refusal_26 (by decide) ?_
      refine g_irem dX6_refusal_28 (by decide) ?_
      refine g_jump (tgt := 39) dX6_refusal_29 (by decide) ?_
      exact g_iret rfl (nr_int _) dX6_refusal_39 (by decide) (hP.ret hW hC)
theorem m_account {w : Int32} (hC : CS sh V x S) (hI : InvB S.1) (hW : Wf sh sz) (hP : CP x sh sz V [xIA] (sp_account S w) P) : MC E YX6_account [.ref x, .int w] sh sz V P := by
  obtain ⟨o0, o1, o2, o3, o4, o5, o6, o7, o8⟩ := hC.1
  have hR : RoadAt sh V (x + 1) S.1 := hC.2.1
  unfold sp_account at hP
  refine MC.of RX6 "account" rfl (by decide +kernel) rfl 0 [_, _] rfl (Nat.le_of_ble_eq_true rfl) ?_
  show G E MX6_account _ _ _ _ _ _ _ _ _
  refine g_iload_n dX6_account_0 rfl ?_
  by_cases b3 : 0 ≤ w ∧ w < nI 15
  rotate_left
  · rw [if_neg b3] at hP
    refine g_tableOut (tgt := 212) dX6_account_1 (sw_out (n := 14) (by decide) (by decide) b3) (by decide) ?_
    refine g_throwW (names := tn_IllegalArgumentException) (text := "no such account") rfl (by decide +kernel) cl_X6_51 ini_IllegalArgumentException (by decide +kernel) ta_X6_55 to_X6_55 dX6_account_212 dX6_account_215 dX6_account_216 dX6_account_219 dX6_account_222 rfl (by decide) (by decide) (by decide) (hP.thr hW hC rfl)
  rw [if_pos b3] at hP
  obtain ⟨k, hk, rfl⟩ := in_nI b3.1 b3.2 (by decide)
  unfold accV at hP
  rcases (show k = 0 ∨ k = 1 ∨ k = 2 ∨ k = 3 ∨ k = 4 ∨ k = 5 ∨ k = 6 ∨ k = 7 ∨ k = 8 ∨ k = 9 ∨ k = 10 ∨ k = 11 ∨ k = 12 ∨ k = 13 ∨ k = 14 by omega) with rfl | rfl | rfl | rfl | rfl | rfl | rfl | rfl | rfl | rfl | rfl | rfl | rfl | rfl | rfl
  · rw [if_pos rfl] at hP
    refine g_tableIn (off := 75) (tgt := 76) dX6_account_1 (by decide) (by decide) (by decide +kernel) (by decide) ?_
    refine g_aload_n dX6_account_76 rfl ?_
    refine g_get 8 rfl (by decide) inX6 0 (by decide) fl_X6_12 dX6_account_77 o0 o1 ?_
    refine g_get 6 rfl (by decide) inX4 1 (by decide) fl_X6_324 dX6_account_80 hR.1.1 hR.2.1.2.1 ?_
    exact g_iret rfl (nr_int _) dX6_account_83 (by decide) (hP.ret hW hC)
  · rw [if_neg (by decide), if_pos rfl] at hP
    refine g_tableIn (off := 83) (tgt := 84) dX6_account_1 (by decide) (by decide) (by decide +kernel) (by decide) ?_
    refine g_aload_n dX6_account_84 rfl ?_
    refine g_get 8 rfl (by decide) inX6 0 (by decide) fl_X6_12 dX6_account_85 o0 o1 ?_
    refine g_callVp (Y := YX4_countInRows) sv_X6_327 rfl yn_X4_countInRows 6 (by decide) rfl rfl dX6_account_88 (c_countInRows hR pR_ok) hR.1.1 rfl rfl rfl (Nat.le_of_ble_eq_true rfl) ⟨rfl, rfl⟩ ?_
    exact g_iret rfl (nr_int _) dX6_account_91 (by decide) (hP.ret hW hC)
  · rw [if_neg (by decide), if_neg (by decide), if_pos rfl] at hP
    refine g_tableIn (off := 91) (tgt := 92) dX6_account_1 (by decide) (by decide) (by decide +kernel) (by decide) ?_
    refine g_aload_n dX6_account_92 rfl ?_
    refine g_get 8 rfl (by decide) inX6 0 (by decide) fl_X6_12 dX6_account_93 o0 o1 ?_
    refine g_get 6 rfl (by decide) inX4 5 (by decide) fl_X6_182 dX6_account_96 hR.1.1 hR.2.1.2.2.2.2.2.1 ?_
    exact g_iret rfl (nr_int _) dX6_account_99 (by decide) (hP.ret hW hC)
  · rw [if_neg (by decide), if_neg (by decide), if_neg (by decide), if_pos rfl] at hP
    refine g_tableIn (off := 99) (tgt := 100) dX6_account_1 (by decide) (by decide) (by decide +kernel) (by decide) ?_
    refine g_aload_n dX6_account_100 rfl ?_
    refine g_get 8 rfl (by decide) inX6 0 (by decide) fl_X6_12 dX6_account_101 o0 o1 ?_
    refine g_callVp (Y := YX4_countStarted) sv_X6_330 rfl yn_X4_countStarted 6 (by decide) rfl rfl dX6_account_104 (c_countStarted hR hI pR_ok) hR.1.1 rfl rfl rfl (Nat.le_of_ble_eq_true rfl) ⟨rfl, rfl⟩ ?_
    refine g_aload_n dX6_account_107 rfl ?_
    refine g_get 8 rfl (by decide) inX6 0 (by decide) fl_X6_12 dX6_account_108 o0 o1 ?_
    refine g_callVp (Y := YX4_countDone) sv_X6_333 rfl yn_X4_countDone 6 (by decide) rfl rfl dX6_account_111 (c_countDone hR hI pR_ok) hR.1.1 rfl rfl rfl (Nat.le_of_ble_eq_true rfl) ⟨rfl, rfl⟩ ?_
    refine g_isub dX6_account_114 ?_
    exact g_iret rfl (nr_int _) dX6_account_115 (by decide) (hP.ret hW hC)
  · rw [if_neg (by decide), if_neg (by decide), if_neg (by decide), if_neg (by decide), if_pos rfl] at hP
    refine g_tableIn (off := 115) (tgt := 116) dX6_account_1 (by decide) (by decide) (by decide +kernel) (by decide) ?_
    refine g_aload_n dX6_account_116 rfl ?_
    refine g_get 8 rfl (by decide) inX6 0 (by decide) fl_X6_12 dX6_account_117 o0 o1 ?_
    refine g_callVp (Y := YX4_countDone) sv_X6_333 rfl yn_X4_countDone 6 (by decide) rfl rfl dX6_account_120 (c_countDone hR hI pR_ok) hR.1.1 rfl rfl rfl (Nat.le_of_ble_eq_true rfl) ⟨rfl, rfl⟩ ?_
    exact g_iret rfl (nr_int _) dX6_account_123 (by decide) (hP.ret hW hC)
  · rw [if_neg (by decide), if_neg (by decide), if_neg (by decide), if_neg (by decide), if_neg (by decide), if_pos rfl] at hP
    unfold onR at hP
    refine g_tableIn (off := 123) (tgt := 124) dX6_account_1 (by decide) (by decide) (by decide +kernel) (by decide) ?_
    refine g_aload_n dX6_account_124 rfl ?_
    refine g_get 8 rfl (by decide) inX6 0 (by decide) fl_X6_12 dX6_account_125 o0 o1 ?_
    refine g_callVp (Y := YX4_countOnRoad) sv_X6_336 rfl yn_X4_countOnRoad 6 (by decide) rfl rfl dX6_account_128 (c_countOnRoadAll hR hI pR_ok) hR.1.1 rfl rfl rfl (Nat.le_of_ble_eq_true rfl) ⟨rfl, rfl⟩ ?_
    exact g_iret rfl (nr_int _) dX6_account_131 (by decide) (hP.ret hW hC)
  · rw [if_neg (by decide), if_neg (by decide), if_neg (by decide), if_neg (by decide), if_neg (by decide), if_neg (by decide), if_pos rfl] at hP
    unfold arR at hP
    refine g_tableIn (off := 131) (tgt := 132) dX6_account_1 (by decide) (by decide) (by decide +kernel) (by decide) ?_
    refine g_aload_n dX6_account_132 rfl ?_
    refine g_get 8 rfl (by decide) inX6 0 (by decide) fl_X6_12 dX6_account_133 o0 o1 ?_
    refine g_callVp (Y := YX4_countArrived) sv_X6_337 rfl yn_X4_countArrived 6 (by decide) rfl rfl dX6_account_136 (c_countArrivedAll hR hI pR_ok) hR.1.1 rfl rfl rfl (Nat.le_of_ble_eq_true rfl) ⟨rfl, rfl⟩ ?_
    exact g_iret rfl (nr_int _) dX6_account_139 (by decide) (hP.ret hW hC)
  · rw [if_neg (by decide), if_neg (by decide), if_neg (by decide), if_neg (by decide), if_neg (by decide), if_neg (by decide), if_neg (by decide), if_pos rfl] at hP
    refine g_tableIn (off := 139) (tgt := 140) dX6_account_1 (by decide) (by decide) (by decide +kernel) (by decide) ?_
    refine g_aload_n dX6_account_140 rfl ?_
    refine g_get 8 rfl (by decide) inX6 0 (by decide) fl_X6_12 dX6_account_141 o0 o1 ?_
    refine g_get 6 rfl (by decide) inX4 8 (by decide) fl_X6_338 dX6_account_144 hR.1.1 hR.2.1.2.2.2.2.2.2.2.2 ?_
    exact g_iret rfl (nr_int _) dX6_account_147 (by decide) (hP.ret hW hC)
  · rw [if_neg (by decide), if_neg (by decide), if_neg (by decide), if_neg (by decide), if_neg (by decide), if_neg (by decide), if_neg (by decide), if_neg (by decide), if_pos rfl] at hP
    refine g_tableIn (off := 147) (tgt := 148) dX6_account_1 (by decide) (by decide) (by decide +kernel) (by decide) ?_
    refine g_aload_n dX6_account_148 rfl ?_
    refine g_get 8 rfl (by decide) inX6 0 (by decide) fl_X6_12 dX6_account_149 o0 o1 ?_
    refine g_get 6 rfl (by decide) inX4 7 (by decide) fl_X6_162 dX6_account_152 hR.1.1 hR.2.1.2.2.2.2.2.2.2.1 ?_
    refine g_aload_n dX6_account_155 rfl ?_
    refine g_get 8 rfl (by decide) inX6 0 (by decide) fl_X6_12 dX6_account_156 o0 o1 ?_
    refine g_get 6 rfl (by decide) inX4 8 (by decide) fl_X6_338 dX6_account_159 hR.1.1 hR.2.1.2.2.2.2.2.2.2.2 ?_
    refine g_isub dX6_account_162 ?_
    exact g_iret rfl (nr_int _) dX6_account_163 (by decide) (hP.ret hW hC)
  · rw [if_neg (by decide), if_neg (by decide), if_neg (by decide), if_neg (by decide), if_neg (by decide), if_neg (by decide), if_neg (by decide), if_neg (by decide), if_neg (by decide), if_pos rfl] at hP
    refine g_tableIn (off := 163) (tgt := 164) dX6_account_1 (by decide) (by decide) (by decide +kernel) (by decide) ?_
    refine g_aload_n dX6_account_164 rfl ?_
    refine g_get 8 rfl (by decide) inX6 0 (by decide) fl_X6_12 dX6_account_165 o0 o1 ?_
    refine g_callVp (Y := YX4_countCracks) sv_X6_341 rfl yn_X4_countCracks 6 (by decide) rfl rfl dX6_account_168 (c_countCracks hR pR_ok) hR.1.1 rfl rfl rfl (Nat.le_of_ble_eq_true rfl) ⟨rfl, rfl⟩ ?_
    exact g_iret rfl (nr_int _) dX6_account_171 (by decide) (hP.ret hW hC)
  · rw [if_neg (by decide), if_neg (by decide), if_neg (by decide), if_neg (by decide), if_neg (by decide), if_neg (by decide), if_neg (by decide), if_neg (by decide), if_neg (by decide), if_neg (by decide), if_pos rfl] at hP
    unfold goodN at hP
    refine g_tableIn (off := 171) (tgt := 172) dX6_account_1 (by decide) (by decide) (by decide +kernel) (by decide) ?_
    refine g_aload_n dX6_account_172 rfl ?_
    refine g_get 8 rfl (by decide) inX6 0 (by decide) fl_X6_12 dX6_account_173 o0 o1 ?_
    refine g_callVp (Y := YX4_countGoodDrills) sv_X6_287 rfl yn_X4_countGoodDrills 6 (by decide) rfl rfl dX6_account_176 (c_countGoodDrills hR pR_ok) hR.1.1 rfl rfl rfl (Nat.le_of_ble_eq_true rfl) ⟨rfl, rfl⟩ ?_
    exact g_iret rfl (nr_int _) dX6_account_179 (by decide) (hP.ret hW hC)
  · rw [if_neg (by decide), if_neg (by decide), if_neg (by decide), if_neg (by decide), if_neg (by decide), if_neg (by decide), if_neg (by decide), if_neg (by decide), if_neg (by decide), if_neg (by decide), if_neg (by decide), if_pos rfl] at hP
    refine g_tableIn (off := 179) (tgt := 180) dX6_account_1 (by decide) (by decide) (by decide +kernel) (by decide) ?_
    refine g_aload_n dX6_account_180 rfl ?_
    refine g_get 8 rfl (by decide) inX6 0 (by decide) fl_X6_12 dX6_account_181 o0 o1 ?_
    refine g_get 6 rfl (by decide) inX4 6 (by decide) fl_X6_344 dX6_account_184 hR.1.1 hR.2.1.2.2.2.2.2.2.1 ?_
    exact g_iret rfl (nr_int _) dX6_account_187 (by decide) (hP.ret hW hC)
  · rw [if_neg (by decide), if_neg (by decide), if_neg (by decide), if_neg (by decide), if_neg (by decide), if_neg (by decide), if_neg (by decide), if_neg (by decide), if_neg (by decide), if_neg (by decide), if_neg (by decide), if_neg (by decide), if_pos rfl] at hP
    refine g_tableIn (off := 187) (tgt := 188) dX6_account_1 (by decide) (by decide) (by decide +kernel) (by decide) ?_
    refine g_aload_n dX6_account_188 rfl ?_
    refine g_get 8 rfl (by decide) inX6 0 (by decide) fl_X6_12 dX6_account_189 o0 o1 ?_
    refine g_get 6 rfl (by decide) inX4 7 (by decide) fl_X6_162 dX6_account_192 hR.1.1 hR.2.1.2.2.2.2.2.2.2.1 ?_
    exact g_iret rfl (nr_int _) dX6_account_195 (by decide) (hP.ret hW hC)
  · rw [if_neg (by decide), if_neg (by decide), if_neg (by decide), if_neg (by decide), if_neg (by decide), if_neg (by decide), if_neg (by decide), if_neg (by decide), if_neg (by decide), if_neg (by decide), if_neg (by decide), if_neg (by decide), if_neg (by decide), if_pos rfl] at hP
    obtain ⟨⟨s0, -⟩, ⟨-, v1, -⟩, -⟩ := hC.2.2.2.2.2
    refine g_tableIn (off := 195) (tgt := 196) dX6_account_1 (by decide) (by decide) (by decide +kernel) (by decide) ?_
    refine g_aload_n dX6_account_196 rfl ?_
    refine g_get 8 rfl (by decide) inX6 5 (by decide) fl_X6_36 dX6_account_197 o0 o6 ?_
    refine g_get 5 rfl (by decide) inX3 1 (by decide) fl_X6_294 dX6_account_200 s0 v1 ?_
    exact g_iret rfl (nr_int _) dX6_account_203 (by decide) (hP.ret hW hC)
  · rw [if_neg (by decide), if_neg (by decide), if_neg (by decide), if_neg (by decide), if_neg (by decide), if_neg (by decide), if_neg (by decide), if_neg (by decide), if_neg (by decide), if_neg (by decide), if_neg (by decide), if_neg (by decide), if_neg (by decide), if_neg (by decide)] at hP
    obtain ⟨K, nx, ⟨s0, -, -, -, v2, -⟩, -⟩ := hC.2.2.2.2.1
    refine g_tableIn (off := 203) (tgt := 204) dX6_account_1 (by decide) (by decide) (by decide +kernel) (by decide) ?_
    refine g_aload_n dX6_account_204 rfl ?_
    refine g_get 8 rfl (by decide) inX6 4 (by decide) fl_X6_29 dX6_account_205 o0 o5 ?_
    refine g_get 3 rfl (by decide) inX1 2 (by decide) fl_X6_347 dX6_account_208 s0 v2 ?_
    exact g_iret rfl (nr_int _) dX6_account_211 (by decide) (hP.ret hW hC)
theorem m_isWell (hC : CS sh V x S) (hI : InvA S.1) (hW : Wf sh sz) (hP : CP x sh sz V [] (sp_isWell S) P) : MC E YX6_isWell [.ref x] sh sz V P := by
  obtain ⟨o0, o1, o2, o3, o4, o5, o6, o7, o8⟩ := hC.1
  have hR : RoadAt sh V (x + 1) S.1 := hC.2.1
  obtain ⟨hI, hO, hT⟩ := hI
  unfold sp_isWell at hP
  refine MC.of RX6 "isWell" rfl (by decide +kernel) rfl 0 [_] rfl (Nat.le_of_ble_eq_true rfl) ?_
  show G E MX6_isWell _ _ _ _ _ _ _ _ _
  refine g_aload_n dX6_isWell_0 rfl ?_
  refine g_get 8 rfl (by decide) inX6 0 (by decide) fl_X6_12 dX6_isWell_1 o0 o1 ?_
  refine g_get 6 rfl (by decide) inX4 7 (by decide) fl_X6_162 dX6_isWell_4 hR.1.1 hR.2.1.2.2.2.2.2.2.2.1 ?_
  refine g_aload_n dX6_isWell_7 rfl ?_
  refine g_get 8 rfl (by decide) inX6 0 (by decide) fl_X6_12 dX6_isWell_8 o0 o1 ?_
  refine g_get 6 rfl (by decide) inX4 8 (by decide) fl_X6_338 dX6_isWell_11 hR.1.1 hR.2.1.2.2.2.2.2.2.2.2 ?_
  refine g_aload_n dX6_isWell_14 rfl ?_
  refine g_get 8 rfl (by decide) inX6 0 (by decide) fl_X6_12 dX6_isWell_15 o0 o1 ?_
  refine g_callVp (Y := YX4_tonnesInRows) sv_X6_350 rfl yn_X4_tonnesInRows 6 (by decide) rfl rfl dX6_isWell_18 (c_tonnesInRows hR pR_ok) hR.1.1 rfl rfl rfl (Nat.le_of_ble_eq_true rfl) ⟨rfl, rfl⟩ ?_
  refine g_iadd dX6_isWell_21 ?_
  refine g_aload_n dX6_isWell_22 rfl ?_
  refine g_get 8 rfl (by decide) inX6 0 (by decide) fl_X6_12 dX6_isWell_23 o0 o1 ?_
  refine g_callVp (Y := YX4_tonnesUnderWay) sv_X6_353 rfl yn_X4_tonnesUnderWay 6 (by decide) rfl rfl dX6_isWell_26 (c_tonnesUnderWay hR hI pR_ok) hR.1.1 rfl rfl rfl (Nat.le_of_ble_eq_true rfl) ⟨rfl, rfl⟩ ?_
  refine g_iadd dX6_isWell_29 ?_
  have e : S.1 3 = S.1 4 + sI (fun k => S.1 (oR k)) 10 + sI (fun c => sI (fun k => if k < ncv S.1 c then (if nI 12 ≤ mt (S.1 (oC c 2)) (S.1 (oC c 0)) k then nI 0 else (tkF S.1 c k).2.1) else nI 0) 4) (cnt S.1) := by
    rw [hT, Int32.add_assoc]
    rfl
  refine g_icmp_ne (tgt := 57) dX6_isWell_30 (by decide) (fun hq => absurd hq ((fun q => q e))) (fun _ => ?_)
  refine g_aload_n dX6_isWell_33 rfl ?_
  refine g_get 8 rfl (by decide) inX6 0 (by decide) fl_X6_12 dX6_isWell_34 o0 o1 ?_
  refine g_callVp (Y := YX4_hasOneTruckAMile) sv_X6_356 rfl yn_X4_hasOneTruckAMile 6 (by decide) rfl rfl dX6_isWell_37 (c_hasOneTruckAMile hR hI hO pR_ok) hR.1.1 rfl rfl rfl (Nat.le_of_ble_eq_true rfl) ⟨rfl, rfl⟩ ?_
  refine g_if_eq (tgt := 57) dX6_isWell_40 (by decide) (fun hq => absurd hq ((by decide))) (fun _ => ?_)
  refine g_aload_n dX6_isWell_43 rfl ?_
  refine g_get 8 rfl (by decide) inX6 0 (by decide) fl_X6_12 dX6_isWell_44 o0 o1 ?_
  refine g_callVp (Y := YX4_isIceInRange) sv_X6_359 rfl yn_X4_isIceInRange 6 (by decide) rfl rfl dX6_isWell_47 (c_isIceInRange hR hI pR_ok) hR.1.1 rfl rfl rfl (Nat.le_of_ble_eq_true rfl) ⟨rfl, rfl⟩ ?_
  refine g_if_eq (tgt := 57) dX6_isWell_50 (by decide) (fun hq => absurd hq ((by decide))) (fun _ => ?_)
  refine g_iconst (v := nI 1) dX6_isWell_53 (by decide) ?_
  refine g_jump (tgt := 58) dX6_isWell_54 (by decide) ?_
  exact g_iret rfl nz1 dX6_isWell_58 (by decide) (hP.ret hW hC)
theorem m_meanBits (hC : CS sh V x S) (hI : InvB S.1) (hW : Wf sh sz) (hP : CP x sh sz V [] (sp_meanBits S) P) : MC E YX6_meanBits [.ref x] sh sz V P := by
  obtain ⟨o0, o1, o2, o3, o4, o5, o6, o7, o8⟩ := hC.1
  have hR : RoadAt sh V (x + 1) S.1 := hC.2.1
  unfold sp_meanBits at hP
  refine MC.of RX6 "meanBits" rfl (by decide +kernel) rfl 3 [_, none, none, none] rfl (Nat.le_of_ble_eq_true rfl) ?_
  show G E MX6_meanBits _ _ _ _ _ _ _ _ _
  refine g_dconst0 dX6_meanBits_0 ?_
  refine g_dstore_n dX6_meanBits_1 (by decide) rfl rfl ?_
  show G _ _ _ _ _ _ _ _ _ [_, _, _, _] _
  refine g_iconst (v := nI 0) dX6_meanBits_2 (by decide) ?_
  refine g_istore_n dX6_meanBits_3 (by decide) rfl ?_
  show G _ _ _ _ _ _ _ _ _ [_, _, _, _] _
  suffices K : ∀ (k i : Nat), i + k = 12 → G E MX6_meanBits P sh sz V 0 0 4 [some (.ref x), some (.double (dsum S.1 i)), none, some (.int (nI i))] [] from K 12 0 (by omega)
  intro k
  induction k with
  | zero =>
    intro i hi
    have hi : i = 12 := by omega
    subst hi
    obtain ⟨w1, w2⟩ := fp_mean hI
    unfold meanD at w1
    refine g_iload_n dX6_meanBits_4 rfl ?_
    refine g_bipush (v := nI 12) dX6_meanBits_5 (by decide) ?_
    refine g_icmp_ge (tgt := 32) dX6_meanBits_7 (by decide) (fun _ => ?_) (fun hq => absurd (Int32.le_refl _) hq)
    refine g_dload_n dX6_meanBits_32 rfl ?_
    refine g_ldc2d kc_X6_362 dX6_meanBits_33 ?_
    refine g_ddiv dX6_meanBits_36 w1 ?_
    refine g_callSp (Y := YX6_doubleBits) ss_X6_364 yn_X6_doubleBits dX6_meanBits_37 (c_doubleBits w2 pR_ok) rfl rfl rfl (Nat.le_of_ble_eq_true rfl) ⟨rfl, rfl⟩ ?_
    exact g_lret rfl dX6_meanBits_40 (by decide) (hP.ret hW hC)
  | succ k ih =>
    intro i hi
    obtain ⟨m0, m1, m2, m3, m4, m5, m6⟩ := hR.mi (j := i) (by omega)
    obtain ⟨w1, w2⟩ := fp_dsum hI (j := i) (by omega)
    refine g_iload_n dX6_meanBits_4 rfl ?_
    refine g_bipush (v := nI 12) dX6_meanBits_5 (by decide) ?_
    refine g_icmp_ge (tgt := 32) dX6_meanBits_7 (by decide) (fun hq => absurd hq (nI_ge (by omega) (by omega))) (fun _ => ?_)
    refine g_dload_n dX6_meanBits_10 rfl ?_
    refine g_aload_n dX6_meanBits_11 rfl ?_
    refine g_get 8 rfl (by decide) inX6 0 (by decide) fl_X6_12 dX6_meanBits_12 o0 o1 ?_
    refine g_get 6 rfl (by decide) inX4 2 (by decide) fl_X6_80 dX6_meanBits_15 hR.1.1 hR.2.1.2.2.1 ?_
    refine g_iload_n dX6_meanBits_18 rfl ?_
    refine g_aaload _ dX6_meanBits_19 hR.1.2.2.1 (by decide) (by decide) (vp_in_nI (by omega) (by decide)) (hR.mir (j := i) (by omega)) ?_
    refine g_get 4 rfl (by decide) inX2 0 (by decide) fl_X6_121 dX6_meanBits_20 m0 m1 ?_
    refine g_f2d dX6_meanBits_23 w1 ?_
    refine g_dadd dX6_meanBits_24 w2 ?_
    refine g_dstore_n dX6_meanBits_25 (by decide) rfl rfl ?_
    show G _ _ _ _ _ _ _ _ _ [_, _, _, _] _
    refine g_iinc dX6_meanBits_26 rfl (by first | exact nI_inc _ | rfl) (by decide) rfl ?_
    show G _ _ _ _ _ _ _ _ _ [_, _, _, _] _
    refine g_jump (tgt := 4) dX6_meanBits_29 (by decide) ?_
    exact ih (i + 1) (by omega)
theorem m_share (hC : CS sh V x S) (hW : Wf sh sz) (hP : CP x sh sz V [xAR] (sp_share S) P) : MC E YX6_share [.ref x] sh sz V P := by
  obtain ⟨o0, o1, o2, o3, o4, o5, o6, o7, o8⟩ := hC.1
  have hR : RoadAt sh V (x + 1) S.1 := hC.2.1
  unfold sp_share at hP
  refine MC.of RX6 "share" rfl (by decide +kernel) rfl 0 [_] rfl (Nat.le_of_ble_eq_true rfl) ?_
  show G E MX6_share _ _ _ _ _ _ _ _ _
  refine g_aload_n dX6_share_0 rfl ?_
  refine g_get 8 rfl (by decide) inX6 0 (by decide) fl_X6_12 dX6_share_1 o0 o1 ?_
  refine g_get 6 rfl (by decide) inX4 7 (by decide) fl_X6_162 dX6_share_4 hR.1.1 hR.2.1.2.2.2.2.2.2.2.1 ?_
  refine g_if_ne (tgt := 21) dX6_share_7 (by decide) (fun b1 => ?_) (fun b1 => ?_)
  · rw [if_neg b1] at hP
    refine g_aload_n dX6_share_21 rfl ?_
    refine g_get 8 rfl (by decide) inX6 0 (by decide) fl_X6_12 dX6_share_22 o0 o1 ?_
    refine g_get 6 rfl (by decide) inX4 8 (by decide) fl_X6_338 dX6_share_25 hR.1.1 hR.2.1.2.2.2.2.2.2.2.2 ?_
    refine g_i2f dX6_share_28 ?_
    refine g_aload_n dX6_share_29 rfl ?_
    refine g_get 8 rfl (by decide) inX6 0 (by decide) fl_X6_12 dX6_share_30 o0 o1 ?_
    refine g_get 6 rfl (by decide) inX4 7 (by decide) fl_X6_162 dX6_share_33 hR.1.1 hR.2.1.2.2.2.2.2.2.2.1 ?_
    refine g_i2f dX6_share_36 ?_
    refine g_fdiv dX6_share_37 (fp_share b1) ?_
    exact g_fret rfl dX6_share_38 (by decide) (hP.ret hW hC)
  · rw [if_pos b1] at hP
    refine g_throwW (names := tn_ArithmeticException) (text := "no tonnes came") rfl (by decide +kernel) cl_X6_368 ini_ArithmeticException (by decide +kernel) ta_X6_372 to_X6_372 dX6_share_10 dX6_share_13 dX6_share_14 dX6_share_17 dX6_share_20 rfl (by decide) (by decide) (by decide) (hP.thr hW hC rfl)
theorem m_undo (hC : CS sh V x S) (hW : Wf sh sz) (hP : CP x sh sz V [xIS] (sp_undo S) P) : MC E YX6_undo [.ref x] sh sz V P := by
  obtain ⟨o0, o1, o2, o3, o4, o5, o6, o7, o8⟩ := hC.1
  have hR : RoadAt sh V (x + 1) S.1 := hC.2.1
  obtain ⟨K, nx, hH, hr⟩ := id hC.2.2.2.2.1
  obtain ⟨s0, s1, v0, v1, v2, hn, hc, hq⟩ := id hH
  unfold sp_undo at hP
  refine MC.of RX6 "undo" rfl (by decide +kernel) rfl 0 [_] rfl (Nat.le_of_ble_eq_true rfl) ?_
  show G E MX6_undo _ _ _ _ _ _ _ _ _
  refine g_aload_n dX6_undo_0 rfl ?_
  refine g_get 8 rfl (by decide) inX6 4 (by decide) fl_X6_29 dX6_undo_1 o0 o5 ?_
  refine g_get 3 rfl (by decide) inX1 2 (by decide) fl_X6_347 dX6_undo_4 s0 v2 ?_
  refine g_if_ne (tgt := 21) dX6_undo_7 (by decide) (fun b1 => ?_) (fun b1 => ?_)
  rotate_left
  · have h0 : S.2.2.2.1 = 0 := (nI_eq (b := 0) (by omega) (by decide)).mp b1
    rw [if_pos h0] at hP
    refine g_throwW (names := tn_IllegalStateException) (text := "no change can be undone") rfl (by decide +kernel) cl_X6_297 ini_IllegalStateException (by decide +kernel) ta_X6_301 to_X6_301 dX6_undo_10 dX6_undo_13 dX6_undo_14 dX6_undo_17 dX6_undo_20 rfl (by decide) (by decide) (by decide) (hP.thr hW hC rfl)
  have h0 : ¬ S.2.2.2.1 = 0 := fun q => b1 (by rw [q]; rfl)
  rw [if_neg h0] at hP
  obtain ⟨rb1, rb2⟩ := ring_back hr hn (by omega) hc
  refine g_aload_n dX6_undo_21 rfl ?_
  refine g_get 8 rfl (by decide) inX6 4 (by decide) fl_X6_29 dX6_undo_22 o0 o5 ?_
  refine g_aload_n dX6_undo_25 rfl ?_
  refine g_get 8 rfl (by decide) inX6 0 (by decide) fl_X6_12 dX6_undo_26 o0 o1 ?_
  refine g_callVv (Y := YX1_takeBack) (Q := (fun V2 => (∀ a, (a < x + 1 ∨ x + 1 + 25 ≤ a) → a ≠ x + 76 → V2 a = V a) ∧ RoadAt sh V2 (x + 1) (K ((nx + 7) % 8)) ∧ HiAt sh V2 (x + 76) K ((nx + 7) % 8) (S.2.2.2.1 - 1))) sv_X6_375 rfl yn_X1_takeBack 3 (by decide) rfl rfl dX6_undo_29 (c_takeBack hH hR (by omega) (by omega) (fun V2 q1 q2 q3 => ⟨rfl, rfl, rfl, q1, q2, q3⟩)) s0 rfl rfl rfl (Nat.le_of_ble_eq_true rfl) ⟨rfl, rfl⟩ (fun V2 q => ?_)
  obtain ⟨q1, q2, q3⟩ := q
  rw [rb2] at q2
  have hC2 : CAt sh V2 x (S.2.2.1 (S.2.2.2.1 - 1)) S.2.1 S.2.2.1 (S.2.2.2.1 - 1) S.2.2.2.2.1 S.2.2.2.2.2.1 S.2.2.2.2.2.2.1 S.2.2.2.2.2.2.2 := by
    have hT : Tr sh V V2 := fun q hq => by
      by_cases z : (q < x + 1 ∨ x + 1 + 25 ≤ q) ∧ q ≠ x + 76
      · exact q1 q z.1 z.2
      · exfalso
        by_cases w : q = x + 76
        · rw [w, s0] at hq
          cases hq
        · exact hR.ne8 (by omega) (by omega) hq
    obtain ⟨hO, hR0, ⟨g1, hT1⟩, ⟨g2, hS2, hS3⟩, -, hOr⟩ := hC
    refine ⟨?_, q2, ⟨g1, hT1.keep (fun a h1 h2 => q1 a (by omega) (by omega)) hT⟩, ⟨g2, hS2.keep (fun a h1 h2 => q1 a (by omega) (by omega)) hT, hS3⟩, ⟨K, _, q3, rb1⟩, hOr.keep (fun a h1 h2 => q1 a (by omega) (by omega))⟩
    unfold ObAt at hO ⊢
    rw [q1 x (by omega) (by omega)]
    exact hO
  obtain ⟨p0, p1, p2, p3, p4, p5, p6, p7, p8⟩ := hC2.1
  obtain ⟨t0, t1, t2, t3, t4, -⟩ := q3
  refine g_aload_n dX6_undo_32 rfl ?_
  refine g_get 8 rfl (by decide) inX6 4 (by decide) fl_X6_29 dX6_undo_33 p0 p5 ?_
  refine g_get 3 rfl (by decide) inX1 2 (by decide) fl_X6_347 dX6_undo_36 t0 t4 ?_
  have hP := hP.retW hW (V' := V2) (fun a ha => q1 a (by omega) (by omega)) hC2
  exact g_iret rfl (nr_int _) dX6_undo_39 (by decide) hP
end METH4

