/-! the law's calls where they are allowed: what they answer, what they leave -/
section LREAD
variable {E : gE} {sh : Sh} {sz : Nat} {V : Vl} {x : Nat} {S : St} {A : La}
theorem isM_n {j : Nat} (h : j < 12) : isM (nI j) := ⟨nI_pos' (by omega), nI_lt h (by decide)⟩
theorem isC_n {f : Fl} (hI : InvB f) {c : Nat} (h : c < cnt f) : isC f (nI c) := ⟨nI_pos' (by have := hI.1.2; omega), nI_lt h (by have := hI.1.2; omega)⟩
theorem es_mileOf {j w : Nat} (hj : j < 12) (hw : w < 5) : sp_mileOf S (nI j) (nI w) = (0, .int (mileV S.1 j (nI w)), S) := by
  unfold sp_mileOf
  rw [if_pos (isM_n hj), if_pos ⟨nI_pos' (by omega), nI_lt hw (by decide)⟩, nI_clamp (by omega)]
/-- the day on which a mile was drilled, or what the law makes of none -/
def drlV (f : Fl) (j : Nat) : Int32 := if f (oM j 4) < 0 then -13 else f (oM j 3)
theorem es_drilled {j : Nat} (hj : j < 12) : (sp_drilled S (nI j)).2.2 = S ∧ rv [-11, -13] (sp_drilled S (nI j)) = .int (drlV S.1 j) := by
  unfold sp_drilled drlV
  rw [if_pos (isM_n hj), nI_clamp (by omega)]
  split <;> exact ⟨rfl, rfl⟩
def rowV (f : Fl) (k : Nat) (w : Nat) : Int32 := if f (oR k) = 0 then -13 else if w = 0 then f (oR k) else f (oR k + 1)
theorem es_inRow {k w : Nat} (hk : k < 10) (hw : w < 2) : (sp_inRow S (nI (k / 5)) (nI (k % 5)) (nI w)).2.2 = S ∧ rv [-11, -13, -12] (sp_inRow S (nI (k / 5)) (nI (k % 5)) (nI w)) = .int (rowV S.1 k w) := by
  unfold sp_inRow rowV
  rw [if_pos ⟨⟨nI_pos' (by omega), nI_lt (by omega) (by decide)⟩, nI_pos' (by omega), nI_lt (by omega) (by decide)⟩, nI_clamp (by omega), nI_clamp (by omega), show k / 5 * 5 + k % 5 = k by omega]
  by_cases h : S.1 (oR k) = 0
  · rw [if_pos h, if_pos h]
    exact ⟨rfl, rfl⟩
  · rw [if_neg h, if_neg h, if_pos ⟨nI_pos' (by omega), nI_le (by omega) (by decide)⟩]
    rcases (show w = 0 ∨ w = 1 by omega) with rfl | rfl
    · rw [if_pos rfl, if_pos rfl]
      exact ⟨rfl, rfl⟩
    · rw [if_neg (by decide), if_neg (by decide)]
      exact ⟨rfl, rfl⟩
theorem es_convoyOf (hI : InvB S.1) {c w : Nat} (hc : c < cnt S.1) (hw : w < 6) : sp_convoyOf S (nI c) (nI w) = (0, .int (cvV S.1 c (nI w)), S) := by
  have := hI.1.2
  unfold sp_convoyOf
  rw [if_pos (isC_n hI hc), if_pos ⟨nI_pos' (by omega), nI_lt hw (by decide)⟩, nI_clamp (by omega)]
theorem isT_n (hI : InvB S.1) {c k : Nat} (hc : c < cnt S.1) (hk : k < ncv S.1 c) : isT S.1 (nI c) (nI k) := by
  have := hI.1.2
  have := (hI.cv hc).2.2.1
  refine ⟨isC_n hI hc, nI_pos' (by omega), ?_⟩
  rw [nI_clamp (by omega)]
  exact nI_lt hk (by omega)
theorem es_truckOf (hI : InvB S.1) {c k w : Nat} (hc : c < cnt S.1) (hk : k < ncv S.1 c) (hw : w < 4) : sp_truckOf S (nI c) (nI k) (nI w) = (0, .int (tkV S.1 c k (nI w)), S) := by
  have := hI.1.2
  have := (hI.cv hc).2.2.1
  unfold sp_truckOf
  rw [if_pos (isT_n hI hc hk), if_pos ⟨nI_pos' (by omega), nI_lt hw (by decide)⟩, nI_clamp (by omega), nI_clamp (by omega)]
theorem es_load (hI : InvB S.1) {c k : Nat} (hc : c < cnt S.1) (hk : k < ncv S.1 c) : sp_load S (nI c) (nI k) = (0, .float (bud (tkF S.1 c k)), S) := by
  have := hI.1.2
  have := (hI.cv hc).2.2.1
  unfold sp_load
  rw [if_pos (isT_n hI hc hk), nI_clamp (by omega), nI_clamp (by omega)]
noncomputable def atV (f : Fl) (j : Nat) : Int32 := @ite _ (tkn f (nI j) (-1)) (Classical.propDecidable _) (whoV f (nI j) (-1)) (-13)
theorem es_at {j : Nat} (hj : j < 12) : (sp_at S (nI j)).2.2 = S ∧ rv [-11, -13] (sp_at S (nI j)) = .int (atV S.1 j) := by
  unfold sp_at atV
  rw [if_pos (isM_n hj)]
  split <;> exact ⟨rfl, rfl⟩
theorem es_why (hI : InvB S.1) {c : Nat} (hc : c < cnt S.1) (d : Int32) : sp_why S (nI c) d = (0, .int (if d = 0 then (rollO S.1 c).1 else (rollO S.1 c).2), S) := by
  have := hI.1.2
  unfold sp_why
  rw [if_pos (isC_n hI hc), nI_clamp (by omega)]
theorem es_rolls (hI : InvB S.1) {c : Nat} (hc : c < cnt S.1) : sp_rolls S (nI c) = (0, .int (nI (rollN S.1 c)), S) := by
  have := hI.1.2
  unfold sp_rolls
  rw [if_pos (isC_n hI hc), nI_clamp (by omega)]
theorem es_iceIn {j d : Nat} (hj : j < 12) (hd : d ≤ 60) : sp_iceIn S (nI j) (nI d) = (0, .int (iceN (S.1 (oM j 0)).toUInt32 (S.1 5) d).toInt32, S) := by
  unfold sp_iceIn
  rw [if_pos (isM_n hj), if_pos ⟨nI_pos' (by omega), nI_le hd (by decide)⟩, nI_clamp (by omega), nI_clamp (by omega)]
noncomputable def brV (f : Fl) (j : Nat) (t : Int32) : Int32 := if brN (f (oM j 0)).toUInt32 (f 5) t < 91 then nI (brN (f (oM j 0)).toUInt32 (f 5) t) else -13
theorem es_bearsIn {j t : Nat} (hj : j < 12) (h1 : 1 ≤ t) (h2 : t ≤ 99) : (sp_bearsIn S (nI j) (nI t)).2.2 = S ∧ rv [-11, -12, -13] (sp_bearsIn S (nI j) (nI t)) = .int (brV S.1 j (nI t)) := by
  unfold sp_bearsIn brV
  rw [if_pos (isM_n hj), if_pos ⟨nI_le h1 (by omega), nI_le h2 (by decide)⟩, nI_clamp (by omega)]
  split <;> exact ⟨rfl, rfl⟩
def refV (z : Int32 × Int32) (d : Int32) : Int32 := if z.1 = nI 0 then -101 else if d = 0 then z.1 else z.2
theorem es_refusal {d : Int32} : (sp_refusal S d).2.2 = S ∧ rv [-101] (sp_refusal S d) = .int (refV S.2.2.2.2.2.2.2 d) := by
  unfold sp_refusal refV
  split <;> exact ⟨rfl, rfl⟩
theorem es_account {w : Nat} (hw : w < 15) : sp_account S (nI w) = (0, .int (accV S (nI w)), S) := by
  unfold sp_account
  rw [if_pos ⟨nI_pos' (by omega), nI_lt hw (by decide)⟩]
theorem es_setting {w : Nat} (hw : w < 3) : sp_setting S (nI w) = (0, .int (S.1 (5 + w)), S) := by
  unfold sp_setting
  rw [if_pos ⟨nI_pos' (by omega), nI_lt hw (by decide)⟩, nI_clamp (by omega)]
theorem es_ice {j : Nat} (hj : j < 12) : sp_ice S (nI j) = (0, .float (S.1 (oM j 0)).toUInt32, S) := by
  unfold sp_ice
  rw [if_pos (isM_n hj), nI_clamp (by omega)]
theorem es_bears {j : Nat} (hj : j < 12) : sp_bears S (nI j) = (0, .int (bd S.1 j).toInt32, S) := by
  unfold sp_bears
  rw [if_pos (isM_n hj), nI_clamp (by omega)]
theorem es_sign {j : Nat} (hj : j < 12) : sp_sign S (nI j) = (0, .int (signV S.1 j), S) := by
  unfold sp_sign
  rw [if_pos (isM_n hj), nI_clamp (by omega)]
theorem l_mileOf {j w : Nat} (hA : LW x S A sh sz V) (hj : j < 12) (hw : w < 5) {v : Int32} (hv : mileV S.1 j (nI w) = v) : MCH E YL_mileOf [(0, 6, 7, 20), (0, 6, 11, 14)] [.ref x, .int (nI j), .int (nI w)] sh sz V (PLs x A sz S (.int v)) := by
  have h := w_mileOf (E := E) (a := (nI j)) (w := (nI w)) hA (by rw [e_mileOf]; exact hA.2.1)
  rw [es_mileOf hj hw, hv] at h
  exact h
theorem l_drilled {j : Nat} (hA : LW x S A sh sz V) (hj : j < 12) {v : Int32} (hv : drlV S.1 j = v) : MCH E YL_drilled [(0, 5, 6, 20), (0, 5, 10, 25)] [.ref x, .int (nI j)] sh sz V (PLs x A sz S (.int v)) := by
  have h := w_drilled (E := E) (a := (nI j)) hA (by rw [e_drilled]; exact hA.2.1)
  rw [(es_drilled hj).1, (es_drilled hj).2, hv] at h
  exact h
theorem l_inRow {k w : Nat} (hA : LW x S A sh sz V) (hk : k < 10) (hw : w < 2) {v : Int32} (hv : rowV S.1 k w = v) : MCH E YL_inRow [(0, 7, 8, 20), (0, 7, 13, 25), (0, 7, 18, 14)] [.ref x, .int (nI (k / 5)), .int (nI (k % 5)), .int (nI w)] sh sz V (PLs x A sz S (.int v)) := by
  have h := w_inRow (E := E) (r := (nI (k / 5))) (p := (nI (k % 5))) (w := (nI w)) hA (by rw [e_inRow]; exact hA.2.1)
  rw [(es_inRow hk hw).1, (es_inRow hk hw).2, hv] at h
  exact h
theorem l_convoyOf {c w : Nat} (hA : LW x S A sh sz V) (hc : c < cnt S.1) (hw : w < 6) {v : Int32} (hv : cvV S.1 c (nI w) = v) : MCH E YL_convoyOf [(0, 6, 7, 20), (0, 6, 11, 14)] [.ref x, .int (nI c), .int (nI w)] sh sz V (PLs x A sz S (.int v)) := by
  have h := w_convoyOf (E := E) (c := (nI c)) (w := (nI w)) hA (by rw [e_convoyOf]; exact hA.2.1)
  rw [es_convoyOf hA.sB hc hw, hv] at h
  exact h
theorem l_truckOf {c k w : Nat} (hA : LW x S A sh sz V) (hc : c < cnt S.1) (hk : k < ncv S.1 c) (hw : w < 4) {v : Int32} (hv : tkV S.1 c k (nI w) = v) : MCH E YL_truckOf [(0, 7, 8, 20), (0, 7, 13, 14)] [.ref x, .int (nI c), .int (nI k), .int (nI w)] sh sz V (PLs x A sz S (.int v)) := by
  have h := w_truckOf (E := E) (c := (nI c)) (p := (nI k)) (w := (nI w)) hA (by rw [e_truckOf]; exact hA.2.1)
  rw [es_truckOf hA.sB hc hk hw, hv] at h
  exact h
theorem l_at {j : Nat} (hA : LW x S A sh sz V) (hj : j < 12) {v : Int32} (hv : atV S.1 j = v) : MCH E YL_at [(0, 5, 6, 20), (0, 5, 10, 25)] [.ref x, .int (nI j)] sh sz V (PLs x A sz S (.int v)) := by
  have h := w_at (E := E) (a := (nI j)) hA (by rw [e_at]; exact hA.2.1)
  rw [(es_at hj).1, (es_at hj).2, hv] at h
  exact h
theorem l_why {c : Nat} {d : Int32} (hA : LW x S A sh sz V) (hc : c < cnt S.1) {v : Int32} (hv : (if d = 0 then (rollO S.1 c).1 else (rollO S.1 c).2) = v) : MCH E YL_why [(0, 6, 7, 20)] [.ref x, .int (nI c), .int d] sh sz V (PLs x A sz S (.int v)) := by
  have h := w_why (E := E) (c := (nI c)) (d := d) hA (by rw [e_why]; exact hA.2.1)
  rw [es_why hA.sB hc d, hv] at h
  exact h
theorem l_iceIn {j d : Nat} (hA : LW x S A sh sz V) (hj : j < 12) (hd : d ≤ 60) {v : Int32} (hv : (iceN (S.1 (oM j 0)).toUInt32 (S.1 5) d).toInt32 = v) : MCH E YL_iceIn [(0, 6, 7, 20), (0, 6, 11, 14)] [.ref x, .int (nI j), .int (nI d)] sh sz V (PLs x A sz S (.int v)) := by
  have h := w_iceIn (E := E) (a := (nI j)) (d := (nI d)) hA (by rw [e_iceIn]; exact hA.2.1)
  rw [es_iceIn hj hd, hv] at h
  exact h
theorem l_bearsIn {j t : Nat} (hA : LW x S A sh sz V) (hj : j < 12) (h1 : 1 ≤ t) (h2 : t ≤ 99) {v : Int32} (hv : brV S.1 j (nI t) = v) : MCH E YL_bearsIn [(0, 6, 7, 20), (0, 6, 11, 14), (0, 6, 15, 25)] [.ref x, .int (nI j), .int (nI t)] sh sz V (PLs x A sz S (.int v)) := by
  have h := w_bearsIn (E := E) (a := (nI j)) (t := (nI t)) hA (by rw [e_bearsIn]; exact hA.2.1)
  rw [(es_bearsIn hj h1 h2).1, (es_bearsIn hj h1 h2).2, hv] at h
  exact h
theorem l_refusal {d : Int32} (hA : LW x S A sh sz V) {v : Int32} (hv : refV S.2.2.2.2.2.2.2 d = v) : MCH E YL_refusal [(0, 5, 6, 25)] [.ref x, .int d] sh sz V (PLs x A sz S (.int v)) := by
  have h := w_refusal (E := E) (d := d) hA (by rw [e_refusal]; exact hA.2.1)
  rw [(es_refusal).1, (es_refusal).2, hv] at h
  exact h
theorem k_account {w : Nat} {v : Int32} (hA : LW x S A sh sz V) (hw : w < 15) (hv : accV S (nI w) = v) : MC E YX6_account [.ref x, .int (nI w)] sh sz V (PLs x A sz S (.int v)) := d_account hA (by rw [← hv]; exact es_account hw)
theorem k_setting {w : Nat} (hA : LW x S A sh sz V) (hw : w < 3) : MC E YX6_setting [.ref x, .int (nI w)] sh sz V (PLs x A sz S (.int (S.1 (5 + w)))) := d_setting hA (es_setting hw)
theorem k_ice {j : Nat} (hA : LW x S A sh sz V) (hj : j < 12) : MC E YX6_ice [.ref x, .int (nI j)] sh sz V (PLs x A sz S (.float (S.1 (oM j 0)).toUInt32)) := d_ice hA (es_ice hj)
theorem k_sign {j : Nat} (hA : LW x S A sh sz V) (hj : j < 12) : MC E YX6_sign [.ref x, .int (nI j)] sh sz V (PLs x A sz S (.int (signV S.1 j))) := d_sign hA (es_sign hj)
theorem k_weakest (hA : LW x S A sh sz V) : MC E YX6_weakest [.ref x] sh sz V (PLs x A sz S (.int (nI (wkst S.1 11)))) := d_weakest hA (rfl)
theorem k_meanBits (hA : LW x S A sh sz V) : MC E YX6_meanBits [.ref x] sh sz V (PLs x A sz S (.long (meanD S.1).toInt64)) := d_meanBits hA (rfl)
theorem k_isWell (hA : LW x S A sh sz V) : MC E YX6_isWell [.ref x] sh sz V (PLs x A sz S (.int (nI 1))) := d_isWell hA (rfl)
theorem k_load {c k : Nat} (hA : LW x S A sh sz V) (hc : c < cnt S.1) (hk : k < ncv S.1 c) : MC E YX6_load [.ref x, .int (nI c), .int (nI k)] sh sz V (PLs x A sz S (.float (bud (tkF S.1 c k)))) := d_load hA (es_load hA.sB hc hk)
theorem k_share (hA : LW x S A sh sz V) (h0 : ¬ S.1 3 = 0) : MC E YX6_share [.ref x] sh sz V (PLs x A sz S (.float (FP.fdiv (FP.i2f (S.1 4)) (FP.i2f (S.1 3))))) := d_share hA (by unfold sp_share; rw [if_neg h0])
theorem l_bears {j : Nat} (hA : LW x S A sh sz V) (hj : j < 12) : MC E YL_bears [.ref x, .int (nI j)] sh sz V (PLs x A sz S (.float (bd S.1 j))) := by
  refine MC.of RL "bears" rfl (by decide +kernel) rfl 0 [_, _] rfl (Nat.le_of_ble_eq_true rfl) ?_
  show G E ML_bears _ _ _ _ _ _ _ _ _
  have hb : sz ≤ sz ∧ 0 ≤ 0 ∧ 0 ≤ 6 * 0 := ⟨Nat.le_refl _, Nat.le_refl _, Nat.le_refl _⟩
  have hA0 := hA
  refine g_aload_n dL_bears_0 rfl ?_
  refine g_iload_n dL_bears_1 rfl ?_
  refine g_lcV 1 (M := ML_bears) (pc := 2) (Y := YX6_bears) sv_L_115 rfl yn_X6_bears 8 (by decide) rfl rfl dL_bears_2 hb (lRm_of rfl (rm_c (by show _ ≤ 1; omega) (Nat.le_of_ble_eq_true rfl))) (d_bears hA (es_bears hj)) hA.s9 rfl rfl (Nat.le_of_ble_eq_true rfl) ?_
  intro sh sz V cu su hA hb
  refine g_i2fb ml_L_118 wn_i2fb wt_i2fb wi_flo dL_bears_5 (sn_ok (x := (bd S.1 j).toInt32) (by rw [i_u]; exact bd_okN hA0.sB hj)) (Nat.le_of_ble_eq_true rfl) (Nat.le_of_ble_eq_true rfl) ?_
  rw [i_u]
  exact g_fret rfl dL_bears_8 ⟨by show cu ≤ 1; omega, by show su ≤ 6; omega⟩ ⟨hb.1, hA, rfl⟩
theorem l_rolls {c : Nat} {b : Int32} (hA : LW x S A sh sz V) (hc : c < cnt S.1) : MCH E YL_rolls [(0, 17, 18, 20)] [.ref x, .int (nI c), .int b] sh sz V (PLs x A sz S (.int (nI (rollN S.1 c)))) := by
  refine MCH.of (hh := [(0, 17, 18, 20)]) RL "rolls" rfl (by decide +kernel) rfl 1 [some (.ref x), some (.int (nI c)), some (.int b), none] rfl (Nat.le_of_ble_eq_true rfl) ?_
  show G E ML_rolls _ _ _ _ _ _ _ _ _
  have hb : sz ≤ sz ∧ 0 ≤ 0 ∧ 0 ≤ 6 * 0 := ⟨Nat.le_refl _, Nat.le_refl _, Nat.le_refl _⟩
  refine g_iload_n dL_rolls_0 rfl ?_
  refine g_if_eq (tgt := 12) dL_rolls_1 (by decide) (fun h => ?_) (fun h => ?_)
  · refine g_aload_n dL_rolls_12 rfl ?_
    refine g_iload_n dL_rolls_13 rfl ?_
    refine g_lcV 1 (M := ML_rolls) (pc := 14) (Y := YX6_rolls) sv_L_68 rfl yn_X6_rolls 8 (by decide) rfl rfl dL_rolls_14 hb (lRm_of rfl (rm_c (by show _ ≤ 1; omega) (Nat.le_of_ble_eq_true rfl))) (d_rolls hA (es_rolls hA.sB hc)) hA.s9 rfl rfl (Nat.le_of_ble_eq_true rfl) ?_
    intro sh sz V cu su hA hb
    exact g_iret rfl (nr_int _) dL_rolls_17 ⟨by show cu ≤ 1; omega, by show su ≤ 6; omega⟩ ⟨hb.1, hA, rfl⟩
  · refine g_aload_n dL_rolls_4 rfl ?_
    refine g_iload_n dL_rolls_5 rfl ?_
    refine g_lcV 1 (M := ML_rolls) (pc := 6) (Y := YX6_rollsAgain) sv_L_65 rfl yn_X6_rollsAgain 8 (by decide) rfl rfl dL_rolls_6 hb (lRm_of rfl (rm_c (by show _ ≤ 1; omega) (Nat.le_of_ble_eq_true rfl))) (d_rollsAgain hA (es_rolls hA.sB hc)) hA.s9 rfl rfl (Nat.le_of_ble_eq_true rfl) ?_
    intro sh sz V cu su hA hb
    refine g_jump (tgt := 17) dL_rolls_9 (by decide) ?_
    exact g_iret rfl (nr_int _) dL_rolls_17 ⟨by show cu ≤ 1; omega, by show su ≤ 6; omega⟩ ⟨hb.1, hA, rfl⟩
end LREAD

