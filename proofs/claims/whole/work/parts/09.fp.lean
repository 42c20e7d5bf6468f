/-! floats: what the ice, what is borne, what a truck loads -/
section FPS
/-- ice: from 0.0f to 200.0f, by its bits -/
def okI (u : UInt32) : Prop := u.toNat ≤ 1128792064
/-- 0.0f or more, and finite -/
def okN (u : UInt32) : Prop := u.toNat < 2139095040
theorem okI.n {u : UInt32} (h : okI u) : okN u := by unfold okI at h; unfold okN; omega
/-- the ice behind a day, ahead of its bounds -/
def niR (x : UInt32) (t : Int32) : UInt32 := if t < 0 then FP.fadd x (FP.fdiv (FP.fmul (FP.i2f (-t)) 1069547520) (FP.fadd x 1092616192)) else FP.fsub x (FP.fmul 1053609165 (FP.i2f t))
def niF (x : UInt32) (t : Int32) : UInt32 := if Op.cmpValue (FP.fcmp (niR x t) FP.fconst0) .g < 0 then FP.fconst0 else if 0 < Op.cmpValue (FP.fcmp (niR x t) 1128792064) .l then 1128792064 else niR x t
/-- what a mile bears by ice, cracks, limit -/
def bor (x : UInt32) (c l : Int32) : UInt32 := FP.fmul (FP.fmul (FP.fmul (FP.fmul x x) 1025758986) (FP.fsub FP.fconst1 (FP.fmul 1036831949 (FP.i2f c)))) (FP.fdiv (FP.i2f l) 1120403456)
theorem fp_cold {x : UInt32} {t : Int32} (hx : okI x) (h1 : -40 ≤ t) (h2 : t < 0) : vf_n32 (FP.fmul (FP.i2f (-t)) 1069547520) ∧ vf_n32 (FP.fadd x 1092616192) ∧ vf_n32 (FP.fdiv (FP.fmul (FP.i2f (-t)) 1069547520) (FP.fadd x 1092616192)) ∧ vf_n32 (FP.fadd x (FP.fdiv (FP.fmul (FP.i2f (-t)) 1069547520) (FP.fadd x 1092616192))) := sorry
theorem fp_warm {x : UInt32} {t : Int32} (hx : okI x) (h1 : 0 ≤ t) (h2 : t ≤ nI 10) : vf_n32 (FP.fmul 1053609165 (FP.i2f t)) ∧ vf_n32 (FP.fsub x (FP.fmul 1053609165 (FP.i2f t))) := sorry
theorem okI_niF {x : UInt32} {t : Int32} (hx : okI x) (h1 : -40 ≤ t) (h2 : t ≤ nI 10) : okI (niF x t) := sorry
theorem fp_bor {x : UInt32} {c l : Nat} (hx : okI x) (hc : c ≤ 5) (hl : l ≤ 100) : vf_n32 (FP.fmul x x) ∧ vf_n32 (FP.fmul (FP.fmul x x) 1025758986) ∧ vf_n32 (FP.fmul 1036831949 (FP.i2f (nI c))) ∧ vf_n32 (FP.fsub FP.fconst1 (FP.fmul 1036831949 (FP.i2f (nI c)))) ∧ vf_n32 (FP.fmul (FP.fmul (FP.fmul x x) 1025758986) (FP.fsub FP.fconst1 (FP.fmul 1036831949 (FP.i2f (nI c))))) ∧ vf_n32 (FP.fdiv (FP.i2f (nI l)) 1120403456) ∧ vf_n32 (bor x (nI c) (nI l)) ∧ okN (bor x (nI c) (nI l)) := sorry
theorem fp_bud : ∀ w, w < 61 → ∀ x, x < 7 → vf_n32 (FP.fmul 1056964608 (FP.i2f (nI x))) ∧ vf_n32 (FP.fadd (FP.i2f (nI w)) (FP.fmul 1056964608 (FP.i2f (nI x)))) := by
  unfold vf_n32
  decide +kernel
theorem okI_cmp {x : UInt32} (h : okI x) : ¬ Op.cmpValue (FP.fcmp x FP.fconst0) .g < 0 ∧ Op.cmpValue (FP.fcmp x 1128792064) .l ≤ 0 := sorry
end FPS
section FPM
variable {E : gE} {M : gM} {P : gP} {sh : Sh} {sz : Nat} {V : Vl} {cu su pc : Nat} {L : List (Option Value)} {rest : List Value}
theorem c_nextIce {x : UInt32} {t : Int32} (hx : okI x) (h1 : -40 ≤ t) (h2 : t ≤ nI 10) (hP : P (.inl (some (.float (niF x t)))) sh sz V) : MC E YX6_nextIce [.float x, .int t] sh sz V P := by
  refine MC.of RX6 "nextIce" rfl (by decide +kernel) rfl 1 [_, _, none] rfl (Nat.le_of_ble_eq_true rfl) ?_
  show G E MX6_nextIce _ _ _ _ _ _ _ _ _
  have K : G E MX6_nextIce P sh sz V 0 0 30 [some (.float x), some (.int t), none] [.float (niR x t)] := by
    unfold niF at hP
    refine g_fstore_n dX6_nextIce_30 (by decide) rfl ?_
    show G _ _ _ _ _ _ _ _ _ [_, _, _] _
    refine g_fload_n dX6_nextIce_31 rfl ?_
    refine g_fconst0 dX6_nextIce_32 ?_
    refine g_fcmp dX6_nextIce_33 ?_
    refine g_if_ge (tgt := 39) dX6_nextIce_34 (by decide) (fun h => ?_) (fun h => ?_)
    · rw [if_neg (Int32.not_lt.mpr h)] at hP
      refine g_fload_n dX6_nextIce_39 rfl ?_
      refine g_ldcfw kc_X6_389 dX6_nextIce_40 ?_
      refine g_fcmp dX6_nextIce_43 ?_
      refine g_if_le (tgt := 53) dX6_nextIce_44 (by decide) (fun h3 => ?_) (fun h3 => ?_)
      · rw [if_neg (Int32.not_lt.mpr h3)] at hP
        refine g_fload_n dX6_nextIce_53 rfl ?_
        exact g_fret rfl dX6_nextIce_54 (by decide) hP
      · rw [if_pos (Int32.not_le.mp h3)] at hP
        refine g_ldcfw kc_X6_389 dX6_nextIce_47 ?_
        refine g_jump (tgt := 54) dX6_nextIce_50 (by decide) ?_
        exact g_fret rfl dX6_nextIce_54 (by decide) hP
    · rw [if_pos (Int32.not_le.mp h)] at hP
      refine g_fconst0 dX6_nextIce_37 ?_
      exact g_fret rfl dX6_nextIce_38 (by decide) hP
  unfold niR at K
  refine g_iload_n dX6_nextIce_0 rfl ?_
  refine g_if_ge (tgt := 22) dX6_nextIce_1 (by decide) (fun h => ?_) (fun h => ?_)
  · rw [if_neg (Int32.not_lt.mpr h)] at K
    obtain ⟨e1, e2⟩ := fp_warm hx h h2
    refine g_fload_n dX6_nextIce_22 rfl ?_
    refine g_ldcfw kc_X6_388 dX6_nextIce_23 ?_
    refine g_iload_n dX6_nextIce_26 rfl ?_
    refine g_i2f dX6_nextIce_27 ?_
    refine g_fmul dX6_nextIce_28 e1 ?_
    refine g_fsub dX6_nextIce_29 e2 ?_
    exact K
  · rw [if_pos (Int32.not_le.mp h)] at K
    obtain ⟨e1, e2, e3, e4⟩ := fp_cold hx h1 (Int32.not_le.mp h)
    refine g_fload_n dX6_nextIce_4 rfl ?_
    refine g_iload_n dX6_nextIce_5 rfl ?_
    refine g_ineg dX6_nextIce_6 ?_
    refine g_i2f dX6_nextIce_7 ?_
    refine g_ldcfw kc_X6_386 dX6_nextIce_8 ?_
    refine g_fmul dX6_nextIce_11 e1 ?_
    refine g_fload_n dX6_nextIce_12 rfl ?_
    refine g_ldcfw kc_X6_387 dX6_nextIce_13 ?_
    refine g_fadd dX6_nextIce_16 e2 ?_
    refine g_fdiv dX6_nextIce_17 e3 ?_
    refine g_fadd dX6_nextIce_18 e4 ?_
    refine g_jump (tgt := 30) dX6_nextIce_19 (by decide) ?_
    exact K
theorem c_borneBy {x : UInt32} {c l : Nat} (hx : okI x) (hc : c ≤ 5) (hl : l ≤ 100) (hP : P (.inl (some (.float (bor x (nI c) (nI l))))) sh sz V) : MC E YX6_borneBy [.float x, .int (nI c), .int (nI l)] sh sz V P := by
  obtain ⟨e1, e2, e3, e4, e5, e6, e7, -⟩ := fp_bor hx hc hl
  refine MC.of RX6 "borneBy" rfl (by decide +kernel) rfl 0 [_, _, _] rfl (Nat.le_of_ble_eq_true rfl) ?_
  show G E MX6_borneBy _ _ _ _ _ _ _ _ _
  refine g_fload_n dX6_borneBy_0 rfl ?_
  refine g_fload_n dX6_borneBy_1 rfl ?_
  refine g_fmul dX6_borneBy_2 e1 ?_
  refine g_ldcfw kc_X6_281 dX6_borneBy_3 ?_
  refine g_fmul dX6_borneBy_6 e2 ?_
  refine g_fconst1 dX6_borneBy_7 ?_
  refine g_ldcfw kc_X6_390 dX6_borneBy_8 ?_
  refine g_iload_n dX6_borneBy_11 rfl ?_
  refine g_i2f dX6_borneBy_12 ?_
  refine g_fmul dX6_borneBy_13 e3 ?_
  refine g_fsub dX6_borneBy_14 e4 ?_
  refine g_fmul dX6_borneBy_15 e5 ?_
  refine g_iload_n dX6_borneBy_16 rfl ?_
  refine g_i2f dX6_borneBy_17 ?_
  refine g_ldcfw kc_X6_391 dX6_borneBy_18 ?_
  refine g_fdiv dX6_borneBy_21 e6 ?_
  refine g_fmul dX6_borneBy_22 e7 ?_
  exact g_fret rfl dX6_borneBy_23 (by decide) hP
end FPM

