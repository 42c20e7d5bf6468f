/-! floats: what the ice, what is borne, what a truck loads -/
section FPS
/-- ice: from 0.0f to 200.0f, by its bits -/
def okI (u : UInt32) : Prop := u.toNat ≤ 1128792064
/-- 0.0f or more, and finite -/
def okN (u : UInt32) : Prop := u.toNat < 2139095040
theorem okI.n {u : UInt32} (h : okI u) : okN u := by unfold okI at h; unfold okN; omega
/-- the ice behind a day, ahead of its bounds -/
def niR (x : UInt32) (t : Int32) : UInt32 := if t < 0 then FP.fadd x (FP.fdiv (FP.fmul (FP.i2f (-t)) 1069547520) (FP.fadd x 1092616192)) else FP.fsub x (FP.fmul 1053609165 (FP.i2f t))
def niF (x : UInt32) (t : Int32) : UInt32 := if Op.cmpValue (FP.fcmp (niR x t) FP.fconst0) .g < 0 then FP.fconst0 else if 0 < Op.cmpValue (FP.fcmp (niR x t) 1128792064) .l then 1128792064 else niR x t
/-- what a mile bears by ice, cracks, limit -/
def bor (x : UInt32) (c l : Int32) : UInt32 := FP.fmul (FP.fmul (FP.fmul (FP.fmul x x) 1025758986) (FP.fsub FP.fconst1 (FP.fmul 1036831949 (FP.i2f c)))) (FP.fdiv (FP.i2f l) 1120403456)
def okD (u : UInt64) : Prop := u.toNat < 9218868437227405312
theorem fp_bud : ∀ w, w < 61 → ∀ x, x < 7 → vf_n32 (FP.fmul 1056964608 (FP.i2f (nI x))) ∧ vf_n32 (FP.fadd (FP.i2f (nI w)) (FP.fmul 1056964608 (FP.i2f (nI x)))) := by
  unfold vf_n32
  decide +kernel
end FPS
/-! floats: laws of theirs, by bits -/
section FPK
theorem vf32 {r : UInt32} (h : FP.Core.fIsNaN r = false) : vf_n32 r := by
  have h1 := (FP.Core.ne_nan32 r).mp ((FP.Core.notNaN_iff32 r).mp h)
  unfold vf_n32
  rw [UInt32.le_iff_toNat_le, FP.Core.mask_toNat32]
  exact h1
theorem vf64 {r : UInt64} (h : FP.Core.dIsNaN r = false) : vf_n64 r := by
  have h1 := (FP.Core.ne_nan r).mp ((FP.Core.notNaN_iff r).mp h)
  unfold vf_n64
  rw [UInt64.le_iff_toNat_le, FP.Core.mask_toNat]
  exact h1
theorem okN.fin {u : UInt32} (h : okN u) : FP.Core.FFin u := by
  rw [FP.Core.fin_bits32]
  unfold okN at h
  omega
theorem okD.fin {u : UInt64} (h : okD u) : FP.Core.DFin u := by
  rw [FP.Core.fin_bits]
  unfold okD at h
  omega
theorem val_ok {u : UInt32} (h : okN u) : FP.Core.val32 u ≠ .nan := h.fin.ne_nan
theorem key_ok {u : UInt32} (h : okN u) : FP.Core.fkey u = (u.toNat : Int) := by
  unfold okN at h
  exact if_neg (by omega)
theorem cmp_ok {a b : UInt32} (ha : okN a) (hb : okN b) : FP.fcmp a b = some (compare (a.toNat : Int) (b.toNat : Int)) := by
  have := FP.Core.fcmp_key (val_ok ha) (val_ok hb)
  rw [key_ok ha, key_ok hb] at this
  exact this
theorem cmpV_lt {i j : Int} {op : Jvm.ClassFile.CmpOp} (h : i < j) : Op.cmpValue (some (compare i j)) op = -1 := by
  rw [(FP.Core.compare_lt_iff i j).mpr h]
  rfl
theorem cmpV_eq {i j : Int} {op : Jvm.ClassFile.CmpOp} (h : i = j) : Op.cmpValue (some (compare i j)) op = 0 := by
  rw [(FP.Core.compare_eq_iff i j).mpr h]
  rfl
theorem cmpV_gt {i j : Int} {op : Jvm.ClassFile.CmpOp} (h : j < i) : Op.cmpValue (some (compare i j)) op = 1 := by
  rw [(FP.Core.compare_gt_iff i j).mpr h]
  rfl
theorem ok_c0 : okN FP.fconst0 := by unfold okN; decide
theorem ok_c200 : okN 1128792064 := by unfold okN; decide
theorem fp_self {u : UInt32} (h : okN u) : Op.cmpValue (FP.fcmp u u) .l = 0 := by
  rw [cmp_ok h h]
  exact cmpV_eq rfl
theorem fp_selfD {u : UInt64} (h : okD u) : Op.cmpValue (FP.dcmp u u) .l = 0 := by
  have : FP.dcmp u u = some .eq := FP.Core.dcmp_self h.fin.ne_nan
  rw [this]
  rfl
theorem okI_cmpA {x : UInt32} {op op2 : Jvm.ClassFile.CmpOp} (h : okI x) : ¬ Op.cmpValue (FP.fcmp x FP.fconst0) op < 0 ∧ Op.cmpValue (FP.fcmp x 1128792064) op2 ≤ 0 := by
  rw [cmp_ok h.n ok_c0, cmp_ok h.n ok_c200]
  have e0 : ((FP.fconst0 : UInt32).toNat : Int) = 0 := by decide
  have e2 : ((1128792064 : UInt32).toNat : Int) = 1128792064 := by decide
  rw [e0, e2]
  unfold okI at h
  constructor
  · rcases Nat.eq_zero_or_pos x.toNat with q | q
    · rw [cmpV_eq (by omega)]
      decide
    · rw [cmpV_gt (by omega)]
      decide
  · rcases Nat.lt_or_ge x.toNat 1128792064 with q | q
    · rw [cmpV_lt (by omega)]
      decide
    · rw [cmpV_eq (by omega)]
      decide
theorem okI_cmp {x : UInt32} (h : okI x) : ¬ Op.cmpValue (FP.fcmp x FP.fconst0) .g < 0 ∧ Op.cmpValue (FP.fcmp x 1128792064) .l ≤ 0 := okI_cmpA h
theorem okI_cmp2 {x : UInt32} (h : okI x) : ¬ Op.cmpValue (FP.fcmp x FP.fconst0) .l < 0 ∧ Op.cmpValue (FP.fcmp x 1128792064) .g ≤ 0 := okI_cmpA h
/-- products of what is 0.0f or more -/
theorem mulB {a b : UInt32} {Ka Kb : Nat} (ha : a.toNat < Ka * 2 ^ 23) (hb : b.toNat < Kb * 2 ^ 23) (hKa : Ka ≤ 255) (hKb : Kb ≤ 255) (hK : Ka + Kb - 129 + 3 ≤ 255) : (FP.fmul a b).toNat < (Ka + Kb - 129 + 3) * 2 ^ 23 := by
  have h1 := FP.Core.fmul_mag (a := a) (b := b) (by omega) (by omega) hKa hKb
  have fa := FP.Core.fin_of_lt32 (a := a) (K := Ka) (by omega) hKa
  have fb := FP.Core.fin_of_lt32 (a := b) (K := Kb) (by omega) hKb
  have fr := FP.Core.fin_of_lt32 h1 hK
  have hs := FP.Core.sgn_bits32 fr.ne_nan
  have sa := FP.Core.sgn_bits32 fa.ne_nan
  have sb := FP.Core.sgn_bits32 fb.ne_nan
  rw [FP.Core.val32_fmul] at hs
  obtain ⟨s, c, q, ea⟩ := fa
  obtain ⟨t, d, r, eb⟩ := fb
  rw [ea] at sa hs
  rw [eb] at sb hs
  have sa : s = false := sa.trans (decide_eq_false (by omega))
  have sb : t = false := sb.trans (decide_eq_false (by omega))
  subst sa sb
  have e : FP.Core.sgn (FP.Core.round FP.Core.b32 (FP.Core.exactProduct (.fin false c q) (.fin false d r))) = false := FP.Core.sgn_roundRatio _ _ _ _ _
  rw [e] at hs
  have := of_decide_eq_false hs.symm
  show (FP.Core.fmul a b).toNat < _
  omega
theorem okN.nn {u : UInt32} (h : okN u) : FP.Core.fIsNaN u = false := h.fin.notNaN
theorem okN_of {u : UInt32} {K : Nat} (h : u.toNat < K * 2 ^ 23) (hK : K ≤ 255) : okN u := by unfold okN; omega
theorem bor_c : ∀ c, c < 6 → (FP.fmul 1036831949 (FP.i2f (nI c))).toNat < 128 * 2 ^ 23 ∧ (FP.fsub FP.fconst1 (FP.fmul 1036831949 (FP.i2f (nI c)))).toNat < 128 * 2 ^ 23 := by decide +kernel
theorem bor_l : ∀ l, l < 101 → (FP.fdiv (FP.i2f (nI l)) 1120403456).toNat < 128 * 2 ^ 23 := by decide +kernel
theorem okI_sq {x : UInt32} (hx : okI x) : (FP.fmul x x).toNat < 144 * 2 ^ 23 ∧ (FP.fmul (FP.fmul x x) 1025758986).toNat < 141 * 2 ^ 23 := by
  unfold okI at hx
  have h1 := mulB (a := x) (b := x) (Ka := 135) (Kb := 135) (by omega) (by omega) (by decide) (by decide) (by decide)
  exact ⟨h1, mulB (a := FP.fmul x x) (b := 1025758986) (Ka := 144) (Kb := 123) h1 (by decide) (by decide) (by decide) (by decide)⟩
theorem fp_bor {x : UInt32} {c l : Nat} (hx : okI x) (hc : c ≤ 5) (hl : l ≤ 100) : vf_n32 (FP.fmul x x) ∧ vf_n32 (FP.fmul (FP.fmul x x) 1025758986) ∧ vf_n32 (FP.fmul 1036831949 (FP.i2f (nI c))) ∧ vf_n32 (FP.fsub FP.fconst1 (FP.fmul 1036831949 (FP.i2f (nI c)))) ∧ vf_n32 (FP.fmul (FP.fmul (FP.fmul x x) 1025758986) (FP.fsub FP.fconst1 (FP.fmul 1036831949 (FP.i2f (nI c))))) ∧ vf_n32 (FP.fdiv (FP.i2f (nI l)) 1120403456) ∧ vf_n32 (bor x (nI c) (nI l)) ∧ okN (bor x (nI c) (nI l)) := by
  obtain ⟨s1, s2⟩ := okI_sq hx
  obtain ⟨c1, c2⟩ := bor_c c (by omega)
  have l1 := bor_l l (by omega)
  have m1 := mulB s2 c2 (by decide) (by decide) (by decide)
  have m2 := mulB m1 l1 (by decide) (by decide) (by decide)
  exact ⟨vf32 (okN_of s1 (by decide)).nn, vf32 (okN_of s2 (by decide)).nn, vf32 (okN_of c1 (by decide)).nn, vf32 (okN_of c2 (by decide)).nn, vf32 (okN_of m1 (by decide)).nn, vf32 (okN_of l1 (by decide)).nn, vf32 (okN_of m2 (by decide)).nn, okN_of m2 (by decide)⟩
theorem fp_gl {x : UInt32} {t : Int32} (hx : okI x) (h1 : nI 1 ≤ t) (h2 : t ≤ nI 99) : Op.cmpValue (FP.fcmp (FP.fmul (FP.fmul x x) 1025758986) (FP.i2f t)) .g = Op.cmpValue (FP.fcmp (FP.fmul (FP.fmul x x) 1025758986) (FP.i2f t)) .l := by
  obtain ⟨o, ho⟩ := FP.Core.fcmp_of_notNaN (okN_of (okI_sq hx).2 (by decide)).nn (FP.Core.i2f_fin t).notNaN
  have ho : FP.fcmp (FP.fmul (FP.fmul x x) 1025758986) (FP.i2f t) = some o := ho
  rw [ho]
  cases o <;> rfl
theorem fp_share {a b : Int32} (h : ¬ b = 0) : vf_n32 (FP.fdiv (FP.i2f a) (FP.i2f b)) :=
  vf32 (FP.Core.fdiv_out (FP.Core.i2f_fin a).notNaN (FP.Core.i2f_fin b) (fun z => FP.Core.i2f_ne_zero h ((FP.Core.zero_bits232 _).mp z)))
/-- the cold and the warm, number by number -/
theorem cold_c : ∀ n, n < 41 → (FP.fmul (FP.i2f (nI n)) 1069547520).toNat < 150 * 2 ^ 23 ∧ (0 < n → (FP.fmul (FP.i2f (nI n)) 1069547520).toNat % 2 ^ 31 ≠ 0) := by decide +kernel
theorem warm_c : ∀ n, n < 11 → (FP.fmul 1053609165 (FP.i2f (nI n))).toNat < 150 * 2 ^ 23 := by decide +kernel
theorem neg_nI {t : Int32} (h1 : -40 ≤ t) (h2 : t < 0) : ∃ n, n < 41 ∧ 0 < n ∧ -t = nI n := by
  rw [fa_le] at h1
  rw [fa_lt] at h2
  have e40 : (-40 : Int32).toInt = -40 := by decide
  have e0 : (0 : Int32).toInt = 0 := by decide
  rw [e40] at h1
  rw [e0] at h2
  have en : (-t).toInt = -t.toInt := by
    rw [Int32.toInt_neg]
    exact Int.bmod_eq_of_le (by omega) (by omega)
  have a1 : (nI 0).toInt = 0 := by decide
  have a2 : (nI 41).toInt = 41 := by decide
  obtain ⟨n, hn, e⟩ := in_nI (x := -t) (n := 41) (by rw [fa_le, en, a1]; omega) (by rw [fa_lt, en, a2]; omega) (by decide)
  refine ⟨n, hn, ?_, e⟩
  rcases Nat.eq_zero_or_pos n with z | z
  · rw [e, z, a1] at en
    omega
  · exact z
theorem pos_nI {t : Int32} (h1 : 0 ≤ t) (h2 : t ≤ nI 10) : ∃ n, n < 11 ∧ t = nI n := by
  have a1 : (nI 10).toInt = 10 := by decide
  have a2 : (nI 11).toInt = 11 := by decide
  exact in_nI (n := 11) h1 (by rw [fa_le, a1] at h2; rw [fa_lt, a2]; omega) (by decide)
theorem fp_cold' {x : UInt32} {t : Int32} (hx : okI x) (h1 : -40 ≤ t) (h2 : t < 0) : FP.Core.fIsNaN (FP.fdiv (FP.fmul (FP.i2f (-t)) 1069547520) (FP.fadd x 1092616192)) = false ∧ vf_n32 (FP.fmul (FP.i2f (-t)) 1069547520) ∧ vf_n32 (FP.fadd x 1092616192) := by
  obtain ⟨n, hn, h0, en⟩ := neg_nI h1 h2
  obtain ⟨c1, c2⟩ := cold_c n hn
  rw [en]
  have ok1 := okN_of c1 (by decide)
  have a1 : FP.Core.fIsNaN (FP.fadd x 1092616192) = false := FP.Core.fadd_out hx.n.nn (okN_of (u := 1092616192) (K := 150) (by decide) (by decide)).fin
  exact ⟨FP.Core.fdiv_out' ok1.fin (fun z => c2 h0 ((FP.Core.zero_bits232 _).mp z)) a1, vf32 ok1.nn, vf32 a1⟩
theorem fp_cold {x : UInt32} {t : Int32} (hx : okI x) (h1 : -40 ≤ t) (h2 : t < 0) : vf_n32 (FP.fmul (FP.i2f (-t)) 1069547520) ∧ vf_n32 (FP.fadd x 1092616192) ∧ vf_n32 (FP.fdiv (FP.fmul (FP.i2f (-t)) 1069547520) (FP.fadd x 1092616192)) ∧ vf_n32 (FP.fadd x (FP.fdiv (FP.fmul (FP.i2f (-t)) 1069547520) (FP.fadd x 1092616192))) := by
  obtain ⟨a, b, c⟩ := fp_cold' hx h1 h2
  exact ⟨b, c, vf32 a, vf32 (FP.Core.fadd_out' hx.n.fin a)⟩
theorem fp_warm {x : UInt32} {t : Int32} (hx : okI x) (h1 : 0 ≤ t) (h2 : t ≤ nI 10) : vf_n32 (FP.fmul 1053609165 (FP.i2f t)) ∧ vf_n32 (FP.fsub x (FP.fmul 1053609165 (FP.i2f t))) := by
  obtain ⟨n, hn, rfl⟩ := pos_nI h1 h2
  have ok1 := okN_of (warm_c n hn) (by decide)
  exact ⟨vf32 ok1.nn, vf32 (FP.Core.fsub_out hx.n.nn ok1.fin)⟩
/-- no sum of 0.0f or more with another number is -0.0f -/
theorem add_nz {x q : UInt32} (hx : okN x) (hq : FP.Core.fIsNaN q = false) : FP.fadd x q ≠ FP.Core.fzeroNeg := by
  intro h
  have e := FP.Core.val32_fadd x q
  have h : FP.Core.fadd x q = FP.Core.fzeroNeg := h
  rw [h, FP.Core.val32_fzeroNeg] at e
  have sx := FP.Core.sgn_bits32 (val_ok hx)
  obtain ⟨s, c, r, ex⟩ := hx.fin
  have fx := FP.Core.val32_fits x
  have fq := FP.Core.val32_fits q
  rw [ex] at e sx fx
  have sx : s = false := sx.trans (decide_eq_false (by unfold okN at hx; omega))
  subst sx
  cases eq : FP.Core.val32 q with
  | nan => exact (FP.Core.notNaN_iff32 q).mp hq eq
  | inf t =>
    rw [eq] at e
    cases e
  | fin t d p =>
    rw [eq] at e fq
    obtain ⟨sg, n, ee, e1, e2, e3⟩ := FP.Core.sum_units fx fq
    have e4 : FP.Core.Datum.fin (FP.Core.sumSign false t (FP.Core.sumUnits false c r t d p (min r p))) (FP.Core.sumUnits false c r t d p (min r p)).natAbs (min r p) = .fin sg n ee := e1
    have hsg : sg = true := by
      have := congrArg FP.Core.sgn e
      rw [e1] at this
      exact ((FP.Core.sgn_roundRatio _ _ _ _ _).symm.trans this.symm)
    injection e4 with e5 e6 e7
    have hv : FP.Core.sumUnits false c r t d p (min r p) ≠ 0 := by
      intro z
      rw [hsg] at e5
      unfold FP.Core.sumSign at e5
      rw [if_pos z] at e5
      cases e5
    have hn : 0 < n := by omega
    have hneg : FP.Core.zval FP.Core.b32 (.fin false c r) + FP.Core.zval FP.Core.b32 (.fin t d p) < 0 := by
      rw [← e3, hsg]
      have : 0 < FP.Core.inUnits n ee FP.Core.b32.qmin := Nat.mul_pos hn (Nat.two_pow_pos _)
      show -((FP.Core.inUnits n ee FP.Core.b32.qmin : Nat) : Int) < 0
      omega
    have hV : FP.Core.fits FP.Core.b32 (.fin true 1 FP.Core.b32.qmin) := by
      refine ⟨by decide, Int.le_refl _, by decide, Or.inl rfl⟩
    have zV : FP.Core.zval FP.Core.b32 (.fin true 1 FP.Core.b32.qmin) = -1 := by decide
    have := FP.Core.sum_le FP.Core.good_b32 ⟨false, c, r, rfl⟩ ⟨t, d, p, rfl⟩ fx fq hV FP.Core.Datum.noConfusion (by rw [zV]; omega)
    rw [← e, zV] at this
    have z0 : FP.Core.zval FP.Core.b32 (.fin true 0 FP.Core.b32.qmin) = 0 := by decide
    rw [z0] at this
    omega
theorem okI_niF {x : UInt32} {t : Int32} (hx : okI x) (h1 : -40 ≤ t) (h2 : t ≤ nI 10) : okI (niF x t) := by
  have hr : FP.Core.fIsNaN (niR x t) = false ∧ niR x t ≠ FP.Core.fzeroNeg := by
    unfold niR
    by_cases q : t < 0
    · rw [if_pos q]
      obtain ⟨a, b, c⟩ := fp_cold' hx h1 q
      exact ⟨FP.Core.fadd_out' hx.n.fin a, add_nz hx.n a⟩
    · rw [if_neg q]
      obtain ⟨n, hn, rfl⟩ := pos_nI (Int32.not_lt.mp q) h2
      have ok1 := okN_of (warm_c n hn) (by decide)
      refine ⟨FP.Core.fsub_out hx.n.nn ok1.fin, ?_⟩
      have e : FP.fsub x (FP.fmul 1053609165 (FP.i2f (nI n))) = FP.fadd x (FP.Core.fneg (FP.fmul 1053609165 (FP.i2f (nI n)))) := FP.Core.fsub_eq _ _
      rw [e]
      refine add_nz hx.n ((FP.Core.notNaN_iff32 _).mpr ?_)
      rw [FP.Core.val32_fneg]
      exact FP.Core.negate_ne_nan (val_ok ok1)
  obtain ⟨r1, r2⟩ := hr
  unfold niF
  have v := (FP.Core.notNaN_iff32 _).mp r1
  have k0 := FP.Core.fcmp_key v (val_ok ok_c0)
  have k2 := FP.Core.fcmp_key v (val_ok ok_c200)
  rw [key_ok ok_c0] at k0
  rw [key_ok ok_c200] at k2
  have e0 : ((FP.fconst0 : UInt32).toNat : Int) = 0 := by decide
  have e2 : ((1128792064 : UInt32).toNat : Int) = 1128792064 := by decide
  rw [e0] at k0
  rw [e2] at k2
  have k0 : FP.fcmp (niR x t) FP.fconst0 = some (compare (FP.Core.fkey (niR x t)) 0) := k0
  have k2 : FP.fcmp (niR x t) 1128792064 = some (compare (FP.Core.fkey (niR x t)) 1128792064) := k2
  rw [k0, k2]
  have g0 : okI FP.fconst0 := by unfold okI; decide
  have g2 : okI 1128792064 := by unfold okI; decide
  rcases Int.lt_trichotomy (FP.Core.fkey (niR x t)) 0 with q | q | q
  · rw [cmpV_lt q, if_pos (by decide)]
    exact g0
  · rw [cmpV_eq q, if_neg (by decide), cmpV_lt (by omega), if_neg (by decide)]
    unfold FP.Core.fkey at q
    unfold okI
    split at q
    · rename_i z
      exact absurd (UInt32.toNat_inj.mp (show (niR x t).toNat = FP.Core.fzeroNeg.toNat from by
        have : FP.Core.fzeroNeg.toNat = 2 ^ 31 := by decide
        omega)) r2
    · omega
  · rw [cmpV_gt q, if_neg (by decide)]
    have q' := q
    unfold FP.Core.fkey at q'
    have ek : FP.Core.fkey (niR x t) = ((niR x t).toNat : Int) := by
      unfold FP.Core.fkey
      split at q'
      · omega
      · rename_i z
        exact if_neg z
    rcases Int.lt_trichotomy (FP.Core.fkey (niR x t)) 1128792064 with w | w | w
    · rw [cmpV_lt w, if_neg (by decide)]
      unfold okI
      omega
    · rw [cmpV_eq w, if_neg (by decide)]
      unfold okI
      omega
    · rw [cmpV_gt w, if_pos (by decide)]
      exact g2
theorem vf_nn {r : UInt32} (h : vf_n32 r) : FP.Core.fIsNaN r = false := by
  refine (FP.Core.notNaN_iff32 r).mpr ((FP.Core.ne_nan32 r).mpr ?_)
  unfold vf_n32 at h
  rw [UInt32.le_iff_toNat_le, FP.Core.mask_toNat32] at h
  exact h
theorem vfd_nn {w : UInt32} (h : vf_n32 w) : FP.Core.dIsNaN (FP.f2d w) = false := by
  have e : FP.f2d w = FP.Core.f2d w := if_neg (by rw [vf_nn h]; decide)
  rw [e]
  exact FP.Core.f2d_out (vf_nn h)
theorem vfd {w : UInt32} (h : vf_n32 w) : vf_n64 (FP.f2d w) := vf64 (vfd_nn h)
theorem dcmp_z {w : UInt32} (h : vf_n32 w) : Op.cmpValue (FP.dcmp (FP.f2d w) (FP.f2d w)) .l = 0 := by
  have : FP.dcmp (FP.f2d w) (FP.f2d w) = some .eq := FP.Core.dcmp_self ((FP.Core.notNaN_iff _).mp (vfd_nn h))
  rw [this]
  rfl
end FPK
section FPM
variable {E : gE} {M : gM} {P : gP} {sh : Sh} {sz : Nat} {V : Vl} {cu su pc : Nat} {L : List (Option Value)} {rest : List Value}
theorem c_nextIce {x : UInt32} {t : Int32} (hx : okI x) (h1 : -40 ≤ t) (h2 : t ≤ nI 10) (hP : P (.inl (some (.float (niF x t)))) sh sz V) : MC E YX6_nextIce [.float x, .int t] sh sz V P := by
  refine MC.of RX6 "nextIce" rfl (by decide +kernel) rfl 1 [_, _, none] rfl (Nat.le_of_ble_eq_true rfl) ?_
  show G E MX6_nextIce _ _ _ _ _ _ _ _ _
  have K : G E MX6_nextIce P sh sz V 0 0 30 [some (.float x), some (.int t), none] [.float (niR x t)] := by
    unfold niF at hP
    refine g_fstore_n dX6_nextIce_30 (by decide) rfl ?_
    show G _ _ _ _ _ _ _ _ _ [_, _, _] _
    refine g_fload_n dX6_nextIce_31 rfl ?_
    refine g_fconst0 dX6_nextIce_32 ?_
    refine g_fcmp dX6_nextIce_33 ?_
    refine g_if_ge (tgt := 39) dX6_nextIce_34 (by decide) (fun h => ?_) (fun h => ?_)
    · rw [if_neg (Int32.not_lt.mpr h)] at hP
      refine g_fload_n dX6_nextIce_39 rfl ?_
      refine g_ldcfw kc_X6_389 dX6_nextIce_40 ?_
      refine g_fcmp dX6_nextIce_43 ?_
      refine g_if_le (tgt := 53) dX6_nextIce_44 (by decide) (fun h3 => ?_) (fun h3 => ?_)
      · rw [if_neg (Int32.not_lt.mpr h3)] at hP
        refine g_fload_n dX6_nextIce_53 rfl ?_
        exact g_fret rfl dX6_nextIce_54 (by decide) hP
      · rw [if_pos (Int32.not_le.mp h3)] at hP
        refine g_ldcfw kc_X6_389 dX6_nextIce_47 ?_
        refine g_jump (tgt := 54) dX6_nextIce_50 (by decide) ?_
        exact g_fret rfl dX6_nextIce_54 (by decide) hP
    · rw [if_pos (Int32.not_le.mp h)] at hP
      refine g_fconst0 dX6_nextIce_37 ?_
      exact g_fret rfl dX6_nextIce_38 (by decide) hP
  unfold niR at K
  refine g_iload_n dX6_nextIce_0 rfl ?_
  refine g_if_ge (tgt := 22) dX6_nextIce_1 (by decide) (fun h => ?_) (fun h => ?_)
  · rw [if_neg (Int32.not_lt.mpr h)] at K
    obtain ⟨e1, e2⟩ := fp_warm hx h h2
    refine g_fload_n dX6_nextIce_22 rfl ?_
    refine g_ldcfw kc_X6_388 dX6_nextIce_23 ?_
    refine g_iload_n dX6_nextIce_26 rfl ?_
    refine g_i2f dX6_nextIce_27 ?_
    refine g_fmul dX6_nextIce_28 e1 ?_
    refine g_fsub dX6_nextIce_29 e2 ?_
    exact K
  · rw [if_pos (Int32.not_le.mp h)] at K
    obtain ⟨e1, e2, e3, e4⟩ := fp_cold hx h1 (Int32.not_le.mp h)
    refine g_fload_n dX6_nextIce_4 rfl ?_
    refine g_iload_n dX6_nextIce_5 rfl ?_
    refine g_ineg dX6_nextIce_6 ?_
    refine g_i2f dX6_nextIce_7 ?_
    refine g_ldcfw kc_X6_386 dX6_nextIce_8 ?_
    refine g_fmul dX6_nextIce_11 e1 ?_
    refine g_fload_n dX6_nextIce_12 rfl ?_
    refine g_ldcfw kc_X6_387 dX6_nextIce_13 ?_
    refine g_fadd dX6_nextIce_16 e2 ?_
    refine g_fdiv dX6_nextIce_17 e3 ?_
    refine g_fadd dX6_nextIce_18 e4 ?_
    refine g_jump (tgt := 30) dX6_nextIce_19 (by decide) ?_
    exact K
theorem c_borneBy {x : UInt32} {c l : Nat} (hx : okI x) (hc : c ≤ 5) (hl : l ≤ 100) (hP : P (.inl (some (.float (bor x (nI c) (nI l))))) sh sz V) : MC E YX6_borneBy [.float x, .int (nI c), .int (nI l)] sh sz V P := by
  obtain ⟨e1, e2, e3, e4, e5, e6, e7, -⟩ := fp_bor hx hc hl
  refine MC.of RX6 "borneBy" rfl (by decide +kernel) rfl 0 [_, _, _] rfl (Nat.le_of_ble_eq_true rfl) ?_
  show G E MX6_borneBy _ _ _ _ _ _ _ _ _
  refine g_fload_n dX6_borneBy_0 rfl ?_
  refine g_fload_n dX6_borneBy_1 rfl ?_
  refine g_fmul dX6_borneBy_2 e1 ?_
  refine g_ldcfw kc_X6_281 dX6_borneBy_3 ?_
  refine g_fmul dX6_borneBy_6 e2 ?_
  refine g_fconst1 dX6_borneBy_7 ?_
  refine g_ldcfw kc_X6_390 dX6_borneBy_8 ?_
  refine g_iload_n dX6_borneBy_11 rfl ?_
  refine g_i2f dX6_borneBy_12 ?_
  refine g_fmul dX6_borneBy_13 e3 ?_
  refine g_fsub dX6_borneBy_14 e4 ?_
  refine g_fmul dX6_borneBy_15 e5 ?_
  refine g_iload_n dX6_borneBy_16 rfl ?_
  refine g_i2f dX6_borneBy_17 ?_
  refine g_ldcfw kc_X6_391 dX6_borneBy_18 ?_
  refine g_fdiv dX6_borneBy_21 e6 ?_
  refine g_fmul dX6_borneBy_22 e7 ?_
  exact g_fret rfl dX6_borneBy_23 (by decide) hP
end FPM

