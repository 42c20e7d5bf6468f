/-! floats: no NaN in the mean and in the share -/
section FPD
/-- sums of what is 0.0 or more -/
theorem addD {a b : UInt64} {K : Nat} (ha : a.toNat < K * 2 ^ 52) (hb : b.toNat < K * 2 ^ 52) (hK : K + 2 ≤ 2047) : (FP.dadd a b).toNat < (K + 2) * 2 ^ 52 := by
  have h1 := FP.Core.dadd_mag (a := a) (b := b) (K := K) (by omega) (by omega) (by omega)
  have fa := FP.Core.fin_of_lt (a := a) (K := K) (by omega) (by omega)
  have fb := FP.Core.fin_of_lt (a := b) (K := K) (by omega) (by omega)
  have fr := FP.Core.fin_of_lt h1 hK
  have hs := FP.Core.sgn_bits fr.ne_nan
  have sa := FP.Core.sgn_bits fa.ne_nan
  have sb := FP.Core.sgn_bits fb.ne_nan
  rw [FP.Core.val64_dadd] at hs
  obtain ⟨s, c, q, ea⟩ := fa
  obtain ⟨t, d, r, eb⟩ := fb
  rw [ea] at sa hs
  rw [eb] at sb hs
  have sa : s = false := sa.trans (decide_eq_false (by omega))
  have sb : t = false := sb.trans (decide_eq_false (by omega))
  subst sa sb
  have e : FP.Core.sgn (FP.Core.round FP.Core.b64 (FP.Core.exactSum (.fin false c q) (.fin false d r))) = FP.Core.sumSign false false (FP.Core.sumUnits false c q false d r (min q r)) := FP.Core.sgn_roundRatio _ _ _ _ _
  have e0 : FP.Core.sumSign false false (FP.Core.sumUnits false c q false d r (min q r)) = false := by
    unfold FP.Core.sumSign
    split
    · rfl
    · refine decide_eq_false ?_
      show ¬ ((FP.Core.inUnits c q (min q r) : Nat) : Int) + ((FP.Core.inUnits d r (min q r) : Nat) : Int) < 0
      omega
  rw [e, e0] at hs
  have := of_decide_eq_false hs.symm
  show (FP.Core.dadd a b).toNat < _
  omega
theorem f2d_eq {x : UInt32} (hx : okI x) : FP.f2d x = FP.Core.f2d x := if_neg (by rw [hx.n.nn]; decide)
theorem f2dB {x : UInt32} (hx : okI x) : (FP.f2d x).toNat < 1032 * 2 ^ 52 := by
  rw [f2d_eq hx]
  have hx' := hx
  unfold okI at hx'
  obtain ⟨s, c, q, e1, e2⟩ := FP.Core.mag_bits32 (a := x) (K := 135) (by omega) (by decide)
  have fq := FP.Core.val32_fits x
  rw [e1] at fq
  have q1 : (-149 : Int) ≤ q := fq.2.1
  have fd := FP.Core.f2d_fin hx.n.fin
  have ss := FP.Core.sgn_bits32 (val_ok hx.n)
  rw [e1] at ss
  have ss : s = false := ss.trans (decide_eq_false (by omega))
  subst ss
  have v := FP.Core.val64_f2d x
  rw [e1] at v
  have hs := FP.Core.sgn_bits fd.ne_nan
  rw [v] at hs
  have e : FP.Core.sgn (FP.Core.round FP.Core.b64 (.fin false c q)) = false := FP.Core.sgn_roundRatio _ _ _ _ _
  rw [e] at hs
  have hs : ¬ 2 ^ 63 ≤ (FP.Core.f2d x).toNat := of_decide_eq_false hs.symm
  have hm : FP.Core.mag FP.Core.b64 (FP.Core.f2d x).toNat ≤ 1031 * 2 ^ 52 := by
    refine FP.Core.mag_le FP.Core.good_b64 (s := false) (A := c) (B := 1) (e := q) (e0 := FP.Core.b64.qmin) v (by decide) (Int.le_refl _) (by rw [FP.Core.qmin_b64]; omega) ?_
    have u := FP.Core.unitsOf_start (f := FP.Core.b64) (K := 1031) (by decide)
    rw [FP.Core.tails_b64] at u
    rw [u, FP.Core.qmin_b64]
    unfold FP.Core.inUnits
    rw [FP.Core.qmin_b32] at e2
    have z : (q - -1074).toNat = (q - -149).toNat + 925 := by omega
    rw [z, Nat.pow_add, ← Nat.mul_assoc]
    have p : 2 ^ 23 * 2 ^ (135 - 1) * 2 ^ 925 = 2 ^ 52 * 2 ^ (1031 - 1) * 2 ^ ((-1074 : Int) - -1074).toNat * 1 := by decide +kernel
    rw [← p]
    exact Nat.mul_le_mul_right _ (Nat.le_of_lt e2)
  rw [FP.Core.mag_toNat64] at hm
  omega
theorem dsumB {f : Fl} (hI : InvB f) : ∀ j, j ≤ 12 → (dsum f j).toNat < (1032 + 2 * j) * 2 ^ 52
  | 0, _ => by
    show (FP.dconst0).toNat < _
    decide
  | j + 1, h => by
    have a := dsumB hI j (by omega)
    have b := f2dB (hI.2.2.2.1 j (by omega)).1
    have := addD (a := dsum f j) (b := FP.f2d (f (oM j 0)).toUInt32) (K := 1032 + 2 * j) a (Nat.lt_of_lt_of_le b (Nat.mul_le_mul_right _ (by omega))) (by omega)
    show (FP.dadd (dsum f j) (FP.f2d (f (oM j 0)).toUInt32)).toNat < _
    have e : 1032 + 2 * (j + 1) = 1032 + 2 * j + 2 := by omega
    rw [e]
    exact this
theorem okD_of {u : UInt64} {K : Nat} (h : u.toNat < K * 2 ^ 52) (hK : K ≤ 2047) : okD u := by unfold okD; omega
theorem okD.nn {u : UInt64} (h : okD u) : FP.Core.dIsNaN u = false := h.fin.notNaN
theorem fp_dsum {f : Fl} (hI : InvB f) {j : Nat} (hj : j < 12) : vf_n64 (FP.f2d (f (oM j 0)).toUInt32) ∧ vf_n64 (FP.dadd (dsum f j) (FP.f2d (f (oM j 0)).toUInt32)) :=
  ⟨vf64 (okD_of (f2dB (hI.2.2.2.1 j hj).1) (by decide)).nn, vf64 (okD_of (u := dsum f (j + 1)) (dsumB hI (j + 1) (by omega)) (by omega)).nn⟩
theorem fp_mean {f : Fl} (hI : InvB f) : vf_n64 (meanD f) ∧ okD (meanD f) := by
  have h := dsumB hI 12 (by decide)
  have fa := (okD_of h (by decide)).fin
  have hb : (4622945017495814144 : UInt64).toNat = 4622945017495814144 := by decide
  have okb : okD 4622945017495814144 := by unfold okD; decide
  have hm := FP.Core.ddiv_mag (a := dsum f 12) (b := 4622945017495814144) (K := 1032 + 2 * 12) (L := 1026) (by omega) (by rw [hb]; decide) (by rw [hb]; decide) (by decide) (by decide)
  have fr := FP.Core.fin_of_lt hm (by decide)
  have hs := FP.Core.sgn_bits fr.ne_nan
  have sa := FP.Core.sgn_bits fa.ne_nan
  have sb := FP.Core.sgn_bits okb.fin.ne_nan
  rw [FP.Core.val64_ddiv] at hs
  obtain ⟨s, c, q, ea⟩ := fa
  obtain ⟨t, d, r, eb⟩ := okb.fin
  rw [ea] at sa hs
  rw [eb] at sb hs
  have sa : s = false := sa.trans (decide_eq_false (by omega))
  have sb : t = false := sb.trans (decide_eq_false (by rw [hb]; omega))
  subst sa sb
  have hd : d ≠ 0 := by
    intro z
    rw [z] at eb
    have := (FP.Core.zero_bits2 4622945017495814144).mp ⟨false, r, eb⟩
    rw [hb] at this
    exact absurd this (by decide)
  have e : FP.Core.sgn (FP.Core.quotient FP.Core.b64 (.fin false c q) (.fin false d r)) = false := by
    show FP.Core.sgn (if d = 0 then _ else _) = false
    rw [if_neg hd]
    exact FP.Core.sgn_roundRatio _ _ _ _ _
  rw [e] at hs
  have hs := of_decide_eq_false hs.symm
  have : okD (meanD f) := by
    unfold okD meanD
    show (FP.Core.ddiv (dsum f 12) 4622945017495814144).toNat < _
    omega
  exact ⟨vf64 this.nn, this⟩
end FPD

