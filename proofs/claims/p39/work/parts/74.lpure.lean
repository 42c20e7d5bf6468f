/-! what the law's checks say of a road -/
section LPURE
variable {f g : Fl}
/-- days: none drilled later than today -/
def InvD (N : Nat) (f : Fl) : Prop := (∃ d, d ≤ N ∧ f 0 = nI d ∧ ∀ j, j < 12 → f (oM j 4) = -1 ∨ ∃ e, e ≤ d ∧ f (oM j 4) = nI e) ∧ ∃ g, g ≤ 14 ∧ f 7 = nI g
theorem InvD.le {M N : Nat} (h : InvD N f) (hN : N ≤ M) : InvD M f := by
  obtain ⟨⟨d, hd, e⟩, r⟩ := h
  exact ⟨⟨d, Nat.le_trans hd hN, e⟩, r⟩
theorem gd_iff {N : Nat} (hD : InvD N f) (hN : N ≤ 1000000) {j : Nat} (hj : j < 12) : gdF f j ↔ (¬ f (oM j 4) < 0 ∧ f 0 ≤ f (oM j 4) + f 7) := by
  obtain ⟨⟨d, hd, e0, hm⟩, g, hg, e7⟩ := hD
  unfold gdF
  rcases hm j hj with q | ⟨e, he, q⟩
  · rw [q]
    exact ⟨fun z => absurd z.1 (by decide), fun z => absurd (by decide) z.1⟩
  · rw [q, e0, e7, pk_sub he, nI_add, nI_leI (by omega) (by omega), nI_leI (by omega) (by omega)]
    exact ⟨fun z => ⟨nI_pos (by omega), by have := z.2; omega⟩, fun z => ⟨nI_pos' (by omega), by have := z.2; omega⟩⟩
theorem wkst_le (f : Fl) : ∀ k, wkst f k ≤ k
  | 0 => Nat.le_refl 0
  | k + 1 => by
    have := wkst_le f k
    unfold wkst
    split
    · exact Nat.le_refl _
    · exact Nat.le_succ_of_le this
theorem fp_selfA {u : UInt32} {op : Jvm.ClassFile.CmpOp} (h : okN u) : Op.cmpValue (FP.fcmp u u) op = 0 := by
  rw [cmp_ok h h]
  exact cmpV_eq rfl
theorem fp_selfV {u : UInt32} (h : FP.Core.fIsNaN u = false) : Op.cmpValue (FP.fcmp u u) .l = 0 := by
  have : FP.fcmp u u = some .eq := FP.Core.fcmp_self ((FP.Core.notNaN_iff32 u).mp h)
  rw [this]
  rfl
theorem wk_step (hI : InvB f) {j : Nat} (hj : j < 12) : wkst f j = if Op.cmpValue (FP.fcmp (bd f j) (bd f (wkst f (j - 1)))) .g < 0 then j else wkst f (j - 1) := by
  cases j with
  | zero =>
    have h : ¬ Op.cmpValue (FP.fcmp (bd f 0) (bd f (wkst f (0 - 1)))) .g < 0 := by
      show ¬ Op.cmpValue (FP.fcmp (bd f 0) (bd f 0)) .g < 0
      rw [fp_selfA (bd_okN hI hj)]
      decide
    rw [if_neg h]
  | succ k => rfl
/-- where a convoy's trucks are -/
theorem mt_or (hI : InvB f) {c : Nat} (hc : c < cnt f) : ∃ g, 1 ≤ g ∧ g ≤ 3 ∧ f (oC c 0) = nI g ∧ ((f (oC c 2) = -1 ∧ ∀ k, mt (f (oC c 2)) (f (oC c 0)) k = -1) ∨ ∃ l, l ≤ 24 ∧ 1 ≤ ncv f c ∧ f (oC c 2) = nI l ∧ ∀ k, mt (f (oC c 2)) (f (oC c 0)) k = mw (nI l) (nI g) k) := by
  obtain ⟨⟨g, g1, g2, eg⟩, -, -, st, -⟩ := hI.cv hc
  refine ⟨g, g1, g2, eg, ?_⟩
  rcases st with ⟨-, b⟩ | ⟨-, h1, l, hl, b⟩
  · left
    refine ⟨b, fun k => ?_⟩
    rw [b]
    exact if_neg (by decide)
  · right
    refine ⟨l, hl, h1, b, fun k => ?_⟩
    rw [b, eg]
    exact if_pos (nI_pos' (by omega))
theorem mt_mw (hI : InvB f) {c k m : Nat} (hc : c < cnt f) (hk : k < 4) (hm : m < 12) : mt (f (oC c 2)) (f (oC c 0)) k = nI m ↔ mw (f (oC c 2)) (f (oC c 0)) k = nI m := by
  obtain ⟨g, g1, g2, eg, ⟨b, h⟩ | ⟨l, hl, -, b, h⟩⟩ := mt_or hI hc
  · rw [h k]
    constructor
    · intro q
      exact absurd q.symm (nI_m1 (by omega))
    · intro q
      exfalso
      have e : mw (f (oC c 2)) (f (oC c 0)) k = -1 - nI (k * (g + 1)) := by
        unfold mw
        rw [b, eg, nI_add, pk_mul]
      have hkg : k * (g + 1) ≤ 3 * 4 := Nat.mul_le_mul (by omega) (by omega)
      rw [e] at q
      have q2 := congrArg Int32.toInt q
      rw [fb_subI (by rw [nI_toInt (by omega)]; show (-2147483648 : Int) ≤ -1 - _; omega) (by rw [nI_toInt (by omega)]; show (-1 : Int) - _ < _; omega), nI_toInt (by omega), nI_toInt (by omega)] at q2
      have e1 : ((-1 : Int32).toInt : Int) = -1 := by decide
      rw [e1] at q2
      omega
  · rw [h k, b, eg]
theorem occ_pa (hI : InvB f) (hO : One f) {c k m : Nat} (hc : c < cnt f) (hk : k < ncv f c) (hm : m < 12) (h : mt (f (oC c 2)) (f (oC c 0)) k = nI m) : paF f c (nI m) = nI k := by
  have h4 := (hI.cv hc).2.2.1
  unfold paF
  refine fstI_eq hk (decide_eq_true ((mt_mw hI hc (by omega) hm).mp h)) (fun i hi => decide_eq_false (fun q => ?_))
  have := (hO c c i k m hc hc (by omega) hk hm ((mt_mw hI hc (by omega) hm).mpr q) h).2
  omega
theorem pa_occ (hI : InvB f) {c m : Nat} (hc : c < cnt f) (hm : m < 12) (h : 0 ≤ paF f c (nI m)) : ∃ k, k < ncv f c ∧ mt (f (oC c 2)) (f (oC c 0)) k = nI m := by
  have h4 := (hI.cv hc).2.2.1
  refine Classical.byContradiction fun q => ?_
  have e : paF f c (nI m) = -1 := by
    unfold paF
    refine fstI_none (fun k hk => decide_eq_false (fun z => q ⟨k, hk, (mt_mw hI hc (by omega) hm).mpr z⟩))
  rw [e] at h
  exact absurd h (by decide)
theorem tkn_occ (hI : InvB f) (hO : One f) {m : Nat} {w : Int32} (hm : m < 12) : tkn f (nI m) w ↔ ∃ c k, c < cnt f ∧ nI c ≠ w ∧ k < ncv f c ∧ mt (f (oC c 2)) (f (oC c 0)) k = nI m := by
  constructor
  · rintro ⟨c, h1, h2, h3⟩
    obtain ⟨k, k1, k2⟩ := pa_occ hI h1 hm h3
    exact ⟨c, k, h1, h2, k1, k2⟩
  · rintro ⟨c, k, h1, h2, k1, k2⟩
    refine ⟨c, h1, h2, ?_⟩
    rw [occ_pa hI hO h1 k1 hm k2]
    exact nI_pos' (by have := (hI.cv h1).2.2.1; omega)
theorem who_occ (hI : InvB f) (hO : One f) {c k m : Nat} (hc : c < cnt f) (hk : k < ncv f c) (hm : m < 12) (h : mt (f (oC c 2)) (f (oC c 0)) k = nI m) : whoV f (nI m) (-1) = nI (10 * c + k) := by
  have h44 := hI.1.2
  have e : fa_first (fun c => cb (nI c ≠ -1 ∧ 0 ≤ paF f c (nI m))) (cnt f) = c := by
    refine fa_first_eq hc (cb_t ⟨nI_m1 (by omega), by rw [occ_pa hI hO hc hk hm h]; exact nI_pos' (by have := (hI.cv hc).2.2.1; omega)⟩) (fun d hd => cb_f (fun q => ?_))
    obtain ⟨i, i1, i2⟩ := pa_occ hI (c := d) (by omega) hm q.2
    have := (hO d c i k m (by omega) hc i1 hk hm i2 h).1
    omega
  unfold whoV
  rw [e, if_pos hc, occ_pa hI hO hc hk hm h, pk_mul, nI_add]
theorem at_occ (hI : InvB f) (hO : One f) {c k m : Nat} (hc : c < cnt f) (hk : k < ncv f c) (hm : m < 12) (h : mt (f (oC c 2)) (f (oC c 0)) k = nI m) : atV f m = nI (10 * c + k) := by
  have h44 := hI.1.2
  unfold atV
  rw [if_pos ((tkn_occ hI hO hm).mpr ⟨c, k, hc, nI_m1 (by omega), hk, h⟩)]
  exact who_occ hI hO hc hk hm h
theorem at_none (hI : InvB f) (hO : One f) {m : Nat} (hm : m < 12) (h : ∀ c k, c < cnt f → k < ncv f c → mt (f (oC c 2)) (f (oC c 0)) k ≠ nI m) : atV f m = -13 := by
  unfold atV
  rw [if_neg (fun q => by
    obtain ⟨c, k, h1, -, h3, h4⟩ := (tkn_occ hI hO hm).mp q
    exact h c k h1 h3 h4)]
/-- someone is at a mile, or none -/
theorem at_or (hI : InvB f) (hO : One f) {m : Nat} (hm : m < 12) : (∃ c k, c < cnt f ∧ k < ncv f c ∧ mt (f (oC c 2)) (f (oC c 0)) k = nI m ∧ atV f m = nI (10 * c + k)) ∨ ((∀ c k, c < cnt f → k < ncv f c → mt (f (oC c 2)) (f (oC c 0)) k ≠ nI m) ∧ atV f m = -13) := by
  by_cases h : ∃ c k, c < cnt f ∧ k < ncv f c ∧ mt (f (oC c 2)) (f (oC c 0)) k = nI m
  · obtain ⟨c, k, h1, h2, h3⟩ := h
    exact Or.inl ⟨c, k, h1, h2, h3, at_occ hI hO h1 h2 hm h3⟩
  · have h2 : ∀ c k, c < cnt f → k < ncv f c → mt (f (oC c 2)) (f (oC c 0)) k ≠ nI m := fun c k a b d => h ⟨c, k, a, b, d⟩
    exact Or.inr ⟨h2, at_none hI hO hm h2⟩
theorem at_neg (hI : InvB f) (hO : One f) {m : Nat} (hm : m < 12) : atV f m < 0 ↔ ¬ tkn f (nI m) (-1) := by
  have h44 := hI.1.2
  rcases at_or hI hO hm with ⟨c, k, h1, h2, h3, e⟩ | ⟨h, e⟩
  · rw [e]
    have := (hI.cv h1).2.2.1
    exact ⟨fun q => absurd q (nI_pos (by omega)), fun q => absurd ((tkn_occ hI hO hm).mpr ⟨c, k, h1, nI_m1 (by omega), h2, h3⟩) q⟩
  · rw [e]
    exact ⟨fun _ q => by
      obtain ⟨c, k, h1, -, h3, h4⟩ := (tkn_occ hI hO hm).mp q
      exact h c k h1 h3 h4, fun _ => by decide⟩
theorem bk_iff (hI : InvB f) (hO : One f) {c k m : Nat} {ld : Int32} (hc : c < cnt f) (hm : m < 12) (e : mw ld (f (oC c 0)) k = nI m) : bk f c ld k ↔ (0 ≤ atV f m ∧ atV f m / nI 10 ≠ nI c) := by
  have h44 := hI.1.2
  unfold bk
  rw [e]
  rcases at_or hI hO hm with ⟨d, i, h1, h2, h3, ea⟩ | ⟨h, ea⟩
  · have h4 := (hI.cv h1).2.2.1
    rw [ea, pk_div (by omega) (by decide) (by decide), show (10 * d + i) / 10 = d by omega]
    constructor
    · rintro ⟨-, q⟩
      obtain ⟨d2, i2, a1, a2, a3, a4⟩ := (tkn_occ hI hO hm).mp q
      have := (hO d2 d i2 i m a1 h1 a3 h2 hm a4 h3).1
      subst this
      exact ⟨nI_pos' (by omega), a2⟩
    · rintro ⟨-, q⟩
      exact ⟨isM_n hm, (tkn_occ hI hO hm).mpr ⟨d, i, h1, q, h2, h3⟩⟩
  · rw [ea]
    constructor
    · rintro ⟨-, q⟩
      obtain ⟨d2, i2, a1, a2, a3, a4⟩ := (tkn_occ hI hO hm).mp q
      exact absurd a4 (h d2 i2 a1 a3)
    · rintro ⟨q, -⟩
      exact absurd q (by decide)
theorem drl_13 (hI : InvB f) {j : Nat} (hj : j < 12) : drlV f j = -13 ↔ f (oM j 4) < 0 := by
  unfold drlV
  by_cases h : f (oM j 4) < 0
  · rw [if_pos h]
    exact ⟨fun _ => h, fun _ => rfl⟩
  · rw [if_neg h]
    refine ⟨fun q => ?_, fun q => absurd q h⟩
    have h2 := (hI.2.2.2.1 j hj).2.1
    rw [q] at h2
    exact absurd h2 (by unfold okI; decide)
theorem ch48 : ∀ c, c < 6 → ((nI 48 + nI c).toUInt32 % 65536).toInt32 = nI 48 + nI c := by decide +kernel
end LPURE

