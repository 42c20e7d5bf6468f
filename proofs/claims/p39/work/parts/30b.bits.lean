/-! the bits of floats and doubles, as the class reckons them -/
section BITS
/-- d is not negative, finite, and A of the format's least numbers -/
def Uz (f : FP.Core.Fmt) (d : FP.Core.Datum) (A : Nat) : Prop := ∃ c q, d = .fin false c q ∧ f.qmin ≤ q ∧ c * 2 ^ (q - f.qmin).toNat = A
theorem p2_mv {c a c0 k x y : Nat} (h : c * 2 ^ a = c0 * 2 ^ k) (hxy : x + k = y + a) : c * 2 ^ x = c0 * 2 ^ y := by
  refine Nat.eq_of_mul_eq_mul_right (Nat.two_pow_pos a) ?_
  rw [Nat.mul_right_comm, h, Nat.mul_right_comm, Nat.mul_assoc, Nat.mul_assoc, ← Nat.pow_add, ← Nat.pow_add]
  rw [hxy]
theorem Uz.round {f : FP.Core.Fmt} (hf : FP.Core.Good f) {X B c0 k : Nat} {e : Int} (hB : 0 < B) (hc : c0 < 2 ^ f.p) (hk : f.qmin + k ≤ f.qmax) (h : X * 2 ^ (e - (f.qmin + k)).toNat = c0 * B * 2 ^ (f.qmin + k - e).toNat) : Uz f (FP.Core.roundRatio f false X B e) (c0 * 2 ^ k) := by
  rw [FP.Core.roundRatio_congr (A' := c0) (B' := 1) (e' := f.qmin + k) hB (by decide) (by rw [Nat.mul_one]; exact h)]
  obtain ⟨c', q', e1, e2⟩ := FP.Core.round_exact hf false (c := c0) (q := f.qmin + k) hc (by omega) hk
  have e1 : FP.Core.roundRatio f false c0 1 (f.qmin + k) = .fin false c' q' := e1
  have hfit := FP.Core.roundRatio_fits hf false c0 (B := 1) (by decide) (f.qmin + k)
  rw [e1] at hfit
  refine ⟨c', q', e1, hfit.2.1, ?_⟩
  unfold FP.Core.inUnits at e2
  rw [e2]
  have : (f.qmin + (k : Int) - f.qmin).toNat = k := by omega
  rw [this]
theorem Uz.mul {f : FP.Core.Fmt} (hf : FP.Core.Good f) {d : FP.Core.Datum} {c0 k j : Nat} (h : Uz f d (c0 * 2 ^ k)) (hc : c0 < 2 ^ f.p) (hk : f.qmin + ((k + j : Nat) : Int) ≤ f.qmax) {r : Int} {m : Nat} (hr : r + m = j) : Uz f (FP.Core.round f (FP.Core.exactProduct d (.fin false (2 ^ m) r))) (c0 * 2 ^ (k + j)) := by
  obtain ⟨c, q, rfl, hq, e⟩ := h
  refine Uz.round hf (X := c * 2 ^ m) (B := 1) (e := q + r) (by decide) hc hk ?_
  rw [Nat.mul_one, Nat.mul_assoc, ← Nat.pow_add]
  refine p2_mv e ?_
  omega
theorem Uz.half {f : FP.Core.Fmt} (hf : FP.Core.Good f) {d : FP.Core.Datum} {c0 k : Nat} (h : Uz f d (c0 * 2 ^ (k + 1))) (hc : c0 < 2 ^ f.p) (hk : f.qmin + (k : Int) ≤ f.qmax) {r : Int} {m : Nat} (hr : r + m = 1) : Uz f (FP.Core.quotient f d (.fin false (2 ^ m) r)) (c0 * 2 ^ k) := by
  obtain ⟨c, q, rfl, hq, e⟩ := h
  have h2 : 2 ^ m ≠ 0 := Nat.ne_of_gt (Nat.two_pow_pos m)
  have e0 : FP.Core.quotient f (.fin false c q) (.fin false (2 ^ m) r) = FP.Core.roundRatio f false c (2 ^ m) (q - r) := if_neg h2
  rw [e0]
  refine Uz.round hf (Nat.two_pow_pos m) hc hk ?_
  rw [Nat.mul_assoc, ← Nat.pow_add]
  refine p2_mv e ?_
  omega
theorem Uz.zval {f : FP.Core.Fmt} {d : FP.Core.Datum} {A : Nat} (h : Uz f d A) : FP.Core.zval f d = (A : Int) ∧ d ≠ .nan := by
  obtain ⟨c, q, rfl, hq, e⟩ := h
  refine ⟨?_, FP.Core.Datum.noConfusion⟩
  rw [← e]
  rfl
theorem Uz.whole {f : FP.Core.Fmt} {d : FP.Core.Datum} {n m : Nat} (h : Uz f d (n * 2 ^ m)) (hm : (m : Int) = -f.qmin) : FP.Core.Whole (n : Int) d := by
  obtain ⟨c, q, rfl, hq, e⟩ := h
  show ((c * 2 ^ q.toNat : Nat) : Int) = (n : Int) * ((2 ^ (-q).toNat : Nat) : Int)
  rw [p2_mv (x := q.toNat) (y := (-q).toNat) e (by omega)]
  push_cast
  rfl
/-! floats -/
def U32 (w : UInt32) (A : Nat) : Prop := Uz FP.Core.b32 (FP.Core.val32 w) A
def U64 (w : UInt64) (A : Nat) : Prop := Uz FP.Core.b64 (FP.Core.val64 w) A
theorem v2 : FP.Core.val32 FP.fconst2 = .fin false (2 ^ 23) (-22) := by decide +kernel
theorem v23 : FP.Core.val32 1258291200 = .fin false (2 ^ 23) 0 := by decide +kernel
theorem w2 : FP.Core.val64 4611686018427387904 = .fin false (2 ^ 52) (-51) := by decide +kernel
theorem w52 : FP.Core.val64 4841369599423283200 = .fin false (2 ^ 52) 0 := by decide +kernel
theorem U32.half {w : UInt32} {c0 k : Nat} (h : U32 w (c0 * 2 ^ (k + 1))) (hc : c0 < 2 ^ 24) (hk : k ≤ 253) : U32 (FP.fdiv w FP.fconst2) (c0 * 2 ^ k) := by
  show Uz _ (FP.Core.val32 (FP.Core.fdiv w FP.fconst2)) _
  rw [FP.Core.val32_fdiv, v2]
  exact Uz.half FP.Core.good_b32 h hc (by rw [FP.Core.qmin_b32, show FP.Core.b32.qmax = 104 by decide]; omega) (by decide)
theorem U32.dbl {w : UInt32} {c0 k : Nat} (h : U32 w (c0 * 2 ^ k)) (hc : c0 < 2 ^ 24) (hk : k ≤ 252) : U32 (FP.fmul w FP.fconst2) (c0 * 2 ^ (k + 1)) := by
  show Uz _ (FP.Core.val32 (FP.Core.fmul w FP.fconst2)) _
  rw [FP.Core.val32_fmul, v2]
  exact Uz.mul FP.Core.good_b32 h hc (by rw [FP.Core.qmin_b32, show FP.Core.b32.qmax = 104 by decide]; omega) (by decide)
theorem U32.up {w : UInt32} {c0 k : Nat} (h : U32 w (c0 * 2 ^ k)) (hc : c0 < 2 ^ 24) (hk : k ≤ 230) : U32 (FP.fmul w 1258291200) (c0 * 2 ^ (k + 23)) := by
  show Uz _ (FP.Core.val32 (FP.Core.fmul w 1258291200)) _
  rw [FP.Core.val32_fmul, v23]
  exact Uz.mul FP.Core.good_b32 h hc (by rw [FP.Core.qmin_b32, show FP.Core.b32.qmax = 104 by decide]; omega) (by decide)
theorem U32.nn {w : UInt32} {A : Nat} (h : U32 w A) : FP.Core.fIsNaN w = false := (FP.Core.notNaN_iff32 w).mpr (Uz.zval h).2
theorem U32.cmp {w v : UInt32} {A B : Nat} (h : U32 w A) (hv : U32 v B) : FP.fcmp w v = some (compare (A : Int) (B : Int)) := by
  have := FP.Core.fcmp_zval (Uz.zval h).2 (Uz.zval hv).2
  rw [(Uz.zval h).1, (Uz.zval hv).1] at this
  exact this
theorem U32.int {w : UInt32} {n : Nat} (h : U32 w (n * 2 ^ 149)) (hn : n < 2 ^ 31) : FP.f2i w = nI n := by
  refine FP.Core.f2i_int ?_
  rw [nI_toInt hn]
  exact Uz.whole h (by rw [FP.Core.qmin_b32]; decide)
theorem U32_1 : U32 FP.fconst1 (2 ^ 149) := ⟨2 ^ 23, -23, by decide +kernel, by decide, by decide +kernel⟩
theorem U32_2 : U32 FP.fconst2 (2 ^ 150) := ⟨2 ^ 23, -22, by decide +kernel, by decide, by decide +kernel⟩
theorem U32_0 : U32 FP.fconst0 0 := ⟨0, -149, by decide +kernel, by decide, by decide +kernel⟩
theorem U64.half {w : UInt64} {c0 k : Nat} (h : U64 w (c0 * 2 ^ (k + 1))) (hc : c0 < 2 ^ 53) (hk : k ≤ 2045) : U64 (FP.ddiv w 4611686018427387904) (c0 * 2 ^ k) := by
  show Uz _ (FP.Core.val64 (FP.Core.ddiv w 4611686018427387904)) _
  rw [FP.Core.val64_ddiv, w2]
  exact Uz.half FP.Core.good_b64 h hc (by rw [FP.Core.qmin_b64, show FP.Core.b64.qmax = 971 by decide]; omega) (by decide)
theorem U64.dbl {w : UInt64} {c0 k : Nat} (h : U64 w (c0 * 2 ^ k)) (hc : c0 < 2 ^ 53) (hk : k ≤ 2044) : U64 (FP.dmul w 4611686018427387904) (c0 * 2 ^ (k + 1)) := by
  show Uz _ (FP.Core.val64 (FP.Core.dmul w 4611686018427387904)) _
  rw [FP.Core.val64_dmul, w2]
  exact Uz.mul FP.Core.good_b64 h hc (by rw [FP.Core.qmin_b64, show FP.Core.b64.qmax = 971 by decide]; omega) (by decide)
theorem U64.up {w : UInt64} {c0 k : Nat} (h : U64 w (c0 * 2 ^ k)) (hc : c0 < 2 ^ 53) (hk : k ≤ 1900) : U64 (FP.dmul w 4841369599423283200) (c0 * 2 ^ (k + 52)) := by
  show Uz _ (FP.Core.val64 (FP.Core.dmul w 4841369599423283200)) _
  rw [FP.Core.val64_dmul, w52]
  exact Uz.mul FP.Core.good_b64 h hc (by rw [FP.Core.qmin_b64, show FP.Core.b64.qmax = 971 by decide]; omega) (by decide)
theorem U64.nn {w : UInt64} {A : Nat} (h : U64 w A) : FP.Core.dIsNaN w = false := (FP.Core.notNaN_iff w).mpr (Uz.zval h).2
theorem U64.cmp {w v : UInt64} {A B : Nat} (h : U64 w A) (hv : U64 v B) : FP.dcmp w v = some (compare (A : Int) (B : Int)) := by
  have := FP.Core.dcmp_zval (Uz.zval h).2 (Uz.zval hv).2
  rw [(Uz.zval h).1, (Uz.zval hv).1] at this
  exact this
theorem U64.int {w : UInt64} {n : Nat} (h : U64 w (n * 2 ^ 1074)) (hn : n < 2 ^ 63) : FP.d2l w = Int64.ofNat n := by
  refine FP.Core.d2l_int ?_
  rw [show (Int64.ofNat n).toInt = (n : Int) from Int64.toInt_ofNat_of_lt hn]
  exact Uz.whole h (by rw [FP.Core.qmin_b64]; decide)
theorem U64_1 : U64 FP.dconst1 (2 ^ 1074) := ⟨2 ^ 52, -52, by decide +kernel, by decide, by decide +kernel⟩
theorem U64_2 : U64 4611686018427387904 (2 ^ 1075) := ⟨2 ^ 52, -51, by decide +kernel, by decide, by decide +kernel⟩
theorem U64_0 : U64 FP.dconst0 0 := ⟨0, -1074, by decide +kernel, by decide, by decide +kernel⟩
/-- a float by its exponent and its last digits -/
theorem U32_of {u : UInt32} (h : okN u) : ∃ c e, u.toNat = (e - 1) * 2 ^ 23 + c ∧ c < 2 ^ 24 ∧ 1 ≤ e ∧ e ≤ 254 ∧ (2 ^ 23 ≤ c ∨ e = 1) ∧ U32 u (c * 2 ^ (e - 1)) := by
  unfold okN at h
  have ht : FP.Core.b32.tails = 8388608 := by decide
  have he : FP.Core.b32.exps = 256 := by decide
  have eE : FP.Core.fieldE FP.Core.b32 u.toNat = u.toNat / 8388608 := by
    unfold FP.Core.fieldE
    rw [ht, he]
    omega
  have eT : FP.Core.fieldT FP.Core.b32 u.toNat = u.toNat % 8388608 := by
    unfold FP.Core.fieldT
    rw [ht]
  have eS : FP.Core.fieldS FP.Core.b32 u.toNat = false := by
    unfold FP.Core.fieldS
    rw [ht, he, show u.toNat / 8388608 / 256 % 2 = 0 by omega]
    rfl
  have hd : FP.Core.val32 u = if u.toNat / 8388608 = 0 then .fin false (u.toNat % 8388608) FP.Core.b32.qmin else .fin false (8388608 + u.toNat % 8388608) (FP.Core.b32.qmin + (((u.toNat / 8388608 : Nat) : Int) - 1)) := by
    unfold FP.Core.val32 FP.Core.decode
    rw [eE, eT, eS, he, ht, if_neg (by omega)]
  by_cases z : u.toNat / 8388608 = 0
  · rw [if_pos z] at hd
    refine ⟨u.toNat, 1, by omega, by omega, by omega, by omega, Or.inr rfl, u.toNat % 8388608, _, hd, Int.le_refl _, ?_⟩
    rw [Int.sub_self]
    show u.toNat % 8388608 * 1 = u.toNat * 1
    omega
  · rw [if_neg z] at hd
    refine ⟨8388608 + u.toNat % 8388608, u.toNat / 8388608, by omega, by omega, by omega, by omega, Or.inl (by omega), _, _, hd, by omega, ?_⟩
    rw [show (FP.Core.b32.qmin + (((u.toNat / 8388608 : Nat) : Int) - 1) - FP.Core.b32.qmin).toNat = u.toNat / 8388608 - 1 by omega]
theorem U64_of {u : UInt64} (h : okD u) : ∃ c e, u.toNat = (e - 1) * 2 ^ 52 + c ∧ c < 2 ^ 53 ∧ 1 ≤ e ∧ e ≤ 2046 ∧ (2 ^ 52 ≤ c ∨ e = 1) ∧ U64 u (c * 2 ^ (e - 1)) := by
  unfold okD at h
  have ht : FP.Core.b64.tails = 4503599627370496 := by decide
  have he : FP.Core.b64.exps = 2048 := by decide
  have eE : FP.Core.fieldE FP.Core.b64 u.toNat = u.toNat / 4503599627370496 := by
    unfold FP.Core.fieldE
    rw [ht, he]
    omega
  have eT : FP.Core.fieldT FP.Core.b64 u.toNat = u.toNat % 4503599627370496 := by
    unfold FP.Core.fieldT
    rw [ht]
  have eS : FP.Core.fieldS FP.Core.b64 u.toNat = false := by
    unfold FP.Core.fieldS
    rw [ht, he, show u.toNat / 4503599627370496 / 2048 % 2 = 0 by omega]
    rfl
  have hd : FP.Core.val64 u = if u.toNat / 4503599627370496 = 0 then .fin false (u.toNat % 4503599627370496) FP.Core.b64.qmin else .fin false (4503599627370496 + u.toNat % 4503599627370496) (FP.Core.b64.qmin + (((u.toNat / 4503599627370496 : Nat) : Int) - 1)) := by
    unfold FP.Core.val64 FP.Core.decode
    rw [eE, eT, eS, he, ht, if_neg (by omega)]
  by_cases z : u.toNat / 4503599627370496 = 0
  · rw [if_pos z] at hd
    refine ⟨u.toNat, 1, by omega, by omega, by omega, by omega, Or.inr rfl, u.toNat % 4503599627370496, _, hd, Int.le_refl _, ?_⟩
    rw [Int.sub_self]
    show u.toNat % 4503599627370496 * 1 = u.toNat * 1
    omega
  · rw [if_neg z] at hd
    refine ⟨4503599627370496 + u.toNat % 4503599627370496, u.toNat / 4503599627370496, by omega, by omega, by omega, by omega, Or.inl (by omega), _, _, hd, by omega, ?_⟩
    rw [show (FP.Core.b64.qmin + (((u.toNat / 4503599627370496 : Nat) : Int) - 1) - FP.Core.b64.qmin).toNat = u.toNat / 4503599627370496 - 1 by omega]
theorem bitsA {p B c e0 e : Nat} (hc : c < 2 ^ (p + 1)) (h3 : 2 ^ p ≤ c ∨ e0 = 1) (h1 : B + 1 ≤ e) : c * 2 ^ (e0 + B - e) < 2 ^ (p + B + 1) ↔ e0 ≤ e := by
  constructor
  · intro h
    refine Nat.le_of_not_lt fun q => ?_
    have h2 : 2 ^ p ≤ c := by
      rcases h3 with z | z
      · exact z
      · omega
    have a : 2 ^ p * 2 ^ (B + 1) ≤ c * 2 ^ (e0 + B - e) := Nat.mul_le_mul h2 (Nat.pow_le_pow_right (by decide) (by omega))
    rw [← Nat.pow_add, show p + (B + 1) = p + B + 1 by omega] at a
    omega
  · intro h
    have a : c * 2 ^ (e0 + B - e) ≤ c * 2 ^ B := Nat.mul_le_mul_left _ (Nat.pow_le_pow_right (by decide) (by omega))
    have b : c * 2 ^ B < 2 ^ (p + 1) * 2 ^ B := Nat.mul_lt_mul_of_pos_right hc (Nat.two_pow_pos B)
    rw [← Nat.pow_add, show p + 1 + B = p + B + 1 by omega] at b
    omega
theorem bitsB {p B c e0 e : Nat} (hc : c < 2 ^ (p + 1)) (h3 : 2 ^ p ≤ c ∨ e0 = 1) (he : e0 ≤ e) (h1 : 1 < e) (hB : 1 ≤ B) (hle : e ≤ e0 + B) : c * 2 ^ (e0 + B - e) < 2 ^ (p + B) ↔ e0 < e := by
  constructor
  · intro h
    refine Nat.lt_of_not_le fun q => ?_
    have h2 : 2 ^ p ≤ c := by
      rcases h3 with z | z
      · exact z
      · omega
    have a : 2 ^ p * 2 ^ B ≤ c * 2 ^ (e0 + B - e) := Nat.mul_le_mul h2 (Nat.pow_le_pow_right (by decide) (by omega))
    rw [← Nat.pow_add] at a
    omega
  · intro h
    have a : c * 2 ^ (e0 + B - e) ≤ c * 2 ^ (B - 1) := Nat.mul_le_mul_left _ (Nat.pow_le_pow_right (by decide) (by omega))
    have b : c * 2 ^ (B - 1) < 2 ^ (p + 1) * 2 ^ (B - 1) := Nat.mul_lt_mul_of_pos_right hc (Nat.two_pow_pos _)
    rw [← Nat.pow_add, show p + 1 + (B - 1) = p + B by omega] at b
    omega
theorem u32_nI (u : UInt32) : u.toInt32 = nI u.toNat := by
  apply Int32.toBitVec_inj.mp
  show u.toBitVec = BitVec.ofNat 32 u.toNat
  exact (BitVec.ofNat_toNat 32 u.toBitVec).symm ▸ (by simp)
theorem u64_lN (u : UInt64) : u.toInt64 = Int64.ofNat u.toNat := by
  apply Int64.toBitVec_inj.mp
  show u.toBitVec = BitVec.ofNat 64 u.toNat
  simp
variable {E : gE} {P : gP} {sh : Sh} {sz : Nat} {V : Vl}
theorem sh23 : ∀ e, e < 255 → 1 ≤ e → (nI e - nI 1) <<< (nI 23 &&& 31) = nI ((e - 1) * 2 ^ 23) := by decide +kernel
theorem sh52 : ∀ e, e < 2047 → 1 ≤ e → (nI e - nI 1).toInt64 <<< ((nI 52).toInt64 &&& 63) = Int64.ofNat ((e - 1) * 2 ^ 52) := by decide +kernel
theorem cmpN_lt {a b : Nat} {op : Jvm.ClassFile.CmpOp} (h : a < b) : Op.cmpValue (some (compare (a : Int) (b : Int))) op = -1 := cmpV_lt (Int.ofNat_lt.mpr h)
theorem cmpN_eq {a b : Nat} {op : Jvm.ClassFile.CmpOp} (h : a = b) : Op.cmpValue (some (compare (a : Int) (b : Int))) op = 0 := cmpV_eq (congrArg _ h)
theorem cmpN_gt {a b : Nat} {op : Jvm.ClassFile.CmpOp} (h : b < a) : Op.cmpValue (some (compare (a : Int) (b : Int))) op = 1 := cmpV_gt (Int.ofNat_lt.mpr h)
theorem nI_dn {k : Nat} : nI (k + 1) + Int32.ofInt (-1) = nI k := by
  rw [← nI_add k 1, Int32.add_assoc, show nI 1 + Int32.ofInt (-1) = 0 by decide, Int32.add_zero]
theorem c_floatBits {u : UInt32} (h : okN u) (hP : P (.inl (some (.int u.toInt32))) sh sz V) : MC E YX6_floatBits [.float u] sh sz V P := by
  obtain ⟨c0, e0, eu, hc, h1, h2, h3, hu⟩ := U32_of h
  have hA : ∀ e, 127 ≤ e → (c0 * 2 ^ (e0 + 126 - e) < 2 ^ 150 ↔ e0 ≤ e) := fun e he => bitsA (p := 23) (B := 126) hc h3 he
  have hB : ∀ e, e0 ≤ e → 1 < e → e ≤ e0 + 126 → (c0 * 2 ^ (e0 + 126 - e) < 2 ^ 149 ↔ e0 < e) := fun e a b d => bitsB (p := 23) (B := 126) hc h3 a b (by decide) d
  refine MC.of RX6 "floatBits" rfl (by decide +kernel) rfl 2 [_, none, none] rfl (Nat.le_of_ble_eq_true rfl) ?_
  show G E MX6_floatBits _ _ _ _ _ _ _ _ _
  refine g_fload_n dX6_floatBits_0 rfl ?_
  refine g_fconst0 dX6_floatBits_1 ?_
  refine g_fcmp dX6_floatBits_2 ?_
  rw [hu.cmp U32_0]
  refine g_if_gt (tgt := 8) dX6_floatBits_3 (by decide) (fun b1 => ?_) (fun b1 => ?_)
  rotate_left
  · have hz : u.toNat = 0 := by
      rcases Nat.eq_zero_or_pos (c0 * 2 ^ (e0 - 1)) with z | z
      · rcases Nat.mul_eq_zero.mp z with z | z
        · rcases h3 with q | q
          · omega
          · rw [eu, q, z]
        · exact absurd z (Nat.ne_of_gt (Nat.two_pow_pos _))
      · rw [cmpN_gt z] at b1
        exact absurd (by decide) b1
    rw [u32_nI, hz] at hP
    refine g_iconst (v := nI 0) dX6_floatBits_6 (by decide) ?_
    exact g_iret rfl (nr_int _) dX6_floatBits_7 (by decide) hP
  have K2 : ∀ (d : Nat) (e : Nat) (w : UInt32), e = e0 + d → e ≤ 254 → d ≤ 126 → U32 w (c0 * 2 ^ (e0 + 126 - e)) → G E MX6_floatBits P sh sz V 0 0 36 [some (.float u), some (.float w), some (.int (nI e))] [] := by
    intro d
    have fin : ∀ w, U32 w (c0 * 2 ^ 126) → G E MX6_floatBits P sh sz V 0 0 57 [some (.float u), some (.float w), some (.int (nI e0))] [] := by
      intro w hw
      have up := hw.up hc (by decide)
      refine g_iload_n dX6_floatBits_57 rfl ?_
      refine g_iconst (v := nI 1) dX6_floatBits_58 (by decide) ?_
      refine g_isub dX6_floatBits_59 ?_
      refine g_bipush (v := nI 23) dX6_floatBits_60 (by decide) ?_
      refine g_ishl dX6_floatBits_62 ?_
      refine g_fload_n dX6_floatBits_63 rfl ?_
      refine g_ldcfw kc_X6_392 dX6_floatBits_64 ?_
      refine g_fmul dX6_floatBits_67 (vf32 up.nn) ?_
      refine g_f2i dX6_floatBits_68 ?_
      rw [sh23 e0 (by omega) h1, up.int (n := c0) (by omega)]
      rw [u32_nI, eu] at hP
      refine g_iadd dX6_floatBits_69 ?_
      rw [nI_add]
      exact g_iret rfl (nr_int _) dX6_floatBits_70 (by decide) hP
    induction d with
    | zero =>
      intro e w he h254 _ hw
      have he : e = e0 := he
      subst he
      rw [show e + 126 - e = 126 by omega] at hw
      have hnb := hB e (Nat.le_refl _)
      refine g_iload_n dX6_floatBits_36 rfl ?_
      refine g_iconst (v := nI 1) dX6_floatBits_37 (by decide) ?_
      refine g_icmp_le (tgt := 57) dX6_floatBits_38 (by decide) (fun b2 => ?_) (fun b2 => ?_)
      · exact fin w hw
      · have b2' : 1 < e := Nat.lt_of_not_le fun q => b2 ((nI_leI (by omega) (by decide)).mpr q)
        have hnb := hnb b2' (by omega)
        rw [show e + 126 - e = 126 by omega] at hnb
        refine g_fload_n dX6_floatBits_41 rfl ?_
        refine g_fconst1 dX6_floatBits_42 ?_
        refine g_fcmp dX6_floatBits_43 ?_
        rw [hw.cmp U32_1]
        refine g_if_ge (tgt := 57) dX6_floatBits_44 (by decide) (fun b3 => ?_) (fun b3 => ?_)
        · exact fin w hw
        · refine absurd ?_ b3
          have hge : ¬ c0 * 2 ^ 126 < 2 ^ 149 := fun z => absurd (hnb.mp z) (Nat.lt_irrefl _)
          rcases Nat.lt_or_ge (2 ^ 149) (c0 * 2 ^ 126) with q | q
          · rw [cmpN_gt q]
            decide
          · rw [cmpN_eq (Nat.le_antisymm q (Nat.le_of_not_lt hge))]
            decide
    | succ d ih =>
      intro e w he h254 hd hw
      have hnb := (hB e (by omega) (by omega) (by omega)).mpr (by omega)
      refine g_iload_n dX6_floatBits_36 rfl ?_
      refine g_iconst (v := nI 1) dX6_floatBits_37 (by decide) ?_
      refine g_icmp_le (tgt := 57) dX6_floatBits_38 (by decide) (fun hq => absurd hq (nI_ge (by omega) (by omega))) (fun _ => ?_)
      refine g_fload_n dX6_floatBits_41 rfl ?_
      refine g_fconst1 dX6_floatBits_42 ?_
      refine g_fcmp dX6_floatBits_43 ?_
      rw [hw.cmp U32_1, cmpN_lt hnb]
      refine g_if_ge (tgt := 57) dX6_floatBits_44 (by decide) (fun hq => absurd hq ((by decide))) (fun _ => ?_)
      have dbl := hw.dbl hc (by omega)
      refine g_fload_n dX6_floatBits_47 rfl ?_
      refine g_fconst2 dX6_floatBits_48 ?_
      refine g_fmul dX6_floatBits_49 (vf32 dbl.nn) ?_
      refine g_fstore_n dX6_floatBits_50 (by decide) rfl ?_
      show G _ _ _ _ _ _ _ _ _ [_, _, _] _
      refine g_iinc dX6_floatBits_51 rfl rfl (by decide) rfl ?_
      show G _ _ _ _ _ _ _ _ _ [_, _, _] _
      refine g_jump (tgt := 36) dX6_floatBits_54 (by decide) ?_
      obtain ⟨e1, rfl⟩ : ∃ e1, e = e1 + 1 := ⟨e - 1, by omega⟩
      rw [nI_dn]
      exact ih e1 _ (by omega) (by omega) (by omega) (by rw [show e0 + 126 - e1 = (e0 + 126 - (e1 + 1)) + 1 by omega]; exact dbl)
  have K1 : ∀ (d : Nat) (e : Nat) (w : UInt32), e + d = 254 → 127 ≤ e → (e ≤ e0 ∨ e = 127) → U32 w (c0 * 2 ^ (e0 + 126 - e)) → G E MX6_floatBits P sh sz V 0 0 13 [some (.float u), some (.float w), some (.int (nI e))] [] := by
    intro d
    induction d with
    | zero =>
      intro e w he h127 hor hw
      have he : e = 254 := by omega
      subst he
      refine g_iload_n dX6_floatBits_13 rfl ?_
      refine g_sipush (v := nI 254) dX6_floatBits_14 (by decide) ?_
      refine g_icmp_ge (tgt := 36) dX6_floatBits_17 (by decide) (fun _ => ?_) (fun hq => absurd (Int32.le_refl _) hq)
      exact K2 (254 - e0) 254 w (by omega) (by omega) (by omega) hw
    | succ d ih =>
      intro e w he h127 hor hw
      refine g_iload_n dX6_floatBits_13 rfl ?_
      refine g_sipush (v := nI 254) dX6_floatBits_14 (by decide) ?_
      refine g_icmp_ge (tgt := 36) dX6_floatBits_17 (by decide) (fun hq => absurd hq (nI_ge (by omega) (by decide))) (fun _ => ?_)
      refine g_fload_n dX6_floatBits_20 rfl ?_
      refine g_fconst2 dX6_floatBits_21 ?_
      refine g_fcmp dX6_floatBits_22 ?_
      rw [hw.cmp U32_2]
      have hnb := hA e h127
      refine g_if_lt (tgt := 36) dX6_floatBits_23 (by decide) (fun b2 => ?_) (fun b2 => ?_)
      · have hlt : e0 ≤ e := hnb.mp (Nat.lt_of_not_le fun q => by
          rcases Nat.lt_or_ge (2 ^ 150) (c0 * 2 ^ (e0 + 126 - e)) with z | z
          · rw [cmpN_gt z] at b2
            exact absurd b2 (by decide)
          · rw [cmpN_eq (Nat.le_antisymm z q)] at b2
            exact absurd b2 (by decide))
        exact K2 (e - e0) e w (by omega) (by omega) (by omega) hw
      · have hlt : e < e0 := Nat.lt_of_not_le fun q => by
          rw [cmpN_lt (hnb.mpr q)] at b2
          exact b2 (by decide)
        rw [show e0 + 126 - e = (e0 + 126 - (e + 1)) + 1 by omega] at hw
        have hf := hw.half hc (by omega)
        refine g_fload_n dX6_floatBits_26 rfl ?_
        refine g_fconst2 dX6_floatBits_27 ?_
        refine g_fdiv dX6_floatBits_28 (vf32 hf.nn) ?_
        refine g_fstore_n dX6_floatBits_29 (by decide) rfl ?_
        show G _ _ _ _ _ _ _ _ _ [_, _, _] _
        refine g_iinc dX6_floatBits_30 rfl (by first | exact nI_inc _ | rfl) (by decide) rfl ?_
        show G _ _ _ _ _ _ _ _ _ [_, _, _] _
        refine g_jump (tgt := 13) dX6_floatBits_33 (by decide) ?_
        exact ih (e + 1) _ (by omega) (by omega) (Or.inl (by omega)) hf
  refine g_fload_n dX6_floatBits_8 rfl ?_
  refine g_fstore_n dX6_floatBits_9 (by decide) rfl ?_
  show G _ _ _ _ _ _ _ _ _ [_, _, _] _
  refine g_bipush (v := nI 127) dX6_floatBits_10 (by decide) ?_
  refine g_istore_n dX6_floatBits_12 (by decide) rfl ?_
  show G _ _ _ _ _ _ _ _ _ [_, _, _] _
  exact K1 127 127 u rfl (by decide) (Or.inr rfl) (by rw [show e0 + 126 - 127 = e0 - 1 by omega]; exact hu)
theorem c_doubleBits {u : UInt64} (h : okD u) (hP : P (.inl (some (.long u.toInt64))) sh sz V) : MC E YX6_doubleBits [.double u] sh sz V P := by
  obtain ⟨c0, e0, eu, hc, h1, h2, h3, hu⟩ := U64_of h
  have hA : ∀ e, 1023 ≤ e → (c0 * 2 ^ (e0 + 1022 - e) < 2 ^ 1075 ↔ e0 ≤ e) := fun e he => bitsA (p := 52) (B := 1022) hc h3 he
  have hB : ∀ e, e0 ≤ e → 1 < e → e ≤ e0 + 1022 → (c0 * 2 ^ (e0 + 1022 - e) < 2 ^ 1074 ↔ e0 < e) := fun e a b d => bitsB (p := 52) (B := 1022) hc h3 a b (by decide) d
  refine MC.of RX6 "doubleBits" rfl (by decide +kernel) rfl 3 [_, none, none, none, none] rfl (Nat.le_of_ble_eq_true rfl) ?_
  show G E MX6_doubleBits _ _ _ _ _ _ _ _ _
  refine g_dload_n dX6_doubleBits_0 rfl ?_
  refine g_dconst0 dX6_doubleBits_1 ?_
  refine g_dcmp dX6_doubleBits_2 ?_
  rw [hu.cmp U64_0]
  refine g_if_gt (tgt := 8) dX6_doubleBits_3 (by decide) (fun b1 => ?_) (fun b1 => ?_)
  rotate_left
  · have hz : u.toNat = 0 := by
      rcases Nat.eq_zero_or_pos (c0 * 2 ^ (e0 - 1)) with z | z
      · rcases Nat.mul_eq_zero.mp z with z | z
        · rcases h3 with q | q
          · omega
          · rw [eu, q, z]
        · exact absurd z (Nat.ne_of_gt (Nat.two_pow_pos _))
      · rw [cmpN_gt z] at b1
        exact absurd (by decide) b1
    rw [u64_lN, hz] at hP
    refine g_lconst dX6_doubleBits_6 rfl ?_
    exact g_lret rfl dX6_doubleBits_7 (by decide) hP
  have K2 : ∀ (d : Nat) (e : Nat) (w : UInt64), e = e0 + d → e ≤ 2046 → d ≤ 1022 → U64 w (c0 * 2 ^ (e0 + 1022 - e)) → G E MX6_doubleBits P sh sz V 0 0 43 [some (.double u), none, some (.double w), none, some (.int (nI e))] [] := by
    intro d
    have fin : ∀ w, U64 w (c0 * 2 ^ 1022) → G E MX6_doubleBits P sh sz V 0 0 67 [some (.double u), none, some (.double w), none, some (.int (nI e0))] [] := by
      intro w hw
      have up := hw.up hc (by decide)
      refine g_iload dX6_doubleBits_67 rfl ?_
      refine g_iconst (v := nI 1) dX6_doubleBits_69 (by decide) ?_
      refine g_isub dX6_doubleBits_70 ?_
      refine g_i2l dX6_doubleBits_71 rfl ?_
      refine g_bipush (v := nI 52) dX6_doubleBits_72 (by decide) ?_
      refine g_lshl dX6_doubleBits_74 rfl ?_
      refine g_dload_n dX6_doubleBits_75 rfl ?_
      refine g_ldc2d kc_X6_395 dX6_doubleBits_76 ?_
      refine g_dmul dX6_doubleBits_79 (vf64 up.nn) ?_
      refine g_d2l dX6_doubleBits_80 ?_
      rw [sh52 e0 (by omega) h1, up.int (n := c0) (by omega)]
      rw [u64_lN, eu] at hP
      refine g_ladd dX6_doubleBits_81 ?_
      rw [← Int64.ofNat_add]
      exact g_lret rfl dX6_doubleBits_82 (by decide) hP
    induction d with
    | zero =>
      intro e w he h2046 _ hw
      have he : e = e0 := he
      subst he
      rw [show e + 1022 - e = 1022 by omega] at hw
      have hnb := hB e (Nat.le_refl _)
      refine g_iload dX6_doubleBits_43 rfl ?_
      refine g_iconst (v := nI 1) dX6_doubleBits_45 (by decide) ?_
      refine g_icmp_le (tgt := 67) dX6_doubleBits_46 (by decide) (fun b2 => ?_) (fun b2 => ?_)
      · exact fin w hw
      · have b2' : 1 < e := Nat.lt_of_not_le fun q => b2 ((nI_leI (by omega) (by decide)).mpr q)
        have hnb := hnb b2' (by omega)
        rw [show e + 1022 - e = 1022 by omega] at hnb
        refine g_dload_n dX6_doubleBits_49 rfl ?_
        refine g_dconst1 dX6_doubleBits_50 ?_
        refine g_dcmp dX6_doubleBits_51 ?_
        rw [hw.cmp U64_1]
        refine g_if_ge (tgt := 67) dX6_doubleBits_52 (by decide) (fun b3 => ?_) (fun b3 => ?_)
        · exact fin w hw
        · refine absurd ?_ b3
          have hge : ¬ c0 * 2 ^ 1022 < 2 ^ 1074 := fun z => absurd (hnb.mp z) (Nat.lt_irrefl _)
          rcases Nat.lt_or_ge (2 ^ 1074) (c0 * 2 ^ 1022) with q | q
          · rw [cmpN_gt q]
            decide
          · rw [cmpN_eq (Nat.le_antisymm q (Nat.le_of_not_lt hge))]
            decide
    | succ d ih =>
      intro e w he h2046 hd hw
      have hnb := (hB e (by omega) (by omega) (by omega)).mpr (by omega)
      refine g_iload dX6_doubleBits_43 rfl ?_
      refine g_iconst (v := nI 1) dX6_doubleBits_45 (by decide) ?_
      refine g_icmp_le (tgt := 67) dX6_doubleBits_46 (by decide) (fun hq => absurd hq (nI_ge (by omega) (by omega))) (fun _ => ?_)
      refine g_dload_n dX6_doubleBits_49 rfl ?_
      refine g_dconst1 dX6_doubleBits_50 ?_
      refine g_dcmp dX6_doubleBits_51 ?_
      rw [hw.cmp U64_1, cmpN_lt hnb]
      refine g_if_ge (tgt := 67) dX6_doubleBits_52 (by decide) (fun hq => absurd hq ((by decide))) (fun _ => ?_)
      have dbl := hw.dbl hc (by omega)
      refine g_dload_n dX6_doubleBits_55 rfl ?_
      refine g_ldc2d kc_X6_393 dX6_doubleBits_56 ?_
      refine g_dmul dX6_doubleBits_59 (vf64 dbl.nn) ?_
      refine g_dstore_n dX6_doubleBits_60 (by decide) rfl rfl ?_
      show G _ _ _ _ _ _ _ _ _ [_, _, _, _, _] _
      refine g_iinc dX6_doubleBits_61 rfl rfl (by decide) rfl ?_
      show G _ _ _ _ _ _ _ _ _ [_, _, _, _, _] _
      refine g_jump (tgt := 43) dX6_doubleBits_64 (by decide) ?_
      obtain ⟨e1, rfl⟩ : ∃ e1, e = e1 + 1 := ⟨e - 1, by omega⟩
      rw [nI_dn]
      exact ih e1 _ (by omega) (by omega) (by omega) (by rw [show e0 + 1022 - e1 = (e0 + 1022 - (e1 + 1)) + 1 by omega]; exact dbl)
  have K1 : ∀ (d : Nat) (e : Nat) (w : UInt64), e + d = 2046 → 1023 ≤ e → (e ≤ e0 ∨ e = 1023) → U64 w (c0 * 2 ^ (e0 + 1022 - e)) → G E MX6_doubleBits P sh sz V 0 0 15 [some (.double u), none, some (.double w), none, some (.int (nI e))] [] := by
    intro d
    induction d with
    | zero =>
      intro e w he h1023 hor hw
      have he : e = 2046 := by omega
      subst he
      refine g_iload dX6_doubleBits_15 rfl ?_
      refine g_sipush (v := nI 2046) dX6_doubleBits_17 (by decide) ?_
      refine g_icmp_ge (tgt := 43) dX6_doubleBits_20 (by decide) (fun _ => ?_) (fun hq => absurd (Int32.le_refl _) hq)
      exact K2 (2046 - e0) 2046 w (by omega) (by omega) (by omega) hw
    | succ d ih =>
      intro e w he h1023 hor hw
      refine g_iload dX6_doubleBits_15 rfl ?_
      refine g_sipush (v := nI 2046) dX6_doubleBits_17 (by decide) ?_
      refine g_icmp_ge (tgt := 43) dX6_doubleBits_20 (by decide) (fun hq => absurd hq (nI_ge (by omega) (by decide))) (fun _ => ?_)
      refine g_dload_n dX6_doubleBits_23 rfl ?_
      refine g_ldc2d kc_X6_393 dX6_doubleBits_24 ?_
      refine g_dcmp dX6_doubleBits_27 ?_
      rw [hw.cmp U64_2]
      have hnb := hA e h1023
      refine g_if_lt (tgt := 43) dX6_doubleBits_28 (by decide) (fun b2 => ?_) (fun b2 => ?_)
      · have hlt : e0 ≤ e := hnb.mp (Nat.lt_of_not_le fun q => by
          rcases Nat.lt_or_ge (2 ^ 1075) (c0 * 2 ^ (e0 + 1022 - e)) with z | z
          · rw [cmpN_gt z] at b2
            exact absurd b2 (by decide)
          · rw [cmpN_eq (Nat.le_antisymm z q)] at b2
            exact absurd b2 (by decide))
        exact K2 (e - e0) e w (by omega) (by omega) (by omega) hw
      · have hlt : e < e0 := Nat.lt_of_not_le fun q => by
          rw [cmpN_lt (hnb.mpr q)] at b2
          exact b2 (by decide)
        rw [show e0 + 1022 - e = (e0 + 1022 - (e + 1)) + 1 by omega] at hw
        have hf := hw.half hc (by omega)
        refine g_dload_n dX6_doubleBits_31 rfl ?_
        refine g_ldc2d kc_X6_393 dX6_doubleBits_32 ?_
        refine g_ddiv dX6_doubleBits_35 (vf64 hf.nn) ?_
        refine g_dstore_n dX6_doubleBits_36 (by decide) rfl rfl ?_
        show G _ _ _ _ _ _ _ _ _ [_, _, _, _, _] _
        refine g_iinc dX6_doubleBits_37 rfl (by first | exact nI_inc _ | rfl) (by decide) rfl ?_
        show G _ _ _ _ _ _ _ _ _ [_, _, _, _, _] _
        refine g_jump (tgt := 15) dX6_doubleBits_40 (by decide) ?_
        exact ih (e + 1) _ (by omega) (by omega) (Or.inl (by omega)) hf
  refine g_dload_n dX6_doubleBits_8 rfl ?_
  refine g_dstore_n dX6_doubleBits_9 (by decide) rfl rfl ?_
  show G _ _ _ _ _ _ _ _ _ [_, _, _, _, _] _
  refine g_sipush (v := nI 1023) dX6_doubleBits_10 (by decide) ?_
  refine g_istore dX6_doubleBits_13 (by decide) rfl ?_
  show G _ _ _ _ _ _ _ _ _ [_, _, _, _, _] _
  exact K1 1023 1023 u rfl (by decide) (Or.inr rfl) (by rw [show e0 + 1022 - 1023 = e0 - 1 by omega]; exact hu)
end BITS

