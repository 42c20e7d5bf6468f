/-! Float.floatToIntBits, Double.doubleToLongBits -/
section BITS3
variable {E : gE} {M : gM} {P : gP} {sh : Sh} {sz : Nat} {V : Vl} {cu su pc : Nat} {L : List (Option Value)} {rest : List Value}
theorem wn_acopy : Cond.native arraycopyName ∈ gW := gW_at 1061 (by decide +kernel) (by decide +kernel)
theorem wt_acopy : Cond.static arraycopyName ∈ gW := gW_at 1060 (by decide +kernel) (by decide +kernel)
theorem wi_sys : Cond.initialized "java/lang/System" ∈ gW := gW_at 36 (by decide +kernel) (by decide +kernel)
theorem wi_flo : Cond.initialized "java/lang/Float" ∈ gW := gW_at 27 (by decide +kernel) (by decide +kernel)
theorem wi_dou : Cond.initialized "java/lang/Double" ∈ gW := gW_at 28 (by decide +kernel) (by decide +kernel)
theorem wt_i2fb : Cond.static ⟨"java/lang/Float", "intBitsToFloat", "(I)F"⟩ ∈ gW := gW_at 737 (by decide +kernel) (by decide +kernel)
theorem wn_i2fb : Cond.native ⟨"java/lang/Float", "intBitsToFloat", "(I)F"⟩ ∈ gW := gW_at 738 (by decide +kernel) (by decide +kernel)
theorem wt_f2ib : Cond.static ⟨"java/lang/Float", "floatToRawIntBits", "(F)I"⟩ ∈ gW := gW_at 575 (by decide +kernel) (by decide +kernel)
theorem wn_f2ib : Cond.native ⟨"java/lang/Float", "floatToRawIntBits", "(F)I"⟩ ∈ gW := gW_at 576 (by decide +kernel) (by decide +kernel)
theorem wt_d2lb : Cond.static ⟨"java/lang/Double", "doubleToRawLongBits", "(D)J"⟩ ∈ gW := gW_at 790 (by decide +kernel) (by decide +kernel)
theorem wn_d2lb : Cond.native ⟨"java/lang/Double", "doubleToRawLongBits", "(D)J"⟩ ∈ gW := gW_at 791 (by decide +kernel) (by decide +kernel)
/-- bits below those of infinity are no NaN's -/
theorem sn_ok {x : Int32} (h : okN x.toUInt32) : vn_sni2f x = false := by
  unfold vn_sni2f
  have : ¬ x.toUInt32 &&& 0x7fffffff > 0x7f800000 := by
    intro q
    have q := UInt32.lt_iff_toNat_lt.mp q
    have e : (x.toUInt32 &&& 0x7fffffff).toNat ≤ x.toUInt32.toNat := by
      rw [UInt32.toNat_and]
      exact Nat.and_le_left
    have e2 : (0x7f800000 : UInt32).toNat = 2139095040 := by decide
    unfold okN at h
    omega
  rw [decide_eq_false this]
  rfl
theorem c_isNaN {u : UInt32} (h : okN u) (hP : P (.inl (some (.int (nI 0)))) sh sz V) : MC E YJxf58ca_isNaN_12338 [.float u] sh sz V P := by
  refine MC.ofF RJxf58ca "isNaN" rfl (by decide +kernel) rfl 0 [_] rfl (Nat.le_of_ble_eq_true rfl) ?_
  show G E MJxf58ca_isNaN_12338 _ _ _ _ _ _ _ _ _
  refine g_fload_n dJxf58ca_isNaN_12338_0 rfl ?_
  refine g_fload_n dJxf58ca_isNaN_12338_1 rfl ?_
  refine g_fcmp dJxf58ca_isNaN_12338_2 ?_
  refine g_if_eq (tgt := 10) dJxf58ca_isNaN_12338_3 (by decide) (fun _ => ?_) (fun hq => absurd (fp_self h) hq)
  refine g_iconst (v := nI 0) dJxf58ca_isNaN_12338_10 (by decide) ?_
  exact g_iret rfl nz0 dJxf58ca_isNaN_12338_11 (by decide) hP
theorem c_isNaND {u : UInt64} (h : okD u) (hP : P (.inl (some (.int (nI 0)))) sh sz V) : MC E YJxe99ae_isNaN_b9ae7 [.double u] sh sz V P := by
  refine MC.of RJxe99ae "isNaN" rfl (by decide +kernel) rfl 0 [_, none] rfl (Nat.le_of_ble_eq_true rfl) ?_
  show G E MJxe99ae_isNaN_b9ae7 _ _ _ _ _ _ _ _ _
  refine g_dload_n dJxe99ae_isNaN_b9ae7_0 rfl ?_
  refine g_dload_n dJxe99ae_isNaN_b9ae7_1 rfl ?_
  refine g_dcmp dJxe99ae_isNaN_b9ae7_2 ?_
  refine g_if_eq (tgt := 10) dJxe99ae_isNaN_b9ae7_3 (by decide) (fun _ => ?_) (fun hq => absurd (fp_selfD h) hq)
  refine g_iconst (v := nI 0) dJxe99ae_isNaN_b9ae7_10 (by decide) ?_
  exact g_iret rfl nz0 dJxe99ae_isNaN_b9ae7_11 (by decide) hP
theorem c_ftib {u : UInt32} (h : okN u) (hP : P (.inl (some (.int u.toInt32))) sh sz V) : MC E YJxf58ca_floatToIntBits_5c35a [.float u] sh sz V P := by
  refine MC.ofF RJxf58ca "floatToIntBits" rfl (by decide +kernel) rfl 0 [_] rfl (Nat.le_of_ble_eq_true rfl) ?_
  show G E MJxf58ca_floatToIntBits_5c35a _ _ _ _ _ _ _ _ _
  refine g_fload_n dJxf58ca_floatToIntBits_5c35a_0 rfl ?_
  refine g_callSp (Y := YJxf58ca_isNaN_12338) ss_Jxf58ca_59 yn_Jxf58ca_isNaN_12338 dJxf58ca_floatToIntBits_5c35a_1 (c_isNaN h pR_ok) rfl rfl rfl (Nat.le_of_ble_eq_true rfl) ⟨rfl, rfl⟩ ?_
  refine g_if_ne (tgt := 12) dJxf58ca_floatToIntBits_5c35a_4 (by decide) (fun hq => absurd hq ((fun q => q rfl))) (fun _ => ?_)
  refine g_fload_n dJxf58ca_floatToIntBits_5c35a_7 rfl ?_
  refine g_f2ib ml_Jxf58ca_74 wn_f2ib wt_f2ib wi_flo dJxf58ca_floatToIntBits_5c35a_8 (Nat.le_of_ble_eq_true rfl) (Nat.le_of_ble_eq_true rfl) ?_
  exact g_iret rfl (nr_int _) dJxf58ca_floatToIntBits_5c35a_11 (by decide) hP
theorem c_dtlb {u : UInt64} (h : okD u) (hP : P (.inl (some (.long u.toInt64))) sh sz V) : MC E YJxe99ae_doubleToLongBits_ccdee [.double u] sh sz V P := by
  refine MC.of RJxe99ae "doubleToLongBits" rfl (by decide +kernel) rfl 0 [_, none] rfl (Nat.le_of_ble_eq_true rfl) ?_
  show G E MJxe99ae_doubleToLongBits_ccdee _ _ _ _ _ _ _ _ _
  refine g_dload_n dJxe99ae_doubleToLongBits_ccdee_0 rfl ?_
  refine g_callSp (Y := YJxe99ae_isNaN_b9ae7) ss_Jxe99ae_122 yn_Jxe99ae_isNaN_b9ae7 dJxe99ae_doubleToLongBits_ccdee_1 (c_isNaND h pR_ok) rfl rfl rfl (Nat.le_of_ble_eq_true rfl) ⟨rfl, rfl⟩ ?_
  refine g_if_ne (tgt := 12) dJxe99ae_doubleToLongBits_ccdee_4 (by decide) (fun hq => absurd hq ((fun q => q rfl))) (fun _ => ?_)
  refine g_dload_n dJxe99ae_doubleToLongBits_ccdee_7 rfl ?_
  refine g_d2lb ml_Jxe99ae_134 wn_d2lb wt_d2lb wi_dou dJxe99ae_doubleToLongBits_ccdee_8 (Nat.le_of_ble_eq_true rfl) (Nat.le_of_ble_eq_true rfl) ?_
  exact g_lret rfl dJxe99ae_doubleToLongBits_ccdee_11 (by decide) hP
end BITS3

