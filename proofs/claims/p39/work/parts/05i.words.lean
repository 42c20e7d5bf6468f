/-! words, further -/
theorem wt_L_sums : Cond.static yL_sums ∈ gW := gW_at 794 (by decide +kernel) (by decide +kernel)
abbrev YL_expected : gY := (yL_expected, cL_expected, 7, (some .int), { frames := 8, cells := 40, slots := 240, locals := 176 })
abbrev ML_expected : gM := (cL_expected, 7, RL, (some .int), [], "expected", YL_expected.2.2.2.2)
theorem yn_L_expected : gName yL_expected 3 := ⟨by decide +kernel, by decide +kernel, by decide +kernel⟩
theorem wc_L_expected : Cond.code yL_expected cL_expected 7 (some .int) ∈ gW := gW_at 887 (by decide +kernel) (by decide +kernel)
theorem wt_L_expected : Cond.static yL_expected ∈ gW := gW_at 886 (by decide +kernel) (by decide +kernel)
abbrev YL_reasons : gY := (yL_reasons, cL_reasons, 8, (some .boolean), { frames := 9, cells := 2400, slots := 14400, locals := 213 })
abbrev ML_reasons : gM := (cL_reasons, 8, RL, (some .boolean), [], "reasons", YL_reasons.2.2.2.2)
theorem yn_L_reasons : gName yL_reasons 1 := ⟨by decide +kernel, by decide +kernel, by decide +kernel⟩
set_option maxRecDepth 100000 in
theorem wc_L_reasons : Cond.code yL_reasons cL_reasons 8 (some .boolean) ∈ gW := gW_at 884 rfl (by decide +kernel)
