/-! words, further -/
theorem wt_L_miles : Cond.static yL_miles ∈ gW := gW_at 681 (by decide +kernel) (by decide +kernel)
abbrev YL_sums : gY := (yL_sums, cL_sums, 16, (some .boolean), { frames := 8, cells := 320, slots := 1920, locals := 178 })
abbrev ML_sums : gM := (cL_sums, 16, RL, (some .boolean), [], "sums", YL_sums.2.2.2.2)
theorem yn_L_sums : gName yL_sums 1 := ⟨by decide +kernel, by decide +kernel, by decide +kernel⟩
set_option maxRecDepth 100000 in
theorem wc_L_sums : Cond.code yL_sums cL_sums 16 (some .boolean) ∈ gW := gW_at 795 rfl (by decide +kernel)
