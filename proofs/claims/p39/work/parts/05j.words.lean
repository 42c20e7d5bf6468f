/-! words, further -/
theorem wt_L_reasons : Cond.static yL_reasons ∈ gW := gW_at 883 (by decide +kernel) (by decide +kernel)
abbrev YL_ahead : gY := (yL_ahead, cL_ahead, 12, (some .boolean), { frames := 9, cells := 4800, slots := 28800, locals := 207 })
abbrev ML_ahead : gM := (cL_ahead, 12, RL, (some .boolean), [], "ahead", YL_ahead.2.2.2.2)
theorem yn_L_ahead : gName yL_ahead 2 := ⟨by decide +kernel, by decide +kernel, by decide +kernel⟩
set_option maxRecDepth 100000 in
theorem wc_L_ahead : Cond.code yL_ahead cL_ahead 12 (some .boolean) ∈ gW := gW_at 925 rfl (by decide +kernel)
