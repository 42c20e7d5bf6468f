/-! words, further -/
theorem wt_L_ahead : Cond.static yL_ahead ∈ gW := gW_at 924 (by decide +kernel) (by decide +kernel)
abbrev YL_sum : gY := (yL_sum, cL_sum, 5, (some .long), { frames := 8, cells := 300, slots := 1800, locals := 178 })
abbrev ML_sum : gM := (cL_sum, 5, RL, (some .long), [], "sum", YL_sum.2.2.2.2)
theorem yn_L_sum : gName yL_sum 1 := ⟨by decide +kernel, by decide +kernel, by decide +kernel⟩
set_option maxRecDepth 100000 in
theorem wc_L_sum : Cond.code yL_sum cL_sum 5 (some .long) ∈ gW := gW_at 978 rfl (by decide +kernel)
