/-! words, further -/
theorem wt_L_drawn : Cond.static yL_drawn ∈ gW := gW_at 41 (by decide +kernel) (by decide +kernel)
abbrev YL_miles : gY := (yL_miles, cL_miles, 12, (some .boolean), { frames := 8, cells := 320, slots := 1920, locals := 176 })
abbrev ML_miles : gM := (cL_miles, 12, RL, (some .boolean), [], "miles", YL_miles.2.2.2.2)
theorem yn_L_miles : gName yL_miles 1 := ⟨by decide +kernel, by decide +kernel, by decide +kernel⟩
set_option maxRecDepth 100000 in
theorem wc_L_miles : Cond.code yL_miles cL_miles 12 (some .boolean) ∈ gW := gW_at 682 rfl (by decide +kernel)
