/-! words, further -/
abbrev ML_bears : gM := (cL_bears, 2, RL, (some .float), [], "bears", YL_bears.2.2.2.2)
theorem yn_L_bears : gName yL_bears 2 := ⟨by decide +kernel, by decide +kernel, by decide +kernel⟩
theorem wc_L_bears : Cond.code yL_bears cL_bears 2 (some .float) ∈ gW := gW_at 757 (by decide +kernel) (by decide +kernel)
theorem wt_L_bears : Cond.static yL_bears ∈ gW := gW_at 756 (by decide +kernel) (by decide +kernel)
abbrev YL_drawn : gY := (yL_drawn, cL_drawn, 10, (some (.object "IceConvoys")), { frames := 8, cells := 700, slots := 6000, locals := 180 })
abbrev ML_drawn : gM := (cL_drawn, 10, RL, (some (.object "IceConvoys")), [], "drawn", YL_drawn.2.2.2.2)
theorem yn_L_drawn : gName yL_drawn 1 := ⟨by decide +kernel, by decide +kernel, by decide +kernel⟩
set_option maxRecDepth 100000 in
theorem wc_L_drawn : Cond.code yL_drawn cL_drawn 10 (some (.object "IceConvoys")) ∈ gW := gW_at 42 rfl (by decide +kernel)
