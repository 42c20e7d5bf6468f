/-! words, further -/
theorem wt_L_sum : Cond.static yL_sum ∈ gW := gW_at 977 (by decide +kernel) (by decide +kernel)
abbrev YL_undone : gY := (yL_undone, cL_undone, 7, (some .boolean), { frames := 13, cells := 9000, slots := 54000, locals := 512 })
abbrev ML_undone : gM := (cL_undone, 7, RL, (some .boolean), [], "undone", YL_undone.2.2.2.2)
theorem yn_L_undone : gName yL_undone 2 := ⟨by decide +kernel, by decide +kernel, by decide +kernel⟩
set_option maxRecDepth 100000 in
theorem wc_L_undone : Cond.code yL_undone cL_undone 7 (some .boolean) ∈ gW := gW_at 975 rfl (by decide +kernel)
