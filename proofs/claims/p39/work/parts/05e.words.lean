/-! words, further -/
abbrev ML_drill : gM := (cL_drill, 3, RL, (some .int), tableOf [((0), (5), (6), (20))], "drill", YL_drill.2.2.2.2)
theorem yn_L_drill : gName yL_drill 2 := ⟨by decide +kernel, by decide +kernel, by decide +kernel⟩
theorem wc_L_drill : Cond.codeWith yL_drill cL_drill 3 (some .int) [((0), (5), (6), (20))] ∈ gW := gW_at 547 (by decide +kernel) (by decide +kernel)
theorem wt_L_drill : Cond.static yL_drill ∈ gW := gW_at 546 (by decide +kernel) (by decide +kernel)
abbrev YL_drilled : gY := (yL_drilled, cL_drilled, 3, (some .int), { frames := 7, cells := 1, slots := 6, locals := 151 })
abbrev ML_drilled : gM := (cL_drilled, 3, RL, (some .int), tableOf [((0), (5), (6), (20)), ((0), (5), (10), (25))], "drilled", YL_drilled.2.2.2.2)
theorem yn_L_drilled : gName yL_drilled 2 := ⟨by decide +kernel, by decide +kernel, by decide +kernel⟩
theorem wc_L_drilled : Cond.codeWith yL_drilled cL_drilled 3 (some .int) [((0), (5), (6), (20)), ((0), (5), (10), (25))] ∈ gW := gW_at 730 (by decide +kernel) (by decide +kernel)
theorem wt_L_drilled : Cond.static yL_drilled ∈ gW := gW_at 729 (by decide +kernel) (by decide +kernel)
abbrev YL_mileOf : gY := (yL_mileOf, cL_mileOf, 4, (some .int), { frames := 7, cells := 1, slots := 6, locals := 153 })
abbrev ML_mileOf : gM := (cL_mileOf, 4, RL, (some .int), tableOf [((0), (6), (7), (20)), ((0), (6), (11), (14))], "mileOf", YL_mileOf.2.2.2.2)
theorem yn_L_mileOf : gName yL_mileOf 3 := ⟨by decide +kernel, by decide +kernel, by decide +kernel⟩
theorem wc_L_mileOf : Cond.codeWith yL_mileOf cL_mileOf 4 (some .int) [((0), (6), (7), (20)), ((0), (6), (11), (14))] ∈ gW := gW_at 685 (by decide +kernel) (by decide +kernel)
theorem wt_L_mileOf : Cond.static yL_mileOf ∈ gW := gW_at 684 (by decide +kernel) (by decide +kernel)
abbrev YL_truck : gY := (yL_truck, cL_truck, 6, (some .int), { frames := 7, cells := 1, slots := 6, locals := 155 })
abbrev ML_truck : gM := (cL_truck, 6, RL, (some .int), tableOf [((0), (9), (10), (20)), ((0), (9), (14), (14)), ((0), (9), (19), (34))], "truck", YL_truck.2.2.2.2)
theorem yn_L_truck : gName yL_truck 5 := ⟨by decide +kernel, by decide +kernel, by decide +kernel⟩
theorem wc_L_truck : Cond.codeWith yL_truck cL_truck 6 (some .int) [((0), (9), (10), (20)), ((0), (9), (14), (14)), ((0), (9), (19), (34))] ∈ gW := gW_at 425 (by decide +kernel) (by decide +kernel)
theorem wt_L_truck : Cond.static yL_truck ∈ gW := gW_at 424 (by decide +kernel) (by decide +kernel)
abbrev YL_inRow : gY := (yL_inRow, cL_inRow, 5, (some .int), { frames := 7, cells := 1, slots := 6, locals := 154 })
abbrev ML_inRow : gM := (cL_inRow, 5, RL, (some .int), tableOf [((0), (7), (8), (20)), ((0), (7), (13), (25)), ((0), (7), (18), (14))], "inRow", YL_inRow.2.2.2.2)
theorem yn_L_inRow : gName yL_inRow 4 := ⟨by decide +kernel, by decide +kernel, by decide +kernel⟩
theorem wc_L_inRow : Cond.codeWith yL_inRow cL_inRow 5 (some .int) [((0), (7), (8), (20)), ((0), (7), (13), (25)), ((0), (7), (18), (14))] ∈ gW := gW_at 798 (by decide +kernel) (by decide +kernel)
theorem wt_L_inRow : Cond.static yL_inRow ∈ gW := gW_at 797 (by decide +kernel) (by decide +kernel)
abbrev YL_convoy : gY := (yL_convoy, cL_convoy, 3, (some .int), { frames := 7, cells := 1, slots := 6, locals := 152 })
abbrev ML_convoy : gM := (cL_convoy, 3, RL, (some .int), tableOf [((0), (5), (6), (14)), ((0), (5), (9), (34))], "convoy", YL_convoy.2.2.2.2)
theorem yn_L_convoy : gName yL_convoy 2 := ⟨by decide +kernel, by decide +kernel, by decide +kernel⟩
theorem wc_L_convoy : Cond.codeWith yL_convoy cL_convoy 3 (some .int) [((0), (5), (6), (14)), ((0), (5), (9), (34))] ∈ gW := gW_at 397 (by decide +kernel) (by decide +kernel)
theorem wt_L_convoy : Cond.static yL_convoy ∈ gW := gW_at 396 (by decide +kernel) (by decide +kernel)
abbrev YL_join : gY := (yL_join, cL_join, 5, (some .int), { frames := 7, cells := 1, slots := 6, locals := 154 })
abbrev ML_join : gM := (cL_join, 5, RL, (some .int), tableOf [((0), (7), (8), (20)), ((0), (7), (12), (25)), ((0), (7), (17), (34))], "join", YL_join.2.2.2.2)
theorem yn_L_join : gName yL_join 4 := ⟨by decide +kernel, by decide +kernel, by decide +kernel⟩
theorem wc_L_join : Cond.codeWith yL_join cL_join 5 (some .int) [((0), (7), (8), (20)), ((0), (7), (12), (25)), ((0), (7), (17), (34))] ∈ gW := gW_at 500 (by decide +kernel) (by decide +kernel)
theorem wt_L_join : Cond.static yL_join ∈ gW := gW_at 499 (by decide +kernel) (by decide +kernel)
abbrev YL_start : gY := (yL_start, cL_start, 3, (some .int), { frames := 7, cells := 1, slots := 6, locals := 152 })
abbrev ML_start : gM := (cL_start, 3, RL, (some .int), tableOf [((0), (5), (6), (20)), ((0), (5), (9), (34))], "start", YL_start.2.2.2.2)
theorem yn_L_start : gName yL_start 2 := ⟨by decide +kernel, by decide +kernel, by decide +kernel⟩
theorem wc_L_start : Cond.codeWith yL_start cL_start 3 (some .int) [((0), (5), (6), (20)), ((0), (5), (9), (34))] ∈ gW := gW_at 580 (by decide +kernel) (by decide +kernel)
theorem wt_L_start : Cond.static yL_start ∈ gW := gW_at 579 (by decide +kernel) (by decide +kernel)
abbrev YL_roll : gY := (yL_roll, cL_roll, 3, (some .int), { frames := 7, cells := 1, slots := 6, locals := 152 })
abbrev ML_roll : gM := (cL_roll, 3, RL, (some .int), tableOf [((0), (5), (6), (20)), ((0), (5), (9), (34))], "roll", YL_roll.2.2.2.2)
theorem yn_L_roll : gName yL_roll 2 := ⟨by decide +kernel, by decide +kernel, by decide +kernel⟩
theorem wc_L_roll : Cond.codeWith yL_roll cL_roll 3 (some .int) [((0), (5), (6), (20)), ((0), (5), (9), (34))] ∈ gW := gW_at 648 (by decide +kernel) (by decide +kernel)
theorem wt_L_roll : Cond.static yL_roll ∈ gW := gW_at 647 (by decide +kernel) (by decide +kernel)
abbrev YL_why : gY := (yL_why, cL_why, 4, (some .int), { frames := 7, cells := 1, slots := 6, locals := 153 })
abbrev ML_why : gM := (cL_why, 4, RL, (some .int), tableOf [((0), (6), (7), (20))], "why", YL_why.2.2.2.2)
theorem yn_L_why : gName yL_why 3 := ⟨by decide +kernel, by decide +kernel, by decide +kernel⟩
theorem wc_L_why : Cond.codeWith yL_why cL_why 4 (some .int) [((0), (6), (7), (20))] ∈ gW := gW_at 890 (by decide +kernel) (by decide +kernel)
theorem wt_L_why : Cond.static yL_why ∈ gW := gW_at 889 (by decide +kernel) (by decide +kernel)
abbrev YL_convoyOf : gY := (yL_convoyOf, cL_convoyOf, 4, (some .int), { frames := 7, cells := 1, slots := 6, locals := 153 })
abbrev ML_convoyOf : gM := (cL_convoyOf, 4, RL, (some .int), tableOf [((0), (6), (7), (20)), ((0), (6), (11), (14))], "convoyOf", YL_convoyOf.2.2.2.2)
theorem yn_L_convoyOf : gName yL_convoyOf 3 := ⟨by decide +kernel, by decide +kernel, by decide +kernel⟩
theorem wc_L_convoyOf : Cond.codeWith yL_convoyOf cL_convoyOf 4 (some .int) [((0), (6), (7), (20)), ((0), (6), (11), (14))] ∈ gW := gW_at 809 (by decide +kernel) (by decide +kernel)
theorem wt_L_convoyOf : Cond.static yL_convoyOf ∈ gW := gW_at 808 (by decide +kernel) (by decide +kernel)
abbrev YL_truckOf : gY := (yL_truckOf, cL_truckOf, 5, (some .int), { frames := 7, cells := 1, slots := 6, locals := 154 })
abbrev ML_truckOf : gM := (cL_truckOf, 5, RL, (some .int), tableOf [((0), (7), (8), (20)), ((0), (7), (13), (14))], "truckOf", YL_truckOf.2.2.2.2)
theorem yn_L_truckOf : gName yL_truckOf 4 := ⟨by decide +kernel, by decide +kernel, by decide +kernel⟩
theorem wc_L_truckOf : Cond.codeWith yL_truckOf cL_truckOf 5 (some .int) [((0), (7), (8), (20)), ((0), (7), (13), (14))] ∈ gW := gW_at 820 (by decide +kernel) (by decide +kernel)
theorem wt_L_truckOf : Cond.static yL_truckOf ∈ gW := gW_at 819 (by decide +kernel) (by decide +kernel)
abbrev YL_at : gY := (yL_at, cL_at, 3, (some .int), { frames := 7, cells := 1, slots := 6, locals := 152 })
abbrev ML_at : gM := (cL_at, 3, RL, (some .int), tableOf [((0), (5), (6), (20)), ((0), (5), (10), (25))], "at", YL_at.2.2.2.2)
theorem yn_L_at : gName yL_at 2 := ⟨by decide +kernel, by decide +kernel, by decide +kernel⟩
theorem wc_L_at : Cond.codeWith yL_at cL_at 3 (some .int) [((0), (5), (6), (20)), ((0), (5), (10), (25))] ∈ gW := gW_at 744 (by decide +kernel) (by decide +kernel)
theorem wt_L_at : Cond.static yL_at ∈ gW := gW_at 743 (by decide +kernel) (by decide +kernel)
abbrev YL_rolls : gY := (yL_rolls, cL_rolls, 4, (some .int), { frames := 7, cells := 1, slots := 6, locals := 152 })
abbrev ML_rolls : gM := (cL_rolls, 4, RL, (some .int), tableOf [((0), (17), (18), (20))], "rolls", YL_rolls.2.2.2.2)
theorem yn_L_rolls : gName yL_rolls 3 := ⟨by decide +kernel, by decide +kernel, by decide +kernel⟩
theorem wc_L_rolls : Cond.codeWith yL_rolls cL_rolls 4 (some .int) [((0), (17), (18), (20))] ∈ gW := gW_at 928 (by decide +kernel) (by decide +kernel)
theorem wt_L_rolls : Cond.static yL_rolls ∈ gW := gW_at 927 (by decide +kernel) (by decide +kernel)
abbrev YL_iceIn : gY := (yL_iceIn, cL_iceIn, 4, (some .int), { frames := 7, cells := 1, slots := 6, locals := 154 })
abbrev ML_iceIn : gM := (cL_iceIn, 4, RL, (some .int), tableOf [((0), (6), (7), (20)), ((0), (6), (11), (14))], "iceIn", YL_iceIn.2.2.2.2)
theorem yn_L_iceIn : gName yL_iceIn 3 := ⟨by decide +kernel, by decide +kernel, by decide +kernel⟩
theorem wc_L_iceIn : Cond.codeWith yL_iceIn cL_iceIn 4 (some .int) [((0), (6), (7), (20)), ((0), (6), (11), (14))] ∈ gW := gW_at 968 (by decide +kernel) (by decide +kernel)
theorem wt_L_iceIn : Cond.static yL_iceIn ∈ gW := gW_at 967 (by decide +kernel) (by decide +kernel)
abbrev YL_bearsIn : gY := (yL_bearsIn, cL_bearsIn, 4, (some .int), { frames := 7, cells := 1, slots := 6, locals := 154 })
abbrev ML_bearsIn : gM := (cL_bearsIn, 4, RL, (some .int), tableOf [((0), (6), (7), (20)), ((0), (6), (11), (14)), ((0), (6), (15), (25))], "bearsIn", YL_bearsIn.2.2.2.2)
theorem yn_L_bearsIn : gName yL_bearsIn 3 := ⟨by decide +kernel, by decide +kernel, by decide +kernel⟩
theorem wc_L_bearsIn : Cond.codeWith yL_bearsIn cL_bearsIn 4 (some .int) [((0), (6), (7), (20)), ((0), (6), (11), (14)), ((0), (6), (15), (25))] ∈ gW := gW_at 958 (by decide +kernel) (by decide +kernel)
theorem wt_L_bearsIn : Cond.static yL_bearsIn ∈ gW := gW_at 957 (by decide +kernel) (by decide +kernel)
abbrev YL_pass : gY := (yL_pass, cL_pass, 3, (some .int), { frames := 7, cells := 1, slots := 6, locals := 152 })
abbrev ML_pass : gM := (cL_pass, 3, RL, (some .int), tableOf [((0), (5), (6), (14))], "pass", YL_pass.2.2.2.2)
theorem yn_L_pass : gName yL_pass 2 := ⟨by decide +kernel, by decide +kernel, by decide +kernel⟩
theorem wc_L_pass : Cond.codeWith yL_pass cL_pass 3 (some .int) [((0), (5), (6), (14))] ∈ gW := gW_at 360 (by decide +kernel) (by decide +kernel)
theorem wt_L_pass : Cond.static yL_pass ∈ gW := gW_at 359 (by decide +kernel) (by decide +kernel)
abbrev YL_refusal : gY := (yL_refusal, cL_refusal, 3, (some .int), { frames := 7, cells := 1, slots := 6, locals := 151 })
abbrev ML_refusal : gM := (cL_refusal, 3, RL, (some .int), tableOf [((0), (5), (6), (25))], "refusal", YL_refusal.2.2.2.2)
theorem yn_L_refusal : gName yL_refusal 2 := ⟨by decide +kernel, by decide +kernel, by decide +kernel⟩
theorem wc_L_refusal : Cond.codeWith yL_refusal cL_refusal 3 (some .int) [((0), (5), (6), (25))] ∈ gW := gW_at 674 (by decide +kernel) (by decide +kernel)
theorem wt_L_refusal : Cond.static yL_refusal ∈ gW := gW_at 673 (by decide +kernel) (by decide +kernel)
abbrev YL_append : gY := (yL_append, cL_append, 3, (some .int), { frames := 7, cells := 1, slots := 6, locals := 151 })
abbrev ML_append : gM := (cL_append, 3, RL, (some .int), tableOf [((0), (5), (6), (88))], "append", YL_append.2.2.2.2)
theorem yn_L_append : gName yL_append 2 := ⟨by decide +kernel, by decide +kernel, by decide +kernel⟩
theorem wc_L_append : Cond.codeWith yL_append cL_append 3 (some .int) [((0), (5), (6), (88))] ∈ gW := gW_at 1257 (by decide +kernel) (by decide +kernel)
theorem wt_L_append : Cond.static yL_append ∈ gW := gW_at 1256 (by decide +kernel) (by decide +kernel)
abbrev YL_does : gY := (yL_does, cL_does, 2, (some .int), { frames := 7, cells := 1, slots := 6, locals := 160 })
abbrev ML_does : gM := (cL_does, 2, RL, (some .int), tableOf [((0), (4), (5), (14)), ((0), (4), (8), (34))], "does", YL_does.2.2.2.2)
theorem yn_L_does : gName yL_does 1 := ⟨by decide +kernel, by decide +kernel, by decide +kernel⟩
theorem wc_L_does : Cond.codeWith yL_does cL_does 2 (some .int) [((0), (4), (5), (14)), ((0), (4), (8), (34))] ∈ gW := gW_at 1265 (by decide +kernel) (by decide +kernel)
theorem wt_L_does : Cond.static yL_does ∈ gW := gW_at 1264 (by decide +kernel) (by decide +kernel)
abbrev YL_read : gY := (yL_read, cL_read, 3, (some .int), { frames := 10, cells := 64, slots := 384, locals := 442 })
abbrev ML_read : gM := (cL_read, 3, RL, (some .int), [], "read", YL_read.2.2.2.2)
theorem yn_L_read : gName yL_read 2 := ⟨by decide +kernel, by decide +kernel, by decide +kernel⟩
theorem wc_L_read : Cond.code yL_read cL_read 3 (some .int) ∈ gW := gW_at 1229 (by decide +kernel) (by decide +kernel)
theorem wt_L_read : Cond.static yL_read ∈ gW := gW_at 1228 (by decide +kernel) (by decide +kernel)
abbrev YL_undo : gY := (yL_undo, cL_undo, 2, (some .int), { frames := 7, cells := 1, slots := 6, locals := 150 })
abbrev ML_undo : gM := (cL_undo, 2, RL, (some .int), tableOf [((0), (4), (5), (88))], "undo", YL_undo.2.2.2.2)
theorem yn_L_undo : gName yL_undo 1 := ⟨by decide +kernel, by decide +kernel, by decide +kernel⟩
theorem wc_L_undo : Cond.codeWith yL_undo cL_undo 2 (some .int) [((0), (4), (5), (88))] ∈ gW := gW_at 897 (by decide +kernel) (by decide +kernel)
theorem wt_L_undo : Cond.static yL_undo ∈ gW := gW_at 896 (by decide +kernel) (by decide +kernel)
abbrev YL_bears : gY := (yL_bears, cL_bears, 2, (some .float), { frames := 7, cells := 1, slots := 6, locals := 151 })
