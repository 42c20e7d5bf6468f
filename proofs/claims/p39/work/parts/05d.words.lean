/-! words, further -/
abbrev MJ0_charAt_5068e : gM := (cJ0_charAt_5068e, 2, RJ0, (some .char), [], "charAt", YJ0_charAt_5068e.2.2.2.2)
theorem yn_J0_charAt_5068e : gName yJ0_charAt_5068e 1 := ⟨by decide +kernel, by decide +kernel, by decide +kernel⟩
theorem wc_J0_charAt_5068e : Cond.code yJ0_charAt_5068e cJ0_charAt_5068e 2 (some .char) ∈ gW := gW_at 1234 (by decide +kernel) (by decide +kernel)
theorem wi_J0_charAt_5068e : Cond.instanceMethod yJ0_charAt_5068e ∈ gW := gW_at 1232 (by decide +kernel) (by decide +kernel)
theorem we_J0_charAt_5068e : Cond.selects RJ0 yJ0_charAt_5068e yJ0_charAt_5068e ∈ gW := gW_at 1233 (by decide +kernel) (by decide +kernel)
abbrev YJ0_getBytes_840e7 : gY := (yJ0_getBytes_840e7, cJ0_getBytes_840e7, 4, none, { frames := 9, cells := 0, slots := 0, locals := 424 })
abbrev MJ0_getBytes_840e7 : gM := (cJ0_getBytes_840e7, 4, RJ0, none, [], "getBytes", YJ0_getBytes_840e7.2.2.2.2)
theorem yn_J0_getBytes_840e7 : gName yJ0_getBytes_840e7 3 := ⟨by decide +kernel, by decide +kernel, by decide +kernel⟩
theorem wc_J0_getBytes_840e7 : Cond.code yJ0_getBytes_840e7 cJ0_getBytes_840e7 4 none ∈ gW := gW_at 1133 (by decide +kernel) (by decide +kernel)
theorem wi_J0_getBytes_840e7 : Cond.instanceMethod yJ0_getBytes_840e7 ∈ gW := gW_at 1131 (by decide +kernel) (by decide +kernel)
theorem we_J0_getBytes_840e7 : Cond.selects RJ0 yJ0_getBytes_840e7 yJ0_getBytes_840e7 ∈ gW := gW_at 1132 (by decide +kernel) (by decide +kernel)
abbrev YJ0_init_db425 : gY := (yJ0_init_db425, cJ0_init_db425, 5, none, { frames := 9, cells := 1, slots := 60, locals := 425 })
abbrev MJ0_init_db425 : gM := (cJ0_init_db425, 5, RJ0, none, [], "<init>", YJ0_init_db425.2.2.2.2)
theorem yn_J0_init_db425 : gName yJ0_init_db425 2 := ⟨by decide +kernel, by decide +kernel, by decide +kernel⟩
theorem wc_J0_init_db425 : Cond.code yJ0_init_db425 cJ0_init_db425 5 none ∈ gW := gW_at 1174 (by decide +kernel) (by decide +kernel)
theorem wi_J0_init_db425 : Cond.instanceMethod yJ0_init_db425 ∈ gW := gW_at 1173 (by decide +kernel) (by decide +kernel)
abbrev YJ0_coder_7d493 : gY := (yJ0_coder_7d493, cJ0_coder_7d493, 1, (some .byte), { frames := 0, cells := 0, slots := 0, locals := 0 })
abbrev MJ0_coder_7d493 : gM := (cJ0_coder_7d493, 1, RJ0, (some .byte), [], "coder", YJ0_coder_7d493.2.2.2.2)
theorem yn_J0_coder_7d493 : gName yJ0_coder_7d493 0 := ⟨by decide +kernel, by decide +kernel, by decide +kernel⟩
theorem wc_J0_coder_7d493 : Cond.code yJ0_coder_7d493 cJ0_coder_7d493 1 (some .byte) ∈ gW := gW_at 1100 (by decide +kernel) (by decide +kernel)
theorem wi_J0_coder_7d493 : Cond.instanceMethod yJ0_coder_7d493 ∈ gW := gW_at 1098 (by decide +kernel) (by decide +kernel)
theorem we_J0_coder_7d493 : Cond.selects RJ0 yJ0_coder_7d493 yJ0_coder_7d493 ∈ gW := gW_at 1099 (by decide +kernel) (by decide +kernel)
abbrev YJ0_isLatin1_aae02 : gY := (yJ0_isLatin1_aae02, cJ0_isLatin1_aae02, 1, (some .boolean), { frames := 0, cells := 0, slots := 0, locals := 0 })
abbrev MJ0_isLatin1_aae02 : gM := (cJ0_isLatin1_aae02, 1, RJ0, (some .boolean), [], "isLatin1", YJ0_isLatin1_aae02.2.2.2.2)
theorem yn_J0_isLatin1_aae02 : gName yJ0_isLatin1_aae02 0 := ⟨by decide +kernel, by decide +kernel, by decide +kernel⟩
theorem wc_J0_isLatin1_aae02 : Cond.code yJ0_isLatin1_aae02 cJ0_isLatin1_aae02 1 (some .boolean) ∈ gW := gW_at 1238 (by decide +kernel) (by decide +kernel)
theorem wi_J0_isLatin1_aae02 : Cond.instanceMethod yJ0_isLatin1_aae02 ∈ gW := gW_at 1236 (by decide +kernel) (by decide +kernel)
theorem we_J0_isLatin1_aae02 : Cond.selects RJ0 yJ0_isLatin1_aae02 yJ0_isLatin1_aae02 ∈ gW := gW_at 1237 (by decide +kernel) (by decide +kernel)
abbrev YJ0_checkIndex_df160 : gY := (yJ0_checkIndex_df160, cJ0_checkIndex_df160, 2, none, { frames := 1, cells := 0, slots := 0, locals := 22 })
abbrev MJ0_checkIndex_df160 : gM := (cJ0_checkIndex_df160, 2, RJ0, none, [], "checkIndex", YJ0_checkIndex_df160.2.2.2.2)
theorem yn_J0_checkIndex_df160 : gName yJ0_checkIndex_df160 2 := ⟨by decide +kernel, by decide +kernel, by decide +kernel⟩
theorem wc_J0_checkIndex_df160 : Cond.code yJ0_checkIndex_df160 cJ0_checkIndex_df160 2 none ∈ gW := gW_at 1244 (by decide +kernel) (by decide +kernel)
theorem wt_J0_checkIndex_df160 : Cond.static yJ0_checkIndex_df160 ∈ gW := gW_at 1243 (by decide +kernel) (by decide +kernel)
abbrev YJ0_checkBoundsOffCount_cabcc : gY := (yJ0_checkBoundsOffCount_cabcc, cJ0_checkBoundsOffCount_cabcc, 3, (some .int), { frames := 9, cells := 0, slots := 0, locals := 423 })
abbrev MJ0_checkBoundsOffCount_cabcc : gM := (cJ0_checkBoundsOffCount_cabcc, 3, RJ0, (some .int), [], "checkBoundsOffCount", YJ0_checkBoundsOffCount_cabcc.2.2.2.2)
theorem yn_J0_checkBoundsOffCount_cabcc : gName yJ0_checkBoundsOffCount_cabcc 3 := ⟨by decide +kernel, by decide +kernel, by decide +kernel⟩
theorem wc_J0_checkBoundsOffCount_cabcc : Cond.code yJ0_checkBoundsOffCount_cabcc cJ0_checkBoundsOffCount_cabcc 3 (some .int) ∈ gW := gW_at 1126 (by decide +kernel) (by decide +kernel)
theorem wt_J0_checkBoundsOffCount_cabcc : Cond.static yJ0_checkBoundsOffCount_cabcc ∈ gW := gW_at 1125 (by decide +kernel) (by decide +kernel)
abbrev YJ0_checkBoundsBeginEnd_23922 : gY := (yJ0_checkBoundsBeginEnd_23922, cJ0_checkBoundsBeginEnd_23922, 3, none, { frames := 9, cells := 0, slots := 0, locals := 423 })
abbrev MJ0_checkBoundsBeginEnd_23922 : gM := (cJ0_checkBoundsBeginEnd_23922, 3, RJ0, none, [], "checkBoundsBeginEnd", YJ0_checkBoundsBeginEnd_23922.2.2.2.2)
theorem yn_J0_checkBoundsBeginEnd_23922 : gName yJ0_checkBoundsBeginEnd_23922 3 := ⟨by decide +kernel, by decide +kernel, by decide +kernel⟩
theorem wc_J0_checkBoundsBeginEnd_23922 : Cond.code yJ0_checkBoundsBeginEnd_23922 cJ0_checkBoundsBeginEnd_23922 3 none ∈ gW := gW_at 1078 (by decide +kernel) (by decide +kernel)
theorem wt_J0_checkBoundsBeginEnd_23922 : Cond.static yJ0_checkBoundsBeginEnd_23922 ∈ gW := gW_at 1077 (by decide +kernel) (by decide +kernel)
abbrev YJ4_init_da8c8 : gY := (yJ4_init_da8c8, cJ4_init_da8c8, 1, none, { frames := 10, cells := 1, slots := 16, locals := 441 })
abbrev MJ4_init_da8c8 : gM := (cJ4_init_da8c8, 1, RJ4, none, [], "<init>", YJ4_init_da8c8.2.2.2.2)
theorem yn_J4_init_da8c8 : gName yJ4_init_da8c8 0 := ⟨by decide +kernel, by decide +kernel, by decide +kernel⟩
theorem wc_J4_init_da8c8 : Cond.code yJ4_init_da8c8 cJ4_init_da8c8 1 none ∈ gW := gW_at 991 (by decide +kernel) (by decide +kernel)
theorem wi_J4_init_da8c8 : Cond.instanceMethod yJ4_init_da8c8 ∈ gW := gW_at 990 (by decide +kernel) (by decide +kernel)
abbrev YJ4_append_15ec4 : gY := (yJ4_append_15ec4, cJ4_append_15ec4, 2, (some (.object "java/lang/StringBuilder")), { frames := 12, cells := 0, slots := 0, locals := 491 })
abbrev MJ4_append_15ec4 : gM := (cJ4_append_15ec4, 2, RJ4, (some (.object "java/lang/StringBuilder")), [], "append", YJ4_append_15ec4.2.2.2.2)
theorem yn_J4_append_15ec4 : gName yJ4_append_15ec4 1 := ⟨by decide +kernel, by decide +kernel, by decide +kernel⟩
theorem wc_J4_append_15ec4 : Cond.code yJ4_append_15ec4 cJ4_append_15ec4 2 (some (.object "java/lang/StringBuilder")) ∈ gW := gW_at 1023 (by decide +kernel) (by decide +kernel)
theorem wi_J4_append_15ec4 : Cond.instanceMethod yJ4_append_15ec4 ∈ gW := gW_at 1021 (by decide +kernel) (by decide +kernel)
theorem we_J4_append_15ec4 : Cond.selects RJ4 yJ4_append_15ec4 yJ4_append_15ec4 ∈ gW := gW_at 1022 (by decide +kernel) (by decide +kernel)
abbrev YJ4_append_bf812 : gY := (yJ4_append_bf812, cJ4_append_bf812, 2, (some (.object "java/lang/StringBuilder")), { frames := 11, cells := 0, slots := 0, locals := 470 })
abbrev MJ4_append_bf812 : gM := (cJ4_append_bf812, 2, RJ4, (some (.object "java/lang/StringBuilder")), [], "append", YJ4_append_bf812.2.2.2.2)
theorem yn_J4_append_bf812 : gName yJ4_append_bf812 1 := ⟨by decide +kernel, by decide +kernel, by decide +kernel⟩
theorem wc_J4_append_bf812 : Cond.code yJ4_append_bf812 cJ4_append_bf812 2 (some (.object "java/lang/StringBuilder")) ∈ gW := gW_at 1139 (by decide +kernel) (by decide +kernel)
theorem wi_J4_append_bf812 : Cond.instanceMethod yJ4_append_bf812 ∈ gW := gW_at 1137 (by decide +kernel) (by decide +kernel)
theorem we_J4_append_bf812 : Cond.selects RJ4 yJ4_append_bf812 yJ4_append_bf812 ∈ gW := gW_at 1138 (by decide +kernel) (by decide +kernel)
abbrev YJ4_toString_0e30d : gY := (yJ4_toString_0e30d, cJ4_toString_0e30d, 1, (some (.object "java/lang/String")), { frames := 11, cells := 2, slots := 64, locals := 470 })
abbrev MJ4_toString_0e30d : gM := (cJ4_toString_0e30d, 1, RJ4, (some (.object "java/lang/String")), [], "toString", YJ4_toString_0e30d.2.2.2.2)
theorem yn_J4_toString_0e30d : gName yJ4_toString_0e30d 0 := ⟨by decide +kernel, by decide +kernel, by decide +kernel⟩
theorem wc_J4_toString_0e30d : Cond.code yJ4_toString_0e30d cJ4_toString_0e30d 1 (some (.object "java/lang/String")) ∈ gW := gW_at 1167 (by decide +kernel) (by decide +kernel)
theorem wi_J4_toString_0e30d : Cond.instanceMethod yJ4_toString_0e30d ∈ gW := gW_at 1165 (by decide +kernel) (by decide +kernel)
theorem we_J4_toString_0e30d : Cond.selects RJ4 yJ4_toString_0e30d yJ4_toString_0e30d ∈ gW := gW_at 1166 (by decide +kernel) (by decide +kernel)
abbrev YJ4_length_8abf5 : gY := (yJ4_length_8abf5, cJ4_length_8abf5, 1, (some .int), { frames := 1, cells := 0, slots := 0, locals := 20 })
abbrev MJ4_length_8abf5 : gM := (cJ4_length_8abf5, 1, RJ4, (some .int), [], "length", YJ4_length_8abf5.2.2.2.2)
theorem yn_J4_length_8abf5 : gName yJ4_length_8abf5 0 := ⟨by decide +kernel, by decide +kernel, by decide +kernel⟩
theorem wc_J4_length_8abf5 : Cond.code yJ4_length_8abf5 cJ4_length_8abf5 1 (some .int) ∈ gW := gW_at 1186 (by decide +kernel) (by decide +kernel)
theorem wi_J4_length_8abf5 : Cond.instanceMethod yJ4_length_8abf5 ∈ gW := gW_at 1185 (by decide +kernel) (by decide +kernel)
abbrev YJ1_charAt_3b067 : gY := (yJ1_charAt_3b067, cJ1_charAt_3b067, 2, (some .char), { frames := 2, cells := 0, slots := 0, locals := 43 })
abbrev MJ1_charAt_3b067 : gM := (cJ1_charAt_3b067, 2, RJ1, (some .char), [], "charAt", YJ1_charAt_3b067.2.2.2.2)
theorem yn_J1_charAt_3b067 : gName yJ1_charAt_3b067 2 := ⟨by decide +kernel, by decide +kernel, by decide +kernel⟩
theorem wc_J1_charAt_3b067 : Cond.code yJ1_charAt_3b067 cJ1_charAt_3b067 2 (some .char) ∈ gW := gW_at 1241 (by decide +kernel) (by decide +kernel)
theorem wt_J1_charAt_3b067 : Cond.static yJ1_charAt_3b067 ∈ gW := gW_at 1240 (by decide +kernel) (by decide +kernel)
abbrev YJ7_checkLength_df160 : gY := (yJ7_checkLength_df160, cJ7_checkLength_df160, 2, none, { frames := 0, cells := 0, slots := 0, locals := 0 })
abbrev MJ7_checkLength_df160 : gM := (cJ7_checkLength_df160, 2, RJ7, none, [], "checkLength", YJ7_checkLength_df160.2.2.2.2)
theorem yn_J7_checkLength_df160 : gName yJ7_checkLength_df160 2 := ⟨by decide +kernel, by decide +kernel, by decide +kernel⟩
theorem wc_J7_checkLength_df160 : Cond.code yJ7_checkLength_df160 cJ7_checkLength_df160 2 none ∈ gW := gW_at 1198 (by decide +kernel) (by decide +kernel)
theorem wt_J7_checkLength_df160 : Cond.static yJ7_checkLength_df160 ∈ gW := gW_at 1197 (by decide +kernel) (by decide +kernel)
abbrev YJ7_copyOfRange_39247 : gY := (yJ7_copyOfRange_39247, cJ7_copyOfRange_39247, 3, (some (.array .byte)), { frames := 2, cells := 1, slots := 60, locals := 72 })
abbrev MJ7_copyOfRange_39247 : gM := (cJ7_copyOfRange_39247, 3, RJ7, (some (.array .byte)), [], "copyOfRange", YJ7_copyOfRange_39247.2.2.2.2)
theorem yn_J7_copyOfRange_39247 : gName yJ7_copyOfRange_39247 3 := ⟨by decide +kernel, by decide +kernel, by decide +kernel⟩
theorem wc_J7_copyOfRange_39247 : Cond.code yJ7_copyOfRange_39247 cJ7_copyOfRange_39247 3 (some (.array .byte)) ∈ gW := gW_at 1192 (by decide +kernel) (by decide +kernel)
theorem wt_J7_copyOfRange_39247 : Cond.static yJ7_copyOfRange_39247 ∈ gW := gW_at 1191 (by decide +kernel) (by decide +kernel)
abbrev YJ7_copyOfRangeByte_39247 : gY := (yJ7_copyOfRangeByte_39247, cJ7_copyOfRangeByte_39247, 5, (some (.array .byte)), { frames := 1, cells := 1, slots := 60, locals := 48 })
abbrev MJ7_copyOfRangeByte_39247 : gM := (cJ7_copyOfRangeByte_39247, 5, RJ7, (some (.array .byte)), [], "copyOfRangeByte", YJ7_copyOfRangeByte_39247.2.2.2.2)
theorem yn_J7_copyOfRangeByte_39247 : gName yJ7_copyOfRangeByte_39247 3 := ⟨by decide +kernel, by decide +kernel, by decide +kernel⟩
theorem wc_J7_copyOfRangeByte_39247 : Cond.code yJ7_copyOfRangeByte_39247 cJ7_copyOfRangeByte_39247 5 (some (.array .byte)) ∈ gW := gW_at 1195 (by decide +kernel) (by decide +kernel)
theorem wt_J7_copyOfRangeByte_39247 : Cond.static yJ7_copyOfRangeByte_39247 ∈ gW := gW_at 1194 (by decide +kernel) (by decide +kernel)
abbrev YJ3_checkIndex_8e157 : gY := (yJ3_checkIndex_8e157, cJ3_checkIndex_8e157, 3, (some .int), { frames := 0, cells := 0, slots := 0, locals := 0 })
abbrev MJ3_checkIndex_8e157 : gM := (cJ3_checkIndex_8e157, 3, RJ3, (some .int), [], "checkIndex", YJ3_checkIndex_8e157.2.2.2.2)
theorem yn_J3_checkIndex_8e157 : gName yJ3_checkIndex_8e157 3 := ⟨by decide +kernel, by decide +kernel, by decide +kernel⟩
theorem wc_J3_checkIndex_8e157 : Cond.code yJ3_checkIndex_8e157 cJ3_checkIndex_8e157 3 (some .int) ∈ gW := gW_at 1247 (by decide +kernel) (by decide +kernel)
theorem wt_J3_checkIndex_8e157 : Cond.static yJ3_checkIndex_8e157 ∈ gW := gW_at 1246 (by decide +kernel) (by decide +kernel)
abbrev YL_cell : gY := (yL_cell, cL_cell, 2, (some .int), { frames := 0, cells := 0, slots := 0, locals := 0 })
abbrev ML_cell : gM := (cL_cell, 2, RL, (some .int), [], "cell", YL_cell.2.2.2.2)
theorem yn_L_cell : gName yL_cell 2 := ⟨by decide +kernel, by decide +kernel, by decide +kernel⟩
theorem wc_L_cell : Cond.code yL_cell cL_cell 2 (some .int) ∈ gW := gW_at 247 (by decide +kernel) (by decide +kernel)
theorem wt_L_cell : Cond.static yL_cell ∈ gW := gW_at 246 (by decide +kernel) (by decide +kernel)
abbrev YL_set : gY := (yL_set, cL_set, 4, (some .int), { frames := 7, cells := 1, slots := 6, locals := 153 })
abbrev ML_set : gM := (cL_set, 4, RL, (some .int), tableOf [((0), (6), (7), (14))], "set", YL_set.2.2.2.2)
theorem yn_L_set : gName yL_set 3 := ⟨by decide +kernel, by decide +kernel, by decide +kernel⟩
theorem wc_L_set : Cond.codeWith yL_set cL_set 4 (some .int) [((0), (6), (7), (14))] ∈ gW := gW_at 251 (by decide +kernel) (by decide +kernel)
theorem wt_L_set : Cond.static yL_set ∈ gW := gW_at 250 (by decide +kernel) (by decide +kernel)
abbrev YL_drill : gY := (yL_drill, cL_drill, 3, (some .int), { frames := 7, cells := 1, slots := 6, locals := 151 })
abbrev ML_drill : gM := (cL_drill, 3, RL, (some .int), tableOf [((0), (5), (6), (20))], "drill", YL_drill.2.2.2.2)
theorem yn_L_drill : gName yL_drill 2 := ⟨by decide +kernel, by decide +kernel, by decide +kernel⟩
theorem wc_L_drill : Cond.codeWith yL_drill cL_drill 3 (some .int) [((0), (5), (6), (20))] ∈ gW := gW_at 547 (by decide +kernel) (by decide +kernel)
