/-! words, further -/
theorem kc_L_268 : Cond.constantLong RL 268 (47) ∈ gW := gW_at 984 (by decide +kernel) (by decide +kernel)
theorem kc_L_270 : Cond.constantLong RL 270 (53) ∈ gW := gW_at 985 (by decide +kernel) (by decide +kernel)
theorem kc_L_272 : Cond.constantLong RL 272 (59) ∈ gW := gW_at 986 (by decide +kernel) (by decide +kernel)
theorem ml_L_274 : Cond.methodLink RL 274 yL_sum ∈ gW := gW_at 976 (by decide +kernel) (by decide +kernel)
theorem ss_L_274 : GoodIn gW (va_wsS RL 274 yL_sum (Cond.code yL_sum cL_sum 5 (some .long) :: gW)) := gIn_S ml_L_274 wt_L_sum (gW_at 8 (by decide +kernel) (by decide +kernel)) wc_L_sum
theorem cl_L_278 : Cond.classLink RL 278 RJ4 ∈ gW := gW_at 987 (by decide +kernel) (by decide +kernel)
theorem ml_L_280 : Cond.methodLink RL 280 yJ4_init_da8c8 ∈ gW := gW_at 989 (by decide +kernel) (by decide +kernel)
theorem ml_L_283 : Cond.methodLink RL 283 yJ4_append_15ec4 ∈ gW := gW_at 1020 (by decide +kernel) (by decide +kernel)
theorem sv_L_283 : GoodIn gW (wsV RL 283 RJ4 yJ4_append_15ec4 (Cond.code yJ4_append_15ec4 cJ4_append_15ec4 2 (some (.object "java/lang/StringBuilder")) :: gW)) := gIn_V ml_L_283 wi_J4_append_15ec4 we_J4_append_15ec4 ini_J4 wc_J4_append_15ec4
theorem ml_L_286 : Cond.methodLink RL 286 yJ4_append_bf812 ∈ gW := gW_at 1136 (by decide +kernel) (by decide +kernel)
theorem sv_L_286 : GoodIn gW (wsV RL 286 RJ4 yJ4_append_bf812 (Cond.code yJ4_append_bf812 cJ4_append_bf812 2 (some (.object "java/lang/StringBuilder")) :: gW)) := gIn_V ml_L_286 wi_J4_append_bf812 we_J4_append_bf812 ini_J4 wc_J4_append_bf812
theorem ml_L_295 : Cond.methodLink RL 295 yJ4_toString_0e30d ∈ gW := gW_at 1164 (by decide +kernel) (by decide +kernel)
theorem sv_L_295 : GoodIn gW (wsV RL 295 RJ4 yJ4_toString_0e30d (Cond.code yJ4_toString_0e30d cJ4_toString_0e30d 1 (some (.object "java/lang/String")) :: gW)) := gIn_V ml_L_295 wi_J4_toString_0e30d we_J4_toString_0e30d ini_J4 wc_J4_toString_0e30d
theorem ml_L_299 : Cond.methodLink RL 299 yL_read ∈ gW := gW_at 1227 (by decide +kernel) (by decide +kernel)
theorem ss_L_299 : GoodIn gW (va_wsS RL 299 yL_read (Cond.code yL_read cL_read 3 (some .int) :: gW)) := gIn_S ml_L_299 wt_L_read (gW_at 8 (by decide +kernel) (by decide +kernel)) wc_L_read
