/-! printed by wip/whole/mk_words.py: words by their places, methods with their room, call sites -/
theorem gW_r (ws : List Cond) (ps : List Nat) (hp : ws = ps.filterMap (fun i => lw_tbl[i]?)) (h : ws.all goodWord = true) : ∀ w ∈ ws, w ∈ gW := by
  intro w hw
  have h1 := List.all_eq_true.mp h w hw
  rw [hp] at hw
  obtain ⟨i, -, hi⟩ := List.mem_filterMap.mp hw
  exact List.mem_filter.mpr ⟨(by first | exact List.mem_of_getElem? hi | exact List.getElem?_mem hi), h1⟩
def gRoomB (Y : gY) (M : gM) (cu su : Nat) : Bool := Nat.ble (Y.2.2.2.2.frames + 1) M.2.2.2.2.2.2.frames && (Nat.ble (8 + (Y.2.2.1 + 11) + Y.2.2.2.2.locals) M.2.2.2.2.2.2.locals && (Nat.ble (cu + Y.2.2.2.2.cells) M.2.2.2.2.2.2.cells && Nat.ble (su + Y.2.2.2.2.slots) M.2.2.2.2.2.2.slots))
theorem gRoom_of {Y : gY} {M : gM} {cu su : Nat} (h : gRoomB Y M cu su = true) : gRoom Y M cu su := by
  simp only [gRoomB, Bool.and_eq_true] at h
  exact ⟨Nat.le_of_ble_eq_true h.1, Nat.le_of_ble_eq_true h.2.1, Nat.le_of_ble_eq_true h.2.2.1, Nat.le_of_ble_eq_true h.2.2.2⟩

theorem inX0 : ∀ w ∈ u_ws RX0 TX0 4, w ∈ gW := gW_r _ [154, 156, 158, 160] (by decide +kernel) (by decide +kernel)
theorem ini_X0 : Cond.initialized RX0 ∈ gW := gW_at 56 (by decide +kernel) (by decide +kernel)
theorem new_X0 : Cond.instantiable RX0 4 ∈ gW := gW_at 137 (by decide +kernel) (by decide +kernel)
theorem inX1 : ∀ w ∈ u_ws RX1 TX1 3, w ∈ gW := gW_r _ [216, 218, 220] (by decide +kernel) (by decide +kernel)
theorem ini_X1 : Cond.initialized RX1 ∈ gW := gW_at 57 (by decide +kernel) (by decide +kernel)
theorem new_X1 : Cond.instantiable RX1 3 ∈ gW := gW_at 204 (by decide +kernel) (by decide +kernel)
theorem inX2 : ∀ w ∈ u_ws RX2 TX2 6, w ∈ gW := gW_r _ [123, 125, 127, 129, 131, 133] (by decide +kernel) (by decide +kernel)
theorem ini_X2 : Cond.initialized RX2 ∈ gW := gW_at 55 (by decide +kernel) (by decide +kernel)
theorem new_X2 : Cond.instantiable RX2 6 ∈ gW := gW_at 101 (by decide +kernel) (by decide +kernel)
theorem inX3 : ∀ w ∈ u_ws RX3 TX3 8, w ∈ gW := gW_r _ [240, 242, 244, 246, 248, 250, 252, 254] (by decide +kernel) (by decide +kernel)
theorem ini_X3 : Cond.initialized RX3 ∈ gW := gW_at 58 (by decide +kernel) (by decide +kernel)
theorem new_X3 : Cond.instantiable RX3 8 ∈ gW := gW_at 224 (by decide +kernel) (by decide +kernel)
theorem inX4 : ∀ w ∈ u_ws RX4 TX4 9, w ∈ gW := gW_r _ [184, 186, 188, 190, 192, 194, 196, 198, 200] (by decide +kernel) (by decide +kernel)
theorem ini_X4 : Cond.initialized RX4 ∈ gW := gW_at 54 (by decide +kernel) (by decide +kernel)
theorem new_X4 : Cond.instantiable RX4 9 ∈ gW := gW_at 90 (by decide +kernel) (by decide +kernel)
theorem inX5 : ∀ w ∈ u_ws RX5 TX5 3, w ∈ gW := gW_r _ [648, 650, 652] (by decide +kernel) (by decide +kernel)
theorem ini_X5 : Cond.initialized RX5 ∈ gW := gW_at 73 (by decide +kernel) (by decide +kernel)
theorem new_X5 : Cond.instantiable RX5 3 ∈ gW := gW_at 635 (by decide +kernel) (by decide +kernel)
theorem inX6 : ∀ w ∈ u_ws RX6 TX6 8, w ∈ gW := gW_r _ [266, 268, 270, 272, 274, 276, 278, 280] (by decide +kernel) (by decide +kernel)
theorem ini_X6 : Cond.initialized RX6 ∈ gW := gW_at 53 (by decide +kernel) (by decide +kernel)
theorem new_X6 : Cond.instantiable RX6 8 ∈ gW := gW_at 82 (by decide +kernel) (by decide +kernel)
theorem inX7 : ∀ w ∈ u_ws RX7 TX7 18, w ∈ gW := gW_r _ [1118, 1120, 1122, 1124, 1126, 1128, 1130, 1132, 1134, 1136, 1138, 1140, 1142, 1144, 1146, 1148, 1150, 1152] (by decide +kernel) (by decide +kernel)
theorem ini_X7 : Cond.initialized RX7 ∈ gW := gW_at 59 (by decide +kernel) (by decide +kernel)
theorem new_X7 : Cond.instantiable RX7 18 ∈ gW := gW_at 1076 (by decide +kernel) (by decide +kernel)
theorem ini_L : Cond.initialized RL ∈ gW := gW_at 52 (by decide +kernel) (by decide +kernel)
theorem arr_int : Cond.arrayClass .int ∈ gW := gW_at 136 (by decide +kernel) (by decide +kernel)
theorem arr_char : Cond.arrayClass .char ∈ gW := gW_at 257 (by decide +kernel) (by decide +kernel)
theorem arr_long : Cond.arrayClass .long ∈ gW := gW_at 1597 (by decide +kernel) (by decide +kernel)
theorem arr_double : Cond.arrayClass .double ∈ gW := gW_at 1598 (by decide +kernel) (by decide +kernel)
theorem obj_inst : Cond.instanceMethod Lib.objectInit ∈ gW := gW_at 87 (by decide +kernel) (by decide +kernel)
theorem obj_code : Cond.code Lib.objectInit ⟨#[0xb1]⟩ 1 none ∈ gW := gW_at 88 (by decide +kernel) (by decide +kernel)
abbrev YX0_init : gY := (yX0_init, cX0_init, 1, none, { frames := 1, cells := 1, slots := 4, locals := 24 })
abbrev MX0_init : gM := (cX0_init, 1, RX0, none, [], "<init>", YX0_init.2.2.2.2)
theorem yn_X0_init : gName yX0_init 0 := ⟨by decide +kernel, by decide +kernel, by decide +kernel⟩
theorem wc_X0_init : Cond.code yX0_init cX0_init 1 none ∈ gW := gW_at 140 (by decide +kernel) (by decide +kernel)
theorem wi_X0_init : Cond.instanceMethod yX0_init ∈ gW := gW_at 139 (by decide +kernel) (by decide +kernel)
abbrev YX0_copyFrom : gY := (yX0_copyFrom, cX0_copyFrom, 3, none, { frames := 0, cells := 0, slots := 0, locals := 0 })
abbrev MX0_copyFrom : gM := (cX0_copyFrom, 3, RX0, none, [], "copyFrom", YX0_copyFrom.2.2.2.2)
theorem yn_X0_copyFrom : gName yX0_copyFrom 1 := ⟨by decide +kernel, by decide +kernel, by decide +kernel⟩
theorem wc_X0_copyFrom : Cond.code yX0_copyFrom cX0_copyFrom 3 none ∈ gW := gW_at 375 (by decide +kernel) (by decide +kernel)
theorem wi_X0_copyFrom : Cond.instanceMethod yX0_copyFrom ∈ gW := gW_at 373 (by decide +kernel) (by decide +kernel)
theorem we_X0_copyFrom : Cond.selects RX0 yX0_copyFrom yX0_copyFrom ∈ gW := gW_at 374 (by decide +kernel) (by decide +kernel)
abbrev YX0_hasStarted : gY := (yX0_hasStarted, cX0_hasStarted, 1, (some .boolean), { frames := 0, cells := 0, slots := 0, locals := 0 })
abbrev MX0_hasStarted : gM := (cX0_hasStarted, 1, RX0, (some .boolean), [], "hasStarted", YX0_hasStarted.2.2.2.2)
theorem yn_X0_hasStarted : gName yX0_hasStarted 0 := ⟨by decide +kernel, by decide +kernel, by decide +kernel⟩
theorem wc_X0_hasStarted : Cond.code yX0_hasStarted cX0_hasStarted 1 (some .boolean) ∈ gW := gW_at 332 (by decide +kernel) (by decide +kernel)
theorem wi_X0_hasStarted : Cond.instanceMethod yX0_hasStarted ∈ gW := gW_at 330 (by decide +kernel) (by decide +kernel)
theorem we_X0_hasStarted : Cond.selects RX0 yX0_hasStarted yX0_hasStarted ∈ gW := gW_at 331 (by decide +kernel) (by decide +kernel)
abbrev YX0_isDone : gY := (yX0_isDone, cX0_isDone, 1, (some .boolean), { frames := 3, cells := 0, slots := 0, locals := 65 })
abbrev MX0_isDone : gM := (cX0_isDone, 1, RX0, (some .boolean), [], "isDone", YX0_isDone.2.2.2.2)
theorem yn_X0_isDone : gName yX0_isDone 0 := ⟨by decide +kernel, by decide +kernel, by decide +kernel⟩
theorem wc_X0_isDone : Cond.code yX0_isDone cX0_isDone 1 (some .boolean) ∈ gW := gW_at 757 (by decide +kernel) (by decide +kernel)
theorem wi_X0_isDone : Cond.instanceMethod yX0_isDone ∈ gW := gW_at 755 (by decide +kernel) (by decide +kernel)
theorem we_X0_isDone : Cond.selects RX0 yX0_isDone yX0_isDone ∈ gW := gW_at 756 (by decide +kernel) (by decide +kernel)
abbrev YX0_mileWithLead : gY := (yX0_mileWithLead, cX0_mileWithLead, 3, (some .int), { frames := 0, cells := 0, slots := 0, locals := 0 })
abbrev MX0_mileWithLead : gM := (cX0_mileWithLead, 3, RX0, (some .int), [], "mileWithLead", YX0_mileWithLead.2.2.2.2)
theorem yn_X0_mileWithLead : gName yX0_mileWithLead 2 := ⟨by decide +kernel, by decide +kernel, by decide +kernel⟩
theorem wc_X0_mileWithLead : Cond.code yX0_mileWithLead cX0_mileWithLead 3 (some .int) ∈ gW := gW_at 336 (by decide +kernel) (by decide +kernel)
theorem wi_X0_mileWithLead : Cond.instanceMethod yX0_mileWithLead ∈ gW := gW_at 334 (by decide +kernel) (by decide +kernel)
theorem we_X0_mileWithLead : Cond.selects RX0 yX0_mileWithLead yX0_mileWithLead ∈ gW := gW_at 335 (by decide +kernel) (by decide +kernel)
abbrev YX0_mileOfTruck : gY := (yX0_mileOfTruck, cX0_mileOfTruck, 2, (some .int), { frames := 1, cells := 0, slots := 0, locals := 22 })
abbrev MX0_mileOfTruck : gM := (cX0_mileOfTruck, 2, RX0, (some .int), [], "mileOfTruck", YX0_mileOfTruck.2.2.2.2)
theorem yn_X0_mileOfTruck : gName yX0_mileOfTruck 1 := ⟨by decide +kernel, by decide +kernel, by decide +kernel⟩
theorem wc_X0_mileOfTruck : Cond.code yX0_mileOfTruck cX0_mileOfTruck 2 (some .int) ∈ gW := gW_at 328 (by decide +kernel) (by decide +kernel)
theorem wi_X0_mileOfTruck : Cond.instanceMethod yX0_mileOfTruck ∈ gW := gW_at 326 (by decide +kernel) (by decide +kernel)
theorem we_X0_mileOfTruck : Cond.selects RX0 yX0_mileOfTruck yX0_mileOfTruck ∈ gW := gW_at 327 (by decide +kernel) (by decide +kernel)
abbrev YX0_countOnRoad : gY := (yX0_countOnRoad, cX0_countOnRoad, 3, (some .int), { frames := 2, cells := 0, slots := 0, locals := 43 })
abbrev MX0_countOnRoad : gM := (cX0_countOnRoad, 3, RX0, (some .int), [], "countOnRoad", YX0_countOnRoad.2.2.2.2)
theorem yn_X0_countOnRoad : gName yX0_countOnRoad 0 := ⟨by decide +kernel, by decide +kernel, by decide +kernel⟩
theorem wc_X0_countOnRoad : Cond.code yX0_countOnRoad cX0_countOnRoad 3 (some .int) ∈ gW := gW_at 766 (by decide +kernel) (by decide +kernel)
theorem wi_X0_countOnRoad : Cond.instanceMethod yX0_countOnRoad ∈ gW := gW_at 764 (by decide +kernel) (by decide +kernel)
theorem we_X0_countOnRoad : Cond.selects RX0 yX0_countOnRoad yX0_countOnRoad ∈ gW := gW_at 765 (by decide +kernel) (by decide +kernel)
abbrev YX0_countArrived : gY := (yX0_countArrived, cX0_countArrived, 3, (some .int), { frames := 2, cells := 0, slots := 0, locals := 43 })
abbrev MX0_countArrived : gM := (cX0_countArrived, 3, RX0, (some .int), [], "countArrived", YX0_countArrived.2.2.2.2)
theorem yn_X0_countArrived : gName yX0_countArrived 0 := ⟨by decide +kernel, by decide +kernel, by decide +kernel⟩
theorem wc_X0_countArrived : Cond.code yX0_countArrived cX0_countArrived 3 (some .int) ∈ gW := gW_at 761 (by decide +kernel) (by decide +kernel)
theorem wi_X0_countArrived : Cond.instanceMethod yX0_countArrived ∈ gW := gW_at 759 (by decide +kernel) (by decide +kernel)
theorem we_X0_countArrived : Cond.selects RX0 yX0_countArrived yX0_countArrived ∈ gW := gW_at 760 (by decide +kernel) (by decide +kernel)
abbrev YX0_placeAt : gY := (yX0_placeAt, cX0_placeAt, 3, (some .int), { frames := 1, cells := 0, slots := 0, locals := 22 })
abbrev MX0_placeAt : gM := (cX0_placeAt, 3, RX0, (some .int), [], "placeAt", YX0_placeAt.2.2.2.2)
theorem yn_X0_placeAt : gName yX0_placeAt 1 := ⟨by decide +kernel, by decide +kernel, by decide +kernel⟩
theorem wc_X0_placeAt : Cond.code yX0_placeAt cX0_placeAt 3 (some .int) ∈ gW := gW_at 596 (by decide +kernel) (by decide +kernel)
theorem wi_X0_placeAt : Cond.instanceMethod yX0_placeAt ∈ gW := gW_at 594 (by decide +kernel) (by decide +kernel)
theorem we_X0_placeAt : Cond.selects RX0 yX0_placeAt yX0_placeAt ∈ gW := gW_at 595 (by decide +kernel) (by decide +kernel)
abbrev YX0_tonnesNotArrived : gY := (yX0_tonnesNotArrived, cX0_tonnesNotArrived, 4, (some .int), { frames := 2, cells := 0, slots := 0, locals := 43 })
abbrev MX0_tonnesNotArrived : gM := (cX0_tonnesNotArrived, 4, RX0, (some .int), [], "tonnesNotArrived", YX0_tonnesNotArrived.2.2.2.2)
theorem yn_X0_tonnesNotArrived : gName yX0_tonnesNotArrived 0 := ⟨by decide +kernel, by decide +kernel, by decide +kernel⟩
theorem wc_X0_tonnesNotArrived : Cond.code yX0_tonnesNotArrived cX0_tonnesNotArrived 4 (some .int) ∈ gW := gW_at 324 (by decide +kernel) (by decide +kernel)
theorem wi_X0_tonnesNotArrived : Cond.instanceMethod yX0_tonnesNotArrived ∈ gW := gW_at 322 (by decide +kernel) (by decide +kernel)
theorem we_X0_tonnesNotArrived : Cond.selects RX0 yX0_tonnesNotArrived yX0_tonnesNotArrived ∈ gW := gW_at 323 (by decide +kernel) (by decide +kernel)
abbrev YX0_strainAheadOf : gY := (yX0_strainAheadOf, cX0_strainAheadOf, 6, (some .int), { frames := 2, cells := 0, slots := 0, locals := 43 })
abbrev MX0_strainAheadOf : gM := (cX0_strainAheadOf, 6, RX0, (some .int), [], "strainAheadOf", YX0_strainAheadOf.2.2.2.2)
theorem yn_X0_strainAheadOf : gName yX0_strainAheadOf 2 := ⟨by decide +kernel, by decide +kernel, by decide +kernel⟩
theorem wc_X0_strainAheadOf : Cond.code yX0_strainAheadOf cX0_strainAheadOf 6 (some .int) ∈ gW := gW_at 834 (by decide +kernel) (by decide +kernel)
theorem wi_X0_strainAheadOf : Cond.instanceMethod yX0_strainAheadOf ∈ gW := gW_at 832 (by decide +kernel) (by decide +kernel)
theorem we_X0_strainAheadOf : Cond.selects RX0 yX0_strainAheadOf yX0_strainAheadOf ∈ gW := gW_at 833 (by decide +kernel) (by decide +kernel)
abbrev YX1_init : gY := (yX1_init, cX1_init, 2, none, { frames := 3, cells := 201, slots := 1144, locals := 65 })
abbrev MX1_init : gM := (cX1_init, 2, RX1, none, [], "<init>", YX1_init.2.2.2.2)
theorem yn_X1_init : gName yX1_init 0 := ⟨by decide +kernel, by decide +kernel, by decide +kernel⟩
theorem wc_X1_init : Cond.code yX1_init cX1_init 2 none ∈ gW := gW_at 207 (by decide +kernel) (by decide +kernel)
theorem wi_X1_init : Cond.instanceMethod yX1_init ∈ gW := gW_at 206 (by decide +kernel) (by decide +kernel)
abbrev YX1_keep : gY := (yX1_keep, cX1_keep, 2, none, { frames := 2, cells := 0, slots := 0, locals := 48 })
abbrev MX1_keep : gM := (cX1_keep, 2, RX1, none, [], "keep", YX1_keep.2.2.2.2)
theorem yn_X1_keep : gName yX1_keep 1 := ⟨by decide +kernel, by decide +kernel, by decide +kernel⟩
theorem wc_X1_keep : Cond.code yX1_keep cX1_keep 2 none ∈ gW := gW_at 469 (by decide +kernel) (by decide +kernel)
theorem wi_X1_keep : Cond.instanceMethod yX1_keep ∈ gW := gW_at 467 (by decide +kernel) (by decide +kernel)
theorem we_X1_keep : Cond.selects RX1 yX1_keep yX1_keep ∈ gW := gW_at 468 (by decide +kernel) (by decide +kernel)
abbrev YX1_takeBack : gY := (yX1_takeBack, cX1_takeBack, 2, none, { frames := 2, cells := 0, slots := 0, locals := 44 })
abbrev MX1_takeBack : gM := (cX1_takeBack, 2, RX1, none, [], "takeBack", YX1_takeBack.2.2.2.2)
theorem yn_X1_takeBack : gName yX1_takeBack 1 := ⟨by decide +kernel, by decide +kernel, by decide +kernel⟩
theorem wc_X1_takeBack : Cond.code yX1_takeBack cX1_takeBack 2 none ∈ gW := gW_at 1066 (by decide +kernel) (by decide +kernel)
theorem wi_X1_takeBack : Cond.instanceMethod yX1_takeBack ∈ gW := gW_at 1064 (by decide +kernel) (by decide +kernel)
theorem we_X1_takeBack : Cond.selects RX1 yX1_takeBack yX1_takeBack ∈ gW := gW_at 1065 (by decide +kernel) (by decide +kernel)
abbrev YX2_init : gY := (yX2_init, cX2_init, 1, none, { frames := 1, cells := 0, slots := 0, locals := 24 })
abbrev MX2_init : gM := (cX2_init, 1, RX2, none, [], "<init>", YX2_init.2.2.2.2)
theorem yn_X2_init : gName yX2_init 0 := ⟨by decide +kernel, by decide +kernel, by decide +kernel⟩
theorem wc_X2_init : Cond.code yX2_init cX2_init 1 none ∈ gW := gW_at 104 (by decide +kernel) (by decide +kernel)
theorem wi_X2_init : Cond.instanceMethod yX2_init ∈ gW := gW_at 103 (by decide +kernel) (by decide +kernel)
abbrev YX2_copyFrom : gY := (yX2_copyFrom, cX2_copyFrom, 2, none, { frames := 0, cells := 0, slots := 0, locals := 0 })
abbrev MX2_copyFrom : gM := (cX2_copyFrom, 2, RX2, none, [], "copyFrom", YX2_copyFrom.2.2.2.2)
theorem yn_X2_copyFrom : gName yX2_copyFrom 1 := ⟨by decide +kernel, by decide +kernel, by decide +kernel⟩
theorem wc_X2_copyFrom : Cond.code yX2_copyFrom cX2_copyFrom 2 none ∈ gW := gW_at 371 (by decide +kernel) (by decide +kernel)
theorem wi_X2_copyFrom : Cond.instanceMethod yX2_copyFrom ∈ gW := gW_at 369 (by decide +kernel) (by decide +kernel)
theorem we_X2_copyFrom : Cond.selects RX2 yX2_copyFrom yX2_copyFrom ∈ gW := gW_at 370 (by decide +kernel) (by decide +kernel)
abbrev YX2_carry : gY := (yX2_carry, cX2_carry, 2, none, { frames := 1, cells := 0, slots := 0, locals := 48 })
abbrev MX2_carry : gM := (cX2_carry, 2, RX2, none, [], "carry", YX2_carry.2.2.2.2)
theorem yn_X2_carry : gName yX2_carry 1 := ⟨by decide +kernel, by decide +kernel, by decide +kernel⟩
theorem wc_X2_carry : Cond.code yX2_carry cX2_carry 2 none ∈ gW := gW_at 737 (by decide +kernel) (by decide +kernel)
theorem wi_X2_carry : Cond.instanceMethod yX2_carry ∈ gW := gW_at 735 (by decide +kernel) (by decide +kernel)
theorem we_X2_carry : Cond.selects RX2 yX2_carry yX2_carry ∈ gW := gW_at 736 (by decide +kernel) (by decide +kernel)
abbrev YX2_cracksAfter : gY := (yX2_cracksAfter, cX2_cracksAfter, 2, (some .int), { frames := 1, cells := 0, slots := 0, locals := 48 })
abbrev MX2_cracksAfter : gM := (cX2_cracksAfter, 2, RX2, (some .int), [], "cracksAfter", YX2_cracksAfter.2.2.2.2)
theorem yn_X2_cracksAfter : gName yX2_cracksAfter 1 := ⟨by decide +kernel, by decide +kernel, by decide +kernel⟩
theorem wc_X2_cracksAfter : Cond.code yX2_cracksAfter cX2_cracksAfter 2 (some .int) ∈ gW := gW_at 839 (by decide +kernel) (by decide +kernel)
theorem wi_X2_cracksAfter : Cond.instanceMethod yX2_cracksAfter ∈ gW := gW_at 837 (by decide +kernel) (by decide +kernel)
theorem we_X2_cracksAfter : Cond.selects RX2 yX2_cracksAfter yX2_cracksAfter ∈ gW := gW_at 838 (by decide +kernel) (by decide +kernel)
abbrev YX2_liveThroughDay : gY := (yX2_liveThroughDay, cX2_liveThroughDay, 2, none, { frames := 1, cells := 0, slots := 0, locals := 48 })
abbrev MX2_liveThroughDay : gM := (cX2_liveThroughDay, 2, RX2, none, [], "liveThroughDay", YX2_liveThroughDay.2.2.2.2)
theorem yn_X2_liveThroughDay : gName yX2_liveThroughDay 1 := ⟨by decide +kernel, by decide +kernel, by decide +kernel⟩
theorem wc_X2_liveThroughDay : Cond.code yX2_liveThroughDay cX2_liveThroughDay 2 none ∈ gW := gW_at 892 (by decide +kernel) (by decide +kernel)
theorem wi_X2_liveThroughDay : Cond.instanceMethod yX2_liveThroughDay ∈ gW := gW_at 890 (by decide +kernel) (by decide +kernel)
theorem we_X2_liveThroughDay : Cond.selects RX2 yX2_liveThroughDay yX2_liveThroughDay ∈ gW := gW_at 891 (by decide +kernel) (by decide +kernel)
abbrev YX3_init : gY := (yX3_init, cX3_init, 1, none, { frames := 1, cells := 5, slots := 140, locals := 24 })
abbrev MX3_init : gM := (cX3_init, 1, RX3, none, [], "<init>", YX3_init.2.2.2.2)
theorem yn_X3_init : gName yX3_init 0 := ⟨by decide +kernel, by decide +kernel, by decide +kernel⟩
theorem wc_X3_init : Cond.code yX3_init cX3_init 1 none ∈ gW := gW_at 227 (by decide +kernel) (by decide +kernel)
theorem wi_X3_init : Cond.instanceMethod yX3_init ∈ gW := gW_at 226 (by decide +kernel) (by decide +kernel)
abbrev YX3_parse : gY := (yX3_parse, cX3_parse, 1, (some .int), { frames := 4, cells := 0, slots := 0, locals := 86 })
abbrev MX3_parse : gM := (cX3_parse, 1, RX3, (some .int), [], "parse", YX3_parse.2.2.2.2)
theorem yn_X3_parse : gName yX3_parse 0 := ⟨by decide +kernel, by decide +kernel, by decide +kernel⟩
theorem wc_X3_parse : Cond.code yX3_parse cX3_parse 1 (some .int) ∈ gW := gW_at 931 (by decide +kernel) (by decide +kernel)
theorem wi_X3_parse : Cond.instanceMethod yX3_parse ∈ gW := gW_at 929 (by decide +kernel) (by decide +kernel)
theorem we_X3_parse : Cond.selects RX3 yX3_parse yX3_parse ∈ gW := gW_at 930 (by decide +kernel) (by decide +kernel)
abbrev YX3_parseOrder : gY := (yX3_parseOrder, cX3_parseOrder, 2, (some .boolean), { frames := 3, cells := 0, slots := 0, locals := 65 })
abbrev MX3_parseOrder : gM := (cX3_parseOrder, 2, RX3, (some .boolean), [], "parseOrder", YX3_parseOrder.2.2.2.2)
theorem yn_X3_parseOrder : gName yX3_parseOrder 0 := ⟨by decide +kernel, by decide +kernel, by decide +kernel⟩
theorem wc_X3_parseOrder : Cond.code yX3_parseOrder cX3_parseOrder 2 (some .boolean) ∈ gW := gW_at 935 (by decide +kernel) (by decide +kernel)
theorem wi_X3_parseOrder : Cond.instanceMethod yX3_parseOrder ∈ gW := gW_at 934 (by decide +kernel) (by decide +kernel)
theorem we_X3_parseOrder : Cond.selects RX3 yX3_parseOrder yX3_parseOrder ∈ gW := gW_at 1 (by decide +kernel) (by decide +kernel)
abbrev YX3_parseTemperature : gY := (yX3_parseTemperature, cX3_parseTemperature, 3, (some .boolean), { frames := 2, cells := 0, slots := 0, locals := 43 })
abbrev MX3_parseTemperature : gM := (cX3_parseTemperature, 3, RX3, (some .boolean), [], "parseTemperature", YX3_parseTemperature.2.2.2.2)
theorem yn_X3_parseTemperature : gName yX3_parseTemperature 0 := ⟨by decide +kernel, by decide +kernel, by decide +kernel⟩
theorem wc_X3_parseTemperature : Cond.code yX3_parseTemperature cX3_parseTemperature 3 (some .boolean) ∈ gW := gW_at 947 (by decide +kernel) (by decide +kernel)
theorem wi_X3_parseTemperature : Cond.instanceMethod yX3_parseTemperature ∈ gW := gW_at 946 (by decide +kernel) (by decide +kernel)
theorem we_X3_parseTemperature : Cond.selects RX3 yX3_parseTemperature yX3_parseTemperature ∈ gW := gW_at 4 (by decide +kernel) (by decide +kernel)
abbrev YX3_parseJoin : gY := (yX3_parseJoin, cX3_parseJoin, 1, (some .boolean), { frames := 1, cells := 0, slots := 0, locals := 21 })
abbrev MX3_parseJoin : gM := (cX3_parseJoin, 1, RX3, (some .boolean), [], "parseJoin", YX3_parseJoin.2.2.2.2)
theorem yn_X3_parseJoin : gName yX3_parseJoin 0 := ⟨by decide +kernel, by decide +kernel, by decide +kernel⟩
theorem wc_X3_parseJoin : Cond.code yX3_parseJoin cX3_parseJoin 1 (some .boolean) ∈ gW := gW_at 955 (by decide +kernel) (by decide +kernel)
theorem wi_X3_parseJoin : Cond.instanceMethod yX3_parseJoin ∈ gW := gW_at 954 (by decide +kernel) (by decide +kernel)
theorem we_X3_parseJoin : Cond.selects RX3 yX3_parseJoin yX3_parseJoin ∈ gW := gW_at 6 (by decide +kernel) (by decide +kernel)
abbrev YX3_skip : gY := (yX3_skip, cX3_skip, 2, (some .boolean), { frames := 0, cells := 0, slots := 0, locals := 0 })
abbrev MX3_skip : gM := (cX3_skip, 2, RX3, (some .boolean), [], "skip", YX3_skip.2.2.2.2)
theorem yn_X3_skip : gName yX3_skip 1 := ⟨by decide +kernel, by decide +kernel, by decide +kernel⟩
theorem wc_X3_skip : Cond.code yX3_skip cX3_skip 2 (some .boolean) ∈ gW := gW_at 951 (by decide +kernel) (by decide +kernel)
theorem wi_X3_skip : Cond.instanceMethod yX3_skip ∈ gW := gW_at 950 (by decide +kernel) (by decide +kernel)
theorem we_X3_skip : Cond.selects RX3 yX3_skip yX3_skip ∈ gW := gW_at 5 (by decide +kernel) (by decide +kernel)
abbrev YX3_parseNumber : gY := (yX3_parseNumber, cX3_parseNumber, 3, (some .int), { frames := 1, cells := 0, slots := 0, locals := 21 })
abbrev MX3_parseNumber : gM := (cX3_parseNumber, 3, RX3, (some .int), [], "parseNumber", YX3_parseNumber.2.2.2.2)
theorem yn_X3_parseNumber : gName yX3_parseNumber 0 := ⟨by decide +kernel, by decide +kernel, by decide +kernel⟩
theorem wc_X3_parseNumber : Cond.code yX3_parseNumber cX3_parseNumber 3 (some .int) ∈ gW := gW_at 939 (by decide +kernel) (by decide +kernel)
theorem wi_X3_parseNumber : Cond.instanceMethod yX3_parseNumber ∈ gW := gW_at 938 (by decide +kernel) (by decide +kernel)
theorem we_X3_parseNumber : Cond.selects RX3 yX3_parseNumber yX3_parseNumber ∈ gW := gW_at 2 (by decide +kernel) (by decide +kernel)
abbrev YX3_parseDigit : gY := (yX3_parseDigit, cX3_parseDigit, 2, (some .int), { frames := 0, cells := 0, slots := 0, locals := 0 })
abbrev MX3_parseDigit : gM := (cX3_parseDigit, 2, RX3, (some .int), [], "parseDigit", YX3_parseDigit.2.2.2.2)
theorem yn_X3_parseDigit : gName yX3_parseDigit 0 := ⟨by decide +kernel, by decide +kernel, by decide +kernel⟩
theorem wc_X3_parseDigit : Cond.code yX3_parseDigit cX3_parseDigit 2 (some .int) ∈ gW := gW_at 943 (by decide +kernel) (by decide +kernel)
theorem wi_X3_parseDigit : Cond.instanceMethod yX3_parseDigit ∈ gW := gW_at 942 (by decide +kernel) (by decide +kernel)
theorem we_X3_parseDigit : Cond.selects RX3 yX3_parseDigit yX3_parseDigit ∈ gW := gW_at 3 (by decide +kernel) (by decide +kernel)
abbrev YX3_carryOut : gY := (yX3_carryOut, cX3_carryOut, 4, (some .int), { frames := 5, cells := 0, slots := 0, locals := 115 })
abbrev MX3_carryOut : gM := (cX3_carryOut, 4, RX3, (some .int), [], "carryOut", YX3_carryOut.2.2.2.2)
theorem yn_X3_carryOut : gName yX3_carryOut 2 := ⟨by decide +kernel, by decide +kernel, by decide +kernel⟩
theorem wc_X3_carryOut : Cond.code yX3_carryOut cX3_carryOut 4 (some .int) ∈ gW := gW_at 960 (by decide +kernel) (by decide +kernel)
theorem wi_X3_carryOut : Cond.instanceMethod yX3_carryOut ∈ gW := gW_at 958 (by decide +kernel) (by decide +kernel)
theorem we_X3_carryOut : Cond.selects RX3 yX3_carryOut yX3_carryOut ∈ gW := gW_at 959 (by decide +kernel) (by decide +kernel)
abbrev YX3_carryOutDrill : gY := (yX3_carryOutDrill, cX3_carryOutDrill, 2, (some .int), { frames := 1, cells := 0, slots := 0, locals := 21 })
abbrev MX3_carryOutDrill : gM := (cX3_carryOutDrill, 2, RX3, (some .int), [], "carryOutDrill", YX3_carryOutDrill.2.2.2.2)
theorem yn_X3_carryOutDrill : gName yX3_carryOutDrill 2 := ⟨by decide +kernel, by decide +kernel, by decide +kernel⟩
theorem wc_X3_carryOutDrill : Cond.code yX3_carryOutDrill cX3_carryOutDrill 2 (some .int) ∈ gW := gW_at 963 (by decide +kernel) (by decide +kernel)
theorem wt_X3_carryOutDrill : Cond.static yX3_carryOutDrill ∈ gW := gW_at 962 (by decide +kernel) (by decide +kernel)
abbrev YX3_carryOutMove : gY := (yX3_carryOutMove, cX3_carryOutMove, 3, (some .int), { frames := 3, cells := 0, slots := 0, locals := 93 })
abbrev MX3_carryOutMove : gM := (cX3_carryOutMove, 3, RX3, (some .int), [], "carryOutMove", YX3_carryOutMove.2.2.2.2)
theorem yn_X3_carryOutMove : gName yX3_carryOutMove 3 := ⟨by decide +kernel, by decide +kernel, by decide +kernel⟩
theorem wc_X3_carryOutMove : Cond.code yX3_carryOutMove cX3_carryOutMove 3 (some .int) ∈ gW := gW_at 969 (by decide +kernel) (by decide +kernel)
theorem wt_X3_carryOutMove : Cond.static yX3_carryOutMove ∈ gW := gW_at 968 (by decide +kernel) (by decide +kernel)
abbrev YX3_carryOutTemperature : gY := (yX3_carryOutTemperature, cX3_carryOutTemperature, 2, (some .int), { frames := 2, cells := 0, slots := 0, locals := 41 })
abbrev MX3_carryOutTemperature : gM := (cX3_carryOutTemperature, 2, RX3, (some .int), [], "carryOutTemperature", YX3_carryOutTemperature.2.2.2.2)
theorem yn_X3_carryOutTemperature : gName yX3_carryOutTemperature 2 := ⟨by decide +kernel, by decide +kernel, by decide +kernel⟩
theorem wc_X3_carryOutTemperature : Cond.code yX3_carryOutTemperature cX3_carryOutTemperature 2 (some .int) ∈ gW := gW_at 974 (by decide +kernel) (by decide +kernel)
theorem wt_X3_carryOutTemperature : Cond.static yX3_carryOutTemperature ∈ gW := gW_at 973 (by decide +kernel) (by decide +kernel)
abbrev YX3_carryOutJoin : gY := (yX3_carryOutJoin, cX3_carryOutJoin, 4, (some .int), { frames := 2, cells := 0, slots := 0, locals := 44 })
abbrev MX3_carryOutJoin : gM := (cX3_carryOutJoin, 4, RX3, (some .int), [], "carryOutJoin", YX3_carryOutJoin.2.2.2.2)
theorem yn_X3_carryOutJoin : gName yX3_carryOutJoin 2 := ⟨by decide +kernel, by decide +kernel, by decide +kernel⟩
theorem wc_X3_carryOutJoin : Cond.code yX3_carryOutJoin cX3_carryOutJoin 4 (some .int) ∈ gW := gW_at 979 (by decide +kernel) (by decide +kernel)
theorem wi_X3_carryOutJoin : Cond.instanceMethod yX3_carryOutJoin ∈ gW := gW_at 978 (by decide +kernel) (by decide +kernel)
theorem we_X3_carryOutJoin : Cond.selects RX3 yX3_carryOutJoin yX3_carryOutJoin ∈ gW := gW_at 7 (by decide +kernel) (by decide +kernel)
abbrev YX3_carryOutDays : gY := (yX3_carryOutDays, cX3_carryOutDays, 2, (some .int), { frames := 3, cells := 0, slots := 0, locals := 92 })
abbrev MX3_carryOutDays : gM := (cX3_carryOutDays, 2, RX3, (some .int), [], "carryOutDays", YX3_carryOutDays.2.2.2.2)
theorem yn_X3_carryOutDays : gName yX3_carryOutDays 2 := ⟨by decide +kernel, by decide +kernel, by decide +kernel⟩
theorem wc_X3_carryOutDays : Cond.code yX3_carryOutDays cX3_carryOutDays 2 (some .int) ∈ gW := gW_at 984 (by decide +kernel) (by decide +kernel)
theorem wt_X3_carryOutDays : Cond.static yX3_carryOutDays ∈ gW := gW_at 983 (by decide +kernel) (by decide +kernel)
abbrev YX4_init : gY := (yX4_init, cX4_init, 2, none, { frames := 2, cells := 24, slots := 133, locals := 44 })
abbrev MX4_init : gM := (cX4_init, 2, RX4, none, [], "<init>", YX4_init.2.2.2.2)
theorem yn_X4_init : gName yX4_init 0 := ⟨by decide +kernel, by decide +kernel, by decide +kernel⟩
theorem wc_X4_init : Cond.code yX4_init cX4_init 2 none ∈ gW := gW_at 93 (by decide +kernel) (by decide +kernel)
theorem wi_X4_init : Cond.instanceMethod yX4_init ∈ gW := gW_at 92 (by decide +kernel) (by decide +kernel)
abbrev YX4_copyFrom : gY := (yX4_copyFrom, cX4_copyFrom, 3, none, { frames := 1, cells := 0, slots := 0, locals := 22 })
abbrev MX4_copyFrom : gM := (cX4_copyFrom, 3, RX4, none, [], "copyFrom", YX4_copyFrom.2.2.2.2)
theorem yn_X4_copyFrom : gName yX4_copyFrom 1 := ⟨by decide +kernel, by decide +kernel, by decide +kernel⟩
theorem wc_X4_copyFrom : Cond.code yX4_copyFrom cX4_copyFrom 3 none ∈ gW := gW_at 367 (by decide +kernel) (by decide +kernel)
theorem wi_X4_copyFrom : Cond.instanceMethod yX4_copyFrom ∈ gW := gW_at 365 (by decide +kernel) (by decide +kernel)
theorem we_X4_copyFrom : Cond.selects RX4 yX4_copyFrom yX4_copyFrom ∈ gW := gW_at 366 (by decide +kernel) (by decide +kernel)
abbrev YX4_isConvoy : gY := (yX4_isConvoy, cX4_isConvoy, 2, (some .boolean), { frames := 0, cells := 0, slots := 0, locals := 0 })
abbrev MX4_isConvoy : gM := (cX4_isConvoy, 2, RX4, (some .boolean), [], "isConvoy", YX4_isConvoy.2.2.2.2)
theorem yn_X4_isConvoy : gName yX4_isConvoy 1 := ⟨by decide +kernel, by decide +kernel, by decide +kernel⟩
theorem wc_X4_isConvoy : Cond.code yX4_isConvoy cX4_isConvoy 2 (some .boolean) ∈ gW := gW_at 691 (by decide +kernel) (by decide +kernel)
theorem wi_X4_isConvoy : Cond.instanceMethod yX4_isConvoy ∈ gW := gW_at 689 (by decide +kernel) (by decide +kernel)
theorem we_X4_isConvoy : Cond.selects RX4 yX4_isConvoy yX4_isConvoy ∈ gW := gW_at 690 (by decide +kernel) (by decide +kernel)
abbrev YX4_truckIn : gY := (yX4_truckIn, cX4_truckIn, 3, (some (.object "IceConvoys$Truck")), { frames := 1, cells := 0, slots := 0, locals := 21 })
abbrev MX4_truckIn : gM := (cX4_truckIn, 3, RX4, (some (.object "IceConvoys$Truck")), [], "truckIn", YX4_truckIn.2.2.2.2)
theorem yn_X4_truckIn : gName yX4_truckIn 2 := ⟨by decide +kernel, by decide +kernel, by decide +kernel⟩
theorem wc_X4_truckIn : Cond.code yX4_truckIn cX4_truckIn 3 (some (.object "IceConvoys$Truck")) ∈ gW := gW_at 796 (by decide +kernel) (by decide +kernel)
theorem wi_X4_truckIn : Cond.instanceMethod yX4_truckIn ∈ gW := gW_at 794 (by decide +kernel) (by decide +kernel)
theorem we_X4_truckIn : Cond.selects RX4 yX4_truckIn yX4_truckIn ∈ gW := gW_at 795 (by decide +kernel) (by decide +kernel)
abbrev YX4_noteIce : gY := (yX4_noteIce, cX4_noteIce, 2, none, { frames := 0, cells := 0, slots := 0, locals := 0 })
abbrev MX4_noteIce : gM := (cX4_noteIce, 2, RX4, none, [], "noteIce", YX4_noteIce.2.2.2.2)
theorem yn_X4_noteIce : gName yX4_noteIce 1 := ⟨by decide +kernel, by decide +kernel, by decide +kernel⟩
theorem wc_X4_noteIce : Cond.code yX4_noteIce cX4_noteIce 2 none ∈ gW := gW_at 530 (by decide +kernel) (by decide +kernel)
theorem wi_X4_noteIce : Cond.instanceMethod yX4_noteIce ∈ gW := gW_at 528 (by decide +kernel) (by decide +kernel)
theorem we_X4_noteIce : Cond.selects RX4 yX4_noteIce yX4_noteIce ∈ gW := gW_at 529 (by decide +kernel) (by decide +kernel)
abbrev YX4_isDrillGood : gY := (yX4_isDrillGood, cX4_isDrillGood, 2, (some .boolean), { frames := 0, cells := 0, slots := 0, locals := 0 })
abbrev MX4_isDrillGood : gM := (cX4_isDrillGood, 2, RX4, (some .boolean), [], "isDrillGood", YX4_isDrillGood.2.2.2.2)
theorem yn_X4_isDrillGood : gName yX4_isDrillGood 1 := ⟨by decide +kernel, by decide +kernel, by decide +kernel⟩
theorem wc_X4_isDrillGood : Cond.code yX4_isDrillGood cX4_isDrillGood 2 (some .boolean) ∈ gW := gW_at 298 (by decide +kernel) (by decide +kernel)
theorem wi_X4_isDrillGood : Cond.instanceMethod yX4_isDrillGood ∈ gW := gW_at 296 (by decide +kernel) (by decide +kernel)
theorem we_X4_isDrillGood : Cond.selects RX4 yX4_isDrillGood yX4_isDrillGood ∈ gW := gW_at 297 (by decide +kernel) (by decide +kernel)
abbrev YX4_borneByDrill : gY := (yX4_borneByDrill, cX4_borneByDrill, 2, (some .float), { frames := 2, cells := 0, slots := 0, locals := 44 })
abbrev MX4_borneByDrill : gM := (cX4_borneByDrill, 2, RX4, (some .float), [], "borneByDrill", YX4_borneByDrill.2.2.2.2)
theorem yn_X4_borneByDrill : gName yX4_borneByDrill 1 := ⟨by decide +kernel, by decide +kernel, by decide +kernel⟩
theorem wc_X4_borneByDrill : Cond.code yX4_borneByDrill cX4_borneByDrill 2 (some .float) ∈ gW := gW_at 290 (by decide +kernel) (by decide +kernel)
theorem wi_X4_borneByDrill : Cond.instanceMethod yX4_borneByDrill ∈ gW := gW_at 288 (by decide +kernel) (by decide +kernel)
theorem we_X4_borneByDrill : Cond.selects RX4 yX4_borneByDrill yX4_borneByDrill ∈ gW := gW_at 289 (by decide +kernel) (by decide +kernel)
abbrev YX4_borneWithCracks : gY := (yX4_borneWithCracks, cX4_borneWithCracks, 3, (some .float), { frames := 1, cells := 0, slots := 0, locals := 22 })
abbrev MX4_borneWithCracks : gM := (cX4_borneWithCracks, 3, RX4, (some .float), [], "borneWithCracks", YX4_borneWithCracks.2.2.2.2)
theorem yn_X4_borneWithCracks : gName yX4_borneWithCracks 2 := ⟨by decide +kernel, by decide +kernel, by decide +kernel⟩
theorem wc_X4_borneWithCracks : Cond.code yX4_borneWithCracks cX4_borneWithCracks 3 (some .float) ∈ gW := gW_at 294 (by decide +kernel) (by decide +kernel)
theorem wi_X4_borneWithCracks : Cond.instanceMethod yX4_borneWithCracks ∈ gW := gW_at 292 (by decide +kernel) (by decide +kernel)
theorem we_X4_borneWithCracks : Cond.selects RX4 yX4_borneWithCracks yX4_borneWithCracks ∈ gW := gW_at 293 (by decide +kernel) (by decide +kernel)
abbrev YX4_freePlace : gY := (yX4_freePlace, cX4_freePlace, 3, (some .int), { frames := 0, cells := 0, slots := 0, locals := 0 })
abbrev MX4_freePlace : gM := (cX4_freePlace, 3, RX4, (some .int), [], "freePlace", YX4_freePlace.2.2.2.2)
theorem yn_X4_freePlace : gName yX4_freePlace 1 := ⟨by decide +kernel, by decide +kernel, by decide +kernel⟩
theorem wc_X4_freePlace : Cond.code yX4_freePlace cX4_freePlace 3 (some .int) ∈ gW := gW_at 613 (by decide +kernel) (by decide +kernel)
theorem wi_X4_freePlace : Cond.instanceMethod yX4_freePlace ∈ gW := gW_at 611 (by decide +kernel) (by decide +kernel)
theorem we_X4_freePlace : Cond.selects RX4 yX4_freePlace yX4_freePlace ∈ gW := gW_at 612 (by decide +kernel) (by decide +kernel)
abbrev YX4_convoyAt : gY := (yX4_convoyAt, cX4_convoyAt, 3, (some .int), { frames := 2, cells := 0, slots := 0, locals := 44 })
abbrev MX4_convoyAt : gM := (cX4_convoyAt, 3, RX4, (some .int), [], "convoyAt", YX4_convoyAt.2.2.2.2)
theorem yn_X4_convoyAt : gName yX4_convoyAt 1 := ⟨by decide +kernel, by decide +kernel, by decide +kernel⟩
theorem wc_X4_convoyAt : Cond.code yX4_convoyAt cX4_convoyAt 3 (some .int) ∈ gW := gW_at 592 (by decide +kernel) (by decide +kernel)
theorem wi_X4_convoyAt : Cond.instanceMethod yX4_convoyAt ∈ gW := gW_at 590 (by decide +kernel) (by decide +kernel)
theorem we_X4_convoyAt : Cond.selects RX4 yX4_convoyAt yX4_convoyAt ∈ gW := gW_at 591 (by decide +kernel) (by decide +kernel)
abbrev YX4_isTakenByOther : gY := (yX4_isTakenByOther, cX4_isTakenByOther, 4, (some .boolean), { frames := 2, cells := 0, slots := 0, locals := 44 })
abbrev MX4_isTakenByOther : gM := (cX4_isTakenByOther, 4, RX4, (some .boolean), [], "isTakenByOther", YX4_isTakenByOther.2.2.2.2)
theorem yn_X4_isTakenByOther : gName yX4_isTakenByOther 2 := ⟨by decide +kernel, by decide +kernel, by decide +kernel⟩
theorem wc_X4_isTakenByOther : Cond.code yX4_isTakenByOther cX4_isTakenByOther 4 (some .boolean) ∈ gW := gW_at 721 (by decide +kernel) (by decide +kernel)
theorem wi_X4_isTakenByOther : Cond.instanceMethod yX4_isTakenByOther ∈ gW := gW_at 719 (by decide +kernel) (by decide +kernel)
theorem we_X4_isTakenByOther : Cond.selects RX4 yX4_isTakenByOther yX4_isTakenByOther ∈ gW := gW_at 720 (by decide +kernel) (by decide +kernel)
abbrev YX4_joinObstacle : gY := (yX4_joinObstacle, cX4_joinObstacle, 4, (some .int), { frames := 1, cells := 0, slots := 0, locals := 21 })
abbrev MX4_joinObstacle : gM := (cX4_joinObstacle, 4, RX4, (some .int), [], "joinObstacle", YX4_joinObstacle.2.2.2.2)
theorem yn_X4_joinObstacle : gName yX4_joinObstacle 3 := ⟨by decide +kernel, by decide +kernel, by decide +kernel⟩
theorem wc_X4_joinObstacle : Cond.code yX4_joinObstacle cX4_joinObstacle 4 (some .int) ∈ gW := gW_at 687 (by decide +kernel) (by decide +kernel)
theorem wi_X4_joinObstacle : Cond.instanceMethod yX4_joinObstacle ∈ gW := gW_at 685 (by decide +kernel) (by decide +kernel)
theorem we_X4_joinObstacle : Cond.selects RX4 yX4_joinObstacle yX4_joinObstacle ∈ gW := gW_at 686 (by decide +kernel) (by decide +kernel)
abbrev YX4_startObstacle : gY := (yX4_startObstacle, cX4_startObstacle, 2, (some .int), { frames := 4, cells := 0, slots := 0, locals := 93 })
abbrev MX4_startObstacle : gM := (cX4_startObstacle, 2, RX4, (some .int), [], "startObstacle", YX4_startObstacle.2.2.2.2)
theorem yn_X4_startObstacle : gName yX4_startObstacle 1 := ⟨by decide +kernel, by decide +kernel, by decide +kernel⟩
theorem wc_X4_startObstacle : Cond.code yX4_startObstacle cX4_startObstacle 2 (some .int) ∈ gW := gW_at 712 (by decide +kernel) (by decide +kernel)
theorem wi_X4_startObstacle : Cond.instanceMethod yX4_startObstacle ∈ gW := gW_at 710 (by decide +kernel) (by decide +kernel)
theorem we_X4_startObstacle : Cond.selects RX4 yX4_startObstacle yX4_startObstacle ∈ gW := gW_at 711 (by decide +kernel) (by decide +kernel)
abbrev YX4_rollObstacle : gY := (yX4_rollObstacle, cX4_rollObstacle, 2, (some .int), { frames := 4, cells := 0, slots := 0, locals := 93 })
abbrev MX4_rollObstacle : gM := (cX4_rollObstacle, 2, RX4, (some .int), [], "rollObstacle", YX4_rollObstacle.2.2.2.2)
theorem yn_X4_rollObstacle : gName yX4_rollObstacle 1 := ⟨by decide +kernel, by decide +kernel, by decide +kernel⟩
theorem wc_X4_rollObstacle : Cond.code yX4_rollObstacle cX4_rollObstacle 2 (some .int) ∈ gW := gW_at 753 (by decide +kernel) (by decide +kernel)
theorem wi_X4_rollObstacle : Cond.instanceMethod yX4_rollObstacle ∈ gW := gW_at 751 (by decide +kernel) (by decide +kernel)
theorem we_X4_rollObstacle : Cond.selects RX4 yX4_rollObstacle yX4_rollObstacle ∈ gW := gW_at 752 (by decide +kernel) (by decide +kernel)
abbrev YX4_wayObstacle : gY := (yX4_wayObstacle, cX4_wayObstacle, 7, (some .int), { frames := 3, cells := 0, slots := 0, locals := 67 })
abbrev MX4_wayObstacle : gM := (cX4_wayObstacle, 7, RX4, (some .int), [], "wayObstacle", YX4_wayObstacle.2.2.2.2)
theorem yn_X4_wayObstacle : gName yX4_wayObstacle 1 := ⟨by decide +kernel, by decide +kernel, by decide +kernel⟩
theorem wc_X4_wayObstacle : Cond.code yX4_wayObstacle cX4_wayObstacle 7 (some .int) ∈ gW := gW_at 716 (by decide +kernel) (by decide +kernel)
theorem wi_X4_wayObstacle : Cond.instanceMethod yX4_wayObstacle ∈ gW := gW_at 714 (by decide +kernel) (by decide +kernel)
theorem we_X4_wayObstacle : Cond.selects RX4 yX4_wayObstacle yX4_wayObstacle ∈ gW := gW_at 715 (by decide +kernel) (by decide +kernel)
abbrev YX4_letJoin : gY := (yX4_letJoin, cX4_letJoin, 3, none, { frames := 0, cells := 0, slots := 0, locals := 0 })
abbrev MX4_letJoin : gM := (cX4_letJoin, 3, RX4, none, [], "letJoin", YX4_letJoin.2.2.2.2)
theorem yn_X4_letJoin : gName yX4_letJoin 2 := ⟨by decide +kernel, by decide +kernel, by decide +kernel⟩
theorem wc_X4_letJoin : Cond.code yX4_letJoin cX4_letJoin 3 none ∈ gW := gW_at 701 (by decide +kernel) (by decide +kernel)
theorem wi_X4_letJoin : Cond.instanceMethod yX4_letJoin ∈ gW := gW_at 699 (by decide +kernel) (by decide +kernel)
theorem we_X4_letJoin : Cond.selects RX4 yX4_letJoin yX4_letJoin ∈ gW := gW_at 700 (by decide +kernel) (by decide +kernel)
abbrev YX4_advance : gY := (yX4_advance, cX4_advance, 5, none, { frames := 2, cells := 0, slots := 0, locals := 69 })
abbrev MX4_advance : gM := (cX4_advance, 5, RX4, none, [], "advance", YX4_advance.2.2.2.2)
theorem yn_X4_advance : gName yX4_advance 1 := ⟨by decide +kernel, by decide +kernel, by decide +kernel⟩
theorem wc_X4_advance : Cond.code yX4_advance cX4_advance 5 none ∈ gW := gW_at 733 (by decide +kernel) (by decide +kernel)
theorem wi_X4_advance : Cond.instanceMethod yX4_advance ∈ gW := gW_at 731 (by decide +kernel) (by decide +kernel)
theorem we_X4_advance : Cond.selects RX4 yX4_advance yX4_advance ∈ gW := gW_at 732 (by decide +kernel) (by decide +kernel)
abbrev YX4_countRollsAhead : gY := (yX4_countRollsAhead, cX4_countRollsAhead, 5, (some .int), { frames := 4, cells := 0, slots := 0, locals := 96 })
abbrev MX4_countRollsAhead : gM := (cX4_countRollsAhead, 5, RX4, (some .int), [], "countRollsAhead", YX4_countRollsAhead.2.2.2.2)
theorem yn_X4_countRollsAhead : gName yX4_countRollsAhead 1 := ⟨by decide +kernel, by decide +kernel, by decide +kernel⟩
theorem wc_X4_countRollsAhead : Cond.code yX4_countRollsAhead cX4_countRollsAhead 5 (some .int) ∈ gW := gW_at 826 (by decide +kernel) (by decide +kernel)
theorem wi_X4_countRollsAhead : Cond.instanceMethod yX4_countRollsAhead ∈ gW := gW_at 824 (by decide +kernel) (by decide +kernel)
theorem we_X4_countRollsAhead : Cond.selects RX4 yX4_countRollsAhead yX4_countRollsAhead ∈ gW := gW_at 825 (by decide +kernel) (by decide +kernel)
abbrev YX4_couldLeadBe : gY := (yX4_couldLeadBe, cX4_couldLeadBe, 8, (some .boolean), { frames := 3, cells := 0, slots := 0, locals := 69 })
abbrev MX4_couldLeadBe : gM := (cX4_couldLeadBe, 8, RX4, (some .boolean), [], "couldLeadBe", YX4_couldLeadBe.2.2.2.2)
theorem yn_X4_couldLeadBe : gName yX4_couldLeadBe 2 := ⟨by decide +kernel, by decide +kernel, by decide +kernel⟩
theorem wc_X4_couldLeadBe : Cond.code yX4_couldLeadBe cX4_couldLeadBe 8 (some .boolean) ∈ gW := gW_at 830 (by decide +kernel) (by decide +kernel)
theorem wi_X4_couldLeadBe : Cond.instanceMethod yX4_couldLeadBe ∈ gW := gW_at 828 (by decide +kernel) (by decide +kernel)
theorem we_X4_couldLeadBe : Cond.selects RX4 yX4_couldLeadBe yX4_couldLeadBe ∈ gW := gW_at 829 (by decide +kernel) (by decide +kernel)
abbrev YX4_letDaysGoBy : gY := (yX4_letDaysGoBy, cX4_letDaysGoBy, 4, none, { frames := 2, cells := 0, slots := 0, locals := 69 })
abbrev MX4_letDaysGoBy : gM := (cX4_letDaysGoBy, 4, RX4, none, [], "letDaysGoBy", YX4_letDaysGoBy.2.2.2.2)
theorem yn_X4_letDaysGoBy : gName yX4_letDaysGoBy 1 := ⟨by decide +kernel, by decide +kernel, by decide +kernel⟩
theorem wc_X4_letDaysGoBy : Cond.code yX4_letDaysGoBy cX4_letDaysGoBy 4 none ∈ gW := gW_at 888 (by decide +kernel) (by decide +kernel)
theorem wi_X4_letDaysGoBy : Cond.instanceMethod yX4_letDaysGoBy ∈ gW := gW_at 886 (by decide +kernel) (by decide +kernel)
theorem we_X4_letDaysGoBy : Cond.selects RX4 yX4_letDaysGoBy yX4_letDaysGoBy ∈ gW := gW_at 887 (by decide +kernel) (by decide +kernel)
abbrev YX4_countGoodDrills : gY := (yX4_countGoodDrills, cX4_countGoodDrills, 3, (some .int), { frames := 1, cells := 0, slots := 0, locals := 21 })
abbrev MX4_countGoodDrills : gM := (cX4_countGoodDrills, 3, RX4, (some .int), [], "countGoodDrills", YX4_countGoodDrills.2.2.2.2)
theorem yn_X4_countGoodDrills : gName yX4_countGoodDrills 0 := ⟨by decide +kernel, by decide +kernel, by decide +kernel⟩
theorem wc_X4_countGoodDrills : Cond.code yX4_countGoodDrills cX4_countGoodDrills 3 (some .int) ∈ gW := gW_at 884 (by decide +kernel) (by decide +kernel)
theorem wi_X4_countGoodDrills : Cond.instanceMethod yX4_countGoodDrills ∈ gW := gW_at 882 (by decide +kernel) (by decide +kernel)
theorem we_X4_countGoodDrills : Cond.selects RX4 yX4_countGoodDrills yX4_countGoodDrills ∈ gW := gW_at 883 (by decide +kernel) (by decide +kernel)
abbrev YX4_countCracks : gY := (yX4_countCracks, cX4_countCracks, 3, (some .int), { frames := 0, cells := 0, slots := 0, locals := 0 })
abbrev MX4_countCracks : gM := (cX4_countCracks, 3, RX4, (some .int), [], "countCracks", YX4_countCracks.2.2.2.2)
theorem yn_X4_countCracks : gName yX4_countCracks 0 := ⟨by decide +kernel, by decide +kernel, by decide +kernel⟩
theorem wc_X4_countCracks : Cond.code yX4_countCracks cX4_countCracks 3 (some .int) ∈ gW := gW_at 1029 (by decide +kernel) (by decide +kernel)
theorem wi_X4_countCracks : Cond.instanceMethod yX4_countCracks ∈ gW := gW_at 1027 (by decide +kernel) (by decide +kernel)
theorem we_X4_countCracks : Cond.selects RX4 yX4_countCracks yX4_countCracks ∈ gW := gW_at 1028 (by decide +kernel) (by decide +kernel)
abbrev YX4_countInRows : gY := (yX4_countInRows, cX4_countInRows, 3, (some .int), { frames := 0, cells := 0, slots := 0, locals := 0 })
abbrev MX4_countInRows : gM := (cX4_countInRows, 3, RX4, (some .int), [], "countInRows", YX4_countInRows.2.2.2.2)
theorem yn_X4_countInRows : gName yX4_countInRows 0 := ⟨by decide +kernel, by decide +kernel, by decide +kernel⟩
theorem wc_X4_countInRows : Cond.code yX4_countInRows cX4_countInRows 3 (some .int) ∈ gW := gW_at 1007 (by decide +kernel) (by decide +kernel)
theorem wi_X4_countInRows : Cond.instanceMethod yX4_countInRows ∈ gW := gW_at 1005 (by decide +kernel) (by decide +kernel)
theorem we_X4_countInRows : Cond.selects RX4 yX4_countInRows yX4_countInRows ∈ gW := gW_at 1006 (by decide +kernel) (by decide +kernel)
abbrev YX4_countStarted : gY := (yX4_countStarted, cX4_countStarted, 3, (some .int), { frames := 1, cells := 0, slots := 0, locals := 20 })
abbrev MX4_countStarted : gM := (cX4_countStarted, 3, RX4, (some .int), [], "countStarted", YX4_countStarted.2.2.2.2)
theorem yn_X4_countStarted : gName yX4_countStarted 0 := ⟨by decide +kernel, by decide +kernel, by decide +kernel⟩
theorem wc_X4_countStarted : Cond.code yX4_countStarted cX4_countStarted 3 (some .int) ∈ gW := gW_at 1011 (by decide +kernel) (by decide +kernel)
theorem wi_X4_countStarted : Cond.instanceMethod yX4_countStarted ∈ gW := gW_at 1009 (by decide +kernel) (by decide +kernel)
theorem we_X4_countStarted : Cond.selects RX4 yX4_countStarted yX4_countStarted ∈ gW := gW_at 1010 (by decide +kernel) (by decide +kernel)
abbrev YX4_countDone : gY := (yX4_countDone, cX4_countDone, 3, (some .int), { frames := 4, cells := 0, slots := 0, locals := 85 })
abbrev MX4_countDone : gM := (cX4_countDone, 3, RX4, (some .int), [], "countDone", YX4_countDone.2.2.2.2)
theorem yn_X4_countDone : gName yX4_countDone 0 := ⟨by decide +kernel, by decide +kernel, by decide +kernel⟩
theorem wc_X4_countDone : Cond.code yX4_countDone cX4_countDone 3 (some .int) ∈ gW := gW_at 1015 (by decide +kernel) (by decide +kernel)
theorem wi_X4_countDone : Cond.instanceMethod yX4_countDone ∈ gW := gW_at 1013 (by decide +kernel) (by decide +kernel)
theorem we_X4_countDone : Cond.selects RX4 yX4_countDone yX4_countDone ∈ gW := gW_at 1014 (by decide +kernel) (by decide +kernel)
abbrev YX4_countOnRoad : gY := (yX4_countOnRoad, cX4_countOnRoad, 3, (some .int), { frames := 3, cells := 0, slots := 0, locals := 65 })
abbrev MX4_countOnRoad : gM := (cX4_countOnRoad, 3, RX4, (some .int), [], "countOnRoad", YX4_countOnRoad.2.2.2.2)
theorem yn_X4_countOnRoad : gName yX4_countOnRoad 0 := ⟨by decide +kernel, by decide +kernel, by decide +kernel⟩
theorem wc_X4_countOnRoad : Cond.code yX4_countOnRoad cX4_countOnRoad 3 (some .int) ∈ gW := gW_at 1019 (by decide +kernel) (by decide +kernel)
theorem wi_X4_countOnRoad : Cond.instanceMethod yX4_countOnRoad ∈ gW := gW_at 1017 (by decide +kernel) (by decide +kernel)
theorem we_X4_countOnRoad : Cond.selects RX4 yX4_countOnRoad yX4_countOnRoad ∈ gW := gW_at 1018 (by decide +kernel) (by decide +kernel)
abbrev YX4_countArrived : gY := (yX4_countArrived, cX4_countArrived, 3, (some .int), { frames := 3, cells := 0, slots := 0, locals := 65 })
abbrev MX4_countArrived : gM := (cX4_countArrived, 3, RX4, (some .int), [], "countArrived", YX4_countArrived.2.2.2.2)
theorem yn_X4_countArrived : gName yX4_countArrived 0 := ⟨by decide +kernel, by decide +kernel, by decide +kernel⟩
theorem wc_X4_countArrived : Cond.code yX4_countArrived cX4_countArrived 3 (some .int) ∈ gW := gW_at 1024 (by decide +kernel) (by decide +kernel)
theorem wi_X4_countArrived : Cond.instanceMethod yX4_countArrived ∈ gW := gW_at 1022 (by decide +kernel) (by decide +kernel)
theorem we_X4_countArrived : Cond.selects RX4 yX4_countArrived yX4_countArrived ∈ gW := gW_at 1023 (by decide +kernel) (by decide +kernel)
abbrev YX4_tonnesInRows : gY := (yX4_tonnesInRows, cX4_tonnesInRows, 4, (some .int), { frames := 0, cells := 0, slots := 0, locals := 0 })
abbrev MX4_tonnesInRows : gM := (cX4_tonnesInRows, 4, RX4, (some .int), [], "tonnesInRows", YX4_tonnesInRows.2.2.2.2)
theorem yn_X4_tonnesInRows : gName yX4_tonnesInRows 0 := ⟨by decide +kernel, by decide +kernel, by decide +kernel⟩
theorem wc_X4_tonnesInRows : Cond.code yX4_tonnesInRows cX4_tonnesInRows 4 (some .int) ∈ gW := gW_at 316 (by decide +kernel) (by decide +kernel)
theorem wi_X4_tonnesInRows : Cond.instanceMethod yX4_tonnesInRows ∈ gW := gW_at 314 (by decide +kernel) (by decide +kernel)
theorem we_X4_tonnesInRows : Cond.selects RX4 yX4_tonnesInRows yX4_tonnesInRows ∈ gW := gW_at 315 (by decide +kernel) (by decide +kernel)
abbrev YX4_tonnesUnderWay : gY := (yX4_tonnesUnderWay, cX4_tonnesUnderWay, 3, (some .int), { frames := 3, cells := 0, slots := 0, locals := 66 })
abbrev MX4_tonnesUnderWay : gM := (cX4_tonnesUnderWay, 3, RX4, (some .int), [], "tonnesUnderWay", YX4_tonnesUnderWay.2.2.2.2)
theorem yn_X4_tonnesUnderWay : gName yX4_tonnesUnderWay 0 := ⟨by decide +kernel, by decide +kernel, by decide +kernel⟩
theorem wc_X4_tonnesUnderWay : Cond.code yX4_tonnesUnderWay cX4_tonnesUnderWay 3 (some .int) ∈ gW := gW_at 320 (by decide +kernel) (by decide +kernel)
theorem wi_X4_tonnesUnderWay : Cond.instanceMethod yX4_tonnesUnderWay ∈ gW := gW_at 318 (by decide +kernel) (by decide +kernel)
theorem we_X4_tonnesUnderWay : Cond.selects RX4 yX4_tonnesUnderWay yX4_tonnesUnderWay ∈ gW := gW_at 319 (by decide +kernel) (by decide +kernel)
abbrev YX4_hasOneTruckAMile : gY := (yX4_hasOneTruckAMile, cX4_hasOneTruckAMile, 5, (some .boolean), { frames := 2, cells := 0, slots := 0, locals := 43 })
abbrev MX4_hasOneTruckAMile : gM := (cX4_hasOneTruckAMile, 5, RX4, (some .boolean), [], "hasOneTruckAMile", YX4_hasOneTruckAMile.2.2.2.2)
theorem yn_X4_hasOneTruckAMile : gName yX4_hasOneTruckAMile 0 := ⟨by decide +kernel, by decide +kernel, by decide +kernel⟩
theorem wc_X4_hasOneTruckAMile : Cond.code yX4_hasOneTruckAMile cX4_hasOneTruckAMile 5 (some .boolean) ∈ gW := gW_at 340 (by decide +kernel) (by decide +kernel)
theorem wi_X4_hasOneTruckAMile : Cond.instanceMethod yX4_hasOneTruckAMile ∈ gW := gW_at 338 (by decide +kernel) (by decide +kernel)
theorem we_X4_hasOneTruckAMile : Cond.selects RX4 yX4_hasOneTruckAMile yX4_hasOneTruckAMile ∈ gW := gW_at 339 (by decide +kernel) (by decide +kernel)
abbrev YX4_isIceInRange : gY := (yX4_isIceInRange, cX4_isIceInRange, 2, (some .boolean), { frames := 0, cells := 0, slots := 0, locals := 0 })
abbrev MX4_isIceInRange : gM := (cX4_isIceInRange, 2, RX4, (some .boolean), [], "isIceInRange", YX4_isIceInRange.2.2.2.2)
theorem yn_X4_isIceInRange : gName yX4_isIceInRange 0 := ⟨by decide +kernel, by decide +kernel, by decide +kernel⟩
theorem wc_X4_isIceInRange : Cond.code yX4_isIceInRange cX4_isIceInRange 2 (some .boolean) ∈ gW := gW_at 348 (by decide +kernel) (by decide +kernel)
theorem wi_X4_isIceInRange : Cond.instanceMethod yX4_isIceInRange ∈ gW := gW_at 346 (by decide +kernel) (by decide +kernel)
theorem we_X4_isIceInRange : Cond.selects RX4 yX4_isIceInRange yX4_isIceInRange ∈ gW := gW_at 347 (by decide +kernel) (by decide +kernel)
abbrev YX5_init : gY := (yX5_init, cX5_init, 4, none, { frames := 1, cells := 0, slots := 0, locals := 24 })
abbrev MX5_init : gM := (cX5_init, 4, RX5, none, [], "<init>", YX5_init.2.2.2.2)
theorem yn_X5_init : gName yX5_init 3 := ⟨by decide +kernel, by decide +kernel, by decide +kernel⟩
theorem wc_X5_init : Cond.code yX5_init cX5_init 4 none ∈ gW := gW_at 638 (by decide +kernel) (by decide +kernel)
theorem wi_X5_init : Cond.instanceMethod yX5_init ∈ gW := gW_at 637 (by decide +kernel) (by decide +kernel)
abbrev YX5_burden : gY := (yX5_burden, cX5_burden, 1, (some .float), { frames := 0, cells := 0, slots := 0, locals := 0 })
abbrev MX5_burden : gM := (cX5_burden, 1, RX5, (some .float), [], "burden", YX5_burden.2.2.2.2)
theorem yn_X5_burden : gName yX5_burden 0 := ⟨by decide +kernel, by decide +kernel, by decide +kernel⟩
theorem wc_X5_burden : Cond.code yX5_burden cX5_burden 1 (some .float) ∈ gW := gW_at 726 (by decide +kernel) (by decide +kernel)
theorem wi_X5_burden : Cond.instanceMethod yX5_burden ∈ gW := gW_at 724 (by decide +kernel) (by decide +kernel)
theorem we_X5_burden : Cond.selects RX5 yX5_burden yX5_burden ∈ gW := gW_at 725 (by decide +kernel) (by decide +kernel)
abbrev YX5_strainOnIce : gY := (yX5_strainOnIce, cX5_strainOnIce, 1, (some .int), { frames := 0, cells := 0, slots := 0, locals := 0 })
abbrev MX5_strainOnIce : gM := (cX5_strainOnIce, 1, RX5, (some .int), [], "strainOnIce", YX5_strainOnIce.2.2.2.2)
theorem yn_X5_strainOnIce : gName yX5_strainOnIce 0 := ⟨by decide +kernel, by decide +kernel, by decide +kernel⟩
theorem wc_X5_strainOnIce : Cond.code yX5_strainOnIce cX5_strainOnIce 1 (some .int) ∈ gW := gW_at 741 (by decide +kernel) (by decide +kernel)
theorem wi_X5_strainOnIce : Cond.instanceMethod yX5_strainOnIce ∈ gW := gW_at 739 (by decide +kernel) (by decide +kernel)
theorem we_X5_strainOnIce : Cond.selects RX5 yX5_strainOnIce yX5_strainOnIce ∈ gW := gW_at 740 (by decide +kernel) (by decide +kernel)
abbrev YX6_init : gY := (yX6_init, cX6_init, 1, none, { frames := 4, cells := 283, slots := 1721, locals := 86 })
abbrev MX6_init : gM := (cX6_init, 1, RX6, none, [], "<init>", YX6_init.2.2.2.2)
theorem yn_X6_init : gName yX6_init 0 := ⟨by decide +kernel, by decide +kernel, by decide +kernel⟩
theorem wc_X6_init : Cond.code yX6_init cX6_init 1 none ∈ gW := gW_at 85 (by decide +kernel) (by decide +kernel)
theorem wi_X6_init : Cond.instanceMethod yX6_init ∈ gW := gW_at 84 (by decide +kernel) (by decide +kernel)
abbrev YX6_set : gY := (yX6_set, cX6_set, 4, (some .int), { frames := 6, cells := 1, slots := 6, locals := 130 })
abbrev MX6_set : gM := (cX6_set, 4, RX6, (some .int), [], "set", YX6_set.2.2.2.2)
theorem yn_X6_set : gName yX6_set 2 := ⟨by decide +kernel, by decide +kernel, by decide +kernel⟩
theorem wc_X6_set : Cond.code yX6_set cX6_set 4 (some .int) ∈ gW := gW_at 383 (by decide +kernel) (by decide +kernel)
theorem wi_X6_set : Cond.instanceMethod yX6_set ∈ gW := gW_at 381 (by decide +kernel) (by decide +kernel)
theorem we_X6_set : Cond.selects RX6 yX6_set yX6_set ∈ gW := gW_at 382 (by decide +kernel) (by decide +kernel)
abbrev YX6_setting : gY := (yX6_setting, cX6_setting, 2, (some .int), { frames := 6, cells := 1, slots := 6, locals := 130 })
abbrev MX6_setting : gM := (cX6_setting, 2, RX6, (some .int), [], "setting", YX6_setting.2.2.2.2)
theorem yn_X6_setting : gName yX6_setting 1 := ⟨by decide +kernel, by decide +kernel, by decide +kernel⟩
theorem wc_X6_setting : Cond.code yX6_setting cX6_setting 2 (some .int) ∈ gW := gW_at 480 (by decide +kernel) (by decide +kernel)
theorem wi_X6_setting : Cond.instanceMethod yX6_setting ∈ gW := gW_at 478 (by decide +kernel) (by decide +kernel)
theorem we_X6_setting : Cond.selects RX6 yX6_setting yX6_setting ∈ gW := gW_at 479 (by decide +kernel) (by decide +kernel)
abbrev YX6_drill : gY := (yX6_drill, cX6_drill, 2, (some .int), { frames := 6, cells := 1, slots := 6, locals := 130 })
abbrev MX6_drill : gM := (cX6_drill, 2, RX6, (some .int), [], "drill", YX6_drill.2.2.2.2)
theorem yn_X6_drill : gName yX6_drill 1 := ⟨by decide +kernel, by decide +kernel, by decide +kernel⟩
theorem wc_X6_drill : Cond.code yX6_drill cX6_drill 2 (some .int) ∈ gW := gW_at 512 (by decide +kernel) (by decide +kernel)
theorem wi_X6_drill : Cond.instanceMethod yX6_drill ∈ gW := gW_at 510 (by decide +kernel) (by decide +kernel)
theorem we_X6_drill : Cond.selects RX6 yX6_drill yX6_drill ∈ gW := gW_at 511 (by decide +kernel) (by decide +kernel)
abbrev YX6_drilled : gY := (yX6_drilled, cX6_drilled, 2, (some .int), { frames := 6, cells := 1, slots := 6, locals := 130 })
abbrev MX6_drilled : gM := (cX6_drilled, 2, RX6, (some .int), [], "drilled", YX6_drilled.2.2.2.2)
theorem yn_X6_drilled : gName yX6_drilled 1 := ⟨by decide +kernel, by decide +kernel, by decide +kernel⟩
theorem wc_X6_drilled : Cond.code yX6_drilled cX6_drilled 2 (some .int) ∈ gW := gW_at 542 (by decide +kernel) (by decide +kernel)
theorem wi_X6_drilled : Cond.instanceMethod yX6_drilled ∈ gW := gW_at 540 (by decide +kernel) (by decide +kernel)
theorem we_X6_drilled : Cond.selects RX6 yX6_drilled yX6_drilled ∈ gW := gW_at 541 (by decide +kernel) (by decide +kernel)
abbrev YX6_mileOf : gY := (yX6_mileOf, cX6_mileOf, 4, (some .int), { frames := 6, cells := 1, slots := 6, locals := 130 })
abbrev MX6_mileOf : gM := (cX6_mileOf, 4, RX6, (some .int), [], "mileOf", YX6_mileOf.2.2.2.2)
theorem yn_X6_mileOf : gName yX6_mileOf 2 := ⟨by decide +kernel, by decide +kernel, by decide +kernel⟩
theorem wc_X6_mileOf : Cond.code yX6_mileOf cX6_mileOf 4 (some .int) ∈ gW := gW_at 565 (by decide +kernel) (by decide +kernel)
theorem wi_X6_mileOf : Cond.instanceMethod yX6_mileOf ∈ gW := gW_at 563 (by decide +kernel) (by decide +kernel)
theorem we_X6_mileOf : Cond.selects RX6 yX6_mileOf yX6_mileOf ∈ gW := gW_at 564 (by decide +kernel) (by decide +kernel)
abbrev YX6_ice : gY := (yX6_ice, cX6_ice, 2, (some .float), { frames := 6, cells := 1, slots := 6, locals := 130 })
abbrev MX6_ice : gM := (cX6_ice, 2, RX6, (some .float), [], "ice", YX6_ice.2.2.2.2)
theorem yn_X6_ice : gName yX6_ice 1 := ⟨by decide +kernel, by decide +kernel, by decide +kernel⟩
theorem wc_X6_ice : Cond.code yX6_ice cX6_ice 2 (some .float) ∈ gW := gW_at 574 (by decide +kernel) (by decide +kernel)
theorem wi_X6_ice : Cond.instanceMethod yX6_ice ∈ gW := gW_at 572 (by decide +kernel) (by decide +kernel)
theorem we_X6_ice : Cond.selects RX6 yX6_ice yX6_ice ∈ gW := gW_at 573 (by decide +kernel) (by decide +kernel)
abbrev YX6_bears : gY := (yX6_bears, cX6_bears, 2, (some .int), { frames := 6, cells := 1, slots := 6, locals := 130 })
abbrev MX6_bears : gM := (cX6_bears, 2, RX6, (some .int), [], "bears", YX6_bears.2.2.2.2)
theorem yn_X6_bears : gName yX6_bears 1 := ⟨by decide +kernel, by decide +kernel, by decide +kernel⟩
theorem wc_X6_bears : Cond.code yX6_bears cX6_bears 2 (some .int) ∈ gW := gW_at 581 (by decide +kernel) (by decide +kernel)
theorem wi_X6_bears : Cond.instanceMethod yX6_bears ∈ gW := gW_at 579 (by decide +kernel) (by decide +kernel)
theorem we_X6_bears : Cond.selects RX6 yX6_bears yX6_bears ∈ gW := gW_at 580 (by decide +kernel) (by decide +kernel)
abbrev YX6_sign : gY := (yX6_sign, cX6_sign, 3, (some .char), { frames := 6, cells := 1, slots := 6, locals := 130 })
abbrev MX6_sign : gM := (cX6_sign, 3, RX6, (some .char), [], "sign", YX6_sign.2.2.2.2)
theorem yn_X6_sign : gName yX6_sign 1 := ⟨by decide +kernel, by decide +kernel, by decide +kernel⟩
theorem wc_X6_sign : Cond.code yX6_sign cX6_sign 3 (some .char) ∈ gW := gW_at 588 (by decide +kernel) (by decide +kernel)
theorem wi_X6_sign : Cond.instanceMethod yX6_sign ∈ gW := gW_at 586 (by decide +kernel) (by decide +kernel)
theorem we_X6_sign : Cond.selects RX6 yX6_sign yX6_sign ∈ gW := gW_at 587 (by decide +kernel) (by decide +kernel)
abbrev YX6_weakest : gY := (yX6_weakest, cX6_weakest, 5, (some .int), { frames := 3, cells := 0, slots := 0, locals := 65 })
abbrev MX6_weakest : gM := (cX6_weakest, 5, RX6, (some .int), [], "weakest", YX6_weakest.2.2.2.2)
theorem yn_X6_weakest : gName yX6_weakest 0 := ⟨by decide +kernel, by decide +kernel, by decide +kernel⟩
theorem wc_X6_weakest : Cond.code yX6_weakest cX6_weakest 5 (some .int) ∈ gW := gW_at 286 (by decide +kernel) (by decide +kernel)
theorem wi_X6_weakest : Cond.instanceMethod yX6_weakest ∈ gW := gW_at 284 (by decide +kernel) (by decide +kernel)
theorem we_X6_weakest : Cond.selects RX6 yX6_weakest yX6_weakest ∈ gW := gW_at 285 (by decide +kernel) (by decide +kernel)
abbrev YX6_truck : gY := (yX6_truck, cX6_truck, 6, (some .int), { frames := 6, cells := 1, slots := 6, locals := 130 })
abbrev MX6_truck : gM := (cX6_truck, 6, RX6, (some .int), [], "truck", YX6_truck.2.2.2.2)
theorem yn_X6_truck : gName yX6_truck 4 := ⟨by decide +kernel, by decide +kernel, by decide +kernel⟩
theorem wc_X6_truck : Cond.code yX6_truck cX6_truck 6 (some .int) ∈ gW := gW_at 604 (by decide +kernel) (by decide +kernel)
theorem wi_X6_truck : Cond.instanceMethod yX6_truck ∈ gW := gW_at 602 (by decide +kernel) (by decide +kernel)
theorem we_X6_truck : Cond.selects RX6 yX6_truck yX6_truck ∈ gW := gW_at 603 (by decide +kernel) (by decide +kernel)
abbrev YX6_inRow : gY := (yX6_inRow, cX6_inRow, 5, (some .int), { frames := 6, cells := 1, slots := 6, locals := 130 })
abbrev MX6_inRow : gM := (cX6_inRow, 5, RX6, (some .int), [], "inRow", YX6_inRow.2.2.2.2)
theorem yn_X6_inRow : gName yX6_inRow 3 := ⟨by decide +kernel, by decide +kernel, by decide +kernel⟩
theorem wc_X6_inRow : Cond.code yX6_inRow cX6_inRow 5 (some .int) ∈ gW := gW_at 661 (by decide +kernel) (by decide +kernel)
theorem wi_X6_inRow : Cond.instanceMethod yX6_inRow ∈ gW := gW_at 659 (by decide +kernel) (by decide +kernel)
theorem we_X6_inRow : Cond.selects RX6 yX6_inRow yX6_inRow ∈ gW := gW_at 660 (by decide +kernel) (by decide +kernel)
abbrev YX6_convoy : gY := (yX6_convoy, cX6_convoy, 3, (some .int), { frames := 6, cells := 1, slots := 6, locals := 130 })
abbrev MX6_convoy : gM := (cX6_convoy, 3, RX6, (some .int), [], "convoy", YX6_convoy.2.2.2.2)
theorem yn_X6_convoy : gName yX6_convoy 1 := ⟨by decide +kernel, by decide +kernel, by decide +kernel⟩
theorem wc_X6_convoy : Cond.code yX6_convoy cX6_convoy 3 (some .int) ∈ gW := gW_at 674 (by decide +kernel) (by decide +kernel)
theorem wi_X6_convoy : Cond.instanceMethod yX6_convoy ∈ gW := gW_at 672 (by decide +kernel) (by decide +kernel)
theorem we_X6_convoy : Cond.selects RX6 yX6_convoy yX6_convoy ∈ gW := gW_at 673 (by decide +kernel) (by decide +kernel)
abbrev YX6_join : gY := (yX6_join, cX6_join, 5, (some .int), { frames := 6, cells := 1, slots := 6, locals := 130 })
abbrev MX6_join : gM := (cX6_join, 5, RX6, (some .int), [], "join", YX6_join.2.2.2.2)
theorem yn_X6_join : gName yX6_join 3 := ⟨by decide +kernel, by decide +kernel, by decide +kernel⟩
theorem wc_X6_join : Cond.code yX6_join cX6_join 5 (some .int) ∈ gW := gW_at 683 (by decide +kernel) (by decide +kernel)
theorem wi_X6_join : Cond.instanceMethod yX6_join ∈ gW := gW_at 681 (by decide +kernel) (by decide +kernel)
theorem we_X6_join : Cond.selects RX6 yX6_join yX6_join ∈ gW := gW_at 682 (by decide +kernel) (by decide +kernel)
abbrev YX6_start : gY := (yX6_start, cX6_start, 3, (some .int), { frames := 6, cells := 1, slots := 6, locals := 130 })
abbrev MX6_start : gM := (cX6_start, 3, RX6, (some .int), [], "start", YX6_start.2.2.2.2)
theorem yn_X6_start : gName yX6_start 1 := ⟨by decide +kernel, by decide +kernel, by decide +kernel⟩
theorem wc_X6_start : Cond.code yX6_start cX6_start 3 (some .int) ∈ gW := gW_at 708 (by decide +kernel) (by decide +kernel)
theorem wi_X6_start : Cond.instanceMethod yX6_start ∈ gW := gW_at 706 (by decide +kernel) (by decide +kernel)
theorem we_X6_start : Cond.selects RX6 yX6_start yX6_start ∈ gW := gW_at 707 (by decide +kernel) (by decide +kernel)
abbrev YX6_roll : gY := (yX6_roll, cX6_roll, 3, (some .int), { frames := 6, cells := 1, slots := 6, locals := 130 })
abbrev MX6_roll : gM := (cX6_roll, 3, RX6, (some .int), [], "roll", YX6_roll.2.2.2.2)
theorem yn_X6_roll : gName yX6_roll 1 := ⟨by decide +kernel, by decide +kernel, by decide +kernel⟩
theorem wc_X6_roll : Cond.code yX6_roll cX6_roll 3 (some .int) ∈ gW := gW_at 749 (by decide +kernel) (by decide +kernel)
theorem wi_X6_roll : Cond.instanceMethod yX6_roll ∈ gW := gW_at 747 (by decide +kernel) (by decide +kernel)
theorem we_X6_roll : Cond.selects RX6 yX6_roll yX6_roll ∈ gW := gW_at 748 (by decide +kernel) (by decide +kernel)
abbrev YX6_why : gY := (yX6_why, cX6_why, 4, (some .int), { frames := 6, cells := 1, slots := 6, locals := 130 })
abbrev MX6_why : gM := (cX6_why, 4, RX6, (some .int), [], "why", YX6_why.2.2.2.2)
theorem yn_X6_why : gName yX6_why 2 := ⟨by decide +kernel, by decide +kernel, by decide +kernel⟩
theorem wc_X6_why : Cond.code yX6_why cX6_why 4 (some .int) ∈ gW := gW_at 774 (by decide +kernel) (by decide +kernel)
theorem wi_X6_why : Cond.instanceMethod yX6_why ∈ gW := gW_at 772 (by decide +kernel) (by decide +kernel)
theorem we_X6_why : Cond.selects RX6 yX6_why yX6_why ∈ gW := gW_at 773 (by decide +kernel) (by decide +kernel)
abbrev YX6_convoyOf : gY := (yX6_convoyOf, cX6_convoyOf, 4, (some .int), { frames := 6, cells := 1, slots := 6, locals := 130 })
abbrev MX6_convoyOf : gM := (cX6_convoyOf, 4, RX6, (some .int), [], "convoyOf", YX6_convoyOf.2.2.2.2)
theorem yn_X6_convoyOf : gName yX6_convoyOf 2 := ⟨by decide +kernel, by decide +kernel, by decide +kernel⟩
theorem wc_X6_convoyOf : Cond.code yX6_convoyOf cX6_convoyOf 4 (some .int) ∈ gW := gW_at 781 (by decide +kernel) (by decide +kernel)
theorem wi_X6_convoyOf : Cond.instanceMethod yX6_convoyOf ∈ gW := gW_at 779 (by decide +kernel) (by decide +kernel)
theorem we_X6_convoyOf : Cond.selects RX6 yX6_convoyOf yX6_convoyOf ∈ gW := gW_at 780 (by decide +kernel) (by decide +kernel)
abbrev YX6_truckOf : gY := (yX6_truckOf, cX6_truckOf, 5, (some .int), { frames := 6, cells := 1, slots := 6, locals := 130 })
abbrev MX6_truckOf : gM := (cX6_truckOf, 5, RX6, (some .int), [], "truckOf", YX6_truckOf.2.2.2.2)
theorem yn_X6_truckOf : gName yX6_truckOf 3 := ⟨by decide +kernel, by decide +kernel, by decide +kernel⟩
theorem wc_X6_truckOf : Cond.code yX6_truckOf cX6_truckOf 5 (some .int) ∈ gW := gW_at 792 (by decide +kernel) (by decide +kernel)
theorem wi_X6_truckOf : Cond.instanceMethod yX6_truckOf ∈ gW := gW_at 790 (by decide +kernel) (by decide +kernel)
theorem we_X6_truckOf : Cond.selects RX6 yX6_truckOf yX6_truckOf ∈ gW := gW_at 791 (by decide +kernel) (by decide +kernel)
abbrev YX6_load : gY := (yX6_load, cX6_load, 4, (some .float), { frames := 6, cells := 1, slots := 6, locals := 130 })
abbrev MX6_load : gM := (cX6_load, 4, RX6, (some .float), [], "load", YX6_load.2.2.2.2)
theorem yn_X6_load : gName yX6_load 2 := ⟨by decide +kernel, by decide +kernel, by decide +kernel⟩
theorem wc_X6_load : Cond.code yX6_load cX6_load 4 (some .float) ∈ gW := gW_at 805 (by decide +kernel) (by decide +kernel)
theorem wi_X6_load : Cond.instanceMethod yX6_load ∈ gW := gW_at 803 (by decide +kernel) (by decide +kernel)
theorem we_X6_load : Cond.selects RX6 yX6_load yX6_load ∈ gW := gW_at 804 (by decide +kernel) (by decide +kernel)
abbrev YX6_at : gY := (yX6_at, cX6_at, 3, (some .int), { frames := 6, cells := 1, slots := 6, locals := 130 })
abbrev MX6_at : gM := (cX6_at, 3, RX6, (some .int), [], "at", YX6_at.2.2.2.2)
theorem yn_X6_at : gName yX6_at 1 := ⟨by decide +kernel, by decide +kernel, by decide +kernel⟩
theorem wc_X6_at : Cond.code yX6_at cX6_at 3 (some .int) ∈ gW := gW_at 813 (by decide +kernel) (by decide +kernel)
theorem wi_X6_at : Cond.instanceMethod yX6_at ∈ gW := gW_at 811 (by decide +kernel) (by decide +kernel)
theorem we_X6_at : Cond.selects RX6 yX6_at yX6_at ∈ gW := gW_at 812 (by decide +kernel) (by decide +kernel)
abbrev YX6_rolls : gY := (yX6_rolls, cX6_rolls, 2, (some .int), { frames := 6, cells := 1, slots := 6, locals := 130 })
abbrev MX6_rolls : gM := (cX6_rolls, 2, RX6, (some .int), [], "rolls", YX6_rolls.2.2.2.2)
theorem yn_X6_rolls : gName yX6_rolls 1 := ⟨by decide +kernel, by decide +kernel, by decide +kernel⟩
theorem wc_X6_rolls : Cond.code yX6_rolls cX6_rolls 2 (some .int) ∈ gW := gW_at 822 (by decide +kernel) (by decide +kernel)
theorem wi_X6_rolls : Cond.instanceMethod yX6_rolls ∈ gW := gW_at 820 (by decide +kernel) (by decide +kernel)
theorem we_X6_rolls : Cond.selects RX6 yX6_rolls yX6_rolls ∈ gW := gW_at 821 (by decide +kernel) (by decide +kernel)
abbrev YX6_rollsAgain : gY := (yX6_rollsAgain, cX6_rollsAgain, 3, (some .int), { frames := 6, cells := 1, slots := 6, locals := 130 })
abbrev MX6_rollsAgain : gM := (cX6_rollsAgain, 3, RX6, (some .int), [], "rollsAgain", YX6_rollsAgain.2.2.2.2)
theorem yn_X6_rollsAgain : gName yX6_rollsAgain 1 := ⟨by decide +kernel, by decide +kernel, by decide +kernel⟩
theorem wc_X6_rollsAgain : Cond.code yX6_rollsAgain cX6_rollsAgain 3 (some .int) ∈ gW := gW_at 846 (by decide +kernel) (by decide +kernel)
theorem wi_X6_rollsAgain : Cond.instanceMethod yX6_rollsAgain ∈ gW := gW_at 844 (by decide +kernel) (by decide +kernel)
theorem we_X6_rollsAgain : Cond.selects RX6 yX6_rollsAgain yX6_rollsAgain ∈ gW := gW_at 845 (by decide +kernel) (by decide +kernel)
abbrev YX6_iceIn : gY := (yX6_iceIn, cX6_iceIn, 5, (some .int), { frames := 6, cells := 1, slots := 6, locals := 130 })
abbrev MX6_iceIn : gM := (cX6_iceIn, 5, RX6, (some .int), [], "iceIn", YX6_iceIn.2.2.2.2)
theorem yn_X6_iceIn : gName yX6_iceIn 2 := ⟨by decide +kernel, by decide +kernel, by decide +kernel⟩
theorem wc_X6_iceIn : Cond.code yX6_iceIn cX6_iceIn 5 (some .int) ∈ gW := gW_at 853 (by decide +kernel) (by decide +kernel)
theorem wi_X6_iceIn : Cond.instanceMethod yX6_iceIn ∈ gW := gW_at 851 (by decide +kernel) (by decide +kernel)
theorem we_X6_iceIn : Cond.selects RX6 yX6_iceIn yX6_iceIn ∈ gW := gW_at 852 (by decide +kernel) (by decide +kernel)
abbrev YX6_bearsIn : gY := (yX6_bearsIn, cX6_bearsIn, 5, (some .int), { frames := 6, cells := 1, slots := 6, locals := 130 })
abbrev MX6_bearsIn : gM := (cX6_bearsIn, 5, RX6, (some .int), [], "bearsIn", YX6_bearsIn.2.2.2.2)
theorem yn_X6_bearsIn : gName yX6_bearsIn 2 := ⟨by decide +kernel, by decide +kernel, by decide +kernel⟩
theorem wc_X6_bearsIn : Cond.code yX6_bearsIn cX6_bearsIn 5 (some .int) ∈ gW := gW_at 868 (by decide +kernel) (by decide +kernel)
theorem wi_X6_bearsIn : Cond.instanceMethod yX6_bearsIn ∈ gW := gW_at 866 (by decide +kernel) (by decide +kernel)
theorem we_X6_bearsIn : Cond.selects RX6 yX6_bearsIn yX6_bearsIn ∈ gW := gW_at 867 (by decide +kernel) (by decide +kernel)
abbrev YX6_pass : gY := (yX6_pass, cX6_pass, 3, (some .int), { frames := 6, cells := 1, slots := 6, locals := 130 })
abbrev MX6_pass : gM := (cX6_pass, 3, RX6, (some .int), [], "pass", YX6_pass.2.2.2.2)
theorem yn_X6_pass : gName yX6_pass 1 := ⟨by decide +kernel, by decide +kernel, by decide +kernel⟩
theorem wc_X6_pass : Cond.code yX6_pass cX6_pass 3 (some .int) ∈ gW := gW_at 877 (by decide +kernel) (by decide +kernel)
theorem wi_X6_pass : Cond.instanceMethod yX6_pass ∈ gW := gW_at 875 (by decide +kernel) (by decide +kernel)
theorem we_X6_pass : Cond.selects RX6 yX6_pass yX6_pass ∈ gW := gW_at 876 (by decide +kernel) (by decide +kernel)
abbrev YX6_append : gY := (yX6_append, cX6_append, 2, (some .int), { frames := 6, cells := 1, slots := 6, locals := 130 })
abbrev MX6_append : gM := (cX6_append, 2, RX6, (some .int), [], "append", YX6_append.2.2.2.2)
theorem yn_X6_append : gName yX6_append 1 := ⟨by decide +kernel, by decide +kernel, by decide +kernel⟩
theorem wc_X6_append : Cond.code yX6_append cX6_append 2 (some .int) ∈ gW := gW_at 904 (by decide +kernel) (by decide +kernel)
theorem wi_X6_append : Cond.instanceMethod yX6_append ∈ gW := gW_at 902 (by decide +kernel) (by decide +kernel)
theorem we_X6_append : Cond.selects RX6 yX6_append yX6_append ∈ gW := gW_at 903 (by decide +kernel) (by decide +kernel)
abbrev YX6_read : gY := (yX6_read, cX6_read, 3, (some .int), { frames := 6, cells := 1, slots := 6, locals := 138 })
abbrev MX6_read : gM := (cX6_read, 3, RX6, (some .int), [], "read", YX6_read.2.2.2.2)
theorem yn_X6_read : gName yX6_read 0 := ⟨by decide +kernel, by decide +kernel, by decide +kernel⟩
theorem wc_X6_read : Cond.code yX6_read cX6_read 3 (some .int) ∈ gW := gW_at 927 (by decide +kernel) (by decide +kernel)
theorem wi_X6_read : Cond.instanceMethod yX6_read ∈ gW := gW_at 925 (by decide +kernel) (by decide +kernel)
theorem we_X6_read : Cond.selects RX6 yX6_read yX6_read ∈ gW := gW_at 926 (by decide +kernel) (by decide +kernel)
abbrev YX6_errorPosition : gY := (yX6_errorPosition, cX6_errorPosition, 1, (some .int), { frames := 0, cells := 0, slots := 0, locals := 0 })
abbrev MX6_errorPosition : gM := (cX6_errorPosition, 1, RX6, (some .int), [], "errorPosition", YX6_errorPosition.2.2.2.2)
theorem yn_X6_errorPosition : gName yX6_errorPosition 0 := ⟨by decide +kernel, by decide +kernel, by decide +kernel⟩
theorem wc_X6_errorPosition : Cond.code yX6_errorPosition cX6_errorPosition 1 (some .int) ∈ gW := gW_at 308 (by decide +kernel) (by decide +kernel)
theorem wi_X6_errorPosition : Cond.instanceMethod yX6_errorPosition ∈ gW := gW_at 306 (by decide +kernel) (by decide +kernel)
theorem we_X6_errorPosition : Cond.selects RX6 yX6_errorPosition yX6_errorPosition ∈ gW := gW_at 307 (by decide +kernel) (by decide +kernel)
abbrev YX6_refusal : gY := (yX6_refusal, cX6_refusal, 2, (some .int), { frames := 6, cells := 1, slots := 6, locals := 130 })
abbrev MX6_refusal : gM := (cX6_refusal, 2, RX6, (some .int), [], "refusal", YX6_refusal.2.2.2.2)
theorem yn_X6_refusal : gName yX6_refusal 1 := ⟨by decide +kernel, by decide +kernel, by decide +kernel⟩
theorem wc_X6_refusal : Cond.code yX6_refusal cX6_refusal 2 (some .int) ∈ gW := gW_at 995 (by decide +kernel) (by decide +kernel)
theorem wi_X6_refusal : Cond.instanceMethod yX6_refusal ∈ gW := gW_at 993 (by decide +kernel) (by decide +kernel)
theorem we_X6_refusal : Cond.selects RX6 yX6_refusal yX6_refusal ∈ gW := gW_at 994 (by decide +kernel) (by decide +kernel)
abbrev YX6_account : gY := (yX6_account, cX6_account, 2, (some .int), { frames := 6, cells := 1, slots := 6, locals := 130 })
abbrev MX6_account : gM := (cX6_account, 2, RX6, (some .int), [], "account", YX6_account.2.2.2.2)
theorem yn_X6_account : gName yX6_account 1 := ⟨by decide +kernel, by decide +kernel, by decide +kernel⟩
theorem wc_X6_account : Cond.code yX6_account cX6_account 2 (some .int) ∈ gW := gW_at 1003 (by decide +kernel) (by decide +kernel)
theorem wi_X6_account : Cond.instanceMethod yX6_account ∈ gW := gW_at 1001 (by decide +kernel) (by decide +kernel)
theorem we_X6_account : Cond.selects RX6 yX6_account yX6_account ∈ gW := gW_at 1002 (by decide +kernel) (by decide +kernel)
abbrev YX6_isWell : gY := (yX6_isWell, cX6_isWell, 1, (some .boolean), { frames := 4, cells := 0, slots := 0, locals := 88 })
abbrev MX6_isWell : gM := (cX6_isWell, 1, RX6, (some .boolean), [], "isWell", YX6_isWell.2.2.2.2)
theorem yn_X6_isWell : gName yX6_isWell 0 := ⟨by decide +kernel, by decide +kernel, by decide +kernel⟩
theorem wc_X6_isWell : Cond.code yX6_isWell cX6_isWell 1 (some .boolean) ∈ gW := gW_at 312 (by decide +kernel) (by decide +kernel)
theorem wi_X6_isWell : Cond.instanceMethod yX6_isWell ∈ gW := gW_at 310 (by decide +kernel) (by decide +kernel)
theorem we_X6_isWell : Cond.selects RX6 yX6_isWell yX6_isWell ∈ gW := gW_at 311 (by decide +kernel) (by decide +kernel)
abbrev YX6_meanBits : gY := (yX6_meanBits, cX6_meanBits, 4, (some .long), { frames := 1, cells := 0, slots := 0, locals := 24 })
abbrev MX6_meanBits : gM := (cX6_meanBits, 4, RX6, (some .long), [], "meanBits", YX6_meanBits.2.2.2.2)
theorem yn_X6_meanBits : gName yX6_meanBits 0 := ⟨by decide +kernel, by decide +kernel, by decide +kernel⟩
theorem wc_X6_meanBits : Cond.code yX6_meanBits cX6_meanBits 4 (some .long) ∈ gW := gW_at 353 (by decide +kernel) (by decide +kernel)
theorem wi_X6_meanBits : Cond.instanceMethod yX6_meanBits ∈ gW := gW_at 351 (by decide +kernel) (by decide +kernel)
theorem we_X6_meanBits : Cond.selects RX6 yX6_meanBits yX6_meanBits ∈ gW := gW_at 352 (by decide +kernel) (by decide +kernel)
abbrev YX6_share : gY := (yX6_share, cX6_share, 1, (some .float), { frames := 6, cells := 1, slots := 6, locals := 130 })
abbrev MX6_share : gM := (cX6_share, 1, RX6, (some .float), [], "share", YX6_share.2.2.2.2)
theorem yn_X6_share : gName yX6_share 0 := ⟨by decide +kernel, by decide +kernel, by decide +kernel⟩
theorem wc_X6_share : Cond.code yX6_share cX6_share 1 (some .float) ∈ gW := gW_at 1051 (by decide +kernel) (by decide +kernel)
theorem wi_X6_share : Cond.instanceMethod yX6_share ∈ gW := gW_at 1049 (by decide +kernel) (by decide +kernel)
theorem we_X6_share : Cond.selects RX6 yX6_share yX6_share ∈ gW := gW_at 1050 (by decide +kernel) (by decide +kernel)
abbrev YX6_undo : gY := (yX6_undo, cX6_undo, 1, (some .int), { frames := 6, cells := 1, slots := 6, locals := 130 })
abbrev MX6_undo : gM := (cX6_undo, 1, RX6, (some .int), [], "undo", YX6_undo.2.2.2.2)
theorem yn_X6_undo : gName yX6_undo 0 := ⟨by decide +kernel, by decide +kernel, by decide +kernel⟩
theorem wc_X6_undo : Cond.code yX6_undo cX6_undo 1 (some .int) ∈ gW := gW_at 1061 (by decide +kernel) (by decide +kernel)
theorem wi_X6_undo : Cond.instanceMethod yX6_undo ∈ gW := gW_at 1059 (by decide +kernel) (by decide +kernel)
theorem we_X6_undo : Cond.selects RX6 yX6_undo yX6_undo ∈ gW := gW_at 1060 (by decide +kernel) (by decide +kernel)
abbrev YX6_save : gY := (yX6_save, cX6_save, 1, (some .int), { frames := 2, cells := 0, slots := 0, locals := 44 })
abbrev MX6_save : gM := (cX6_save, 1, RX6, (some .int), [], "save", YX6_save.2.2.2.2)
theorem yn_X6_save : gName yX6_save 0 := ⟨by decide +kernel, by decide +kernel, by decide +kernel⟩
theorem wc_X6_save : Cond.code yX6_save cX6_save 1 (some .int) ∈ gW := gW_at 363 (by decide +kernel) (by decide +kernel)
theorem wi_X6_save : Cond.instanceMethod yX6_save ∈ gW := gW_at 361 (by decide +kernel) (by decide +kernel)
theorem we_X6_save : Cond.selects RX6 yX6_save yX6_save ∈ gW := gW_at 362 (by decide +kernel) (by decide +kernel)
abbrev YX6_restore : gY := (yX6_restore, cX6_restore, 1, (some .int), { frames := 6, cells := 1, slots := 6, locals := 130 })
abbrev MX6_restore : gM := (cX6_restore, 1, RX6, (some .int), [], "restore", YX6_restore.2.2.2.2)
theorem yn_X6_restore : gName yX6_restore 0 := ⟨by decide +kernel, by decide +kernel, by decide +kernel⟩
theorem wc_X6_restore : Cond.code yX6_restore cX6_restore 1 (some .int) ∈ gW := gW_at 1073 (by decide +kernel) (by decide +kernel)
theorem wi_X6_restore : Cond.instanceMethod yX6_restore ∈ gW := gW_at 1071 (by decide +kernel) (by decide +kernel)
theorem we_X6_restore : Cond.selects RX6 yX6_restore yX6_restore ∈ gW := gW_at 1072 (by decide +kernel) (by decide +kernel)
abbrev YX6_isSetting : gY := (yX6_isSetting, cX6_isSetting, 1, (some .boolean), { frames := 0, cells := 0, slots := 0, locals := 0 })
abbrev MX6_isSetting : gM := (cX6_isSetting, 1, RX6, (some .boolean), [], "isSetting", YX6_isSetting.2.2.2.2)
theorem yn_X6_isSetting : gName yX6_isSetting 1 := ⟨by decide +kernel, by decide +kernel, by decide +kernel⟩
theorem wc_X6_isSetting : Cond.code yX6_isSetting cX6_isSetting 1 (some .boolean) ∈ gW := gW_at 389 (by decide +kernel) (by decide +kernel)
theorem wt_X6_isSetting : Cond.static yX6_isSetting ∈ gW := gW_at 388 (by decide +kernel) (by decide +kernel)
abbrev YX6_isSettingValue : gY := (yX6_isSettingValue, cX6_isSettingValue, 2, (some .boolean), { frames := 1, cells := 0, slots := 0, locals := 20 })
abbrev MX6_isSettingValue : gM := (cX6_isSettingValue, 2, RX6, (some .boolean), [], "isSettingValue", YX6_isSettingValue.2.2.2.2)
theorem yn_X6_isSettingValue : gName yX6_isSettingValue 2 := ⟨by decide +kernel, by decide +kernel, by decide +kernel⟩
theorem wc_X6_isSettingValue : Cond.code yX6_isSettingValue cX6_isSettingValue 2 (some .boolean) ∈ gW := gW_at 386 (by decide +kernel) (by decide +kernel)
theorem wt_X6_isSettingValue : Cond.static yX6_isSettingValue ∈ gW := gW_at 385 (by decide +kernel) (by decide +kernel)
abbrev YX6_isMile : gY := (yX6_isMile, cX6_isMile, 1, (some .boolean), { frames := 0, cells := 0, slots := 0, locals := 0 })
abbrev MX6_isMile : gM := (cX6_isMile, 1, RX6, (some .boolean), [], "isMile", YX6_isMile.2.2.2.2)
theorem yn_X6_isMile : gName yX6_isMile 1 := ⟨by decide +kernel, by decide +kernel, by decide +kernel⟩
theorem wc_X6_isMile : Cond.code yX6_isMile cX6_isMile 1 (some .boolean) ∈ gW := gW_at 344 (by decide +kernel) (by decide +kernel)
theorem wt_X6_isMile : Cond.static yX6_isMile ∈ gW := gW_at 343 (by decide +kernel) (by decide +kernel)
abbrev YX6_isRow : gY := (yX6_isRow, cX6_isRow, 1, (some .boolean), { frames := 0, cells := 0, slots := 0, locals := 0 })
abbrev MX6_isRow : gM := (cX6_isRow, 1, RX6, (some .boolean), [], "isRow", YX6_isRow.2.2.2.2)
theorem yn_X6_isRow : gName yX6_isRow 1 := ⟨by decide +kernel, by decide +kernel, by decide +kernel⟩
theorem wc_X6_isRow : Cond.code yX6_isRow cX6_isRow 1 (some .boolean) ∈ gW := gW_at 607 (by decide +kernel) (by decide +kernel)
theorem wt_X6_isRow : Cond.static yX6_isRow ∈ gW := gW_at 606 (by decide +kernel) (by decide +kernel)
abbrev YX6_isPlace : gY := (yX6_isPlace, cX6_isPlace, 1, (some .boolean), { frames := 0, cells := 0, slots := 0, locals := 0 })
abbrev MX6_isPlace : gM := (cX6_isPlace, 1, RX6, (some .boolean), [], "isPlace", YX6_isPlace.2.2.2.2)
theorem yn_X6_isPlace : gName yX6_isPlace 1 := ⟨by decide +kernel, by decide +kernel, by decide +kernel⟩
theorem wc_X6_isPlace : Cond.code yX6_isPlace cX6_isPlace 1 (some .boolean) ∈ gW := gW_at 664 (by decide +kernel) (by decide +kernel)
theorem wt_X6_isPlace : Cond.static yX6_isPlace ∈ gW := gW_at 663 (by decide +kernel) (by decide +kernel)
abbrev YX6_isDaysToPass : gY := (yX6_isDaysToPass, cX6_isDaysToPass, 1, (some .boolean), { frames := 0, cells := 0, slots := 0, locals := 0 })
abbrev MX6_isDaysToPass : gM := (cX6_isDaysToPass, 1, RX6, (some .boolean), [], "isDaysToPass", YX6_isDaysToPass.2.2.2.2)
theorem yn_X6_isDaysToPass : gName yX6_isDaysToPass 1 := ⟨by decide +kernel, by decide +kernel, by decide +kernel⟩
theorem wc_X6_isDaysToPass : Cond.code yX6_isDaysToPass cX6_isDaysToPass 1 (some .boolean) ∈ gW := gW_at 880 (by decide +kernel) (by decide +kernel)
theorem wt_X6_isDaysToPass : Cond.static yX6_isDaysToPass ∈ gW := gW_at 879 (by decide +kernel) (by decide +kernel)
abbrev YX6_refusalFor : gY := (yX6_refusalFor, cX6_refusalFor, 2, (some .int), { frames := 0, cells := 0, slots := 0, locals := 0 })
abbrev MX6_refusalFor : gM := (cX6_refusalFor, 2, RX6, (some .int), [], "refusalFor", YX6_refusalFor.2.2.2.2)
theorem yn_X6_refusalFor : gName yX6_refusalFor 2 := ⟨by decide +kernel, by decide +kernel, by decide +kernel⟩
theorem wc_X6_refusalFor : Cond.code yX6_refusalFor cX6_refusalFor 2 (some .int) ∈ gW := gW_at 616 (by decide +kernel) (by decide +kernel)
theorem wt_X6_refusalFor : Cond.static yX6_refusalFor ∈ gW := gW_at 615 (by decide +kernel) (by decide +kernel)
abbrev YX6_nextIce : gY := (yX6_nextIce, cX6_nextIce, 3, (some .float), { frames := 0, cells := 0, slots := 0, locals := 0 })
abbrev MX6_nextIce : gM := (cX6_nextIce, 3, RX6, (some .float), [], "nextIce", YX6_nextIce.2.2.2.2)
theorem yn_X6_nextIce : gName yX6_nextIce 2 := ⟨by decide +kernel, by decide +kernel, by decide +kernel⟩
theorem wc_X6_nextIce : Cond.code yX6_nextIce cX6_nextIce 3 (some .float) ∈ gW := gW_at 857 (by decide +kernel) (by decide +kernel)
theorem wt_X6_nextIce : Cond.static yX6_nextIce ∈ gW := gW_at 856 (by decide +kernel) (by decide +kernel)
abbrev YX6_borneBy : gY := (yX6_borneBy, cX6_borneBy, 3, (some .float), { frames := 0, cells := 0, slots := 0, locals := 0 })
abbrev MX6_borneBy : gM := (cX6_borneBy, 3, RX6, (some .float), [], "borneBy", YX6_borneBy.2.2.2.2)
theorem yn_X6_borneBy : gName yX6_borneBy 3 := ⟨by decide +kernel, by decide +kernel, by decide +kernel⟩
theorem wc_X6_borneBy : Cond.code yX6_borneBy cX6_borneBy 3 (some .float) ∈ gW := gW_at 301 (by decide +kernel) (by decide +kernel)
theorem wt_X6_borneBy : Cond.static yX6_borneBy ∈ gW := gW_at 300 (by decide +kernel) (by decide +kernel)
abbrev YX6_floatBits : gY := (yX6_floatBits, cX6_floatBits, 3, (some .int), { frames := 0, cells := 0, slots := 0, locals := 0 })
abbrev MX6_floatBits : gM := (cX6_floatBits, 3, RX6, (some .int), [], "floatBits", YX6_floatBits.2.2.2.2)
theorem yn_X6_floatBits : gName yX6_floatBits 1 := ⟨by decide +kernel, by decide +kernel, by decide +kernel⟩
theorem wc_X6_floatBits : Cond.code yX6_floatBits cX6_floatBits 3 (some .int) ∈ gW := gW_at 533 (by decide +kernel) (by decide +kernel)
theorem wt_X6_floatBits : Cond.static yX6_floatBits ∈ gW := gW_at 532 (by decide +kernel) (by decide +kernel)
abbrev YX6_doubleBits : gY := (yX6_doubleBits, cX6_doubleBits, 5, (some .long), { frames := 0, cells := 0, slots := 0, locals := 0 })
abbrev MX6_doubleBits : gM := (cX6_doubleBits, 5, RX6, (some .long), [], "doubleBits", YX6_doubleBits.2.2.2.2)
theorem yn_X6_doubleBits : gName yX6_doubleBits 1 := ⟨by decide +kernel, by decide +kernel, by decide +kernel⟩
theorem wc_X6_doubleBits : Cond.code yX6_doubleBits cX6_doubleBits 5 (some .long) ∈ gW := gW_at 357 (by decide +kernel) (by decide +kernel)
theorem wt_X6_doubleBits : Cond.static yX6_doubleBits ∈ gW := gW_at 356 (by decide +kernel) (by decide +kernel)
abbrev YX7_init : gY := (yX7_init, cX7_init, 2, none, { frames := 3, cells := 7, slots := 2268, locals := 90 })
abbrev MX7_init : gM := (cX7_init, 2, RX7, none, [], "<init>", YX7_init.2.2.2.2)
theorem yn_X7_init : gName yX7_init 0 := ⟨by decide +kernel, by decide +kernel, by decide +kernel⟩
theorem wc_X7_init : Cond.code yX7_init cX7_init 2 none ∈ gW := gW_at 1079 (by decide +kernel) (by decide +kernel)
theorem wi_X7_init : Cond.instanceMethod yX7_init ∈ gW := gW_at 1078 (by decide +kernel) (by decide +kernel)
abbrev YX7_thrown : gY := (yX7_thrown, cX7_thrown, 1, (some .int), { frames := 0, cells := 0, slots := 0, locals := 0 })
abbrev MX7_thrown : gM := (cX7_thrown, 1, RX7, (some .int), [], "thrown", YX7_thrown.2.2.2.2)
theorem yn_X7_thrown : gName yX7_thrown 0 := ⟨by decide +kernel, by decide +kernel, by decide +kernel⟩
theorem wc_X7_thrown : Cond.code yX7_thrown cX7_thrown 1 (some .int) ∈ gW := gW_at 1158 (by decide +kernel) (by decide +kernel)
theorem wi_X7_thrown : Cond.instanceMethod yX7_thrown ∈ gW := gW_at 1156 (by decide +kernel) (by decide +kernel)
theorem we_X7_thrown : Cond.selects RX7 yX7_thrown yX7_thrown ∈ gW := gW_at 1157 (by decide +kernel) (by decide +kernel)
abbrev YX7_in : gY := (yX7_in, cX7_in, 3, (some .boolean), { frames := 0, cells := 0, slots := 0, locals := 0 })
abbrev MX7_in : gM := (cX7_in, 3, RX7, (some .boolean), [], "in", YX7_in.2.2.2.2)
theorem yn_X7_in : gName yX7_in 3 := ⟨by decide +kernel, by decide +kernel, by decide +kernel⟩
theorem wc_X7_in : Cond.code yX7_in cX7_in 3 (some .boolean) ∈ gW := gW_at 1180 (by decide +kernel) (by decide +kernel)
theorem wt_X7_in : Cond.static yX7_in ∈ gW := gW_at 1179 (by decide +kernel) (by decide +kernel)
abbrev YX7_keep : gY := (yX7_keep, cX7_keep, 1, none, { frames := 1, cells := 0, slots := 0, locals := 48 })
abbrev MX7_keep : gM := (cX7_keep, 1, RX7, none, [], "keep", YX7_keep.2.2.2.2)
theorem yn_X7_keep : gName yX7_keep 0 := ⟨by decide +kernel, by decide +kernel, by decide +kernel⟩
theorem wc_X7_keep : Cond.code yX7_keep cX7_keep 1 none ∈ gW := gW_at 1170 (by decide +kernel) (by decide +kernel)
theorem wi_X7_keep : Cond.instanceMethod yX7_keep ∈ gW := gW_at 1169 (by decide +kernel) (by decide +kernel)
theorem we_X7_keep : Cond.selects RX7 yX7_keep yX7_keep ∈ gW := gW_at 10 (by decide +kernel) (by decide +kernel)
abbrev YX7_ends : gY := (yX7_ends, cX7_ends, 2, (some .int), { frames := 1, cells := 0, slots := 0, locals := 48 })
abbrev MX7_ends : gM := (cX7_ends, 2, RX7, (some .int), [], "ends", YX7_ends.2.2.2.2)
theorem yn_X7_ends : gName yX7_ends 1 := ⟨by decide +kernel, by decide +kernel, by decide +kernel⟩
theorem wc_X7_ends : Cond.code yX7_ends cX7_ends 2 (some .int) ∈ gW := gW_at 1188 (by decide +kernel) (by decide +kernel)
theorem wi_X7_ends : Cond.instanceMethod yX7_ends ∈ gW := gW_at 1187 (by decide +kernel) (by decide +kernel)
theorem we_X7_ends : Cond.selects RX7 yX7_ends yX7_ends ∈ gW := gW_at 13 (by decide +kernel) (by decide +kernel)
abbrev YX7_fails : gY := (yX7_fails, cX7_fails, 2, (some .int), { frames := 0, cells := 0, slots := 0, locals := 0 })
abbrev MX7_fails : gM := (cX7_fails, 2, RX7, (some .int), [], "fails", YX7_fails.2.2.2.2)
theorem yn_X7_fails : gName yX7_fails 1 := ⟨by decide +kernel, by decide +kernel, by decide +kernel⟩
theorem wc_X7_fails : Cond.code yX7_fails cX7_fails 2 (some .int) ∈ gW := gW_at 1184 (by decide +kernel) (by decide +kernel)
theorem wi_X7_fails : Cond.instanceMethod yX7_fails ∈ gW := gW_at 1183 (by decide +kernel) (by decide +kernel)
theorem we_X7_fails : Cond.selects RX7 yX7_fails yX7_fails ∈ gW := gW_at 12 (by decide +kernel) (by decide +kernel)
abbrev YX7_refuse : gY := (yX7_refuse, cX7_refuse, 4, (some .int), { frames := 0, cells := 0, slots := 0, locals := 0 })
abbrev MX7_refuse : gM := (cX7_refuse, 4, RX7, (some .int), [], "refuse", YX7_refuse.2.2.2.2)
theorem yn_X7_refuse : gName yX7_refuse 3 := ⟨by decide +kernel, by decide +kernel, by decide +kernel⟩
theorem wc_X7_refuse : Cond.code yX7_refuse cX7_refuse 4 (some .int) ∈ gW := gW_at 1276 (by decide +kernel) (by decide +kernel)
theorem wi_X7_refuse : Cond.instanceMethod yX7_refuse ∈ gW := gW_at 1275 (by decide +kernel) (by decide +kernel)
theorem we_X7_refuse : Cond.selects RX7 yX7_refuse yX7_refuse ∈ gW := gW_at 23 (by decide +kernel) (by decide +kernel)
abbrev YX7_refusal : gY := (yX7_refusal, cX7_refusal, 2, (some .int), { frames := 0, cells := 0, slots := 0, locals := 0 })
abbrev MX7_refusal : gM := (cX7_refusal, 2, RX7, (some .int), [], "refusal", YX7_refusal.2.2.2.2)
theorem yn_X7_refusal : gName yX7_refusal 1 := ⟨by decide +kernel, by decide +kernel, by decide +kernel⟩
theorem wc_X7_refusal : Cond.code yX7_refusal cX7_refusal 2 (some .int) ∈ gW := gW_at 1162 (by decide +kernel) (by decide +kernel)
theorem wi_X7_refusal : Cond.instanceMethod yX7_refusal ∈ gW := gW_at 1160 (by decide +kernel) (by decide +kernel)
theorem we_X7_refusal : Cond.selects RX7 yX7_refusal yX7_refusal ∈ gW := gW_at 1161 (by decide +kernel) (by decide +kernel)
abbrev YX7_get : gY := (yX7_get, cX7_get, 3, (some .int), { frames := 0, cells := 0, slots := 0, locals := 0 })
abbrev MX7_get : gM := (cX7_get, 3, RX7, (some .int), [], "get", YX7_get.2.2.2.2)
theorem yn_X7_get : gName yX7_get 2 := ⟨by decide +kernel, by decide +kernel, by decide +kernel⟩
theorem wc_X7_get : Cond.code yX7_get cX7_get 3 (some .int) ∈ gW := gW_at 1207 (by decide +kernel) (by decide +kernel)
theorem wi_X7_get : Cond.instanceMethod yX7_get ∈ gW := gW_at 1206 (by decide +kernel) (by decide +kernel)
theorem we_X7_get : Cond.selects RX7 yX7_get yX7_get ∈ gW := gW_at 15 (by decide +kernel) (by decide +kernel)
abbrev YX7_set : gY := (yX7_set, cX7_set, 4, none, { frames := 0, cells := 0, slots := 0, locals := 0 })
abbrev MX7_set : gM := (cX7_set, 4, RX7, none, [], "set", YX7_set.2.2.2.2)
theorem yn_X7_set : gName yX7_set 3 := ⟨by decide +kernel, by decide +kernel, by decide +kernel⟩
theorem wc_X7_set : Cond.code yX7_set cX7_set 4 none ∈ gW := gW_at 1099 (by decide +kernel) (by decide +kernel)
theorem wi_X7_set : Cond.instanceMethod yX7_set ∈ gW := gW_at 1098 (by decide +kernel) (by decide +kernel)
theorem we_X7_set : Cond.selects RX7 yX7_set yX7_set ∈ gW := gW_at 9 (by decide +kernel) (by decide +kernel)
abbrev YX7_iceOf : gY := (yX7_iceOf, cX7_iceOf, 2, (some .float), { frames := 1, cells := 0, slots := 0, locals := 48 })
abbrev MX7_iceOf : gM := (cX7_iceOf, 2, RX7, (some .float), [], "iceOf", YX7_iceOf.2.2.2.2)
theorem yn_X7_iceOf : gName yX7_iceOf 1 := ⟨by decide +kernel, by decide +kernel, by decide +kernel⟩
theorem wc_X7_iceOf : Cond.code yX7_iceOf cX7_iceOf 2 (some .float) ∈ gW := gW_at 1227 (by decide +kernel) (by decide +kernel)
theorem wi_X7_iceOf : Cond.instanceMethod yX7_iceOf ∈ gW := gW_at 1226 (by decide +kernel) (by decide +kernel)
theorem we_X7_iceOf : Cond.selects RX7 yX7_iceOf yX7_iceOf ∈ gW := gW_at 17 (by decide +kernel) (by decide +kernel)
abbrev YX7_setIce : gY := (yX7_setIce, cX7_setIce, 3, none, { frames := 2, cells := 0, slots := 0, locals := 68 })
abbrev MX7_setIce : gM := (cX7_setIce, 3, RX7, none, [], "setIce", YX7_setIce.2.2.2.2)
theorem yn_X7_setIce : gName yX7_setIce 2 := ⟨by decide +kernel, by decide +kernel, by decide +kernel⟩
theorem wc_X7_setIce : Cond.code yX7_setIce cX7_setIce 3 none ∈ gW := gW_at 1085 (by decide +kernel) (by decide +kernel)
theorem wi_X7_setIce : Cond.instanceMethod yX7_setIce ∈ gW := gW_at 1084 (by decide +kernel) (by decide +kernel)
theorem we_X7_setIce : Cond.selects RX7 yX7_setIce yX7_setIce ∈ gW := gW_at 8 (by decide +kernel) (by decide +kernel)
abbrev YX7_convoy1 : gY := (yX7_convoy1, cX7_convoy1, 3, (some .int), { frames := 0, cells := 0, slots := 0, locals := 0 })
abbrev MX7_convoy1 : gM := (cX7_convoy1, 3, RX7, (some .int), [], "convoy1", YX7_convoy1.2.2.2.2)
theorem yn_X7_convoy1 : gName yX7_convoy1 2 := ⟨by decide +kernel, by decide +kernel, by decide +kernel⟩
theorem wc_X7_convoy1 : Cond.code yX7_convoy1 cX7_convoy1 3 (some .int) ∈ gW := gW_at 1253 (by decide +kernel) (by decide +kernel)
theorem wi_X7_convoy1 : Cond.instanceMethod yX7_convoy1 ∈ gW := gW_at 1252 (by decide +kernel) (by decide +kernel)
theorem we_X7_convoy1 : Cond.selects RX7 yX7_convoy1 yX7_convoy1 ∈ gW := gW_at 20 (by decide +kernel) (by decide +kernel)
abbrev YX7_truck1 : gY := (yX7_truck1, cX7_truck1, 4, (some .int), { frames := 1, cells := 0, slots := 0, locals := 22 })
abbrev MX7_truck1 : gM := (cX7_truck1, 4, RX7, (some .int), [], "truck1", YX7_truck1.2.2.2.2)
theorem yn_X7_truck1 : gName yX7_truck1 3 := ⟨by decide +kernel, by decide +kernel, by decide +kernel⟩
theorem wc_X7_truck1 : Cond.code yX7_truck1 cX7_truck1 4 (some .int) ∈ gW := gW_at 1319 (by decide +kernel) (by decide +kernel)
theorem wi_X7_truck1 : Cond.instanceMethod yX7_truck1 ∈ gW := gW_at 1318 (by decide +kernel) (by decide +kernel)
theorem we_X7_truck1 : Cond.selects RX7 yX7_truck1 yX7_truck1 ∈ gW := gW_at 29 (by decide +kernel) (by decide +kernel)
abbrev YX7_isMile : gY := (yX7_isMile, cX7_isMile, 1, (some .boolean), { frames := 1, cells := 0, slots := 0, locals := 22 })
abbrev MX7_isMile : gM := (cX7_isMile, 1, RX7, (some .boolean), [], "isMile", YX7_isMile.2.2.2.2)
theorem yn_X7_isMile : gName yX7_isMile 1 := ⟨by decide +kernel, by decide +kernel, by decide +kernel⟩
theorem wc_X7_isMile : Cond.code yX7_isMile cX7_isMile 1 (some .boolean) ∈ gW := gW_at 1203 (by decide +kernel) (by decide +kernel)
theorem wt_X7_isMile : Cond.static yX7_isMile ∈ gW := gW_at 1202 (by decide +kernel) (by decide +kernel)
abbrev YX7_isConvoy : gY := (yX7_isConvoy, cX7_isConvoy, 2, (some .boolean), { frames := 1, cells := 0, slots := 0, locals := 22 })
abbrev MX7_isConvoy : gM := (cX7_isConvoy, 2, RX7, (some .boolean), [], "isConvoy", YX7_isConvoy.2.2.2.2)
theorem yn_X7_isConvoy : gName yX7_isConvoy 1 := ⟨by decide +kernel, by decide +kernel, by decide +kernel⟩
theorem wc_X7_isConvoy : Cond.code yX7_isConvoy cX7_isConvoy 2 (some .boolean) ∈ gW := gW_at 1299 (by decide +kernel) (by decide +kernel)
theorem wi_X7_isConvoy : Cond.instanceMethod yX7_isConvoy ∈ gW := gW_at 1298 (by decide +kernel) (by decide +kernel)
theorem we_X7_isConvoy : Cond.selects RX7 yX7_isConvoy yX7_isConvoy ∈ gW := gW_at 25 (by decide +kernel) (by decide +kernel)
abbrev YX7_doSet : gY := (yX7_doSet, cX7_doSet, 6, (some .int), { frames := 1, cells := 0, slots := 0, locals := 22 })
abbrev MX7_doSet : gM := (cX7_doSet, 6, RX7, (some .int), [], "doSet", YX7_doSet.2.2.2.2)
theorem yn_X7_doSet : gName yX7_doSet 2 := ⟨by decide +kernel, by decide +kernel, by decide +kernel⟩
theorem wc_X7_doSet : Cond.code yX7_doSet cX7_doSet 6 (some .int) ∈ gW := gW_at 1177 (by decide +kernel) (by decide +kernel)
theorem wi_X7_doSet : Cond.instanceMethod yX7_doSet ∈ gW := gW_at 1176 (by decide +kernel) (by decide +kernel)
theorem we_X7_doSet : Cond.selects RX7 yX7_doSet yX7_doSet ∈ gW := gW_at 11 (by decide +kernel) (by decide +kernel)
abbrev YX7_set_ : gY := (yX7_set_, cX7_set_, 3, (some .int), { frames := 2, cells := 0, slots := 0, locals := 69 })
abbrev MX7_set_ : gM := (cX7_set_, 3, RX7, (some .int), [], "set", YX7_set_.2.2.2.2)
theorem yn_X7_set_ : gName yX7_set_ 2 := ⟨by decide +kernel, by decide +kernel, by decide +kernel⟩
theorem wc_X7_set_ : Cond.code yX7_set_ cX7_set_ 3 (some .int) ∈ gW := gW_at 1166 (by decide +kernel) (by decide +kernel)
theorem wi_X7_set_ : Cond.instanceMethod yX7_set_ ∈ gW := gW_at 1164 (by decide +kernel) (by decide +kernel)
theorem we_X7_set_ : Cond.selects RX7 yX7_set_ yX7_set_ ∈ gW := gW_at 1165 (by decide +kernel) (by decide +kernel)
abbrev YX7_setting : gY := (yX7_setting, cX7_setting, 2, (some .int), { frames := 1, cells := 0, slots := 0, locals := 22 })
abbrev MX7_setting : gM := (cX7_setting, 2, RX7, (some .int), [], "setting", YX7_setting.2.2.2.2)
theorem yn_X7_setting : gName yX7_setting 1 := ⟨by decide +kernel, by decide +kernel, by decide +kernel⟩
theorem wc_X7_setting : Cond.code yX7_setting cX7_setting 2 (some .int) ∈ gW := gW_at 1192 (by decide +kernel) (by decide +kernel)
theorem wi_X7_setting : Cond.instanceMethod yX7_setting ∈ gW := gW_at 1190 (by decide +kernel) (by decide +kernel)
theorem we_X7_setting : Cond.selects RX7 yX7_setting yX7_setting ∈ gW := gW_at 1191 (by decide +kernel) (by decide +kernel)
abbrev YX7_doDrill : gY := (yX7_doDrill, cX7_doDrill, 2, (some .int), { frames := 2, cells := 0, slots := 0, locals := 42 })
abbrev MX7_doDrill : gM := (cX7_doDrill, 2, RX7, (some .int), [], "doDrill", YX7_doDrill.2.2.2.2)
theorem yn_X7_doDrill : gName yX7_doDrill 1 := ⟨by decide +kernel, by decide +kernel, by decide +kernel⟩
theorem wc_X7_doDrill : Cond.code yX7_doDrill cX7_doDrill 2 (some .int) ∈ gW := gW_at 1200 (by decide +kernel) (by decide +kernel)
theorem wi_X7_doDrill : Cond.instanceMethod yX7_doDrill ∈ gW := gW_at 1199 (by decide +kernel) (by decide +kernel)
theorem we_X7_doDrill : Cond.selects RX7 yX7_doDrill yX7_doDrill ∈ gW := gW_at 14 (by decide +kernel) (by decide +kernel)
abbrev YX7_drill : gY := (yX7_drill, cX7_drill, 2, (some .int), { frames := 3, cells := 0, slots := 0, locals := 69 })
abbrev MX7_drill : gM := (cX7_drill, 2, RX7, (some .int), [], "drill", YX7_drill.2.2.2.2)
theorem yn_X7_drill : gName yX7_drill 1 := ⟨by decide +kernel, by decide +kernel, by decide +kernel⟩
theorem wc_X7_drill : Cond.code yX7_drill cX7_drill 2 (some .int) ∈ gW := gW_at 1196 (by decide +kernel) (by decide +kernel)
theorem wi_X7_drill : Cond.instanceMethod yX7_drill ∈ gW := gW_at 1194 (by decide +kernel) (by decide +kernel)
theorem we_X7_drill : Cond.selects RX7 yX7_drill yX7_drill ∈ gW := gW_at 1195 (by decide +kernel) (by decide +kernel)
abbrev YX7_drilled : gY := (yX7_drilled, cX7_drilled, 2, (some .int), { frames := 2, cells := 0, slots := 0, locals := 42 })
abbrev MX7_drilled : gM := (cX7_drilled, 2, RX7, (some .int), [], "drilled", YX7_drilled.2.2.2.2)
theorem yn_X7_drilled : gName yX7_drilled 1 := ⟨by decide +kernel, by decide +kernel, by decide +kernel⟩
theorem wc_X7_drilled : Cond.code yX7_drilled cX7_drilled 2 (some .int) ∈ gW := gW_at 1211 (by decide +kernel) (by decide +kernel)
theorem wi_X7_drilled : Cond.instanceMethod yX7_drilled ∈ gW := gW_at 1209 (by decide +kernel) (by decide +kernel)
theorem we_X7_drilled : Cond.selects RX7 yX7_drilled yX7_drilled ∈ gW := gW_at 1210 (by decide +kernel) (by decide +kernel)
abbrev YX7_isGood : gY := (yX7_isGood, cX7_isGood, 2, (some .boolean), { frames := 1, cells := 0, slots := 0, locals := 22 })
abbrev MX7_isGood : gM := (cX7_isGood, 2, RX7, (some .boolean), [], "isGood", YX7_isGood.2.2.2.2)
theorem yn_X7_isGood : gName yX7_isGood 1 := ⟨by decide +kernel, by decide +kernel, by decide +kernel⟩
theorem wc_X7_isGood : Cond.code yX7_isGood cX7_isGood 2 (some .boolean) ∈ gW := gW_at 1219 (by decide +kernel) (by decide +kernel)
theorem wi_X7_isGood : Cond.instanceMethod yX7_isGood ∈ gW := gW_at 1218 (by decide +kernel) (by decide +kernel)
theorem we_X7_isGood : Cond.selects RX7 yX7_isGood yX7_isGood ∈ gW := gW_at 16 (by decide +kernel) (by decide +kernel)
abbrev YX7_bearsOf : gY := (yX7_bearsOf, cX7_bearsOf, 5, (some .float), { frames := 2, cells := 0, slots := 0, locals := 48 })
abbrev MX7_bearsOf : gM := (cX7_bearsOf, 5, RX7, (some .float), [], "bearsOf", YX7_bearsOf.2.2.2.2)
theorem yn_X7_bearsOf : gName yX7_bearsOf 1 := ⟨by decide +kernel, by decide +kernel, by decide +kernel⟩
theorem wc_X7_bearsOf : Cond.code yX7_bearsOf cX7_bearsOf 5 (some .float) ∈ gW := gW_at 1238 (by decide +kernel) (by decide +kernel)
theorem wi_X7_bearsOf : Cond.instanceMethod yX7_bearsOf ∈ gW := gW_at 1237 (by decide +kernel) (by decide +kernel)
theorem we_X7_bearsOf : Cond.selects RX7 yX7_bearsOf yX7_bearsOf ∈ gW := gW_at 18 (by decide +kernel) (by decide +kernel)
abbrev YX7_mileOf : gY := (yX7_mileOf, cX7_mileOf, 3, (some .int), { frames := 2, cells := 0, slots := 0, locals := 43 })
abbrev MX7_mileOf : gM := (cX7_mileOf, 3, RX7, (some .int), [], "mileOf", YX7_mileOf.2.2.2.2)
theorem yn_X7_mileOf : gName yX7_mileOf 2 := ⟨by decide +kernel, by decide +kernel, by decide +kernel⟩
theorem wc_X7_mileOf : Cond.code yX7_mileOf cX7_mileOf 3 (some .int) ∈ gW := gW_at 1215 (by decide +kernel) (by decide +kernel)
theorem wi_X7_mileOf : Cond.instanceMethod yX7_mileOf ∈ gW := gW_at 1213 (by decide +kernel) (by decide +kernel)
theorem we_X7_mileOf : Cond.selects RX7 yX7_mileOf yX7_mileOf ∈ gW := gW_at 1214 (by decide +kernel) (by decide +kernel)
abbrev YX7_ice : gY := (yX7_ice, cX7_ice, 2, (some .float), { frames := 2, cells := 0, slots := 0, locals := 69 })
abbrev MX7_ice : gM := (cX7_ice, 2, RX7, (some .float), [], "ice", YX7_ice.2.2.2.2)
theorem yn_X7_ice : gName yX7_ice 1 := ⟨by decide +kernel, by decide +kernel, by decide +kernel⟩
theorem wc_X7_ice : Cond.code yX7_ice cX7_ice 2 (some .float) ∈ gW := gW_at 1223 (by decide +kernel) (by decide +kernel)
theorem wi_X7_ice : Cond.instanceMethod yX7_ice ∈ gW := gW_at 1221 (by decide +kernel) (by decide +kernel)
theorem we_X7_ice : Cond.selects RX7 yX7_ice yX7_ice ∈ gW := gW_at 1222 (by decide +kernel) (by decide +kernel)
abbrev YX7_bears : gY := (yX7_bears, cX7_bears, 2, (some .int), { frames := 3, cells := 0, slots := 0, locals := 72 })
abbrev MX7_bears : gM := (cX7_bears, 2, RX7, (some .int), [], "bears", YX7_bears.2.2.2.2)
theorem yn_X7_bears : gName yX7_bears 1 := ⟨by decide +kernel, by decide +kernel, by decide +kernel⟩
theorem wc_X7_bears : Cond.code yX7_bears cX7_bears 2 (some .int) ∈ gW := gW_at 1234 (by decide +kernel) (by decide +kernel)
theorem wi_X7_bears : Cond.instanceMethod yX7_bears ∈ gW := gW_at 1232 (by decide +kernel) (by decide +kernel)
theorem we_X7_bears : Cond.selects RX7 yX7_bears yX7_bears ∈ gW := gW_at 1233 (by decide +kernel) (by decide +kernel)
abbrev YX7_sign : gY := (yX7_sign, cX7_sign, 2, (some .char), { frames := 3, cells := 0, slots := 0, locals := 69 })
abbrev MX7_sign : gM := (cX7_sign, 2, RX7, (some .char), [], "sign", YX7_sign.2.2.2.2)
theorem yn_X7_sign : gName yX7_sign 1 := ⟨by decide +kernel, by decide +kernel, by decide +kernel⟩
theorem wc_X7_sign : Cond.code yX7_sign cX7_sign 2 (some .char) ∈ gW := gW_at 1245 (by decide +kernel) (by decide +kernel)
theorem wi_X7_sign : Cond.instanceMethod yX7_sign ∈ gW := gW_at 1243 (by decide +kernel) (by decide +kernel)
theorem we_X7_sign : Cond.selects RX7 yX7_sign yX7_sign ∈ gW := gW_at 1244 (by decide +kernel) (by decide +kernel)
abbrev YX7_weakest : gY := (yX7_weakest, cX7_weakest, 3, (some .int), { frames := 3, cells := 0, slots := 0, locals := 72 })
abbrev MX7_weakest : gM := (cX7_weakest, 3, RX7, (some .int), [], "weakest", YX7_weakest.2.2.2.2)
theorem yn_X7_weakest : gName yX7_weakest 0 := ⟨by decide +kernel, by decide +kernel, by decide +kernel⟩
theorem wc_X7_weakest : Cond.code yX7_weakest cX7_weakest 3 (some .int) ∈ gW := gW_at 1265 (by decide +kernel) (by decide +kernel)
theorem wi_X7_weakest : Cond.instanceMethod yX7_weakest ∈ gW := gW_at 1263 (by decide +kernel) (by decide +kernel)
theorem we_X7_weakest : Cond.selects RX7 yX7_weakest yX7_weakest ∈ gW := gW_at 1264 (by decide +kernel) (by decide +kernel)
abbrev YX7_placeIn : gY := (yX7_placeIn, cX7_placeIn, 2, (some .int), { frames := 0, cells := 0, slots := 0, locals := 0 })
abbrev MX7_placeIn : gM := (cX7_placeIn, 2, RX7, (some .int), [], "placeIn", YX7_placeIn.2.2.2.2)
theorem yn_X7_placeIn : gName yX7_placeIn 2 := ⟨by decide +kernel, by decide +kernel, by decide +kernel⟩
theorem wc_X7_placeIn : Cond.code yX7_placeIn cX7_placeIn 2 (some .int) ∈ gW := gW_at 1272 (by decide +kernel) (by decide +kernel)
theorem wt_X7_placeIn : Cond.static yX7_placeIn ∈ gW := gW_at 1271 (by decide +kernel) (by decide +kernel)
abbrev YX7_isPlace : gY := (yX7_isPlace, cX7_isPlace, 2, (some .boolean), { frames := 1, cells := 0, slots := 0, locals := 22 })
abbrev MX7_isPlace : gM := (cX7_isPlace, 2, RX7, (some .boolean), [], "isPlace", YX7_isPlace.2.2.2.2)
theorem yn_X7_isPlace : gName yX7_isPlace 2 := ⟨by decide +kernel, by decide +kernel, by decide +kernel⟩
theorem wc_X7_isPlace : Cond.code yX7_isPlace cX7_isPlace 2 (some .boolean) ∈ gW := gW_at 1283 (by decide +kernel) (by decide +kernel)
theorem wt_X7_isPlace : Cond.static yX7_isPlace ∈ gW := gW_at 1282 (by decide +kernel) (by decide +kernel)
abbrev YX7_truck : gY := (yX7_truck, cX7_truck, 6, (some .int), { frames := 2, cells := 0, slots := 0, locals := 69 })
abbrev MX7_truck : gM := (cX7_truck, 6, RX7, (some .int), [], "truck", YX7_truck.2.2.2.2)
theorem yn_X7_truck : gName yX7_truck 4 := ⟨by decide +kernel, by decide +kernel, by decide +kernel⟩
theorem wc_X7_truck : Cond.code yX7_truck cX7_truck 6 (some .int) ∈ gW := gW_at 1269 (by decide +kernel) (by decide +kernel)
theorem wi_X7_truck : Cond.instanceMethod yX7_truck ∈ gW := gW_at 1267 (by decide +kernel) (by decide +kernel)
theorem we_X7_truck : Cond.selects RX7 yX7_truck yX7_truck ∈ gW := gW_at 1268 (by decide +kernel) (by decide +kernel)
abbrev YX7_inRow : gY := (yX7_inRow, cX7_inRow, 4, (some .int), { frames := 2, cells := 0, slots := 0, locals := 43 })
abbrev MX7_inRow : gM := (cX7_inRow, 4, RX7, (some .int), [], "inRow", YX7_inRow.2.2.2.2)
theorem yn_X7_inRow : gName yX7_inRow 3 := ⟨by decide +kernel, by decide +kernel, by decide +kernel⟩
theorem wc_X7_inRow : Cond.code yX7_inRow cX7_inRow 4 (some .int) ∈ gW := gW_at 1280 (by decide +kernel) (by decide +kernel)
theorem wi_X7_inRow : Cond.instanceMethod yX7_inRow ∈ gW := gW_at 1278 (by decide +kernel) (by decide +kernel)
theorem we_X7_inRow : Cond.selects RX7 yX7_inRow yX7_inRow ∈ gW := gW_at 1279 (by decide +kernel) (by decide +kernel)
abbrev YX7_convoy : gY := (yX7_convoy, cX7_convoy, 4, (some .int), { frames := 2, cells := 0, slots := 0, locals := 69 })
abbrev MX7_convoy : gM := (cX7_convoy, 4, RX7, (some .int), [], "convoy", YX7_convoy.2.2.2.2)
theorem yn_X7_convoy : gName yX7_convoy 1 := ⟨by decide +kernel, by decide +kernel, by decide +kernel⟩
theorem wc_X7_convoy : Cond.code yX7_convoy cX7_convoy 4 (some .int) ∈ gW := gW_at 1287 (by decide +kernel) (by decide +kernel)
theorem wi_X7_convoy : Cond.instanceMethod yX7_convoy ∈ gW := gW_at 1285 (by decide +kernel) (by decide +kernel)
theorem we_X7_convoy : Cond.selects RX7 yX7_convoy yX7_convoy ∈ gW := gW_at 1286 (by decide +kernel) (by decide +kernel)
abbrev YX7_doJoin : gY := (yX7_doJoin, cX7_doJoin, 7, (some .int), { frames := 2, cells := 0, slots := 0, locals := 43 })
abbrev MX7_doJoin : gM := (cX7_doJoin, 7, RX7, (some .int), [], "doJoin", YX7_doJoin.2.2.2.2)
theorem yn_X7_doJoin : gName yX7_doJoin 3 := ⟨by decide +kernel, by decide +kernel, by decide +kernel⟩
theorem wc_X7_doJoin : Cond.code yX7_doJoin cX7_doJoin 7 (some .int) ∈ gW := gW_at 1295 (by decide +kernel) (by decide +kernel)
theorem wi_X7_doJoin : Cond.instanceMethod yX7_doJoin ∈ gW := gW_at 1294 (by decide +kernel) (by decide +kernel)
theorem we_X7_doJoin : Cond.selects RX7 yX7_doJoin yX7_doJoin ∈ gW := gW_at 24 (by decide +kernel) (by decide +kernel)
abbrev YX7_join : gY := (yX7_join, cX7_join, 4, (some .int), { frames := 3, cells := 0, slots := 0, locals := 69 })
abbrev MX7_join : gM := (cX7_join, 4, RX7, (some .int), [], "join", YX7_join.2.2.2.2)
theorem yn_X7_join : gName yX7_join 3 := ⟨by decide +kernel, by decide +kernel, by decide +kernel⟩
theorem wc_X7_join : Cond.code yX7_join cX7_join 4 (some .int) ∈ gW := gW_at 1291 (by decide +kernel) (by decide +kernel)
theorem wi_X7_join : Cond.instanceMethod yX7_join ∈ gW := gW_at 1289 (by decide +kernel) (by decide +kernel)
theorem we_X7_join : Cond.selects RX7 yX7_join yX7_join ∈ gW := gW_at 1290 (by decide +kernel) (by decide +kernel)
abbrev YX7_loadOf : gY := (yX7_loadOf, cX7_loadOf, 4, (some .float), { frames := 2, cells := 0, slots := 0, locals := 45 })
abbrev MX7_loadOf : gM := (cX7_loadOf, 4, RX7, (some .float), [], "loadOf", YX7_loadOf.2.2.2.2)
theorem yn_X7_loadOf : gName yX7_loadOf 2 := ⟨by decide +kernel, by decide +kernel, by decide +kernel⟩
theorem wc_X7_loadOf : Cond.code yX7_loadOf cX7_loadOf 4 (some .float) ∈ gW := gW_at 1315 (by decide +kernel) (by decide +kernel)
theorem wi_X7_loadOf : Cond.instanceMethod yX7_loadOf ∈ gW := gW_at 1314 (by decide +kernel) (by decide +kernel)
theorem we_X7_loadOf : Cond.selects RX7 yX7_loadOf yX7_loadOf ∈ gW := gW_at 28 (by decide +kernel) (by decide +kernel)
abbrev YX7_mileBy : gY := (yX7_mileBy, cX7_mileBy, 4, (some .int), { frames := 1, cells := 0, slots := 0, locals := 22 })
abbrev MX7_mileBy : gM := (cX7_mileBy, 4, RX7, (some .int), [], "mileBy", YX7_mileBy.2.2.2.2)
theorem yn_X7_mileBy : gName yX7_mileBy 3 := ⟨by decide +kernel, by decide +kernel, by decide +kernel⟩
theorem wc_X7_mileBy : Cond.code yX7_mileBy cX7_mileBy 4 (some .int) ∈ gW := gW_at 1261 (by decide +kernel) (by decide +kernel)
theorem wi_X7_mileBy : Cond.instanceMethod yX7_mileBy ∈ gW := gW_at 1260 (by decide +kernel) (by decide +kernel)
theorem we_X7_mileBy : Cond.selects RX7 yX7_mileBy yX7_mileBy ∈ gW := gW_at 22 (by decide +kernel) (by decide +kernel)
abbrev YX7_isStarted : gY := (yX7_isStarted, cX7_isStarted, 2, (some .boolean), { frames := 1, cells := 0, slots := 0, locals := 22 })
abbrev MX7_isStarted : gM := (cX7_isStarted, 2, RX7, (some .boolean), [], "isStarted", YX7_isStarted.2.2.2.2)
theorem yn_X7_isStarted : gName yX7_isStarted 1 := ⟨by decide +kernel, by decide +kernel, by decide +kernel⟩
theorem wc_X7_isStarted : Cond.code yX7_isStarted cX7_isStarted 2 (some .boolean) ∈ gW := gW_at 1257 (by decide +kernel) (by decide +kernel)
theorem wi_X7_isStarted : Cond.instanceMethod yX7_isStarted ∈ gW := gW_at 1256 (by decide +kernel) (by decide +kernel)
theorem we_X7_isStarted : Cond.selects RX7 yX7_isStarted yX7_isStarted ∈ gW := gW_at 21 (by decide +kernel) (by decide +kernel)
abbrev YX7_whoIsAt : gY := (yX7_whoIsAt, cX7_whoIsAt, 5, (some .int), { frames := 2, cells := 0, slots := 0, locals := 45 })
abbrev MX7_whoIsAt : gM := (cX7_whoIsAt, 5, RX7, (some .int), [], "whoIsAt", YX7_whoIsAt.2.2.2.2)
theorem yn_X7_whoIsAt : gName yX7_whoIsAt 2 := ⟨by decide +kernel, by decide +kernel, by decide +kernel⟩
theorem wc_X7_whoIsAt : Cond.code yX7_whoIsAt cX7_whoIsAt 5 (some .int) ∈ gW := gW_at 1249 (by decide +kernel) (by decide +kernel)
theorem wi_X7_whoIsAt : Cond.instanceMethod yX7_whoIsAt ∈ gW := gW_at 1248 (by decide +kernel) (by decide +kernel)
theorem we_X7_whoIsAt : Cond.selects RX7 yX7_whoIsAt yX7_whoIsAt ∈ gW := gW_at 19 (by decide +kernel) (by decide +kernel)
abbrev YX7_barred : gY := (yX7_barred, cX7_barred, 5, (some .int), { frames := 3, cells := 0, slots := 0, locals := 72 })
abbrev MX7_barred : gM := (cX7_barred, 5, RX7, (some .int), [], "barred", YX7_barred.2.2.2.2)
theorem yn_X7_barred : gName yX7_barred 2 := ⟨by decide +kernel, by decide +kernel, by decide +kernel⟩
theorem wc_X7_barred : Cond.code yX7_barred cX7_barred 5 (some .int) ∈ gW := gW_at 1311 (by decide +kernel) (by decide +kernel)
theorem wi_X7_barred : Cond.instanceMethod yX7_barred ∈ gW := gW_at 1310 (by decide +kernel) (by decide +kernel)
theorem we_X7_barred : Cond.selects RX7 yX7_barred yX7_barred ∈ gW := gW_at 27 (by decide +kernel) (by decide +kernel)
abbrev YX7_isDone : gY := (yX7_isDone, cX7_isDone, 2, (some .boolean), { frames := 2, cells := 0, slots := 0, locals := 45 })
abbrev MX7_isDone : gM := (cX7_isDone, 2, RX7, (some .boolean), [], "isDone", YX7_isDone.2.2.2.2)
theorem yn_X7_isDone : gName yX7_isDone 1 := ⟨by decide +kernel, by decide +kernel, by decide +kernel⟩
theorem wc_X7_isDone : Cond.code yX7_isDone cX7_isDone 2 (some .boolean) ∈ gW := gW_at 1341 (by decide +kernel) (by decide +kernel)
theorem wi_X7_isDone : Cond.instanceMethod yX7_isDone ∈ gW := gW_at 1340 (by decide +kernel) (by decide +kernel)
theorem we_X7_isDone : Cond.selects RX7 yX7_isDone yX7_isDone ∈ gW := gW_at 33 (by decide +kernel) (by decide +kernel)
abbrev YX7_comesTo : gY := (yX7_comesTo, cX7_comesTo, 6, (some .int), { frames := 2, cells := 0, slots := 0, locals := 48 })
abbrev MX7_comesTo : gM := (cX7_comesTo, 6, RX7, (some .int), [], "comesTo", YX7_comesTo.2.2.2.2)
theorem yn_X7_comesTo : gName yX7_comesTo 2 := ⟨by decide +kernel, by decide +kernel, by decide +kernel⟩
theorem wc_X7_comesTo : Cond.code yX7_comesTo cX7_comesTo 6 (some .int) ∈ gW := gW_at 1324 (by decide +kernel) (by decide +kernel)
theorem wi_X7_comesTo : Cond.instanceMethod yX7_comesTo ∈ gW := gW_at 1323 (by decide +kernel) (by decide +kernel)
theorem we_X7_comesTo : Cond.selects RX7 yX7_comesTo yX7_comesTo ∈ gW := gW_at 30 (by decide +kernel) (by decide +kernel)
abbrev YX7_doStart : gY := (yX7_doStart, cX7_doStart, 4, (some .int), { frames := 4, cells := 0, slots := 0, locals := 96 })
abbrev MX7_doStart : gM := (cX7_doStart, 4, RX7, (some .int), [], "doStart", YX7_doStart.2.2.2.2)
theorem yn_X7_doStart : gName yX7_doStart 1 := ⟨by decide +kernel, by decide +kernel, by decide +kernel⟩
theorem wc_X7_doStart : Cond.code yX7_doStart cX7_doStart 4 (some .int) ∈ gW := gW_at 1307 (by decide +kernel) (by decide +kernel)
theorem wi_X7_doStart : Cond.instanceMethod yX7_doStart ∈ gW := gW_at 1306 (by decide +kernel) (by decide +kernel)
theorem we_X7_doStart : Cond.selects RX7 yX7_doStart yX7_doStart ∈ gW := gW_at 26 (by decide +kernel) (by decide +kernel)
abbrev YX7_start : gY := (yX7_start, cX7_start, 2, (some .int), { frames := 5, cells := 0, slots := 0, locals := 119 })
abbrev MX7_start : gM := (cX7_start, 2, RX7, (some .int), [], "start", YX7_start.2.2.2.2)
theorem yn_X7_start : gName yX7_start 1 := ⟨by decide +kernel, by decide +kernel, by decide +kernel⟩
theorem wc_X7_start : Cond.code yX7_start cX7_start 2 (some .int) ∈ gW := gW_at 1303 (by decide +kernel) (by decide +kernel)
theorem wi_X7_start : Cond.instanceMethod yX7_start ∈ gW := gW_at 1301 (by decide +kernel) (by decide +kernel)
theorem we_X7_start : Cond.selects RX7 yX7_start yX7_start ∈ gW := gW_at 1302 (by decide +kernel) (by decide +kernel)
abbrev YX7_whyNot : gY := (yX7_whyNot, cX7_whyNot, 2, (some .int), { frames := 4, cells := 0, slots := 0, locals := 96 })
abbrev MX7_whyNot : gM := (cX7_whyNot, 2, RX7, (some .int), [], "whyNot", YX7_whyNot.2.2.2.2)
theorem yn_X7_whyNot : gName yX7_whyNot 1 := ⟨by decide +kernel, by decide +kernel, by decide +kernel⟩
theorem wc_X7_whyNot : Cond.code yX7_whyNot cX7_whyNot 2 (some .int) ∈ gW := gW_at 1337 (by decide +kernel) (by decide +kernel)
theorem wi_X7_whyNot : Cond.instanceMethod yX7_whyNot ∈ gW := gW_at 1336 (by decide +kernel) (by decide +kernel)
theorem we_X7_whyNot : Cond.selects RX7 yX7_whyNot yX7_whyNot ∈ gW := gW_at 32 (by decide +kernel) (by decide +kernel)
abbrev YX7_doRoll : gY := (yX7_doRoll, cX7_doRoll, 3, (some .int), { frames := 5, cells := 0, slots := 0, locals := 117 })
abbrev MX7_doRoll : gM := (cX7_doRoll, 3, RX7, (some .int), [], "doRoll", YX7_doRoll.2.2.2.2)
theorem yn_X7_doRoll : gName yX7_doRoll 1 := ⟨by decide +kernel, by decide +kernel, by decide +kernel⟩
theorem wc_X7_doRoll : Cond.code yX7_doRoll cX7_doRoll 3 (some .int) ∈ gW := gW_at 1333 (by decide +kernel) (by decide +kernel)
theorem wi_X7_doRoll : Cond.instanceMethod yX7_doRoll ∈ gW := gW_at 1332 (by decide +kernel) (by decide +kernel)
theorem we_X7_doRoll : Cond.selects RX7 yX7_doRoll yX7_doRoll ∈ gW := gW_at 31 (by decide +kernel) (by decide +kernel)
abbrev YX7_roll : gY := (yX7_roll, cX7_roll, 2, (some .int), { frames := 6, cells := 0, slots := 0, locals := 139 })
abbrev MX7_roll : gM := (cX7_roll, 2, RX7, (some .int), [], "roll", YX7_roll.2.2.2.2)
theorem yn_X7_roll : gName yX7_roll 1 := ⟨by decide +kernel, by decide +kernel, by decide +kernel⟩
theorem wc_X7_roll : Cond.code yX7_roll cX7_roll 2 (some .int) ∈ gW := gW_at 1329 (by decide +kernel) (by decide +kernel)
theorem wi_X7_roll : Cond.instanceMethod yX7_roll ∈ gW := gW_at 1327 (by decide +kernel) (by decide +kernel)
theorem we_X7_roll : Cond.selects RX7 yX7_roll yX7_roll ∈ gW := gW_at 1328 (by decide +kernel) (by decide +kernel)
abbrev YX7_why : gY := (yX7_why, cX7_why, 3, (some .int), { frames := 5, cells := 0, slots := 0, locals := 117 })
abbrev MX7_why : gM := (cX7_why, 3, RX7, (some .int), [], "why", YX7_why.2.2.2.2)
theorem yn_X7_why : gName yX7_why 2 := ⟨by decide +kernel, by decide +kernel, by decide +kernel⟩
theorem wc_X7_why : Cond.code yX7_why cX7_why 3 (some .int) ∈ gW := gW_at 1345 (by decide +kernel) (by decide +kernel)
theorem wi_X7_why : Cond.instanceMethod yX7_why ∈ gW := gW_at 1343 (by decide +kernel) (by decide +kernel)
theorem we_X7_why : Cond.selects RX7 yX7_why yX7_why ∈ gW := gW_at 1344 (by decide +kernel) (by decide +kernel)
abbrev YX7_trucksOf : gY := (yX7_trucksOf, cX7_trucksOf, 6, (some .int), { frames := 2, cells := 0, slots := 0, locals := 45 })
abbrev MX7_trucksOf : gM := (cX7_trucksOf, 6, RX7, (some .int), [], "trucksOf", YX7_trucksOf.2.2.2.2)
theorem yn_X7_trucksOf : gName yX7_trucksOf 2 := ⟨by decide +kernel, by decide +kernel, by decide +kernel⟩
theorem wc_X7_trucksOf : Cond.code yX7_trucksOf cX7_trucksOf 6 (some .int) ∈ gW := gW_at 1353 (by decide +kernel) (by decide +kernel)
theorem wi_X7_trucksOf : Cond.instanceMethod yX7_trucksOf ∈ gW := gW_at 1352 (by decide +kernel) (by decide +kernel)
theorem we_X7_trucksOf : Cond.selects RX7 yX7_trucksOf yX7_trucksOf ∈ gW := gW_at 34 (by decide +kernel) (by decide +kernel)
abbrev YX7_convoyOf : gY := (yX7_convoyOf, cX7_convoyOf, 3, (some .int), { frames := 3, cells := 0, slots := 0, locals := 70 })
abbrev MX7_convoyOf : gM := (cX7_convoyOf, 3, RX7, (some .int), [], "convoyOf", YX7_convoyOf.2.2.2.2)
theorem yn_X7_convoyOf : gName yX7_convoyOf 2 := ⟨by decide +kernel, by decide +kernel, by decide +kernel⟩
theorem wc_X7_convoyOf : Cond.code yX7_convoyOf cX7_convoyOf 3 (some .int) ∈ gW := gW_at 1349 (by decide +kernel) (by decide +kernel)
theorem wi_X7_convoyOf : Cond.instanceMethod yX7_convoyOf ∈ gW := gW_at 1347 (by decide +kernel) (by decide +kernel)
theorem we_X7_convoyOf : Cond.selects RX7 yX7_convoyOf yX7_convoyOf ∈ gW := gW_at 1348 (by decide +kernel) (by decide +kernel)
abbrev YX7_isTruck : gY := (yX7_isTruck, cX7_isTruck, 3, (some .boolean), { frames := 2, cells := 0, slots := 0, locals := 43 })
abbrev MX7_isTruck : gM := (cX7_isTruck, 3, RX7, (some .boolean), [], "isTruck", YX7_isTruck.2.2.2.2)
theorem yn_X7_isTruck : gName yX7_isTruck 2 := ⟨by decide +kernel, by decide +kernel, by decide +kernel⟩
theorem wc_X7_isTruck : Cond.code yX7_isTruck cX7_isTruck 3 (some .boolean) ∈ gW := gW_at 1361 (by decide +kernel) (by decide +kernel)
theorem wi_X7_isTruck : Cond.instanceMethod yX7_isTruck ∈ gW := gW_at 1360 (by decide +kernel) (by decide +kernel)
theorem we_X7_isTruck : Cond.selects RX7 yX7_isTruck yX7_isTruck ∈ gW := gW_at 35 (by decide +kernel) (by decide +kernel)
abbrev YX7_truckOf : gY := (yX7_truckOf, cX7_truckOf, 4, (some .int), { frames := 3, cells := 0, slots := 0, locals := 65 })
abbrev MX7_truckOf : gM := (cX7_truckOf, 4, RX7, (some .int), [], "truckOf", YX7_truckOf.2.2.2.2)
theorem yn_X7_truckOf : gName yX7_truckOf 3 := ⟨by decide +kernel, by decide +kernel, by decide +kernel⟩
theorem wc_X7_truckOf : Cond.code yX7_truckOf cX7_truckOf 4 (some .int) ∈ gW := gW_at 1357 (by decide +kernel) (by decide +kernel)
theorem wi_X7_truckOf : Cond.instanceMethod yX7_truckOf ∈ gW := gW_at 1355 (by decide +kernel) (by decide +kernel)
theorem we_X7_truckOf : Cond.selects RX7 yX7_truckOf yX7_truckOf ∈ gW := gW_at 1356 (by decide +kernel) (by decide +kernel)
abbrev YX7_load : gY := (yX7_load, cX7_load, 3, (some .float), { frames := 3, cells := 0, slots := 0, locals := 68 })
abbrev MX7_load : gM := (cX7_load, 3, RX7, (some .float), [], "load", YX7_load.2.2.2.2)
theorem yn_X7_load : gName yX7_load 2 := ⟨by decide +kernel, by decide +kernel, by decide +kernel⟩
theorem wc_X7_load : Cond.code yX7_load cX7_load 3 (some .float) ∈ gW := gW_at 1365 (by decide +kernel) (by decide +kernel)
theorem wi_X7_load : Cond.instanceMethod yX7_load ∈ gW := gW_at 1363 (by decide +kernel) (by decide +kernel)
theorem we_X7_load : Cond.selects RX7 yX7_load yX7_load ∈ gW := gW_at 1364 (by decide +kernel) (by decide +kernel)
abbrev YX7_at : gY := (yX7_at, cX7_at, 2, (some .int), { frames := 3, cells := 0, slots := 0, locals := 69 })
abbrev MX7_at : gM := (cX7_at, 2, RX7, (some .int), [], "at", YX7_at.2.2.2.2)
theorem yn_X7_at : gName yX7_at 1 := ⟨by decide +kernel, by decide +kernel, by decide +kernel⟩
theorem wc_X7_at : Cond.code yX7_at cX7_at 2 (some .int) ∈ gW := gW_at 1369 (by decide +kernel) (by decide +kernel)
theorem wi_X7_at : Cond.instanceMethod yX7_at ∈ gW := gW_at 1367 (by decide +kernel) (by decide +kernel)
theorem we_X7_at : Cond.selects RX7 yX7_at yX7_at ∈ gW := gW_at 1368 (by decide +kernel) (by decide +kernel)
abbrev YX7_rolls : gY := (yX7_rolls, cX7_rolls, 4, (some .int), { frames := 5, cells := 0, slots := 0, locals := 117 })
abbrev MX7_rolls : gM := (cX7_rolls, 4, RX7, (some .int), [], "rolls", YX7_rolls.2.2.2.2)
theorem yn_X7_rolls : gName yX7_rolls 1 := ⟨by decide +kernel, by decide +kernel, by decide +kernel⟩
theorem wc_X7_rolls : Cond.code yX7_rolls cX7_rolls 4 (some .int) ∈ gW := gW_at 1373 (by decide +kernel) (by decide +kernel)
theorem wi_X7_rolls : Cond.instanceMethod yX7_rolls ∈ gW := gW_at 1371 (by decide +kernel) (by decide +kernel)
theorem we_X7_rolls : Cond.selects RX7 yX7_rolls yX7_rolls ∈ gW := gW_at 1372 (by decide +kernel) (by decide +kernel)
abbrev YX7_rollsAgain : gY := (yX7_rollsAgain, cX7_rollsAgain, 2, (some .int), { frames := 6, cells := 0, slots := 0, locals := 140 })
abbrev MX7_rollsAgain : gM := (cX7_rollsAgain, 2, RX7, (some .int), [], "rollsAgain", YX7_rollsAgain.2.2.2.2)
theorem yn_X7_rollsAgain : gName yX7_rollsAgain 1 := ⟨by decide +kernel, by decide +kernel, by decide +kernel⟩
theorem wc_X7_rollsAgain : Cond.code yX7_rollsAgain cX7_rollsAgain 2 (some .int) ∈ gW := gW_at 1377 (by decide +kernel) (by decide +kernel)
theorem wi_X7_rollsAgain : Cond.instanceMethod yX7_rollsAgain ∈ gW := gW_at 1375 (by decide +kernel) (by decide +kernel)
theorem we_X7_rollsAgain : Cond.selects RX7 yX7_rollsAgain yX7_rollsAgain ∈ gW := gW_at 1376 (by decide +kernel) (by decide +kernel)
abbrev YX7_iceBehind : gY := (yX7_iceBehind, cX7_iceBehind, 4, (some .float), { frames := 1, cells := 0, slots := 0, locals := 48 })
abbrev MX7_iceBehind : gM := (cX7_iceBehind, 4, RX7, (some .float), [], "iceBehind", YX7_iceBehind.2.2.2.2)
theorem yn_X7_iceBehind : gName yX7_iceBehind 1 := ⟨by decide +kernel, by decide +kernel, by decide +kernel⟩
theorem wc_X7_iceBehind : Cond.code yX7_iceBehind cX7_iceBehind 4 (some .float) ∈ gW := gW_at 1386 (by decide +kernel) (by decide +kernel)
theorem wi_X7_iceBehind : Cond.instanceMethod yX7_iceBehind ∈ gW := gW_at 1385 (by decide +kernel) (by decide +kernel)
theorem we_X7_iceBehind : Cond.selects RX7 yX7_iceBehind yX7_iceBehind ∈ gW := gW_at 36 (by decide +kernel) (by decide +kernel)
abbrev YX7_iceIn : gY := (yX7_iceIn, cX7_iceIn, 5, (some .int), { frames := 2, cells := 0, slots := 0, locals := 71 })
abbrev MX7_iceIn : gM := (cX7_iceIn, 5, RX7, (some .int), [], "iceIn", YX7_iceIn.2.2.2.2)
theorem yn_X7_iceIn : gName yX7_iceIn 2 := ⟨by decide +kernel, by decide +kernel, by decide +kernel⟩
theorem wc_X7_iceIn : Cond.code yX7_iceIn cX7_iceIn 5 (some .int) ∈ gW := gW_at 1382 (by decide +kernel) (by decide +kernel)
theorem wi_X7_iceIn : Cond.instanceMethod yX7_iceIn ∈ gW := gW_at 1380 (by decide +kernel) (by decide +kernel)
theorem we_X7_iceIn : Cond.selects RX7 yX7_iceIn yX7_iceIn ∈ gW := gW_at 1381 (by decide +kernel) (by decide +kernel)
abbrev YX7_bearsIn : gY := (yX7_bearsIn, cX7_bearsIn, 5, (some .int), { frames := 2, cells := 0, slots := 0, locals := 71 })
abbrev MX7_bearsIn : gM := (cX7_bearsIn, 5, RX7, (some .int), [], "bearsIn", YX7_bearsIn.2.2.2.2)
theorem yn_X7_bearsIn : gName yX7_bearsIn 2 := ⟨by decide +kernel, by decide +kernel, by decide +kernel⟩
theorem wc_X7_bearsIn : Cond.code yX7_bearsIn cX7_bearsIn 5 (some .int) ∈ gW := gW_at 1397 (by decide +kernel) (by decide +kernel)
theorem wi_X7_bearsIn : Cond.instanceMethod yX7_bearsIn ∈ gW := gW_at 1395 (by decide +kernel) (by decide +kernel)
theorem we_X7_bearsIn : Cond.selects RX7 yX7_bearsIn yX7_bearsIn ∈ gW := gW_at 1396 (by decide +kernel) (by decide +kernel)
abbrev YX7_goodMany : gY := (yX7_goodMany, cX7_goodMany, 3, (some .int), { frames := 2, cells := 0, slots := 0, locals := 43 })
abbrev MX7_goodMany : gM := (cX7_goodMany, 3, RX7, (some .int), [], "goodMany", YX7_goodMany.2.2.2.2)
theorem yn_X7_goodMany : gName yX7_goodMany 0 := ⟨by decide +kernel, by decide +kernel, by decide +kernel⟩
theorem wc_X7_goodMany : Cond.code yX7_goodMany cX7_goodMany 3 (some .int) ∈ gW := gW_at 1409 (by decide +kernel) (by decide +kernel)
theorem wi_X7_goodMany : Cond.instanceMethod yX7_goodMany ∈ gW := gW_at 1408 (by decide +kernel) (by decide +kernel)
theorem we_X7_goodMany : Cond.selects RX7 yX7_goodMany yX7_goodMany ∈ gW := gW_at 38 (by decide +kernel) (by decide +kernel)
abbrev YX7_goDay : gY := (yX7_goDay, cX7_goDay, 2, none, { frames := 3, cells := 0, slots := 0, locals := 90 })
abbrev MX7_goDay : gM := (cX7_goDay, 2, RX7, none, [], "goDay", YX7_goDay.2.2.2.2)
theorem yn_X7_goDay : gName yX7_goDay 0 := ⟨by decide +kernel, by decide +kernel, by decide +kernel⟩
theorem wc_X7_goDay : Cond.code yX7_goDay cX7_goDay 2 none ∈ gW := gW_at 1413 (by decide +kernel) (by decide +kernel)
theorem wi_X7_goDay : Cond.instanceMethod yX7_goDay ∈ gW := gW_at 1412 (by decide +kernel) (by decide +kernel)
theorem we_X7_goDay : Cond.selects RX7 yX7_goDay yX7_goDay ∈ gW := gW_at 39 (by decide +kernel) (by decide +kernel)
abbrev YX7_doPass : gY := (yX7_doPass, cX7_doPass, 4, (some .int), { frames := 4, cells := 0, slots := 0, locals := 111 })
abbrev MX7_doPass : gM := (cX7_doPass, 4, RX7, (some .int), [], "doPass", YX7_doPass.2.2.2.2)
theorem yn_X7_doPass : gName yX7_doPass 1 := ⟨by decide +kernel, by decide +kernel, by decide +kernel⟩
theorem wc_X7_doPass : Cond.code yX7_doPass cX7_doPass 4 (some .int) ∈ gW := gW_at 1405 (by decide +kernel) (by decide +kernel)
theorem wi_X7_doPass : Cond.instanceMethod yX7_doPass ∈ gW := gW_at 1404 (by decide +kernel) (by decide +kernel)
theorem we_X7_doPass : Cond.selects RX7 yX7_doPass yX7_doPass ∈ gW := gW_at 37 (by decide +kernel) (by decide +kernel)
abbrev YX7_pass : gY := (yX7_pass, cX7_pass, 2, (some .int), { frames := 5, cells := 0, slots := 0, locals := 134 })
abbrev MX7_pass : gM := (cX7_pass, 2, RX7, (some .int), [], "pass", YX7_pass.2.2.2.2)
theorem yn_X7_pass : gName yX7_pass 1 := ⟨by decide +kernel, by decide +kernel, by decide +kernel⟩
theorem wc_X7_pass : Cond.code yX7_pass cX7_pass 2 (some .int) ∈ gW := gW_at 1401 (by decide +kernel) (by decide +kernel)
theorem wi_X7_pass : Cond.instanceMethod yX7_pass ∈ gW := gW_at 1399 (by decide +kernel) (by decide +kernel)
theorem we_X7_pass : Cond.selects RX7 yX7_pass yX7_pass ∈ gW := gW_at 1400 (by decide +kernel) (by decide +kernel)
abbrev YX7_append : gY := (yX7_append, cX7_append, 2, (some .int), { frames := 0, cells := 0, slots := 0, locals := 0 })
abbrev MX7_append : gM := (cX7_append, 2, RX7, (some .int), [], "append", YX7_append.2.2.2.2)
theorem yn_X7_append : gName yX7_append 1 := ⟨by decide +kernel, by decide +kernel, by decide +kernel⟩
theorem wc_X7_append : Cond.code yX7_append cX7_append 2 (some .int) ∈ gW := gW_at 1418 (by decide +kernel) (by decide +kernel)
theorem wi_X7_append : Cond.instanceMethod yX7_append ∈ gW := gW_at 1416 (by decide +kernel) (by decide +kernel)
theorem we_X7_append : Cond.selects RX7 yX7_append yX7_append ∈ gW := gW_at 1417 (by decide +kernel) (by decide +kernel)
abbrev YX7_isHere : gY := (yX7_isHere, cX7_isHere, 3, (some .boolean), { frames := 1, cells := 0, slots := 0, locals := 22 })
abbrev MX7_isHere : gM := (cX7_isHere, 3, RX7, (some .boolean), [], "isHere", YX7_isHere.2.2.2.2)
theorem yn_X7_isHere : gName yX7_isHere 2 := ⟨by decide +kernel, by decide +kernel, by decide +kernel⟩
theorem wc_X7_isHere : Cond.code yX7_isHere cX7_isHere 3 (some .boolean) ∈ gW := gW_at 1517 (by decide +kernel) (by decide +kernel)
theorem wi_X7_isHere : Cond.instanceMethod yX7_isHere ∈ gW := gW_at 1516 (by decide +kernel) (by decide +kernel)
theorem we_X7_isHere : Cond.selects RX7 yX7_isHere yX7_isHere ∈ gW := gW_at 42 (by decide +kernel) (by decide +kernel)
abbrev YX7_sign1 : gY := (yX7_sign1, cX7_sign1, 3, (some .int), { frames := 2, cells := 0, slots := 0, locals := 44 })
abbrev MX7_sign1 : gM := (cX7_sign1, 3, RX7, (some .int), [], "sign1", YX7_sign1.2.2.2.2)
theorem yn_X7_sign1 : gName yX7_sign1 2 := ⟨by decide +kernel, by decide +kernel, by decide +kernel⟩
theorem wc_X7_sign1 : Cond.code yX7_sign1 cX7_sign1 3 (some .int) ∈ gW := gW_at 1529 (by decide +kernel) (by decide +kernel)
theorem wi_X7_sign1 : Cond.instanceMethod yX7_sign1 ∈ gW := gW_at 1528 (by decide +kernel) (by decide +kernel)
theorem we_X7_sign1 : Cond.selects RX7 yX7_sign1 yX7_sign1 ∈ gW := gW_at 45 (by decide +kernel) (by decide +kernel)
abbrev YX7_digit : gY := (yX7_digit, cX7_digit, 1, (some .int), { frames := 3, cells := 0, slots := 0, locals := 66 })
abbrev MX7_digit : gM := (cX7_digit, 1, RX7, (some .int), [], "digit", YX7_digit.2.2.2.2)
theorem yn_X7_digit : gName yX7_digit 0 := ⟨by decide +kernel, by decide +kernel, by decide +kernel⟩
theorem wc_X7_digit : Cond.code yX7_digit cX7_digit 1 (some .int) ∈ gW := gW_at 1525 (by decide +kernel) (by decide +kernel)
theorem wi_X7_digit : Cond.instanceMethod yX7_digit ∈ gW := gW_at 1524 (by decide +kernel) (by decide +kernel)
theorem we_X7_digit : Cond.selects RX7 yX7_digit yX7_digit ∈ gW := gW_at 44 (by decide +kernel) (by decide +kernel)
abbrev YX7_number : gY := (yX7_number, cX7_number, 2, (some .int), { frames := 4, cells := 0, slots := 0, locals := 86 })
abbrev MX7_number : gM := (cX7_number, 2, RX7, (some .int), [], "number", YX7_number.2.2.2.2)
theorem yn_X7_number : gName yX7_number 0 := ⟨by decide +kernel, by decide +kernel, by decide +kernel⟩
theorem wc_X7_number : Cond.code yX7_number cX7_number 2 (some .int) ∈ gW := gW_at 1521 (by decide +kernel) (by decide +kernel)
theorem wi_X7_number : Cond.instanceMethod yX7_number ∈ gW := gW_at 1520 (by decide +kernel) (by decide +kernel)
theorem we_X7_number : Cond.selects RX7 yX7_number yX7_number ∈ gW := gW_at 43 (by decide +kernel) (by decide +kernel)
abbrev YX7_digitBehind : gY := (yX7_digitBehind, cX7_digitBehind, 3, (some .int), { frames := 4, cells := 0, slots := 0, locals := 86 })
abbrev MX7_digitBehind : gM := (cX7_digitBehind, 3, RX7, (some .int), [], "digitBehind", YX7_digitBehind.2.2.2.2)
theorem yn_X7_digitBehind : gName yX7_digitBehind 1 := ⟨by decide +kernel, by decide +kernel, by decide +kernel⟩
theorem wc_X7_digitBehind : Cond.code yX7_digitBehind cX7_digitBehind 3 (some .int) ∈ gW := gW_at 1533 (by decide +kernel) (by decide +kernel)
theorem wi_X7_digitBehind : Cond.instanceMethod yX7_digitBehind ∈ gW := gW_at 1532 (by decide +kernel) (by decide +kernel)
theorem we_X7_digitBehind : Cond.selects RX7 yX7_digitBehind yX7_digitBehind ∈ gW := gW_at 46 (by decide +kernel) (by decide +kernel)
abbrev YX7_signed : gY := (yX7_signed, cX7_signed, 3, (some .int), { frames := 5, cells := 0, slots := 0, locals := 107 })
abbrev MX7_signed : gM := (cX7_signed, 3, RX7, (some .int), [], "signed", YX7_signed.2.2.2.2)
theorem yn_X7_signed : gName yX7_signed 0 := ⟨by decide +kernel, by decide +kernel, by decide +kernel⟩
theorem wc_X7_signed : Cond.code yX7_signed cX7_signed 3 (some .int) ∈ gW := gW_at 1513 (by decide +kernel) (by decide +kernel)
theorem wi_X7_signed : Cond.instanceMethod yX7_signed ∈ gW := gW_at 1512 (by decide +kernel) (by decide +kernel)
theorem we_X7_signed : Cond.selects RX7 yX7_signed yX7_signed ∈ gW := gW_at 41 (by decide +kernel) (by decide +kernel)
abbrev YX7_readOrder : gY := (yX7_readOrder, cX7_readOrder, 3, none, { frames := 7, cells := 0, slots := 0, locals := 159 })
abbrev MX7_readOrder : gM := (cX7_readOrder, 3, RX7, none, [], "readOrder", YX7_readOrder.2.2.2.2)
theorem yn_X7_readOrder : gName yX7_readOrder 0 := ⟨by decide +kernel, by decide +kernel, by decide +kernel⟩
theorem wc_X7_readOrder : Cond.code yX7_readOrder cX7_readOrder 3 none ∈ gW := gW_at 1426 (by decide +kernel) (by decide +kernel)
theorem wi_X7_readOrder : Cond.instanceMethod yX7_readOrder ∈ gW := gW_at 1425 (by decide +kernel) (by decide +kernel)
theorem we_X7_readOrder : Cond.selects RX7 yX7_readOrder yX7_readOrder ∈ gW := gW_at 40 (by decide +kernel) (by decide +kernel)
abbrev YX7_does : gY := (yX7_does, cX7_does, 4, none, { frames := 6, cells := 0, slots := 0, locals := 139 })
abbrev MX7_does : gM := (cX7_does, 4, RX7, none, [], "does", YX7_does.2.2.2.2)
theorem yn_X7_does : gName yX7_does 1 := ⟨by decide +kernel, by decide +kernel, by decide +kernel⟩
theorem wc_X7_does : Cond.code yX7_does cX7_does 4 none ∈ gW := gW_at 1537 (by decide +kernel) (by decide +kernel)
theorem wi_X7_does : Cond.instanceMethod yX7_does ∈ gW := gW_at 1536 (by decide +kernel) (by decide +kernel)
theorem we_X7_does : Cond.selects RX7 yX7_does yX7_does ∈ gW := gW_at 47 (by decide +kernel) (by decide +kernel)
abbrev YX7_read : gY := (yX7_read, cX7_read, 2, (some .int), { frames := 8, cells := 0, slots := 0, locals := 181 })
abbrev MX7_read : gM := (cX7_read, 2, RX7, (some .int), [], "read", YX7_read.2.2.2.2)
theorem yn_X7_read : gName yX7_read 0 := ⟨by decide +kernel, by decide +kernel, by decide +kernel⟩
theorem wc_X7_read : Cond.code yX7_read cX7_read 2 (some .int) ∈ gW := gW_at 1422 (by decide +kernel) (by decide +kernel)
theorem wi_X7_read : Cond.instanceMethod yX7_read ∈ gW := gW_at 1420 (by decide +kernel) (by decide +kernel)
theorem we_X7_read : Cond.selects RX7 yX7_read yX7_read ∈ gW := gW_at 1421 (by decide +kernel) (by decide +kernel)
abbrev YX7_errorPosition : gY := (yX7_errorPosition, cX7_errorPosition, 1, (some .int), { frames := 0, cells := 0, slots := 0, locals := 0 })
abbrev MX7_errorPosition : gM := (cX7_errorPosition, 1, RX7, (some .int), [], "errorPosition", YX7_errorPosition.2.2.2.2)
theorem yn_X7_errorPosition : gName yX7_errorPosition 0 := ⟨by decide +kernel, by decide +kernel, by decide +kernel⟩
theorem wc_X7_errorPosition : Cond.code yX7_errorPosition cX7_errorPosition 1 (some .int) ∈ gW := gW_at 1541 (by decide +kernel) (by decide +kernel)
theorem wi_X7_errorPosition : Cond.instanceMethod yX7_errorPosition ∈ gW := gW_at 1539 (by decide +kernel) (by decide +kernel)
theorem we_X7_errorPosition : Cond.selects RX7 yX7_errorPosition yX7_errorPosition ∈ gW := gW_at 1540 (by decide +kernel) (by decide +kernel)
abbrev YX7_overConvoys : gY := (yX7_overConvoys, cX7_overConvoys, 4, (some .int), { frames := 3, cells := 0, slots := 0, locals := 70 })
abbrev MX7_overConvoys : gM := (cX7_overConvoys, 4, RX7, (some .int), [], "overConvoys", YX7_overConvoys.2.2.2.2)
theorem yn_X7_overConvoys : gName yX7_overConvoys 1 := ⟨by decide +kernel, by decide +kernel, by decide +kernel⟩
theorem wc_X7_overConvoys : Cond.code yX7_overConvoys cX7_overConvoys 4 (some .int) ∈ gW := gW_at 1553 (by decide +kernel) (by decide +kernel)
theorem wi_X7_overConvoys : Cond.instanceMethod yX7_overConvoys ∈ gW := gW_at 1552 (by decide +kernel) (by decide +kernel)
theorem we_X7_overConvoys : Cond.selects RX7 yX7_overConvoys yX7_overConvoys ∈ gW := gW_at 49 (by decide +kernel) (by decide +kernel)
abbrev YX7_waitingTonnes : gY := (yX7_waitingTonnes, cX7_waitingTonnes, 5, (some .int), { frames := 2, cells := 0, slots := 0, locals := 45 })
abbrev MX7_waitingTonnes : gM := (cX7_waitingTonnes, 5, RX7, (some .int), [], "waitingTonnes", YX7_waitingTonnes.2.2.2.2)
theorem yn_X7_waitingTonnes : gName yX7_waitingTonnes 0 := ⟨by decide +kernel, by decide +kernel, by decide +kernel⟩
theorem wc_X7_waitingTonnes : Cond.code yX7_waitingTonnes cX7_waitingTonnes 5 (some .int) ∈ gW := gW_at 1557 (by decide +kernel) (by decide +kernel)
theorem wi_X7_waitingTonnes : Cond.instanceMethod yX7_waitingTonnes ∈ gW := gW_at 1556 (by decide +kernel) (by decide +kernel)
theorem we_X7_waitingTonnes : Cond.selects RX7 yX7_waitingTonnes yX7_waitingTonnes ∈ gW := gW_at 50 (by decide +kernel) (by decide +kernel)
abbrev YX7_inRows : gY := (yX7_inRows, cX7_inRows, 3, (some .int), { frames := 0, cells := 0, slots := 0, locals := 0 })
abbrev MX7_inRows : gM := (cX7_inRows, 3, RX7, (some .int), [], "inRows", YX7_inRows.2.2.2.2)
theorem yn_X7_inRows : gName yX7_inRows 0 := ⟨by decide +kernel, by decide +kernel, by decide +kernel⟩
theorem wc_X7_inRows : Cond.code yX7_inRows cX7_inRows 3 (some .int) ∈ gW := gW_at 1549 (by decide +kernel) (by decide +kernel)
theorem wi_X7_inRows : Cond.instanceMethod yX7_inRows ∈ gW := gW_at 1548 (by decide +kernel) (by decide +kernel)
theorem we_X7_inRows : Cond.selects RX7 yX7_inRows yX7_inRows ∈ gW := gW_at 48 (by decide +kernel) (by decide +kernel)
abbrev YX7_allCracks : gY := (yX7_allCracks, cX7_allCracks, 3, (some .int), { frames := 1, cells := 0, slots := 0, locals := 22 })
abbrev MX7_allCracks : gM := (cX7_allCracks, 3, RX7, (some .int), [], "allCracks", YX7_allCracks.2.2.2.2)
theorem yn_X7_allCracks : gName yX7_allCracks 0 := ⟨by decide +kernel, by decide +kernel, by decide +kernel⟩
theorem wc_X7_allCracks : Cond.code yX7_allCracks cX7_allCracks 3 (some .int) ∈ gW := gW_at 1561 (by decide +kernel) (by decide +kernel)
theorem wi_X7_allCracks : Cond.instanceMethod yX7_allCracks ∈ gW := gW_at 1560 (by decide +kernel) (by decide +kernel)
theorem we_X7_allCracks : Cond.selects RX7 yX7_allCracks yX7_allCracks ∈ gW := gW_at 51 (by decide +kernel) (by decide +kernel)
abbrev YX7_account : gY := (yX7_account, cX7_account, 2, (some .int), { frames := 4, cells := 0, slots := 0, locals := 93 })
abbrev MX7_account : gM := (cX7_account, 2, RX7, (some .int), [], "account", YX7_account.2.2.2.2)
theorem yn_X7_account : gName yX7_account 1 := ⟨by decide +kernel, by decide +kernel, by decide +kernel⟩
theorem wc_X7_account : Cond.code yX7_account cX7_account 2 (some .int) ∈ gW := gW_at 1545 (by decide +kernel) (by decide +kernel)
theorem wi_X7_account : Cond.instanceMethod yX7_account ∈ gW := gW_at 1543 (by decide +kernel) (by decide +kernel)
theorem we_X7_account : Cond.selects RX7 yX7_account yX7_account ∈ gW := gW_at 1544 (by decide +kernel) (by decide +kernel)
abbrev YX7_isWell : gY := (yX7_isWell, cX7_isWell, 4, (some .boolean), { frames := 3, cells := 0, slots := 0, locals := 69 })
abbrev MX7_isWell : gM := (cX7_isWell, 4, RX7, (some .boolean), [], "isWell", YX7_isWell.2.2.2.2)
theorem yn_X7_isWell : gName yX7_isWell 0 := ⟨by decide +kernel, by decide +kernel, by decide +kernel⟩
theorem wc_X7_isWell : Cond.code yX7_isWell cX7_isWell 4 (some .boolean) ∈ gW := gW_at 1565 (by decide +kernel) (by decide +kernel)
theorem wi_X7_isWell : Cond.instanceMethod yX7_isWell ∈ gW := gW_at 1563 (by decide +kernel) (by decide +kernel)
theorem we_X7_isWell : Cond.selects RX7 yX7_isWell yX7_isWell ∈ gW := gW_at 1564 (by decide +kernel) (by decide +kernel)
abbrev YX7_meanBits : gY := (yX7_meanBits, cX7_meanBits, 4, (some .long), { frames := 2, cells := 0, slots := 0, locals := 69 })
abbrev MX7_meanBits : gM := (cX7_meanBits, 4, RX7, (some .long), [], "meanBits", YX7_meanBits.2.2.2.2)
theorem yn_X7_meanBits : gName yX7_meanBits 0 := ⟨by decide +kernel, by decide +kernel, by decide +kernel⟩
theorem wc_X7_meanBits : Cond.code yX7_meanBits cX7_meanBits 4 (some .long) ∈ gW := gW_at 1569 (by decide +kernel) (by decide +kernel)
theorem wi_X7_meanBits : Cond.instanceMethod yX7_meanBits ∈ gW := gW_at 1567 (by decide +kernel) (by decide +kernel)
theorem we_X7_meanBits : Cond.selects RX7 yX7_meanBits yX7_meanBits ∈ gW := gW_at 1568 (by decide +kernel) (by decide +kernel)
abbrev YX7_share : gY := (yX7_share, cX7_share, 1, (some .float), { frames := 0, cells := 0, slots := 0, locals := 0 })
abbrev MX7_share : gM := (cX7_share, 1, RX7, (some .float), [], "share", YX7_share.2.2.2.2)
theorem yn_X7_share : gName yX7_share 0 := ⟨by decide +kernel, by decide +kernel, by decide +kernel⟩
theorem wc_X7_share : Cond.code yX7_share cX7_share 1 (some .float) ∈ gW := gW_at 1584 (by decide +kernel) (by decide +kernel)
theorem wi_X7_share : Cond.instanceMethod yX7_share ∈ gW := gW_at 1582 (by decide +kernel) (by decide +kernel)
theorem we_X7_share : Cond.selects RX7 yX7_share yX7_share ∈ gW := gW_at 1583 (by decide +kernel) (by decide +kernel)
abbrev YX7_undo : gY := (yX7_undo, cX7_undo, 1, (some .int), { frames := 1, cells := 0, slots := 0, locals := 48 })
abbrev MX7_undo : gM := (cX7_undo, 1, RX7, (some .int), [], "undo", YX7_undo.2.2.2.2)
theorem yn_X7_undo : gName yX7_undo 0 := ⟨by decide +kernel, by decide +kernel, by decide +kernel⟩
theorem wc_X7_undo : Cond.code yX7_undo cX7_undo 1 (some .int) ∈ gW := gW_at 1588 (by decide +kernel) (by decide +kernel)
theorem wi_X7_undo : Cond.instanceMethod yX7_undo ∈ gW := gW_at 1586 (by decide +kernel) (by decide +kernel)
theorem we_X7_undo : Cond.selects RX7 yX7_undo yX7_undo ∈ gW := gW_at 1587 (by decide +kernel) (by decide +kernel)
abbrev YX7_save : gY := (yX7_save, cX7_save, 1, (some .int), { frames := 1, cells := 0, slots := 0, locals := 48 })
abbrev MX7_save : gM := (cX7_save, 1, RX7, (some .int), [], "save", YX7_save.2.2.2.2)
theorem yn_X7_save : gName yX7_save 0 := ⟨by decide +kernel, by decide +kernel, by decide +kernel⟩
theorem wc_X7_save : Cond.code yX7_save cX7_save 1 (some .int) ∈ gW := gW_at 1592 (by decide +kernel) (by decide +kernel)
theorem wi_X7_save : Cond.instanceMethod yX7_save ∈ gW := gW_at 1590 (by decide +kernel) (by decide +kernel)
theorem we_X7_save : Cond.selects RX7 yX7_save yX7_save ∈ gW := gW_at 1591 (by decide +kernel) (by decide +kernel)
abbrev YX7_restore : gY := (yX7_restore, cX7_restore, 1, (some .int), { frames := 1, cells := 0, slots := 0, locals := 48 })
abbrev MX7_restore : gM := (cX7_restore, 1, RX7, (some .int), [], "restore", YX7_restore.2.2.2.2)
theorem yn_X7_restore : gName yX7_restore 0 := ⟨by decide +kernel, by decide +kernel, by decide +kernel⟩
theorem wc_X7_restore : Cond.code yX7_restore cX7_restore 1 (some .int) ∈ gW := gW_at 1596 (by decide +kernel) (by decide +kernel)
theorem wi_X7_restore : Cond.instanceMethod yX7_restore ∈ gW := gW_at 1594 (by decide +kernel) (by decide +kernel)
theorem we_X7_restore : Cond.selects RX7 yX7_restore yX7_restore ∈ gW := gW_at 1595 (by decide +kernel) (by decide +kernel)
abbrev YJx00060_init_a7421 : gY := (yJx00060_init_a7421, cJx00060_init_a7421, 2, none, { frames := 6, cells := 1, slots := 6, locals := 130 })
abbrev MJx00060_init_a7421 : gM := (cJx00060_init_a7421, 2, RJx00060, none, [], "<init>", YJx00060_init_a7421.2.2.2.2)
theorem yn_Jx00060_init_a7421 : gName yJx00060_init_a7421 1 := ⟨by decide +kernel, by decide +kernel, by decide +kernel⟩
theorem wc_Jx00060_init_a7421 : Cond.code yJx00060_init_a7421 cJx00060_init_a7421 2 none ∈ gW := gW_at 488 (by decide +kernel) (by decide +kernel)
theorem wi_Jx00060_init_a7421 : Cond.instanceMethod yJx00060_init_a7421 ∈ gW := gW_at 487 (by decide +kernel) (by decide +kernel)
abbrev YJ11_isValidCodePoint_9a6ad : gY := (yJ11_isValidCodePoint_9a6ad, cJ11_isValidCodePoint_9a6ad, 2, (some .boolean), { frames := 0, cells := 0, slots := 0, locals := 0 })
abbrev MJ11_isValidCodePoint_9a6ad : gM := (cJ11_isValidCodePoint_9a6ad, 2, RJ11, (some .boolean), [], "isValidCodePoint", YJ11_isValidCodePoint_9a6ad.2.2.2.2)
theorem yn_J11_isValidCodePoint_9a6ad : gName yJ11_isValidCodePoint_9a6ad 1 := ⟨by decide +kernel, by decide +kernel, by decide +kernel⟩
theorem wc_J11_isValidCodePoint_9a6ad : Cond.code yJ11_isValidCodePoint_9a6ad cJ11_isValidCodePoint_9a6ad 2 (some .boolean) ∈ gW := gW_at 1501 (by decide +kernel) (by decide +kernel)
theorem wt_J11_isValidCodePoint_9a6ad : Cond.static yJ11_isValidCodePoint_9a6ad ∈ gW := gW_at 1500 (by decide +kernel) (by decide +kernel)
abbrev YJ11_highSurrogate_5068e : gY := (yJ11_highSurrogate_5068e, cJ11_highSurrogate_5068e, 1, (some .char), { frames := 0, cells := 0, slots := 0, locals := 0 })
abbrev MJ11_highSurrogate_5068e : gM := (cJ11_highSurrogate_5068e, 1, RJ11, (some .char), [], "highSurrogate", YJ11_highSurrogate_5068e.2.2.2.2)
theorem yn_J11_highSurrogate_5068e : gName yJ11_highSurrogate_5068e 1 := ⟨by decide +kernel, by decide +kernel, by decide +kernel⟩
theorem wc_J11_highSurrogate_5068e : Cond.code yJ11_highSurrogate_5068e cJ11_highSurrogate_5068e 1 (some .char) ∈ gW := gW_at 1504 (by decide +kernel) (by decide +kernel)
theorem wt_J11_highSurrogate_5068e : Cond.static yJ11_highSurrogate_5068e ∈ gW := gW_at 1503 (by decide +kernel) (by decide +kernel)
abbrev YJ11_lowSurrogate_5068e : gY := (yJ11_lowSurrogate_5068e, cJ11_lowSurrogate_5068e, 1, (some .char), { frames := 0, cells := 0, slots := 0, locals := 0 })
abbrev MJ11_lowSurrogate_5068e : gM := (cJ11_lowSurrogate_5068e, 1, RJ11, (some .char), [], "lowSurrogate", YJ11_lowSurrogate_5068e.2.2.2.2)
theorem yn_J11_lowSurrogate_5068e : gName yJ11_lowSurrogate_5068e 1 := ⟨by decide +kernel, by decide +kernel, by decide +kernel⟩
theorem wc_J11_lowSurrogate_5068e : Cond.code yJ11_lowSurrogate_5068e cJ11_lowSurrogate_5068e 1 (some .char) ∈ gW := gW_at 1508 (by decide +kernel) (by decide +kernel)
theorem wt_J11_lowSurrogate_5068e : Cond.static yJ11_lowSurrogate_5068e ∈ gW := gW_at 1507 (by decide +kernel) (by decide +kernel)
abbrev YJxe99ae_isNaN_b9ae7 : gY := (yJxe99ae_isNaN_b9ae7, cJxe99ae_isNaN_b9ae7, 2, (some .boolean), { frames := 0, cells := 0, slots := 0, locals := 0 })
abbrev MJxe99ae_isNaN_b9ae7 : gM := (cJxe99ae_isNaN_b9ae7, 2, RJxe99ae, (some .boolean), [], "isNaN", YJxe99ae_isNaN_b9ae7.2.2.2.2)
theorem yn_Jxe99ae_isNaN_b9ae7 : gName yJxe99ae_isNaN_b9ae7 1 := ⟨by decide +kernel, by decide +kernel, by decide +kernel⟩
theorem wc_Jxe99ae_isNaN_b9ae7 : Cond.code yJxe99ae_isNaN_b9ae7 cJxe99ae_isNaN_b9ae7 2 (some .boolean) ∈ gW := gW_at 1576 (by decide +kernel) (by decide +kernel)
theorem wt_Jxe99ae_isNaN_b9ae7 : Cond.static yJxe99ae_isNaN_b9ae7 ∈ gW := gW_at 1575 (by decide +kernel) (by decide +kernel)
abbrev YJxe99ae_doubleToLongBits_ccdee : gY := (yJxe99ae_doubleToLongBits_ccdee, cJxe99ae_doubleToLongBits_ccdee, 2, (some .long), { frames := 1, cells := 0, slots := 0, locals := 48 })
abbrev MJxe99ae_doubleToLongBits_ccdee : gM := (cJxe99ae_doubleToLongBits_ccdee, 2, RJxe99ae, (some .long), [], "doubleToLongBits", YJxe99ae_doubleToLongBits_ccdee.2.2.2.2)
theorem yn_Jxe99ae_doubleToLongBits_ccdee : gName yJxe99ae_doubleToLongBits_ccdee 1 := ⟨by decide +kernel, by decide +kernel, by decide +kernel⟩
theorem wc_Jxe99ae_doubleToLongBits_ccdee : Cond.code yJxe99ae_doubleToLongBits_ccdee cJxe99ae_doubleToLongBits_ccdee 2 (some .long) ∈ gW := gW_at 1573 (by decide +kernel) (by decide +kernel)
theorem wt_Jxe99ae_doubleToLongBits_ccdee : Cond.static yJxe99ae_doubleToLongBits_ccdee ∈ gW := gW_at 1572 (by decide +kernel) (by decide +kernel)
abbrev YJxf58ca_isNaN_12338 : gY := (yJxf58ca_isNaN_12338, cJxf58ca_isNaN_12338, 1, (some .boolean), { frames := 0, cells := 0, slots := 0, locals := 0 })
abbrev MJxf58ca_isNaN_12338 : gM := (cJxf58ca_isNaN_12338, 1, RJxf58ca, (some .boolean), [], "isNaN", YJxf58ca_isNaN_12338.2.2.2.2)
theorem yn_Jxf58ca_isNaN_12338 : gName yJxf58ca_isNaN_12338 1 := ⟨by decide +kernel, by decide +kernel, by decide +kernel⟩
theorem wc_Jxf58ca_isNaN_12338 : Cond.code yJxf58ca_isNaN_12338 cJxf58ca_isNaN_12338 1 (some .boolean) ∈ gW := gW_at 1091 (by decide +kernel) (by decide +kernel)
theorem wt_Jxf58ca_isNaN_12338 : Cond.static yJxf58ca_isNaN_12338 ∈ gW := gW_at 1090 (by decide +kernel) (by decide +kernel)
abbrev YJxf58ca_floatToIntBits_5c35a : gY := (yJxf58ca_floatToIntBits_5c35a, cJxf58ca_floatToIntBits_5c35a, 1, (some .int), { frames := 1, cells := 0, slots := 0, locals := 48 })
abbrev MJxf58ca_floatToIntBits_5c35a : gM := (cJxf58ca_floatToIntBits_5c35a, 1, RJxf58ca, (some .int), [], "floatToIntBits", YJxf58ca_floatToIntBits_5c35a.2.2.2.2)
theorem yn_Jxf58ca_floatToIntBits_5c35a : gName yJxf58ca_floatToIntBits_5c35a 1 := ⟨by decide +kernel, by decide +kernel, by decide +kernel⟩
theorem wc_Jxf58ca_floatToIntBits_5c35a : Cond.code yJxf58ca_floatToIntBits_5c35a cJxf58ca_floatToIntBits_5c35a 1 (some .int) ∈ gW := gW_at 1088 (by decide +kernel) (by decide +kernel)
theorem wt_Jxf58ca_floatToIntBits_5c35a : Cond.static yJxf58ca_floatToIntBits_5c35a ∈ gW := gW_at 1087 (by decide +kernel) (by decide +kernel)
abbrev YJ9_abs_0f7a4 : gY := (yJ9_abs_0f7a4, cJ9_abs_0f7a4, 1, (some .int), { frames := 0, cells := 0, slots := 0, locals := 0 })
abbrev MJ9_abs_0f7a4 : gM := (cJ9_abs_0f7a4, 1, RJ9, (some .int), [], "abs", YJ9_abs_0f7a4.2.2.2.2)
theorem yn_J9_abs_0f7a4 : gName yJ9_abs_0f7a4 1 := ⟨by decide +kernel, by decide +kernel, by decide +kernel⟩
theorem wc_J9_abs_0f7a4 : Cond.code yJ9_abs_0f7a4 cJ9_abs_0f7a4 1 (some .int) ∈ gW := gW_at 1389 (by decide +kernel) (by decide +kernel)
theorem wt_J9_abs_0f7a4 : Cond.static yJ9_abs_0f7a4 ∈ gW := gW_at 1388 (by decide +kernel) (by decide +kernel)
abbrev YJ9_max_7cf53 : gY := (yJ9_max_7cf53, cJ9_max_7cf53, 2, (some .int), { frames := 0, cells := 0, slots := 0, locals := 0 })
abbrev MJ9_max_7cf53 : gM := (cJ9_max_7cf53, 2, RJ9, (some .int), [], "max", YJ9_max_7cf53.2.2.2.2)
theorem yn_J9_max_7cf53 : gName yJ9_max_7cf53 2 := ⟨by decide +kernel, by decide +kernel, by decide +kernel⟩
theorem wc_J9_max_7cf53 : Cond.code yJ9_max_7cf53 cJ9_max_7cf53 2 (some .int) ∈ gW := gW_at 896 (by decide +kernel) (by decide +kernel)
theorem wt_J9_max_7cf53 : Cond.static yJ9_max_7cf53 ∈ gW := gW_at 895 (by decide +kernel) (by decide +kernel)
abbrev YJ9_min_7cf53 : gY := (yJ9_min_7cf53, cJ9_min_7cf53, 2, (some .int), { frames := 0, cells := 0, slots := 0, locals := 0 })
abbrev MJ9_min_7cf53 : gM := (cJ9_min_7cf53, 2, RJ9, (some .int), [], "min", YJ9_min_7cf53.2.2.2.2)
theorem yn_J9_min_7cf53 : gName yJ9_min_7cf53 2 := ⟨by decide +kernel, by decide +kernel, by decide +kernel⟩
theorem wc_J9_min_7cf53 : Cond.code yJ9_min_7cf53 cJ9_min_7cf53 2 (some .int) ∈ gW := gW_at 473 (by decide +kernel) (by decide +kernel)
theorem wt_J9_min_7cf53 : Cond.static yJ9_min_7cf53 ∈ gW := gW_at 472 (by decide +kernel) (by decide +kernel)
abbrev YJ0_length_8abf5 : gY := (yJ0_length_8abf5, cJ0_length_8abf5, 1, (some .int), { frames := 1, cells := 0, slots := 0, locals := 20 })
abbrev MJ0_length_8abf5 : gM := (cJ0_length_8abf5, 1, RJ0, (some .int), [], "length", YJ0_length_8abf5.2.2.2.2)
theorem yn_J0_length_8abf5 : gName yJ0_length_8abf5 0 := ⟨by decide +kernel, by decide +kernel, by decide +kernel⟩
theorem wc_J0_length_8abf5 : Cond.code yJ0_length_8abf5 cJ0_length_8abf5 1 (some .int) ∈ gW := gW_at 1445 (by decide +kernel) (by decide +kernel)
theorem wi_J0_length_8abf5 : Cond.instanceMethod yJ0_length_8abf5 ∈ gW := gW_at 1443 (by decide +kernel) (by decide +kernel)
theorem we_J0_length_8abf5 : Cond.selects RJ0 yJ0_length_8abf5 yJ0_length_8abf5 ∈ gW := gW_at 1444 (by decide +kernel) (by decide +kernel)
abbrev YJ0_indexOf_0f7a4 : gY := (yJ0_indexOf_0f7a4, cJ0_indexOf_0f7a4, 2, (some .int), { frames := 6, cells := 0, slots := 0, locals := 138 })
abbrev MJ0_indexOf_0f7a4 : gM := (cJ0_indexOf_0f7a4, 2, RJ0, (some .int), [], "indexOf", YJ0_indexOf_0f7a4.2.2.2.2)
theorem yn_J0_indexOf_0f7a4 : gName yJ0_indexOf_0f7a4 1 := ⟨by decide +kernel, by decide +kernel, by decide +kernel⟩
theorem wc_J0_indexOf_0f7a4 : Cond.code yJ0_indexOf_0f7a4 cJ0_indexOf_0f7a4 2 (some .int) ∈ gW := gW_at 1431 (by decide +kernel) (by decide +kernel)
theorem wi_J0_indexOf_0f7a4 : Cond.instanceMethod yJ0_indexOf_0f7a4 ∈ gW := gW_at 1429 (by decide +kernel) (by decide +kernel)
theorem we_J0_indexOf_0f7a4 : Cond.selects RJ0 yJ0_indexOf_0f7a4 yJ0_indexOf_0f7a4 ∈ gW := gW_at 1430 (by decide +kernel) (by decide +kernel)
abbrev YJ0_indexOf_7cf53 : gY := (yJ0_indexOf_7cf53, cJ0_indexOf_7cf53, 3, (some .int), { frames := 5, cells := 0, slots := 0, locals := 116 })
abbrev MJ0_indexOf_7cf53 : gM := (cJ0_indexOf_7cf53, 3, RJ0, (some .int), [], "indexOf", YJ0_indexOf_7cf53.2.2.2.2)
theorem yn_J0_indexOf_7cf53 : gName yJ0_indexOf_7cf53 2 := ⟨by decide +kernel, by decide +kernel, by decide +kernel⟩
theorem wc_J0_indexOf_7cf53 : Cond.code yJ0_indexOf_7cf53 cJ0_indexOf_7cf53 3 (some .int) ∈ gW := gW_at 1435 (by decide +kernel) (by decide +kernel)
theorem wi_J0_indexOf_7cf53 : Cond.instanceMethod yJ0_indexOf_7cf53 ∈ gW := gW_at 1433 (by decide +kernel) (by decide +kernel)
theorem we_J0_indexOf_7cf53 : Cond.selects RJ0 yJ0_indexOf_7cf53 yJ0_indexOf_7cf53 ∈ gW := gW_at 1434 (by decide +kernel) (by decide +kernel)
abbrev YJ0_coder_7d493 : gY := (yJ0_coder_7d493, cJ0_coder_7d493, 1, (some .byte), { frames := 0, cells := 0, slots := 0, locals := 0 })
abbrev MJ0_coder_7d493 : gM := (cJ0_coder_7d493, 1, RJ0, (some .byte), [], "coder", YJ0_coder_7d493.2.2.2.2)
theorem yn_J0_coder_7d493 : gName yJ0_coder_7d493 0 := ⟨by decide +kernel, by decide +kernel, by decide +kernel⟩
theorem wc_J0_coder_7d493 : Cond.code yJ0_coder_7d493 cJ0_coder_7d493 1 (some .byte) ∈ gW := gW_at 1449 (by decide +kernel) (by decide +kernel)
theorem wi_J0_coder_7d493 : Cond.instanceMethod yJ0_coder_7d493 ∈ gW := gW_at 1447 (by decide +kernel) (by decide +kernel)
theorem we_J0_coder_7d493 : Cond.selects RJ0 yJ0_coder_7d493 yJ0_coder_7d493 ∈ gW := gW_at 1448 (by decide +kernel) (by decide +kernel)
abbrev YJ0_isLatin1_aae02 : gY := (yJ0_isLatin1_aae02, cJ0_isLatin1_aae02, 1, (some .boolean), { frames := 0, cells := 0, slots := 0, locals := 0 })
abbrev MJ0_isLatin1_aae02 : gM := (cJ0_isLatin1_aae02, 1, RJ0, (some .boolean), [], "isLatin1", YJ0_isLatin1_aae02.2.2.2.2)
theorem yn_J0_isLatin1_aae02 : gName yJ0_isLatin1_aae02 0 := ⟨by decide +kernel, by decide +kernel, by decide +kernel⟩
theorem wc_J0_isLatin1_aae02 : Cond.code yJ0_isLatin1_aae02 cJ0_isLatin1_aae02 1 (some .boolean) ∈ gW := gW_at 1439 (by decide +kernel) (by decide +kernel)
theorem wi_J0_isLatin1_aae02 : Cond.instanceMethod yJ0_isLatin1_aae02 ∈ gW := gW_at 1437 (by decide +kernel) (by decide +kernel)
theorem we_J0_isLatin1_aae02 : Cond.selects RJ0 yJ0_isLatin1_aae02 yJ0_isLatin1_aae02 ∈ gW := gW_at 1438 (by decide +kernel) (by decide +kernel)
abbrev YJ0_checkBoundsBeginEnd_23922 : gY := (yJ0_checkBoundsBeginEnd_23922, cJ0_checkBoundsBeginEnd_23922, 3, none, { frames := 1, cells := 0, slots := 0, locals := 23 })
abbrev MJ0_checkBoundsBeginEnd_23922 : gM := (cJ0_checkBoundsBeginEnd_23922, 3, RJ0, none, [], "checkBoundsBeginEnd", YJ0_checkBoundsBeginEnd_23922.2.2.2.2)
theorem yn_J0_checkBoundsBeginEnd_23922 : gName yJ0_checkBoundsBeginEnd_23922 3 := ⟨by decide +kernel, by decide +kernel, by decide +kernel⟩
theorem wc_J0_checkBoundsBeginEnd_23922 : Cond.code yJ0_checkBoundsBeginEnd_23922 cJ0_checkBoundsBeginEnd_23922 3 none ∈ gW := gW_at 1478 (by decide +kernel) (by decide +kernel)
theorem wt_J0_checkBoundsBeginEnd_23922 : Cond.static yJ0_checkBoundsBeginEnd_23922 ∈ gW := gW_at 1477 (by decide +kernel) (by decide +kernel)
abbrev YJ1_canEncode_9a6ad : gY := (yJ1_canEncode_9a6ad, cJ1_canEncode_9a6ad, 1, (some .boolean), { frames := 0, cells := 0, slots := 0, locals := 0 })
abbrev MJ1_canEncode_9a6ad : gM := (cJ1_canEncode_9a6ad, 1, RJ1, (some .boolean), [], "canEncode", YJ1_canEncode_9a6ad.2.2.2.2)
theorem yn_J1_canEncode_9a6ad : gName yJ1_canEncode_9a6ad 1 := ⟨by decide +kernel, by decide +kernel, by decide +kernel⟩
theorem wc_J1_canEncode_9a6ad : Cond.code yJ1_canEncode_9a6ad cJ1_canEncode_9a6ad 1 (some .boolean) ∈ gW := gW_at 1455 (by decide +kernel) (by decide +kernel)
theorem wt_J1_canEncode_9a6ad : Cond.static yJ1_canEncode_9a6ad ∈ gW := gW_at 1454 (by decide +kernel) (by decide +kernel)
abbrev YJ1_indexOf_4cfef : gY := (yJ1_indexOf_4cfef, cJ1_indexOf_4cfef, 4, (some .int), { frames := 1, cells := 0, slots := 0, locals := 48 })
abbrev MJ1_indexOf_4cfef : gM := (cJ1_indexOf_4cfef, 4, RJ1, (some .int), [], "indexOf", YJ1_indexOf_4cfef.2.2.2.2)
theorem yn_J1_indexOf_4cfef : gName yJ1_indexOf_4cfef 4 := ⟨by decide +kernel, by decide +kernel, by decide +kernel⟩
theorem wc_J1_indexOf_4cfef : Cond.code yJ1_indexOf_4cfef cJ1_indexOf_4cfef 4 (some .int) ∈ gW := gW_at 1452 (by decide +kernel) (by decide +kernel)
theorem wt_J1_indexOf_4cfef : Cond.static yJ1_indexOf_4cfef ∈ gW := gW_at 1451 (by decide +kernel) (by decide +kernel)
abbrev YJ1_indexOfChar_4cfef : gY := (yJ1_indexOfChar_4cfef, cJ1_indexOfChar_4cfef, 6, (some .int), { frames := 0, cells := 0, slots := 0, locals := 0 })
abbrev MJ1_indexOfChar_4cfef : gM := (cJ1_indexOfChar_4cfef, 6, RJ1, (some .int), [], "indexOfChar", YJ1_indexOfChar_4cfef.2.2.2.2)
theorem yn_J1_indexOfChar_4cfef : gName yJ1_indexOfChar_4cfef 4 := ⟨by decide +kernel, by decide +kernel, by decide +kernel⟩
theorem wc_J1_indexOfChar_4cfef : Cond.code yJ1_indexOfChar_4cfef cJ1_indexOfChar_4cfef 6 (some .int) ∈ gW := gW_at 1460 (by decide +kernel) (by decide +kernel)
theorem wt_J1_indexOfChar_4cfef : Cond.static yJ1_indexOfChar_4cfef ∈ gW := gW_at 1459 (by decide +kernel) (by decide +kernel)
abbrev YJ2_getChar_3b067 : gY := (yJ2_getChar_3b067, cJ2_getChar_3b067, 2, (some .char), { frames := 1, cells := 0, slots := 0, locals := 20 })
abbrev MJ2_getChar_3b067 : gM := (cJ2_getChar_3b067, 2, RJ2, (some .char), [], "getChar", YJ2_getChar_3b067.2.2.2.2)
theorem yn_J2_getChar_3b067 : gName yJ2_getChar_3b067 2 := ⟨by decide +kernel, by decide +kernel, by decide +kernel⟩
theorem wc_J2_getChar_3b067 : Cond.code yJ2_getChar_3b067 cJ2_getChar_3b067 2 (some .char) ∈ gW := gW_at 1489 (by decide +kernel) (by decide +kernel)
theorem wt_J2_getChar_3b067 : Cond.static yJ2_getChar_3b067 ∈ gW := gW_at 1488 (by decide +kernel) (by decide +kernel)
abbrev YJ2_length_9d52b : gY := (yJ2_length_9d52b, cJ2_length_9d52b, 1, (some .int), { frames := 0, cells := 0, slots := 0, locals := 0 })
abbrev MJ2_length_9d52b : gM := (cJ2_length_9d52b, 1, RJ2, (some .int), [], "length", YJ2_length_9d52b.2.2.2.2)
theorem yn_J2_length_9d52b : gName yJ2_length_9d52b 1 := ⟨by decide +kernel, by decide +kernel, by decide +kernel⟩
theorem wc_J2_length_9d52b : Cond.code yJ2_length_9d52b cJ2_length_9d52b 1 (some .int) ∈ gW := gW_at 1475 (by decide +kernel) (by decide +kernel)
theorem wt_J2_length_9d52b : Cond.static yJ2_length_9d52b ∈ gW := gW_at 1474 (by decide +kernel) (by decide +kernel)
abbrev YJ2_indexOf_4cfef : gY := (yJ2_indexOf_4cfef, cJ2_indexOf_4cfef, 4, (some .int), { frames := 4, cells := 0, slots := 0, locals := 93 })
abbrev MJ2_indexOf_4cfef : gM := (cJ2_indexOf_4cfef, 4, RJ2, (some .int), [], "indexOf", YJ2_indexOf_4cfef.2.2.2.2)
theorem yn_J2_indexOf_4cfef : gName yJ2_indexOf_4cfef 4 := ⟨by decide +kernel, by decide +kernel, by decide +kernel⟩
theorem wc_J2_indexOf_4cfef : Cond.code yJ2_indexOf_4cfef cJ2_indexOf_4cfef 4 (some .int) ∈ gW := gW_at 1463 (by decide +kernel) (by decide +kernel)
theorem wt_J2_indexOf_4cfef : Cond.static yJ2_indexOf_4cfef ∈ gW := gW_at 1462 (by decide +kernel) (by decide +kernel)
abbrev YJ2_indexOfChar_4cfef : gY := (yJ2_indexOfChar_4cfef, cJ2_indexOfChar_4cfef, 4, (some .int), { frames := 3, cells := 0, slots := 0, locals := 67 })
abbrev MJ2_indexOfChar_4cfef : gM := (cJ2_indexOfChar_4cfef, 4, RJ2, (some .int), [], "indexOfChar", YJ2_indexOfChar_4cfef.2.2.2.2)
theorem yn_J2_indexOfChar_4cfef : gName yJ2_indexOfChar_4cfef 4 := ⟨by decide +kernel, by decide +kernel, by decide +kernel⟩
theorem wc_J2_indexOfChar_4cfef : Cond.code yJ2_indexOfChar_4cfef cJ2_indexOfChar_4cfef 4 (some .int) ∈ gW := gW_at 1469 (by decide +kernel) (by decide +kernel)
theorem wt_J2_indexOfChar_4cfef : Cond.static yJ2_indexOfChar_4cfef ∈ gW := gW_at 1468 (by decide +kernel) (by decide +kernel)
abbrev YJ2_indexOfCharUnsafe_4cfef : gY := (yJ2_indexOfCharUnsafe_4cfef, cJ2_indexOfCharUnsafe_4cfef, 5, (some .int), { frames := 2, cells := 0, slots := 0, locals := 41 })
abbrev MJ2_indexOfCharUnsafe_4cfef : gM := (cJ2_indexOfCharUnsafe_4cfef, 5, RJ2, (some .int), [], "indexOfCharUnsafe", YJ2_indexOfCharUnsafe_4cfef.2.2.2.2)
theorem yn_J2_indexOfCharUnsafe_4cfef : gName yJ2_indexOfCharUnsafe_4cfef 4 := ⟨by decide +kernel, by decide +kernel, by decide +kernel⟩
theorem wc_J2_indexOfCharUnsafe_4cfef : Cond.code yJ2_indexOfCharUnsafe_4cfef cJ2_indexOfCharUnsafe_4cfef 5 (some .int) ∈ gW := gW_at 1486 (by decide +kernel) (by decide +kernel)
theorem wt_J2_indexOfCharUnsafe_4cfef : Cond.static yJ2_indexOfCharUnsafe_4cfef ∈ gW := gW_at 1485 (by decide +kernel) (by decide +kernel)
abbrev YJ2_indexOfSupplementary_4cfef : gY := (yJ2_indexOfSupplementary_4cfef, cJ2_indexOfSupplementary_4cfef, 7, (some .int), { frames := 3, cells := 0, slots := 0, locals := 67 })
abbrev MJ2_indexOfSupplementary_4cfef : gM := (cJ2_indexOfSupplementary_4cfef, 7, RJ2, (some .int), [], "indexOfSupplementary", YJ2_indexOfSupplementary_4cfef.2.2.2.2)
theorem yn_J2_indexOfSupplementary_4cfef : gName yJ2_indexOfSupplementary_4cfef 4 := ⟨by decide +kernel, by decide +kernel, by decide +kernel⟩
theorem wc_J2_indexOfSupplementary_4cfef : Cond.code yJ2_indexOfSupplementary_4cfef cJ2_indexOfSupplementary_4cfef 7 (some .int) ∈ gW := gW_at 1498 (by decide +kernel) (by decide +kernel)
theorem wt_J2_indexOfSupplementary_4cfef : Cond.static yJ2_indexOfSupplementary_4cfef ∈ gW := gW_at 1497 (by decide +kernel) (by decide +kernel)
abbrev YJ2_checkBoundsBeginEnd_d044e : gY := (yJ2_checkBoundsBeginEnd_d044e, cJ2_checkBoundsBeginEnd_d044e, 3, none, { frames := 2, cells := 0, slots := 0, locals := 45 })
abbrev MJ2_checkBoundsBeginEnd_d044e : gM := (cJ2_checkBoundsBeginEnd_d044e, 3, RJ2, none, [], "checkBoundsBeginEnd", YJ2_checkBoundsBeginEnd_d044e.2.2.2.2)
theorem yn_J2_checkBoundsBeginEnd_d044e : gName yJ2_checkBoundsBeginEnd_d044e 3 := ⟨by decide +kernel, by decide +kernel, by decide +kernel⟩
theorem wc_J2_checkBoundsBeginEnd_d044e : Cond.code yJ2_checkBoundsBeginEnd_d044e cJ2_checkBoundsBeginEnd_d044e 3 none ∈ gW := gW_at 1472 (by decide +kernel) (by decide +kernel)
theorem wt_J2_checkBoundsBeginEnd_d044e : Cond.static yJ2_checkBoundsBeginEnd_d044e ∈ gW := gW_at 1471 (by decide +kernel) (by decide +kernel)
abbrev YJ3_checkFromToIndex_8c36e : gY := (yJ3_checkFromToIndex_8c36e, cJ3_checkFromToIndex_8c36e, 4, (some .int), { frames := 0, cells := 0, slots := 0, locals := 0 })
abbrev MJ3_checkFromToIndex_8c36e : gM := (cJ3_checkFromToIndex_8c36e, 4, RJ3, (some .int), [], "checkFromToIndex", YJ3_checkFromToIndex_8c36e.2.2.2.2)
theorem yn_J3_checkFromToIndex_8c36e : gName yJ3_checkFromToIndex_8c36e 4 := ⟨by decide +kernel, by decide +kernel, by decide +kernel⟩
theorem wc_J3_checkFromToIndex_8c36e : Cond.code yJ3_checkFromToIndex_8c36e cJ3_checkFromToIndex_8c36e 4 (some .int) ∈ gW := gW_at 1483 (by decide +kernel) (by decide +kernel)
theorem wt_J3_checkFromToIndex_8c36e : Cond.static yJ3_checkFromToIndex_8c36e ∈ gW := gW_at 1482 (by decide +kernel) (by decide +kernel)
abbrev YL_set : gY := (yL_set, cL_set, 5, (some .int), { frames := 7, cells := 1, slots := 6, locals := 153 })
abbrev ML_set : gM := (cL_set, 5, RL, (some .int), tableOf [((0), (10), (13), (13))], "set", YL_set.2.2.2.2)
theorem yn_L_set : gName yL_set 4 := ⟨by decide +kernel, by decide +kernel, by decide +kernel⟩
theorem wc_L_set : Cond.codeWith yL_set cL_set 5 (some .int) [((0), (10), (13), (13))] ∈ gW := gW_at 378 (by decide +kernel) (by decide +kernel)
theorem wt_L_set : Cond.static yL_set ∈ gW := gW_at 377 (by decide +kernel) (by decide +kernel)
abbrev YL_setting : gY := (yL_setting, cL_setting, 4, (some .int), { frames := 7, cells := 1, slots := 6, locals := 151 })
abbrev ML_setting : gM := (cL_setting, 4, RL, (some .int), tableOf [((0), (9), (12), (13))], "setting", YL_setting.2.2.2.2)
theorem yn_L_setting : gName yL_setting 3 := ⟨by decide +kernel, by decide +kernel, by decide +kernel⟩
theorem wc_L_setting : Cond.codeWith yL_setting cL_setting 4 (some .int) [((0), (9), (12), (13))] ∈ gW := gW_at 476 (by decide +kernel) (by decide +kernel)
theorem wt_L_setting : Cond.static yL_setting ∈ gW := gW_at 475 (by decide +kernel) (by decide +kernel)
abbrev YL_drill : gY := (yL_drill, cL_drill, 4, (some .int), { frames := 7, cells := 1, slots := 6, locals := 151 })
abbrev ML_drill : gM := (cL_drill, 4, RL, (some .int), tableOf [((0), (9), (12), (22))], "drill", YL_drill.2.2.2.2)
theorem yn_L_drill : gName yL_drill 3 := ⟨by decide +kernel, by decide +kernel, by decide +kernel⟩
theorem wc_L_drill : Cond.codeWith yL_drill cL_drill 4 (some .int) [((0), (9), (12), (22))] ∈ gW := gW_at 484 (by decide +kernel) (by decide +kernel)
theorem wt_L_drill : Cond.static yL_drill ∈ gW := gW_at 483 (by decide +kernel) (by decide +kernel)
abbrev YL_drilled : gY := (yL_drilled, cL_drilled, 4, (some .int), { frames := 7, cells := 1, slots := 6, locals := 151 })
abbrev ML_drilled : gM := (cL_drilled, 4, RL, (some .int), tableOf [((0), (9), (12), (22)), ((0), (9), (15), (27))], "drilled", YL_drilled.2.2.2.2)
theorem yn_L_drilled : gName yL_drilled 3 := ⟨by decide +kernel, by decide +kernel, by decide +kernel⟩
theorem wc_L_drilled : Cond.codeWith yL_drilled cL_drilled 4 (some .int) [((0), (9), (12), (22)), ((0), (9), (15), (27))] ∈ gW := gW_at 537 (by decide +kernel) (by decide +kernel)
theorem wt_L_drilled : Cond.static yL_drilled ∈ gW := gW_at 536 (by decide +kernel) (by decide +kernel)
abbrev YL_mileOf : gY := (yL_mileOf, cL_mileOf, 5, (some .int), { frames := 7, cells := 1, slots := 6, locals := 153 })
abbrev ML_mileOf : gM := (cL_mileOf, 5, RL, (some .int), tableOf [((0), (10), (13), (22)), ((0), (10), (17), (13))], "mileOf", YL_mileOf.2.2.2.2)
theorem yn_L_mileOf : gName yL_mileOf 4 := ⟨by decide +kernel, by decide +kernel, by decide +kernel⟩
theorem wc_L_mileOf : Cond.codeWith yL_mileOf cL_mileOf 5 (some .int) [((0), (10), (13), (22)), ((0), (10), (17), (13))] ∈ gW := gW_at 561 (by decide +kernel) (by decide +kernel)
theorem wt_L_mileOf : Cond.static yL_mileOf ∈ gW := gW_at 560 (by decide +kernel) (by decide +kernel)
abbrev YL_ice : gY := (yL_ice, cL_ice, 4, (some .int), { frames := 7, cells := 1, slots := 6, locals := 151 })
abbrev ML_ice : gM := (cL_ice, 4, RL, (some .int), tableOf [((0), (9), (12), (22))], "ice", YL_ice.2.2.2.2)
theorem yn_L_ice : gName yL_ice 3 := ⟨by decide +kernel, by decide +kernel, by decide +kernel⟩
theorem wc_L_ice : Cond.codeWith yL_ice cL_ice 4 (some .int) [((0), (9), (12), (22))] ∈ gW := gW_at 570 (by decide +kernel) (by decide +kernel)
theorem wt_L_ice : Cond.static yL_ice ∈ gW := gW_at 569 (by decide +kernel) (by decide +kernel)
abbrev YL_bears : gY := (yL_bears, cL_bears, 4, (some .int), { frames := 7, cells := 1, slots := 6, locals := 151 })
abbrev ML_bears : gM := (cL_bears, 4, RL, (some .int), tableOf [((0), (9), (12), (22))], "bears", YL_bears.2.2.2.2)
theorem yn_L_bears : gName yL_bears 3 := ⟨by decide +kernel, by decide +kernel, by decide +kernel⟩
theorem wc_L_bears : Cond.codeWith yL_bears cL_bears 4 (some .int) [((0), (9), (12), (22))] ∈ gW := gW_at 577 (by decide +kernel) (by decide +kernel)
theorem wt_L_bears : Cond.static yL_bears ∈ gW := gW_at 576 (by decide +kernel) (by decide +kernel)
abbrev YL_sign : gY := (yL_sign, cL_sign, 4, (some .int), { frames := 7, cells := 1, slots := 6, locals := 152 })
abbrev ML_sign : gM := (cL_sign, 4, RL, (some .int), tableOf [((0), (9), (12), (22))], "sign", YL_sign.2.2.2.2)
theorem yn_L_sign : gName yL_sign 3 := ⟨by decide +kernel, by decide +kernel, by decide +kernel⟩
theorem wc_L_sign : Cond.codeWith yL_sign cL_sign 4 (some .int) [((0), (9), (12), (22))] ∈ gW := gW_at 584 (by decide +kernel) (by decide +kernel)
theorem wt_L_sign : Cond.static yL_sign ∈ gW := gW_at 583 (by decide +kernel) (by decide +kernel)
abbrev YL_truck : gY := (yL_truck, cL_truck, 7, (some .int), { frames := 7, cells := 1, slots := 6, locals := 155 })
abbrev ML_truck : gM := (cL_truck, 7, RL, (some .int), tableOf [((0), (14), (17), (22)), ((0), (14), (21), (13)), ((0), (14), (25), (47))], "truck", YL_truck.2.2.2.2)
theorem yn_L_truck : gName yL_truck 6 := ⟨by decide +kernel, by decide +kernel, by decide +kernel⟩
theorem wc_L_truck : Cond.codeWith yL_truck cL_truck 7 (some .int) [((0), (14), (17), (22)), ((0), (14), (21), (13)), ((0), (14), (25), (47))] ∈ gW := gW_at 599 (by decide +kernel) (by decide +kernel)
theorem wt_L_truck : Cond.static yL_truck ∈ gW := gW_at 598 (by decide +kernel) (by decide +kernel)
abbrev YL_inRow : gY := (yL_inRow, cL_inRow, 6, (some .int), { frames := 7, cells := 1, slots := 6, locals := 154 })
abbrev ML_inRow : gM := (cL_inRow, 6, RL, (some .int), tableOf [((0), (12), (15), (22)), ((0), (12), (19), (27)), ((0), (12), (23), (13))], "inRow", YL_inRow.2.2.2.2)
theorem yn_L_inRow : gName yL_inRow 5 := ⟨by decide +kernel, by decide +kernel, by decide +kernel⟩
theorem wc_L_inRow : Cond.codeWith yL_inRow cL_inRow 6 (some .int) [((0), (12), (15), (22)), ((0), (12), (19), (27)), ((0), (12), (23), (13))] ∈ gW := gW_at 657 (by decide +kernel) (by decide +kernel)
theorem wt_L_inRow : Cond.static yL_inRow ∈ gW := gW_at 656 (by decide +kernel) (by decide +kernel)
abbrev YL_convoy : gY := (yL_convoy, cL_convoy, 4, (some .int), { frames := 7, cells := 1, slots := 6, locals := 152 })
abbrev ML_convoy : gM := (cL_convoy, 4, RL, (some .int), tableOf [((0), (9), (12), (13)), ((0), (9), (15), (47))], "convoy", YL_convoy.2.2.2.2)
theorem yn_L_convoy : gName yL_convoy 3 := ⟨by decide +kernel, by decide +kernel, by decide +kernel⟩
theorem wc_L_convoy : Cond.codeWith yL_convoy cL_convoy 4 (some .int) [((0), (9), (12), (13)), ((0), (9), (15), (47))] ∈ gW := gW_at 670 (by decide +kernel) (by decide +kernel)
theorem wt_L_convoy : Cond.static yL_convoy ∈ gW := gW_at 669 (by decide +kernel) (by decide +kernel)
abbrev YL_join : gY := (yL_join, cL_join, 6, (some .int), { frames := 7, cells := 1, slots := 6, locals := 154 })
abbrev ML_join : gM := (cL_join, 6, RL, (some .int), tableOf [((0), (12), (15), (22)), ((0), (12), (19), (27)), ((0), (12), (23), (47))], "join", YL_join.2.2.2.2)
theorem yn_L_join : gName yL_join 5 := ⟨by decide +kernel, by decide +kernel, by decide +kernel⟩
theorem wc_L_join : Cond.codeWith yL_join cL_join 6 (some .int) [((0), (12), (15), (22)), ((0), (12), (19), (27)), ((0), (12), (23), (47))] ∈ gW := gW_at 679 (by decide +kernel) (by decide +kernel)
theorem wt_L_join : Cond.static yL_join ∈ gW := gW_at 678 (by decide +kernel) (by decide +kernel)
abbrev YL_start : gY := (yL_start, cL_start, 4, (some .int), { frames := 7, cells := 1, slots := 6, locals := 152 })
abbrev ML_start : gM := (cL_start, 4, RL, (some .int), tableOf [((0), (9), (12), (22)), ((0), (9), (15), (47))], "start", YL_start.2.2.2.2)
theorem yn_L_start : gName yL_start 3 := ⟨by decide +kernel, by decide +kernel, by decide +kernel⟩
theorem wc_L_start : Cond.codeWith yL_start cL_start 4 (some .int) [((0), (9), (12), (22)), ((0), (9), (15), (47))] ∈ gW := gW_at 704 (by decide +kernel) (by decide +kernel)
theorem wt_L_start : Cond.static yL_start ∈ gW := gW_at 703 (by decide +kernel) (by decide +kernel)
abbrev YL_roll : gY := (yL_roll, cL_roll, 4, (some .int), { frames := 7, cells := 1, slots := 6, locals := 152 })
abbrev ML_roll : gM := (cL_roll, 4, RL, (some .int), tableOf [((0), (9), (12), (22)), ((0), (9), (15), (47))], "roll", YL_roll.2.2.2.2)
theorem yn_L_roll : gName yL_roll 3 := ⟨by decide +kernel, by decide +kernel, by decide +kernel⟩
theorem wc_L_roll : Cond.codeWith yL_roll cL_roll 4 (some .int) [((0), (9), (12), (22)), ((0), (9), (15), (47))] ∈ gW := gW_at 745 (by decide +kernel) (by decide +kernel)
theorem wt_L_roll : Cond.static yL_roll ∈ gW := gW_at 744 (by decide +kernel) (by decide +kernel)
abbrev YL_why : gY := (yL_why, cL_why, 5, (some .int), { frames := 7, cells := 1, slots := 6, locals := 153 })
abbrev ML_why : gM := (cL_why, 5, RL, (some .int), tableOf [((0), (10), (13), (22))], "why", YL_why.2.2.2.2)
theorem yn_L_why : gName yL_why 4 := ⟨by decide +kernel, by decide +kernel, by decide +kernel⟩
theorem wc_L_why : Cond.codeWith yL_why cL_why 5 (some .int) [((0), (10), (13), (22))] ∈ gW := gW_at 770 (by decide +kernel) (by decide +kernel)
theorem wt_L_why : Cond.static yL_why ∈ gW := gW_at 769 (by decide +kernel) (by decide +kernel)
abbrev YL_convoyOf : gY := (yL_convoyOf, cL_convoyOf, 5, (some .int), { frames := 7, cells := 1, slots := 6, locals := 153 })
abbrev ML_convoyOf : gM := (cL_convoyOf, 5, RL, (some .int), tableOf [((0), (10), (13), (22)), ((0), (10), (17), (13))], "convoyOf", YL_convoyOf.2.2.2.2)
theorem yn_L_convoyOf : gName yL_convoyOf 4 := ⟨by decide +kernel, by decide +kernel, by decide +kernel⟩
theorem wc_L_convoyOf : Cond.codeWith yL_convoyOf cL_convoyOf 5 (some .int) [((0), (10), (13), (22)), ((0), (10), (17), (13))] ∈ gW := gW_at 777 (by decide +kernel) (by decide +kernel)
theorem wt_L_convoyOf : Cond.static yL_convoyOf ∈ gW := gW_at 776 (by decide +kernel) (by decide +kernel)
abbrev YL_truckOf : gY := (yL_truckOf, cL_truckOf, 6, (some .int), { frames := 7, cells := 1, slots := 6, locals := 154 })
abbrev ML_truckOf : gM := (cL_truckOf, 6, RL, (some .int), tableOf [((0), (12), (15), (22)), ((0), (12), (19), (13))], "truckOf", YL_truckOf.2.2.2.2)
theorem yn_L_truckOf : gName yL_truckOf 5 := ⟨by decide +kernel, by decide +kernel, by decide +kernel⟩
theorem wc_L_truckOf : Cond.codeWith yL_truckOf cL_truckOf 6 (some .int) [((0), (12), (15), (22)), ((0), (12), (19), (13))] ∈ gW := gW_at 788 (by decide +kernel) (by decide +kernel)
theorem wt_L_truckOf : Cond.static yL_truckOf ∈ gW := gW_at 787 (by decide +kernel) (by decide +kernel)
abbrev YL_load : gY := (yL_load, cL_load, 5, (some .int), { frames := 7, cells := 1, slots := 6, locals := 153 })
abbrev ML_load : gM := (cL_load, 5, RL, (some .int), tableOf [((0), (10), (13), (22))], "load", YL_load.2.2.2.2)
theorem yn_L_load : gName yL_load 4 := ⟨by decide +kernel, by decide +kernel, by decide +kernel⟩
theorem wc_L_load : Cond.codeWith yL_load cL_load 5 (some .int) [((0), (10), (13), (22))] ∈ gW := gW_at 801 (by decide +kernel) (by decide +kernel)
theorem wt_L_load : Cond.static yL_load ∈ gW := gW_at 800 (by decide +kernel) (by decide +kernel)
abbrev YL_at : gY := (yL_at, cL_at, 4, (some .int), { frames := 7, cells := 1, slots := 6, locals := 152 })
abbrev ML_at : gM := (cL_at, 4, RL, (some .int), tableOf [((0), (9), (12), (22)), ((0), (9), (15), (27))], "at", YL_at.2.2.2.2)
theorem yn_L_at : gName yL_at 3 := ⟨by decide +kernel, by decide +kernel, by decide +kernel⟩
theorem wc_L_at : Cond.codeWith yL_at cL_at 4 (some .int) [((0), (9), (12), (22)), ((0), (9), (15), (27))] ∈ gW := gW_at 809 (by decide +kernel) (by decide +kernel)
theorem wt_L_at : Cond.static yL_at ∈ gW := gW_at 808 (by decide +kernel) (by decide +kernel)
abbrev YL_rolls : gY := (yL_rolls, cL_rolls, 4, (some .int), { frames := 7, cells := 1, slots := 6, locals := 151 })
abbrev ML_rolls : gM := (cL_rolls, 4, RL, (some .int), tableOf [((0), (9), (12), (22))], "rolls", YL_rolls.2.2.2.2)
theorem yn_L_rolls : gName yL_rolls 3 := ⟨by decide +kernel, by decide +kernel, by decide +kernel⟩
theorem wc_L_rolls : Cond.codeWith yL_rolls cL_rolls 4 (some .int) [((0), (9), (12), (22))] ∈ gW := gW_at 818 (by decide +kernel) (by decide +kernel)
theorem wt_L_rolls : Cond.static yL_rolls ∈ gW := gW_at 817 (by decide +kernel) (by decide +kernel)
abbrev YL_rollsAgain : gY := (yL_rollsAgain, cL_rollsAgain, 4, (some .int), { frames := 7, cells := 1, slots := 6, locals := 152 })
abbrev ML_rollsAgain : gM := (cL_rollsAgain, 4, RL, (some .int), tableOf [((0), (9), (12), (22))], "rollsAgain", YL_rollsAgain.2.2.2.2)
theorem yn_L_rollsAgain : gName yL_rollsAgain 3 := ⟨by decide +kernel, by decide +kernel, by decide +kernel⟩
theorem wc_L_rollsAgain : Cond.codeWith yL_rollsAgain cL_rollsAgain 4 (some .int) [((0), (9), (12), (22))] ∈ gW := gW_at 842 (by decide +kernel) (by decide +kernel)
theorem wt_L_rollsAgain : Cond.static yL_rollsAgain ∈ gW := gW_at 841 (by decide +kernel) (by decide +kernel)
abbrev YL_iceIn : gY := (yL_iceIn, cL_iceIn, 5, (some .int), { frames := 7, cells := 1, slots := 6, locals := 154 })
abbrev ML_iceIn : gM := (cL_iceIn, 5, RL, (some .int), tableOf [((0), (10), (13), (22)), ((0), (10), (17), (13))], "iceIn", YL_iceIn.2.2.2.2)
theorem yn_L_iceIn : gName yL_iceIn 4 := ⟨by decide +kernel, by decide +kernel, by decide +kernel⟩
theorem wc_L_iceIn : Cond.codeWith yL_iceIn cL_iceIn 5 (some .int) [((0), (10), (13), (22)), ((0), (10), (17), (13))] ∈ gW := gW_at 849 (by decide +kernel) (by decide +kernel)
theorem wt_L_iceIn : Cond.static yL_iceIn ∈ gW := gW_at 848 (by decide +kernel) (by decide +kernel)
abbrev YL_bearsIn : gY := (yL_bearsIn, cL_bearsIn, 5, (some .int), { frames := 7, cells := 1, slots := 6, locals := 154 })
abbrev ML_bearsIn : gM := (cL_bearsIn, 5, RL, (some .int), tableOf [((0), (10), (13), (22)), ((0), (10), (17), (13)), ((0), (10), (21), (27))], "bearsIn", YL_bearsIn.2.2.2.2)
theorem yn_L_bearsIn : gName yL_bearsIn 4 := ⟨by decide +kernel, by decide +kernel, by decide +kernel⟩
theorem wc_L_bearsIn : Cond.codeWith yL_bearsIn cL_bearsIn 5 (some .int) [((0), (10), (13), (22)), ((0), (10), (17), (13)), ((0), (10), (21), (27))] ∈ gW := gW_at 864 (by decide +kernel) (by decide +kernel)
theorem wt_L_bearsIn : Cond.static yL_bearsIn ∈ gW := gW_at 863 (by decide +kernel) (by decide +kernel)
abbrev YL_pass : gY := (yL_pass, cL_pass, 4, (some .int), { frames := 7, cells := 1, slots := 6, locals := 152 })
abbrev ML_pass : gM := (cL_pass, 4, RL, (some .int), tableOf [((0), (9), (12), (13))], "pass", YL_pass.2.2.2.2)
theorem yn_L_pass : gName yL_pass 3 := ⟨by decide +kernel, by decide +kernel, by decide +kernel⟩
theorem wc_L_pass : Cond.codeWith yL_pass cL_pass 4 (some .int) [((0), (9), (12), (13))] ∈ gW := gW_at 873 (by decide +kernel) (by decide +kernel)
theorem wt_L_pass : Cond.static yL_pass ∈ gW := gW_at 872 (by decide +kernel) (by decide +kernel)
abbrev YL_append : gY := (yL_append, cL_append, 4, (some .int), { frames := 7, cells := 1, slots := 6, locals := 151 })
abbrev ML_append : gM := (cL_append, 4, RL, (some .int), tableOf [((0), (9), (12), (101))], "append", YL_append.2.2.2.2)
theorem yn_L_append : gName yL_append 3 := ⟨by decide +kernel, by decide +kernel, by decide +kernel⟩
theorem wc_L_append : Cond.codeWith yL_append cL_append 4 (some .int) [((0), (9), (12), (101))] ∈ gW := gW_at 899 (by decide +kernel) (by decide +kernel)
theorem wt_L_append : Cond.static yL_append ∈ gW := gW_at 898 (by decide +kernel) (by decide +kernel)
abbrev YL_read : gY := (yL_read, cL_read, 3, (some .int), { frames := 7, cells := 1, slots := 6, locals := 160 })
abbrev ML_read : gM := (cL_read, 3, RL, (some .int), tableOf [((0), (8), (11), (13)), ((0), (8), (14), (47))], "read", YL_read.2.2.2.2)
theorem yn_L_read : gName yL_read 2 := ⟨by decide +kernel, by decide +kernel, by decide +kernel⟩
theorem wc_L_read : Cond.codeWith yL_read cL_read 3 (some .int) [((0), (8), (11), (13)), ((0), (8), (14), (47))] ∈ gW := gW_at 923 (by decide +kernel) (by decide +kernel)
theorem wt_L_read : Cond.static yL_read ∈ gW := gW_at 922 (by decide +kernel) (by decide +kernel)
abbrev YL_refusal : gY := (yL_refusal, cL_refusal, 4, (some .int), { frames := 7, cells := 1, slots := 6, locals := 151 })
abbrev ML_refusal : gM := (cL_refusal, 4, RL, (some .int), tableOf [((0), (9), (12), (27))], "refusal", YL_refusal.2.2.2.2)
theorem yn_L_refusal : gName yL_refusal 3 := ⟨by decide +kernel, by decide +kernel, by decide +kernel⟩
theorem wc_L_refusal : Cond.codeWith yL_refusal cL_refusal 4 (some .int) [((0), (9), (12), (27))] ∈ gW := gW_at 991 (by decide +kernel) (by decide +kernel)
theorem wt_L_refusal : Cond.static yL_refusal ∈ gW := gW_at 990 (by decide +kernel) (by decide +kernel)
abbrev YL_account : gY := (yL_account, cL_account, 4, (some .int), { frames := 7, cells := 1, slots := 6, locals := 151 })
abbrev ML_account : gM := (cL_account, 4, RL, (some .int), tableOf [((0), (9), (12), (13))], "account", YL_account.2.2.2.2)
theorem yn_L_account : gName yL_account 3 := ⟨by decide +kernel, by decide +kernel, by decide +kernel⟩
theorem wc_L_account : Cond.codeWith yL_account cL_account 4 (some .int) [((0), (9), (12), (13))] ∈ gW := gW_at 999 (by decide +kernel) (by decide +kernel)
theorem wt_L_account : Cond.static yL_account ∈ gW := gW_at 998 (by decide +kernel) (by decide +kernel)
abbrev YL_share : gY := (yL_share, cL_share, 3, (some .int), { frames := 7, cells := 1, slots := 6, locals := 150 })
abbrev ML_share : gM := (cL_share, 3, RL, (some .int), tableOf [((0), (8), (11), (118))], "share", YL_share.2.2.2.2)
theorem yn_L_share : gName yL_share 2 := ⟨by decide +kernel, by decide +kernel, by decide +kernel⟩
theorem wc_L_share : Cond.codeWith yL_share cL_share 3 (some .int) [((0), (8), (11), (118))] ∈ gW := gW_at 1033 (by decide +kernel) (by decide +kernel)
theorem wt_L_share : Cond.static yL_share ∈ gW := gW_at 1032 (by decide +kernel) (by decide +kernel)
abbrev YL_undo : gY := (yL_undo, cL_undo, 3, (some .int), { frames := 7, cells := 1, slots := 6, locals := 150 })
abbrev ML_undo : gM := (cL_undo, 3, RL, (some .int), tableOf [((0), (8), (11), (101))], "undo", YL_undo.2.2.2.2)
theorem yn_L_undo : gName yL_undo 2 := ⟨by decide +kernel, by decide +kernel, by decide +kernel⟩
theorem wc_L_undo : Cond.codeWith yL_undo cL_undo 3 (some .int) [((0), (8), (11), (101))] ∈ gW := gW_at 1057 (by decide +kernel) (by decide +kernel)
theorem wt_L_undo : Cond.static yL_undo ∈ gW := gW_at 1056 (by decide +kernel) (by decide +kernel)
abbrev YL_restore : gY := (yL_restore, cL_restore, 3, (some .int), { frames := 7, cells := 1, slots := 6, locals := 150 })
abbrev ML_restore : gM := (cL_restore, 3, RL, (some .int), tableOf [((0), (8), (11), (101))], "restore", YL_restore.2.2.2.2)
theorem yn_L_restore : gName yL_restore 2 := ⟨by decide +kernel, by decide +kernel, by decide +kernel⟩
theorem wc_L_restore : Cond.codeWith yL_restore cL_restore 3 (some .int) [((0), (8), (11), (101))] ∈ gW := gW_at 1069 (by decide +kernel) (by decide +kernel)
theorem wt_L_restore : Cond.static yL_restore ∈ gW := gW_at 1068 (by decide +kernel) (by decide +kernel)
theorem ml_X0_3 : Cond.methodLink RX0 3 Lib.objectInit ∈ gW := gW_at 141 (by decide +kernel) (by decide +kernel)
theorem fl_X0_9 : Cond.fieldLink RX0 9 (TX0 0).1 (TX0 0).2.1 (TX0 0).2.2.1 ∈ gW := gW_at 143 (by decide +kernel) (by decide +kernel)
theorem fl_X0_15 : Cond.fieldLink RX0 15 (TX0 1).1 (TX0 1).2.1 (TX0 1).2.2.1 ∈ gW := gW_at 146 (by decide +kernel) (by decide +kernel)
theorem fl_X0_18 : Cond.fieldLink RX0 18 (TX0 2).1 (TX0 2).2.1 (TX0 2).2.2.1 ∈ gW := gW_at 149 (by decide +kernel) (by decide +kernel)
theorem cl_X0_21 : Cond.classLink RX0 21 RX5 ∈ gW := gW_at 142 (by decide +kernel) (by decide +kernel)
theorem fl_X0_23 : Cond.fieldLink RX0 23 (TX0 3).1 (TX0 3).2.1 (TX0 3).2.2.1 ∈ gW := gW_at 152 (by decide +kernel) (by decide +kernel)
theorem ml_X0_27 : Cond.methodLink RX0 27 yX0_hasStarted ∈ gW := gW_at 329 (by decide +kernel) (by decide +kernel)
theorem sv_X0_27 : GoodIn gW (wsV RX0 27 RX0 yX0_hasStarted (Cond.code yX0_hasStarted cX0_hasStarted 1 (some .boolean) :: gW)) := gIn_V ml_X0_27 wi_X0_hasStarted we_X0_hasStarted ini_X0 wc_X0_hasStarted
theorem ml_X0_31 : Cond.methodLink RX0 31 yX0_countArrived ∈ gW := gW_at 758 (by decide +kernel) (by decide +kernel)
theorem sv_X0_31 : GoodIn gW (wsV RX0 31 RX0 yX0_countArrived (Cond.code yX0_countArrived cX0_countArrived 3 (some .int) :: gW)) := gIn_V ml_X0_31 wi_X0_countArrived we_X0_countArrived ini_X0 wc_X0_countArrived
theorem ml_X0_35 : Cond.methodLink RX0 35 yX0_mileWithLead ∈ gW := gW_at 333 (by decide +kernel) (by decide +kernel)
theorem sv_X0_35 : GoodIn gW (wsV RX0 35 RX0 yX0_mileWithLead (Cond.code yX0_mileWithLead cX0_mileWithLead 3 (some .int) :: gW)) := gIn_V ml_X0_35 wi_X0_mileWithLead we_X0_mileWithLead ini_X0 wc_X0_mileWithLead
theorem ml_X0_39 : Cond.methodLink RX0 39 yX0_mileOfTruck ∈ gW := gW_at 325 (by decide +kernel) (by decide +kernel)
theorem sv_X0_39 : GoodIn gW (wsV RX0 39 RX0 yX0_mileOfTruck (Cond.code yX0_mileOfTruck cX0_mileOfTruck 2 (some .int) :: gW)) := gIn_V ml_X0_39 wi_X0_mileOfTruck we_X0_mileOfTruck ini_X0 wc_X0_mileOfTruck
theorem mn_X0_43 : Cond.methodLinkNest RX0 43 yX6_isMile "IceConvoys" ∈ gNw := gNw_at 767 (by decide +kernel) (by decide +kernel)
theorem fl_X0_47 : Cond.fieldLink RX0 47 (TX5 1).1 (TX5 1).2.1 (TX5 1).2.2.1 ∈ gW := gW_at 643 (by decide +kernel) (by decide +kernel)
theorem ml_X0_50 : Cond.methodLink RX0 50 yX5_strainOnIce ∈ gW := gW_at 835 (by decide +kernel) (by decide +kernel)
theorem sv_X0_50 : GoodIn gW (wsV RX0 50 RX5 yX5_strainOnIce (Cond.code yX5_strainOnIce cX5_strainOnIce 1 (some .int) :: gW)) := gIn_V ml_X0_50 wi_X5_strainOnIce we_X5_strainOnIce ini_X5 wc_X5_strainOnIce
theorem ml_X1_3 : Cond.methodLink RX1 3 Lib.objectInit ∈ gW := gW_at 208 (by decide +kernel) (by decide +kernel)
theorem cl_X1_9 : Cond.classLink RX1 9 RX4 ∈ gW := gW_at 209 (by decide +kernel) (by decide +kernel)
theorem fl_X1_11 : Cond.fieldLink RX1 11 (TX1 0).1 (TX1 0).2.1 (TX1 0).2.2.1 ∈ gW := gW_at 212 (by decide +kernel) (by decide +kernel)
theorem fl_X1_17 : Cond.fieldLink RX1 17 (TX1 1).1 (TX1 1).2.1 (TX1 1).2.2.1 ∈ gW := gW_at 213 (by decide +kernel) (by decide +kernel)
theorem fl_X1_21 : Cond.fieldLink RX1 21 (TX1 2).1 (TX1 2).2.1 (TX1 2).2.2.1 ∈ gW := gW_at 214 (by decide +kernel) (by decide +kernel)
theorem ml_X1_24 : Cond.methodLink RX1 24 yX4_init ∈ gW := gW_at 211 (by decide +kernel) (by decide +kernel)
theorem ml_X1_25 : Cond.methodLink RX1 25 yX4_copyFrom ∈ gW := gW_at 470 (by decide +kernel) (by decide +kernel)
theorem sv_X1_25 : GoodIn gW (wsV RX1 25 RX4 yX4_copyFrom (Cond.code yX4_copyFrom cX4_copyFrom 3 none :: gW)) := gIn_V ml_X1_25 wi_X4_copyFrom we_X4_copyFrom ini_X4 wc_X4_copyFrom
theorem ml_X1_29 : Cond.methodLink RX1 29 yJ9_min_7cf53 ∈ gW := gW_at 471 (by decide +kernel) (by decide +kernel)
theorem ss_X1_29 : GoodIn gW (va_wsS RX1 29 yJ9_min_7cf53 (Cond.code yJ9_min_7cf53 cJ9_min_7cf53 2 (some .int) :: gW)) := gIn_S ml_X1_29 wt_J9_min_7cf53 (gW_at 66 (by decide +kernel) (by decide +kernel)) wc_J9_min_7cf53
theorem ml_X2_3 : Cond.methodLink RX2 3 Lib.objectInit ∈ gW := gW_at 105 (by decide +kernel) (by decide +kernel)
theorem kc_X2_9 : Cond.constantFloat RX2 9 (1106247680) ∈ gW := gW_at 106 (by decide +kernel) (by decide +kernel)
theorem fl_X2_10 : Cond.fieldLink RX2 10 (TX2 0).1 (TX2 0).2.1 (TX2 0).2.2.1 ∈ gW := gW_at 107 (by decide +kernel) (by decide +kernel)
theorem fl_X2_16 : Cond.fieldLink RX2 16 (TX2 1).1 (TX2 1).2.1 (TX2 1).2.2.1 ∈ gW := gW_at 110 (by decide +kernel) (by decide +kernel)
theorem fl_X2_19 : Cond.fieldLink RX2 19 (TX2 2).1 (TX2 2).2.1 (TX2 2).2.2.1 ∈ gW := gW_at 113 (by decide +kernel) (by decide +kernel)
theorem fl_X2_23 : Cond.fieldLink RX2 23 (TX2 3).1 (TX2 3).2.1 (TX2 3).2.2.1 ∈ gW := gW_at 116 (by decide +kernel) (by decide +kernel)
theorem fl_X2_26 : Cond.fieldLink RX2 26 (TX2 4).1 (TX2 4).2.1 (TX2 4).2.2.1 ∈ gW := gW_at 119 (by decide +kernel) (by decide +kernel)
theorem fl_X2_29 : Cond.fieldLink RX2 29 (TX2 5).1 (TX2 5).2.1 (TX2 5).2.2.1 ∈ gW := gW_at 121 (by decide +kernel) (by decide +kernel)
theorem ml_X2_32 : Cond.methodLink RX2 32 yX5_strainOnIce ∈ gW := gW_at 738 (by decide +kernel) (by decide +kernel)
theorem sv_X2_32 : GoodIn gW (wsV RX2 32 RX5 yX5_strainOnIce (Cond.code yX5_strainOnIce cX5_strainOnIce 1 (some .int) :: gW)) := gIn_V ml_X2_32 wi_X5_strainOnIce we_X5_strainOnIce ini_X5 wc_X5_strainOnIce
theorem ml_X2_38 : Cond.methodLink RX2 38 yJ9_min_7cf53 ∈ gW := gW_at 742 (by decide +kernel) (by decide +kernel)
theorem ss_X2_38 : GoodIn gW (va_wsS RX2 38 yJ9_min_7cf53 (Cond.code yJ9_min_7cf53 cJ9_min_7cf53 2 (some .int) :: gW)) := gIn_S ml_X2_38 wt_J9_min_7cf53 (gW_at 66 (by decide +kernel) (by decide +kernel)) wc_J9_min_7cf53
theorem mn_X2_44 : Cond.methodLinkNest RX2 44 yX6_nextIce "IceConvoys" ∈ gNw := gNw_at 893 (by decide +kernel) (by decide +kernel)
theorem ml_X2_48 : Cond.methodLink RX2 48 yJ9_max_7cf53 ∈ gW := gW_at 894 (by decide +kernel) (by decide +kernel)
theorem ss_X2_48 : GoodIn gW (va_wsS RX2 48 yJ9_max_7cf53 (Cond.code yJ9_max_7cf53 cJ9_max_7cf53 2 (some .int) :: gW)) := gIn_S ml_X2_48 wt_J9_max_7cf53 (gW_at 66 (by decide +kernel) (by decide +kernel)) wc_J9_max_7cf53
theorem ml_X3_3 : Cond.methodLink RX3 3 Lib.objectInit ∈ gW := gW_at 228 (by decide +kernel) (by decide +kernel)
theorem fl_X3_9 : Cond.fieldLink RX3 9 (TX3 0).1 (TX3 0).2.1 (TX3 0).2.2.1 ∈ gW := gW_at 229 (by decide +kernel) (by decide +kernel)
theorem fl_X3_15 : Cond.fieldLink RX3 15 (TX3 1).1 (TX3 1).2.1 (TX3 1).2.2.1 ∈ gW := gW_at 231 (by decide +kernel) (by decide +kernel)
theorem fl_X3_19 : Cond.fieldLink RX3 19 (TX3 2).1 (TX3 2).2.1 (TX3 2).2.2.1 ∈ gW := gW_at 233 (by decide +kernel) (by decide +kernel)
theorem fl_X3_22 : Cond.fieldLink RX3 22 (TX3 3).1 (TX3 3).2.1 (TX3 3).2.2.1 ∈ gW := gW_at 234 (by decide +kernel) (by decide +kernel)
theorem fl_X3_25 : Cond.fieldLink RX3 25 (TX3 4).1 (TX3 4).2.1 (TX3 4).2.2.1 ∈ gW := gW_at 236 (by decide +kernel) (by decide +kernel)
theorem fl_X3_29 : Cond.fieldLink RX3 29 (TX3 5).1 (TX3 5).2.1 (TX3 5).2.2.1 ∈ gW := gW_at 237 (by decide +kernel) (by decide +kernel)
theorem fl_X3_32 : Cond.fieldLink RX3 32 (TX3 6).1 (TX3 6).2.1 (TX3 6).2.2.1 ∈ gW := gW_at 238 (by decide +kernel) (by decide +kernel)
theorem fl_X3_35 : Cond.fieldLink RX3 35 (TX3 7).1 (TX3 7).2.1 (TX3 7).2.2.1 ∈ gW := gW_at 239 (by decide +kernel) (by decide +kernel)
theorem ml_X3_38 : Cond.methodLink RX3 38 yX3_parseOrder ∈ gW := gW_at 932 (by decide +kernel) (by decide +kernel)
theorem sv_X3_38 : GoodIn gW (wsV RX3 38 RX3 yX3_parseOrder (Cond.code yX3_parseOrder cX3_parseOrder 2 (some .boolean) :: gW)) := gIn_V ml_X3_38 wi_X3_parseOrder we_X3_parseOrder ini_X3 wc_X3_parseOrder
theorem ml_X3_42 : Cond.methodLink RX3 42 yX3_skip ∈ gW := gW_at 948 (by decide +kernel) (by decide +kernel)
theorem sv_X3_42 : GoodIn gW (wsV RX3 42 RX3 yX3_skip (Cond.code yX3_skip cX3_skip 2 (some .boolean) :: gW)) := gIn_V ml_X3_42 wi_X3_skip we_X3_skip ini_X3 wc_X3_skip
theorem ml_X3_46 : Cond.methodLink RX3 46 yX3_parseNumber ∈ gW := gW_at 936 (by decide +kernel) (by decide +kernel)
theorem sv_X3_46 : GoodIn gW (wsV RX3 46 RX3 yX3_parseNumber (Cond.code yX3_parseNumber cX3_parseNumber 3 (some .int) :: gW)) := gIn_V ml_X3_46 wi_X3_parseNumber we_X3_parseNumber ini_X3 wc_X3_parseNumber
theorem ml_X3_50 : Cond.methodLink RX3 50 yX3_parseDigit ∈ gW := gW_at 940 (by decide +kernel) (by decide +kernel)
theorem sv_X3_50 : GoodIn gW (wsV RX3 50 RX3 yX3_parseDigit (Cond.code yX3_parseDigit cX3_parseDigit 2 (some .int) :: gW)) := gIn_V ml_X3_50 wi_X3_parseDigit we_X3_parseDigit ini_X3 wc_X3_parseDigit
theorem ml_X3_53 : Cond.methodLink RX3 53 yX3_parseTemperature ∈ gW := gW_at 944 (by decide +kernel) (by decide +kernel)
theorem sv_X3_53 : GoodIn gW (wsV RX3 53 RX3 yX3_parseTemperature (Cond.code yX3_parseTemperature cX3_parseTemperature 3 (some .boolean) :: gW)) := gIn_V ml_X3_53 wi_X3_parseTemperature we_X3_parseTemperature ini_X3 wc_X3_parseTemperature
theorem ml_X3_56 : Cond.methodLink RX3 56 yX3_parseJoin ∈ gW := gW_at 952 (by decide +kernel) (by decide +kernel)
theorem sv_X3_56 : GoodIn gW (wsV RX3 56 RX3 yX3_parseJoin (Cond.code yX3_parseJoin cX3_parseJoin 1 (some .boolean) :: gW)) := gIn_V ml_X3_56 wi_X3_parseJoin we_X3_parseJoin ini_X3 wc_X3_parseJoin
theorem ml_X3_59 : Cond.methodLink RX3 59 yX3_carryOutDrill ∈ gW := gW_at 961 (by decide +kernel) (by decide +kernel)
theorem ss_X3_59 : GoodIn gW (va_wsS RX3 59 yX3_carryOutDrill (Cond.code yX3_carryOutDrill cX3_carryOutDrill 2 (some .int) :: gW)) := gIn_S ml_X3_59 wt_X3_carryOutDrill ini_X3 wc_X3_carryOutDrill
theorem ml_X3_63 : Cond.methodLink RX3 63 yX4_startObstacle ∈ gW := gW_at 966 (by decide +kernel) (by decide +kernel)
theorem sv_X3_63 : GoodIn gW (wsV RX3 63 RX4 yX4_startObstacle (Cond.code yX4_startObstacle cX4_startObstacle 2 (some .int) :: gW)) := gIn_V ml_X3_63 wi_X4_startObstacle we_X4_startObstacle ini_X4 wc_X4_startObstacle
theorem ml_X3_69 : Cond.methodLink RX3 69 yX3_carryOutMove ∈ gW := gW_at 967 (by decide +kernel) (by decide +kernel)
theorem ss_X3_69 : GoodIn gW (va_wsS RX3 69 yX3_carryOutMove (Cond.code yX3_carryOutMove cX3_carryOutMove 3 (some .int) :: gW)) := gIn_S ml_X3_69 wt_X3_carryOutMove ini_X3 wc_X3_carryOutMove
theorem ml_X3_73 : Cond.methodLink RX3 73 yX4_rollObstacle ∈ gW := gW_at 971 (by decide +kernel) (by decide +kernel)
theorem sv_X3_73 : GoodIn gW (wsV RX3 73 RX4 yX4_rollObstacle (Cond.code yX4_rollObstacle cX4_rollObstacle 2 (some .int) :: gW)) := gIn_V ml_X3_73 wi_X4_rollObstacle we_X4_rollObstacle ini_X4 wc_X4_rollObstacle
theorem ml_X3_76 : Cond.methodLink RX3 76 yX3_carryOutTemperature ∈ gW := gW_at 972 (by decide +kernel) (by decide +kernel)
theorem ss_X3_76 : GoodIn gW (va_wsS RX3 76 yX3_carryOutTemperature (Cond.code yX3_carryOutTemperature cX3_carryOutTemperature 2 (some .int) :: gW)) := gIn_S ml_X3_76 wt_X3_carryOutTemperature ini_X3 wc_X3_carryOutTemperature
theorem ml_X3_79 : Cond.methodLink RX3 79 yX3_carryOutJoin ∈ gW := gW_at 976 (by decide +kernel) (by decide +kernel)
theorem sv_X3_79 : GoodIn gW (wsV RX3 79 RX3 yX3_carryOutJoin (Cond.code yX3_carryOutJoin cX3_carryOutJoin 4 (some .int) :: gW)) := gIn_V ml_X3_79 wi_X3_carryOutJoin we_X3_carryOutJoin ini_X3 wc_X3_carryOutJoin
theorem ml_X3_82 : Cond.methodLink RX3 82 yX3_carryOutDays ∈ gW := gW_at 982 (by decide +kernel) (by decide +kernel)
theorem ss_X3_82 : GoodIn gW (va_wsS RX3 82 yX3_carryOutDays (Cond.code yX3_carryOutDays cX3_carryOutDays 2 (some .int) :: gW)) := gIn_S ml_X3_82 wt_X3_carryOutDays ini_X3 wc_X3_carryOutDays
theorem mn_X3_85 : Cond.methodLinkNest RX3 85 yX6_isMile "IceConvoys" ∈ gNw := gNw_at 964 (by decide +kernel) (by decide +kernel)
theorem fl_X3_89 : Cond.fieldLink RX3 89 (TX4 2).1 (TX4 2).2.1 (TX4 2).2.2.1 ∈ gW := gW_at 170 (by decide +kernel) (by decide +kernel)
theorem ml_X3_93 : Cond.methodLink RX3 93 yX4_noteIce ∈ gW := gW_at 965 (by decide +kernel) (by decide +kernel)
theorem sv_X3_93 : GoodIn gW (wsV RX3 93 RX4 yX4_noteIce (Cond.code yX4_noteIce cX4_noteIce 2 none :: gW)) := gIn_V ml_X3_93 wi_X4_noteIce we_X4_noteIce ini_X4 wc_X4_noteIce
theorem fl_X3_97 : Cond.fieldLink RX3 97 (TX4 4).1 (TX4 4).2.1 (TX4 4).2.2.1 ∈ gW := gW_at 174 (by decide +kernel) (by decide +kernel)
theorem ml_X3_101 : Cond.methodLink RX3 101 yX4_advance ∈ gW := gW_at 970 (by decide +kernel) (by decide +kernel)
theorem sv_X3_101 : GoodIn gW (wsV RX3 101 RX4 yX4_advance (Cond.code yX4_advance cX4_advance 5 none :: gW)) := gIn_V ml_X3_101 wi_X4_advance we_X4_advance ini_X4 wc_X4_advance
theorem mn_X3_105 : Cond.methodLinkNest RX3 105 yX6_isSettingValue "IceConvoys" ∈ gNw := gNw_at 975 (by decide +kernel) (by decide +kernel)
theorem fl_X3_109 : Cond.fieldLink RX3 109 (TX4 0).1 (TX4 0).2.1 (TX4 0).2.2.1 ∈ gW := gW_at 165 (by decide +kernel) (by decide +kernel)
theorem ml_X3_112 : Cond.methodLink RX3 112 yX4_joinObstacle ∈ gW := gW_at 980 (by decide +kernel) (by decide +kernel)
theorem sv_X3_112 : GoodIn gW (wsV RX3 112 RX4 yX4_joinObstacle (Cond.code yX4_joinObstacle cX4_joinObstacle 4 (some .int) :: gW)) := gIn_V ml_X3_112 wi_X4_joinObstacle we_X4_joinObstacle ini_X4 wc_X4_joinObstacle
theorem ml_X3_116 : Cond.methodLink RX3 116 yX4_letJoin ∈ gW := gW_at 981 (by decide +kernel) (by decide +kernel)
theorem sv_X3_116 : GoodIn gW (wsV RX3 116 RX4 yX4_letJoin (Cond.code yX4_letJoin cX4_letJoin 3 none :: gW)) := gIn_V ml_X3_116 wi_X4_letJoin we_X4_letJoin ini_X4 wc_X4_letJoin
theorem mn_X3_120 : Cond.methodLinkNest RX3 120 yX6_isDaysToPass "IceConvoys" ∈ gNw := gNw_at 985 (by decide +kernel) (by decide +kernel)
theorem ml_X3_123 : Cond.methodLink RX3 123 yX4_letDaysGoBy ∈ gW := gW_at 986 (by decide +kernel) (by decide +kernel)
theorem sv_X3_123 : GoodIn gW (wsV RX3 123 RX4 yX4_letDaysGoBy (Cond.code yX4_letDaysGoBy cX4_letDaysGoBy 4 none :: gW)) := gIn_V ml_X3_123 wi_X4_letDaysGoBy we_X4_letDaysGoBy ini_X4 wc_X4_letDaysGoBy
theorem ml_X4_3 : Cond.methodLink RX4 3 Lib.objectInit ∈ gW := gW_at 94 (by decide +kernel) (by decide +kernel)
theorem fl_X4_9 : Cond.fieldLink RX4 9 (TX4 0).1 (TX4 0).2.1 (TX4 0).2.2.1 ∈ gW := gW_at 163 (by decide +kernel) (by decide +kernel)
theorem fl_X4_15 : Cond.fieldLink RX4 15 (TX4 1).1 (TX4 1).2.1 (TX4 1).2.2.1 ∈ gW := gW_at 166 (by decide +kernel) (by decide +kernel)
theorem cl_X4_19 : Cond.classLink RX4 19 RX2 ∈ gW := gW_at 95 (by decide +kernel) (by decide +kernel)
theorem fl_X4_21 : Cond.fieldLink RX4 21 (TX4 2).1 (TX4 2).2.1 (TX4 2).2.2.1 ∈ gW := gW_at 168 (by decide +kernel) (by decide +kernel)
theorem cl_X4_25 : Cond.classLink RX4 25 RX5 ∈ gW := gW_at 97 (by decide +kernel) (by decide +kernel)
theorem fl_X4_27 : Cond.fieldLink RX4 27 (TX4 3).1 (TX4 3).2.1 (TX4 3).2.2.1 ∈ gW := gW_at 171 (by decide +kernel) (by decide +kernel)
theorem cl_X4_31 : Cond.classLink RX4 31 RX0 ∈ gW := gW_at 99 (by decide +kernel) (by decide +kernel)
theorem fl_X4_33 : Cond.fieldLink RX4 33 (TX4 4).1 (TX4 4).2.1 (TX4 4).2.2.1 ∈ gW := gW_at 173 (by decide +kernel) (by decide +kernel)
theorem fl_X4_37 : Cond.fieldLink RX4 37 (TX4 5).1 (TX4 5).2.1 (TX4 5).2.2.1 ∈ gW := gW_at 176 (by decide +kernel) (by decide +kernel)
theorem fl_X4_40 : Cond.fieldLink RX4 40 (TX4 6).1 (TX4 6).2.1 (TX4 6).2.2.1 ∈ gW := gW_at 178 (by decide +kernel) (by decide +kernel)
theorem fl_X4_43 : Cond.fieldLink RX4 43 (TX4 7).1 (TX4 7).2.1 (TX4 7).2.2.1 ∈ gW := gW_at 180 (by decide +kernel) (by decide +kernel)
theorem fl_X4_46 : Cond.fieldLink RX4 46 (TX4 8).1 (TX4 8).2.1 (TX4 8).2.2.1 ∈ gW := gW_at 182 (by decide +kernel) (by decide +kernel)
theorem mn_X4_49 : Cond.methodLinkNest RX4 49 yX2_init "IceConvoys" ∈ gNw := gNw_at 102 (by decide +kernel) (by decide +kernel)
theorem mn_X4_50 : Cond.methodLinkNest RX4 50 yX0_init "IceConvoys" ∈ gNw := gNw_at 138 (by decide +kernel) (by decide +kernel)
theorem ml_X4_51 : Cond.methodLink RX4 51 yX2_copyFrom ∈ gW := gW_at 368 (by decide +kernel) (by decide +kernel)
theorem sv_X4_51 : GoodIn gW (wsV RX4 51 RX2 yX2_copyFrom (Cond.code yX2_copyFrom cX2_copyFrom 2 none :: gW)) := gIn_V ml_X4_51 wi_X2_copyFrom we_X2_copyFrom ini_X2 wc_X2_copyFrom
theorem ml_X4_55 : Cond.methodLink RX4 55 yX0_copyFrom ∈ gW := gW_at 372 (by decide +kernel) (by decide +kernel)
theorem sv_X4_55 : GoodIn gW (wsV RX4 55 RX0 yX0_copyFrom (Cond.code yX0_copyFrom cX0_copyFrom 3 none :: gW)) := gIn_V ml_X4_55 wi_X0_copyFrom we_X0_copyFrom ini_X0 wc_X0_copyFrom
theorem ml_X4_58 : Cond.methodLink RX4 58 yX4_isConvoy ∈ gW := gW_at 688 (by decide +kernel) (by decide +kernel)
theorem sv_X4_58 : GoodIn gW (wsV RX4 58 RX4 yX4_isConvoy (Cond.code yX4_isConvoy cX4_isConvoy 2 (some .boolean) :: gW)) := gIn_V ml_X4_58 wi_X4_isConvoy we_X4_isConvoy ini_X4 wc_X4_isConvoy
theorem fl_X4_62 : Cond.fieldLink RX4 62 (TX0 3).1 (TX0 3).2.1 (TX0 3).2.2.1 ∈ gW := gW_at 153 (by decide +kernel) (by decide +kernel)
theorem fl_X4_65 : Cond.fieldLink RX4 65 (TX2 0).1 (TX2 0).2.1 (TX2 0).2.2.1 ∈ gW := gW_at 108 (by decide +kernel) (by decide +kernel)
theorem fl_X4_69 : Cond.fieldLink RX4 69 (TX2 1).1 (TX2 1).2.1 (TX2 1).2.2.1 ∈ gW := gW_at 112 (by decide +kernel) (by decide +kernel)
theorem fl_X4_72 : Cond.fieldLink RX4 72 (TX2 2).1 (TX2 2).2.1 (TX2 2).2.2.1 ∈ gW := gW_at 114 (by decide +kernel) (by decide +kernel)
theorem fl_X4_75 : Cond.fieldLink RX4 75 (TX2 3).1 (TX2 3).2.1 (TX2 3).2.2.1 ∈ gW := gW_at 118 (by decide +kernel) (by decide +kernel)
theorem ml_X4_78 : Cond.methodLink RX4 78 yX4_borneWithCracks ∈ gW := gW_at 291 (by decide +kernel) (by decide +kernel)
theorem sv_X4_78 : GoodIn gW (wsV RX4 78 RX4 yX4_borneWithCracks (Cond.code yX4_borneWithCracks cX4_borneWithCracks 3 (some .float) :: gW)) := gIn_V ml_X4_78 wi_X4_borneWithCracks we_X4_borneWithCracks ini_X4 wc_X4_borneWithCracks
theorem ml_X4_82 : Cond.methodLink RX4 82 yX4_isDrillGood ∈ gW := gW_at 295 (by decide +kernel) (by decide +kernel)
theorem sv_X4_82 : GoodIn gW (wsV RX4 82 RX4 yX4_isDrillGood (Cond.code yX4_isDrillGood cX4_isDrillGood 2 (some .boolean) :: gW)) := gIn_V ml_X4_82 wi_X4_isDrillGood we_X4_isDrillGood ini_X4 wc_X4_isDrillGood
theorem mn_X4_86 : Cond.methodLinkNest RX4 86 yX6_borneBy "IceConvoys" ∈ gNw := gNw_at 299 (by decide +kernel) (by decide +kernel)
theorem ml_X4_90 : Cond.methodLink RX4 90 yX0_placeAt ∈ gW := gW_at 593 (by decide +kernel) (by decide +kernel)
theorem sv_X4_90 : GoodIn gW (wsV RX4 90 RX0 yX0_placeAt (Cond.code yX0_placeAt cX0_placeAt 3 (some .int) :: gW)) := gIn_V ml_X4_90 wi_X0_placeAt we_X0_placeAt ini_X0 wc_X0_placeAt
theorem mn_X4_94 : Cond.methodLinkNest RX4 94 yX6_isRow "IceConvoys" ∈ gNw := gNw_at 692 (by decide +kernel) (by decide +kernel)
theorem mn_X4_97 : Cond.methodLinkNest RX4 97 yX6_isPlace "IceConvoys" ∈ gNw := gNw_at 693 (by decide +kernel) (by decide +kernel)
theorem ml_X4_100 : Cond.methodLink RX4 100 yX0_hasStarted ∈ gW := gW_at 694 (by decide +kernel) (by decide +kernel)
theorem sv_X4_100 : GoodIn gW (wsV RX4 100 RX0 yX0_hasStarted (Cond.code yX0_hasStarted cX0_hasStarted 1 (some .boolean) :: gW)) := gIn_V ml_X4_100 wi_X0_hasStarted we_X0_hasStarted ini_X0 wc_X0_hasStarted
theorem mn_X4_104 : Cond.methodLinkNest RX4 104 yX6_refusalFor "IceConvoys" ∈ gNw := gNw_at 695 (by decide +kernel) (by decide +kernel)
theorem fl_X4_108 : Cond.fieldLink RX4 108 (TX0 2).1 (TX0 2).2.1 (TX0 2).2.2.1 ∈ gW := gW_at 150 (by decide +kernel) (by decide +kernel)
theorem ml_X4_111 : Cond.methodLink RX4 111 yX4_wayObstacle ∈ gW := gW_at 713 (by decide +kernel) (by decide +kernel)
theorem sv_X4_111 : GoodIn gW (wsV RX4 111 RX4 yX4_wayObstacle (Cond.code yX4_wayObstacle cX4_wayObstacle 7 (some .int) :: gW)) := gIn_V ml_X4_111 wi_X4_wayObstacle we_X4_wayObstacle ini_X4 wc_X4_wayObstacle
theorem ml_X4_114 : Cond.methodLink RX4 114 yX0_isDone ∈ gW := gW_at 754 (by decide +kernel) (by decide +kernel)
theorem sv_X4_114 : GoodIn gW (wsV RX4 114 RX0 yX0_isDone (Cond.code yX0_isDone cX0_isDone 1 (some .boolean) :: gW)) := gIn_V ml_X4_114 wi_X0_isDone we_X0_isDone ini_X0 wc_X0_isDone
theorem fl_X4_117 : Cond.fieldLink RX4 117 (TX0 1).1 (TX0 1).2.1 (TX0 1).2.2.1 ∈ gW := gW_at 147 (by decide +kernel) (by decide +kernel)
theorem ml_X4_120 : Cond.methodLink RX4 120 yX0_mileWithLead ∈ gW := gW_at 717 (by decide +kernel) (by decide +kernel)
theorem sv_X4_120 : GoodIn gW (wsV RX4 120 RX0 yX0_mileWithLead (Cond.code yX0_mileWithLead cX0_mileWithLead 3 (some .int) :: gW)) := gIn_V ml_X4_120 wi_X0_mileWithLead we_X0_mileWithLead ini_X0 wc_X0_mileWithLead
theorem mn_X4_123 : Cond.methodLinkNest RX4 123 yX6_isMile "IceConvoys" ∈ gNw := gNw_at 342 (by decide +kernel) (by decide +kernel)
theorem ml_X4_126 : Cond.methodLink RX4 126 yX4_isTakenByOther ∈ gW := gW_at 718 (by decide +kernel) (by decide +kernel)
theorem sv_X4_126 : GoodIn gW (wsV RX4 126 RX4 yX4_isTakenByOther (Cond.code yX4_isTakenByOther cX4_isTakenByOther 4 (some .boolean) :: gW)) := gIn_V ml_X4_126 wi_X4_isTakenByOther we_X4_isTakenByOther ini_X4 wc_X4_isTakenByOther
theorem ml_X4_130 : Cond.methodLink RX4 130 yX4_borneByDrill ∈ gW := gW_at 722 (by decide +kernel) (by decide +kernel)
theorem sv_X4_130 : GoodIn gW (wsV RX4 130 RX4 yX4_borneByDrill (Cond.code yX4_borneByDrill cX4_borneByDrill 2 (some .float) :: gW)) := gIn_V ml_X4_130 wi_X4_borneByDrill we_X4_borneByDrill ini_X4 wc_X4_borneByDrill
theorem ml_X4_134 : Cond.methodLink RX4 134 yX5_burden ∈ gW := gW_at 723 (by decide +kernel) (by decide +kernel)
theorem sv_X4_134 : GoodIn gW (wsV RX4 134 RX5 yX5_burden (Cond.code yX5_burden cX5_burden 1 (some .float) :: gW)) := gIn_V ml_X4_134 wi_X5_burden we_X5_burden ini_X5 wc_X5_burden
theorem ml_X4_138 : Cond.methodLink RX4 138 yX0_mileOfTruck ∈ gW := gW_at 341 (by decide +kernel) (by decide +kernel)
theorem sv_X4_138 : GoodIn gW (wsV RX4 138 RX0 yX0_mileOfTruck (Cond.code yX0_mileOfTruck cX0_mileOfTruck 2 (some .int) :: gW)) := gIn_V ml_X4_138 wi_X0_mileOfTruck we_X0_mileOfTruck ini_X0 wc_X0_mileOfTruck
theorem ml_X4_141 : Cond.methodLink RX4 141 yX2_carry ∈ gW := gW_at 734 (by decide +kernel) (by decide +kernel)
theorem sv_X4_141 : GoodIn gW (wsV RX4 141 RX2 yX2_carry (Cond.code yX2_carry cX2_carry 2 none :: gW)) := gIn_V ml_X4_141 wi_X2_carry we_X2_carry ini_X2 wc_X2_carry
theorem fl_X4_145 : Cond.fieldLink RX4 145 (TX5 1).1 (TX5 1).2.1 (TX5 1).2.2.1 ∈ gW := gW_at 645 (by decide +kernel) (by decide +kernel)
theorem fl_X4_148 : Cond.fieldLink RX4 148 (TX0 0).1 (TX0 0).2.1 (TX0 0).2.2.1 ∈ gW := gW_at 145 (by decide +kernel) (by decide +kernel)
theorem ml_X4_151 : Cond.methodLink RX4 151 yX4_couldLeadBe ∈ gW := gW_at 827 (by decide +kernel) (by decide +kernel)
theorem sv_X4_151 : GoodIn gW (wsV RX4 151 RX4 yX4_couldLeadBe (Cond.code yX4_couldLeadBe cX4_couldLeadBe 8 (some .boolean) :: gW)) := gIn_V ml_X4_151 wi_X4_couldLeadBe we_X4_couldLeadBe ini_X4 wc_X4_couldLeadBe
theorem ml_X4_154 : Cond.methodLink RX4 154 yX0_strainAheadOf ∈ gW := gW_at 831 (by decide +kernel) (by decide +kernel)
theorem sv_X4_154 : GoodIn gW (wsV RX4 154 RX0 yX0_strainAheadOf (Cond.code yX0_strainAheadOf cX0_strainAheadOf 6 (some .int) :: gW)) := gIn_V ml_X4_154 wi_X0_strainAheadOf we_X0_strainAheadOf ini_X0 wc_X0_strainAheadOf
theorem ml_X4_157 : Cond.methodLink RX4 157 yX2_cracksAfter ∈ gW := gW_at 836 (by decide +kernel) (by decide +kernel)
theorem sv_X4_157 : GoodIn gW (wsV RX4 157 RX2 yX2_cracksAfter (Cond.code yX2_cracksAfter cX2_cracksAfter 2 (some .int) :: gW)) := gIn_V ml_X4_157 wi_X2_cracksAfter we_X2_cracksAfter ini_X2 wc_X2_cracksAfter
theorem ml_X4_160 : Cond.methodLink RX4 160 yX2_liveThroughDay ∈ gW := gW_at 889 (by decide +kernel) (by decide +kernel)
theorem sv_X4_160 : GoodIn gW (wsV RX4 160 RX2 yX2_liveThroughDay (Cond.code yX2_liveThroughDay cX2_liveThroughDay 2 none :: gW)) := gIn_V ml_X4_160 wi_X2_liveThroughDay we_X2_liveThroughDay ini_X2 wc_X2_liveThroughDay
theorem ml_X4_164 : Cond.methodLink RX4 164 yX0_countOnRoad ∈ gW := gW_at 1020 (by decide +kernel) (by decide +kernel)
theorem sv_X4_164 : GoodIn gW (wsV RX4 164 RX0 yX0_countOnRoad (Cond.code yX0_countOnRoad cX0_countOnRoad 3 (some .int) :: gW)) := gIn_V ml_X4_164 wi_X0_countOnRoad we_X0_countOnRoad ini_X0 wc_X0_countOnRoad
theorem ml_X4_168 : Cond.methodLink RX4 168 yX0_countArrived ∈ gW := gW_at 1025 (by decide +kernel) (by decide +kernel)
theorem sv_X4_168 : GoodIn gW (wsV RX4 168 RX0 yX0_countArrived (Cond.code yX0_countArrived cX0_countArrived 3 (some .int) :: gW)) := gIn_V ml_X4_168 wi_X0_countArrived we_X0_countArrived ini_X0 wc_X0_countArrived
theorem ml_X4_171 : Cond.methodLink RX4 171 yX0_tonnesNotArrived ∈ gW := gW_at 321 (by decide +kernel) (by decide +kernel)
theorem sv_X4_171 : GoodIn gW (wsV RX4 171 RX0 yX0_tonnesNotArrived (Cond.code yX0_tonnesNotArrived cX0_tonnesNotArrived 4 (some .int) :: gW)) := gIn_V ml_X4_171 wi_X0_tonnesNotArrived we_X0_tonnesNotArrived ini_X0 wc_X0_tonnesNotArrived
theorem kc_X4_174 : Cond.constantFloat RX4 174 (1128792064) ∈ gW := gW_at 349 (by decide +kernel) (by decide +kernel)
theorem ml_X5_1 : Cond.methodLink RX5 1 Lib.objectInit ∈ gW := gW_at 639 (by decide +kernel) (by decide +kernel)
theorem fl_X5_7 : Cond.fieldLink RX5 7 (TX5 0).1 (TX5 0).2.1 (TX5 0).2.2.1 ∈ gW := gW_at 640 (by decide +kernel) (by decide +kernel)
theorem fl_X5_13 : Cond.fieldLink RX5 13 (TX5 1).1 (TX5 1).2.1 (TX5 1).2.2.1 ∈ gW := gW_at 642 (by decide +kernel) (by decide +kernel)
theorem fl_X5_16 : Cond.fieldLink RX5 16 (TX5 2).1 (TX5 2).2.1 (TX5 2).2.2.1 ∈ gW := gW_at 646 (by decide +kernel) (by decide +kernel)
theorem kc_X5_19 : Cond.constantFloat RX5 19 (1056964608) ∈ gW := gW_at 727 (by decide +kernel) (by decide +kernel)
theorem ml_X6_3 : Cond.methodLink RX6 3 Lib.objectInit ∈ gW := gW_at 86 (by decide +kernel) (by decide +kernel)
theorem cl_X6_9 : Cond.classLink RX6 9 RX4 ∈ gW := gW_at 89 (by decide +kernel) (by decide +kernel)
theorem ml_X6_11 : Cond.methodLink RX6 11 yX4_init ∈ gW := gW_at 91 (by decide +kernel) (by decide +kernel)
theorem fl_X6_12 : Cond.fieldLink RX6 12 (TX6 0).1 (TX6 0).2.1 (TX6 0).2.2.1 ∈ gW := gW_at 258 (by decide +kernel) (by decide +kernel)
theorem fl_X6_16 : Cond.fieldLink RX6 16 (TX6 1).1 (TX6 1).2.1 (TX6 1).2.2.1 ∈ gW := gW_at 259 (by decide +kernel) (by decide +kernel)
theorem fl_X6_19 : Cond.fieldLink RX6 19 (TX6 2).1 (TX6 2).2.1 (TX6 2).2.2.1 ∈ gW := gW_at 260 (by decide +kernel) (by decide +kernel)
theorem fl_X6_22 : Cond.fieldLink RX6 22 (TX6 3).1 (TX6 3).2.1 (TX6 3).2.2.1 ∈ gW := gW_at 261 (by decide +kernel) (by decide +kernel)
theorem cl_X6_26 : Cond.classLink RX6 26 RX1 ∈ gW := gW_at 203 (by decide +kernel) (by decide +kernel)
theorem ml_X6_28 : Cond.methodLink RX6 28 yX1_init ∈ gW := gW_at 205 (by decide +kernel) (by decide +kernel)
theorem fl_X6_29 : Cond.fieldLink RX6 29 (TX6 4).1 (TX6 4).2.1 (TX6 4).2.2.1 ∈ gW := gW_at 262 (by decide +kernel) (by decide +kernel)
theorem cl_X6_33 : Cond.classLink RX6 33 RX3 ∈ gW := gW_at 223 (by decide +kernel) (by decide +kernel)
theorem mn_X6_35 : Cond.methodLinkNest RX6 35 yX3_init "IceConvoys" ∈ gNw := gNw_at 225 (by decide +kernel) (by decide +kernel)
theorem fl_X6_36 : Cond.fieldLink RX6 36 (TX6 5).1 (TX6 5).2.1 (TX6 5).2.2.1 ∈ gW := gW_at 263 (by decide +kernel) (by decide +kernel)
theorem fl_X6_40 : Cond.fieldLink RX6 40 (TX6 6).1 (TX6 6).2.1 (TX6 6).2.2.1 ∈ gW := gW_at 264 (by decide +kernel) (by decide +kernel)
theorem fl_X6_44 : Cond.fieldLink RX6 44 (TX6 7).1 (TX6 7).2.1 (TX6 7).2.2.1 ∈ gW := gW_at 265 (by decide +kernel) (by decide +kernel)
theorem ml_X6_47 : Cond.methodLink RX6 47 yX6_isSettingValue ∈ gW := gW_at 384 (by decide +kernel) (by decide +kernel)
theorem ss_X6_47 : GoodIn gW (va_wsS RX6 47 yX6_isSettingValue (Cond.code yX6_isSettingValue cX6_isSettingValue 2 (some .boolean) :: gW)) := gIn_S ml_X6_47 wt_X6_isSettingValue ini_X6 wc_X6_isSettingValue
theorem cl_X6_51 : Cond.classLink RX6 51 "java/lang/IllegalArgumentException" ∈ gW := gW_at 394 (by decide +kernel) (by decide +kernel)
theorem ml_X6_55 : Cond.methodLink RX6 55 ⟨"java/lang/IllegalArgumentException", "<init>", "(Ljava/lang/String;)V"⟩ ∈ gW := gW_at 440 (by decide +kernel) (by decide +kernel)
theorem ml_X6_58 : Cond.methodLink RX6 58 yX1_keep ∈ gW := gW_at 466 (by decide +kernel) (by decide +kernel)
theorem sv_X6_58 : GoodIn gW (wsV RX6 58 RX1 yX1_keep (Cond.code yX1_keep cX1_keep 2 none :: gW)) := gIn_V ml_X6_58 wi_X1_keep we_X1_keep ini_X1 wc_X1_keep
theorem fl_X6_62 : Cond.fieldLink RX6 62 (TX4 0).1 (TX4 0).2.1 (TX4 0).2.2.1 ∈ gW := gW_at 164 (by decide +kernel) (by decide +kernel)
theorem ml_X6_66 : Cond.methodLink RX6 66 yX6_isSetting ∈ gW := gW_at 387 (by decide +kernel) (by decide +kernel)
theorem ss_X6_66 : GoodIn gW (va_wsS RX6 66 yX6_isSetting (Cond.code yX6_isSetting cX6_isSetting 1 (some .boolean) :: gW)) := gIn_S ml_X6_66 wt_X6_isSetting ini_X6 wc_X6_isSetting
theorem ml_X6_72 : Cond.methodLink RX6 72 yX6_isMile ∈ gW := gW_at 513 (by decide +kernel) (by decide +kernel)
theorem ss_X6_72 : GoodIn gW (va_wsS RX6 72 yX6_isMile (Cond.code yX6_isMile cX6_isMile 1 (some .boolean) :: gW)) := gIn_S ml_X6_72 wt_X6_isMile ini_X6 wc_X6_isMile
theorem cl_X6_75 : Cond.classLink RX6 75 "java/lang/IndexOutOfBoundsException" ∈ gW := gW_at 514 (by decide +kernel) (by decide +kernel)
theorem ml_X6_79 : Cond.methodLink RX6 79 ⟨"java/lang/IndexOutOfBoundsException", "<init>", "(Ljava/lang/String;)V"⟩ ∈ gW := gW_at 524 (by decide +kernel) (by decide +kernel)
theorem fl_X6_80 : Cond.fieldLink RX6 80 (TX4 2).1 (TX4 2).2.1 (TX4 2).2.2.1 ∈ gW := gW_at 169 (by decide +kernel) (by decide +kernel)
theorem ml_X6_84 : Cond.methodLink RX6 84 yX4_noteIce ∈ gW := gW_at 527 (by decide +kernel) (by decide +kernel)
theorem sv_X6_84 : GoodIn gW (wsV RX6 84 RX4 yX4_noteIce (Cond.code yX4_noteIce cX4_noteIce 2 none :: gW)) := gIn_V ml_X6_84 wi_X4_noteIce we_X4_noteIce ini_X4 wc_X4_noteIce
theorem fl_X6_88 : Cond.fieldLink RX6 88 (TX2 1).1 (TX2 1).2.1 (TX2 1).2.2.1 ∈ gW := gW_at 111 (by decide +kernel) (by decide +kernel)
theorem ml_X6_94 : Cond.methodLink RX6 94 yX6_floatBits ∈ gW := gW_at 531 (by decide +kernel) (by decide +kernel)
theorem ss_X6_94 : GoodIn gW (va_wsS RX6 94 yX6_floatBits (Cond.code yX6_floatBits cX6_floatBits 3 (some .int) :: gW)) := gIn_S ml_X6_94 wt_X6_floatBits ini_X6 wc_X6_floatBits
theorem fl_X6_98 : Cond.fieldLink RX6 98 (TX2 2).1 (TX2 2).2.1 (TX2 2).2.2.1 ∈ gW := gW_at 115 (by decide +kernel) (by decide +kernel)
theorem cl_X6_101 : Cond.classLink RX6 101 "java/util/NoSuchElementException" ∈ gW := gW_at 543 (by decide +kernel) (by decide +kernel)
theorem ml_X6_105 : Cond.methodLink RX6 105 ⟨"java/util/NoSuchElementException", "<init>", "(Ljava/lang/String;)V"⟩ ∈ gW := gW_at 553 (by decide +kernel) (by decide +kernel)
theorem fl_X6_106 : Cond.fieldLink RX6 106 (TX2 3).1 (TX2 3).2.1 (TX2 3).2.2.1 ∈ gW := gW_at 117 (by decide +kernel) (by decide +kernel)
theorem fl_X6_109 : Cond.fieldLink RX6 109 (TX2 4).1 (TX2 4).2.1 (TX2 4).2.2.1 ∈ gW := gW_at 120 (by decide +kernel) (by decide +kernel)
theorem ml_X6_112 : Cond.methodLink RX6 112 yX4_isDrillGood ∈ gW := gW_at 566 (by decide +kernel) (by decide +kernel)
theorem sv_X6_112 : GoodIn gW (wsV RX6 112 RX4 yX4_isDrillGood (Cond.code yX4_isDrillGood cX4_isDrillGood 2 (some .boolean) :: gW)) := gIn_V ml_X6_112 wi_X4_isDrillGood we_X4_isDrillGood ini_X4 wc_X4_isDrillGood
theorem fl_X6_116 : Cond.fieldLink RX6 116 (TX2 5).1 (TX2 5).2.1 (TX2 5).2.2.1 ∈ gW := gW_at 122 (by decide +kernel) (by decide +kernel)
theorem fl_X6_121 : Cond.fieldLink RX6 121 (TX2 0).1 (TX2 0).2.1 (TX2 0).2.2.1 ∈ gW := gW_at 109 (by decide +kernel) (by decide +kernel)
theorem ml_X6_124 : Cond.methodLink RX6 124 yX4_borneByDrill ∈ gW := gW_at 287 (by decide +kernel) (by decide +kernel)
theorem sv_X6_124 : GoodIn gW (wsV RX6 124 RX4 yX4_borneByDrill (Cond.code yX4_borneByDrill cX4_borneByDrill 2 (some .float) :: gW)) := gIn_V ml_X6_124 wi_X4_borneByDrill we_X4_borneByDrill ini_X4 wc_X4_borneByDrill
theorem ml_X6_128 : Cond.methodLink RX6 128 yX4_convoyAt ∈ gW := gW_at 589 (by decide +kernel) (by decide +kernel)
theorem sv_X6_128 : GoodIn gW (wsV RX6 128 RX4 yX4_convoyAt (Cond.code yX4_convoyAt cX4_convoyAt 3 (some .int) :: gW)) := gIn_V ml_X6_128 wi_X4_convoyAt we_X4_convoyAt ini_X4 wc_X4_convoyAt
theorem ml_X6_132 : Cond.methodLink RX6 132 yX6_isRow ∈ gW := gW_at 605 (by decide +kernel) (by decide +kernel)
theorem ss_X6_132 : GoodIn gW (va_wsS RX6 132 yX6_isRow (Cond.code yX6_isRow cX6_isRow 1 (some .boolean) :: gW)) := gIn_S ml_X6_132 wt_X6_isRow ini_X6 wc_X6_isRow
theorem ml_X6_139 : Cond.methodLink RX6 139 yX4_freePlace ∈ gW := gW_at 610 (by decide +kernel) (by decide +kernel)
theorem sv_X6_139 : GoodIn gW (wsV RX6 139 RX4 yX4_freePlace (Cond.code yX4_freePlace cX4_freePlace 3 (some .int) :: gW)) := gIn_V ml_X6_139 wi_X4_freePlace we_X4_freePlace ini_X4 wc_X4_freePlace
theorem ml_X6_142 : Cond.methodLink RX6 142 yX6_refusalFor ∈ gW := gW_at 614 (by decide +kernel) (by decide +kernel)
theorem ss_X6_142 : GoodIn gW (va_wsS RX6 142 yX6_refusalFor (Cond.code yX6_refusalFor cX6_refusalFor 2 (some .int) :: gW)) := gIn_S ml_X6_142 wt_X6_refusalFor ini_X6 wc_X6_refusalFor
theorem cl_X6_146 : Cond.classLink RX6 146 "java/lang/UnsupportedOperationException" ∈ gW := gW_at 617 (by decide +kernel) (by decide +kernel)
theorem ml_X6_150 : Cond.methodLink RX6 150 ⟨"java/lang/UnsupportedOperationException", "<init>", "(Ljava/lang/String;)V"⟩ ∈ gW := gW_at 627 (by decide +kernel) (by decide +kernel)
theorem fl_X6_153 : Cond.fieldLink RX6 153 (TX4 3).1 (TX4 3).2.1 (TX4 3).2.2.1 ∈ gW := gW_at 172 (by decide +kernel) (by decide +kernel)
theorem cl_X6_157 : Cond.classLink RX6 157 RX5 ∈ gW := gW_at 634 (by decide +kernel) (by decide +kernel)
theorem ml_X6_159 : Cond.methodLink RX6 159 yX5_init ∈ gW := gW_at 636 (by decide +kernel) (by decide +kernel)
theorem fl_X6_162 : Cond.fieldLink RX6 162 (TX4 7).1 (TX4 7).2.1 (TX4 7).2.2.1 ∈ gW := gW_at 181 (by decide +kernel) (by decide +kernel)
theorem ml_X6_165 : Cond.methodLink RX6 165 yX6_isPlace ∈ gW := gW_at 662 (by decide +kernel) (by decide +kernel)
theorem ss_X6_165 : GoodIn gW (va_wsS RX6 165 yX6_isPlace (Cond.code yX6_isPlace cX6_isPlace 1 (some .boolean) :: gW)) := gIn_S ml_X6_165 wt_X6_isPlace ini_X6 wc_X6_isPlace
theorem fl_X6_174 : Cond.fieldLink RX6 174 (TX5 1).1 (TX5 1).2.1 (TX5 1).2.2.1 ∈ gW := gW_at 644 (by decide +kernel) (by decide +kernel)
theorem fl_X6_177 : Cond.fieldLink RX6 177 (TX5 2).1 (TX5 2).2.1 (TX5 2).2.2.1 ∈ gW := gW_at 647 (by decide +kernel) (by decide +kernel)
theorem fl_X6_182 : Cond.fieldLink RX6 182 (TX4 5).1 (TX4 5).2.1 (TX4 5).2.2.1 ∈ gW := gW_at 177 (by decide +kernel) (by decide +kernel)
theorem fl_X6_187 : Cond.fieldLink RX6 187 (TX4 4).1 (TX4 4).2.1 (TX4 4).2.2.1 ∈ gW := gW_at 175 (by decide +kernel) (by decide +kernel)
theorem fl_X6_191 : Cond.fieldLink RX6 191 (TX0 0).1 (TX0 0).2.1 (TX0 0).2.2.1 ∈ gW := gW_at 144 (by decide +kernel) (by decide +kernel)
theorem ml_X6_196 : Cond.methodLink RX6 196 yX4_joinObstacle ∈ gW := gW_at 684 (by decide +kernel) (by decide +kernel)
theorem sv_X6_196 : GoodIn gW (wsV RX6 196 RX4 yX4_joinObstacle (Cond.code yX4_joinObstacle cX4_joinObstacle 4 (some .int) :: gW)) := gIn_V ml_X6_196 wi_X4_joinObstacle we_X4_joinObstacle ini_X4 wc_X4_joinObstacle
theorem ml_X6_204 : Cond.methodLink RX6 204 yX4_letJoin ∈ gW := gW_at 698 (by decide +kernel) (by decide +kernel)
theorem sv_X6_204 : GoodIn gW (wsV RX6 204 RX4 yX4_letJoin (Cond.code yX4_letJoin cX4_letJoin 3 none :: gW)) := gIn_V ml_X6_204 wi_X4_letJoin we_X4_letJoin ini_X4 wc_X4_letJoin
theorem fl_X6_208 : Cond.fieldLink RX6 208 (TX0 2).1 (TX0 2).2.1 (TX0 2).2.2.1 ∈ gW := gW_at 151 (by decide +kernel) (by decide +kernel)
theorem ml_X6_211 : Cond.methodLink RX6 211 yX4_startObstacle ∈ gW := gW_at 709 (by decide +kernel) (by decide +kernel)
theorem sv_X6_211 : GoodIn gW (wsV RX6 211 RX4 yX4_startObstacle (Cond.code yX4_startObstacle cX4_startObstacle 2 (some .int) :: gW)) := gIn_V ml_X6_211 wi_X4_startObstacle we_X4_startObstacle ini_X4 wc_X4_startObstacle
theorem ml_X6_218 : Cond.methodLink RX6 218 yX4_advance ∈ gW := gW_at 730 (by decide +kernel) (by decide +kernel)
theorem sv_X6_218 : GoodIn gW (wsV RX6 218 RX4 yX4_advance (Cond.code yX4_advance cX4_advance 5 none :: gW)) := gIn_V ml_X6_218 wi_X4_advance we_X4_advance ini_X4 wc_X4_advance
theorem ml_X6_222 : Cond.methodLink RX6 222 yX4_rollObstacle ∈ gW := gW_at 750 (by decide +kernel) (by decide +kernel)
theorem sv_X6_222 : GoodIn gW (wsV RX6 222 RX4 yX4_rollObstacle (Cond.code yX4_rollObstacle cX4_rollObstacle 2 (some .int) :: gW)) := gIn_V ml_X6_222 wi_X4_rollObstacle we_X4_rollObstacle ini_X4 wc_X4_rollObstacle
theorem ml_X6_227 : Cond.methodLink RX6 227 yX0_countOnRoad ∈ gW := gW_at 763 (by decide +kernel) (by decide +kernel)
theorem sv_X6_227 : GoodIn gW (wsV RX6 227 RX0 yX0_countOnRoad (Cond.code yX0_countOnRoad cX0_countOnRoad 3 (some .int) :: gW)) := gIn_V ml_X6_227 wi_X0_countOnRoad we_X0_countOnRoad ini_X0 wc_X0_countOnRoad
theorem ml_X6_231 : Cond.methodLink RX6 231 yX4_isConvoy ∈ gW := gW_at 782 (by decide +kernel) (by decide +kernel)
theorem sv_X6_231 : GoodIn gW (wsV RX6 231 RX4 yX4_isConvoy (Cond.code yX4_isConvoy cX4_isConvoy 2 (some .boolean) :: gW)) := gIn_V ml_X6_231 wi_X4_isConvoy we_X4_isConvoy ini_X4 wc_X4_isConvoy
theorem fl_X6_234 : Cond.fieldLink RX6 234 (TX0 1).1 (TX0 1).2.1 (TX0 1).2.2.1 ∈ gW := gW_at 148 (by decide +kernel) (by decide +kernel)
theorem ml_X6_237 : Cond.methodLink RX6 237 yX0_countArrived ∈ gW := gW_at 783 (by decide +kernel) (by decide +kernel)
theorem sv_X6_237 : GoodIn gW (wsV RX6 237 RX0 yX0_countArrived (Cond.code yX0_countArrived cX0_countArrived 3 (some .int) :: gW)) := gIn_V ml_X6_237 wi_X0_countArrived we_X0_countArrived ini_X0 wc_X0_countArrived
theorem ml_X6_240 : Cond.methodLink RX6 240 yX0_isDone ∈ gW := gW_at 784 (by decide +kernel) (by decide +kernel)
theorem sv_X6_240 : GoodIn gW (wsV RX6 240 RX0 yX0_isDone (Cond.code yX0_isDone cX0_isDone 1 (some .boolean) :: gW)) := gIn_V ml_X6_240 wi_X0_isDone we_X0_isDone ini_X0 wc_X0_isDone
theorem ml_X6_246 : Cond.methodLink RX6 246 yX4_truckIn ∈ gW := gW_at 793 (by decide +kernel) (by decide +kernel)
theorem sv_X6_246 : GoodIn gW (wsV RX6 246 RX4 yX4_truckIn (Cond.code yX4_truckIn cX4_truckIn 3 (some (.object "IceConvoys$Truck")) :: gW)) := gIn_V ml_X6_246 wi_X4_truckIn we_X4_truckIn ini_X4 wc_X4_truckIn
theorem fl_X6_252 : Cond.fieldLink RX6 252 (TX5 0).1 (TX5 0).2.1 (TX5 0).2.2.1 ∈ gW := gW_at 641 (by decide +kernel) (by decide +kernel)
theorem ml_X6_255 : Cond.methodLink RX6 255 yX0_mileOfTruck ∈ gW := gW_at 798 (by decide +kernel) (by decide +kernel)
theorem sv_X6_255 : GoodIn gW (wsV RX6 255 RX0 yX0_mileOfTruck (Cond.code yX0_mileOfTruck cX0_mileOfTruck 2 (some .int) :: gW)) := gIn_V ml_X6_255 wi_X0_mileOfTruck we_X0_mileOfTruck ini_X0 wc_X0_mileOfTruck
theorem ml_X6_258 : Cond.methodLink RX6 258 yX5_burden ∈ gW := gW_at 806 (by decide +kernel) (by decide +kernel)
theorem sv_X6_258 : GoodIn gW (wsV RX6 258 RX5 yX5_burden (Cond.code yX5_burden cX5_burden 1 (some .float) :: gW)) := gIn_V ml_X6_258 wi_X5_burden we_X5_burden ini_X5 wc_X5_burden
theorem ml_X6_264 : Cond.methodLink RX6 264 yX0_placeAt ∈ gW := gW_at 815 (by decide +kernel) (by decide +kernel)
theorem sv_X6_264 : GoodIn gW (wsV RX6 264 RX0 yX0_placeAt (Cond.code yX0_placeAt cX0_placeAt 3 (some .int) :: gW)) := gIn_V ml_X6_264 wi_X0_placeAt we_X0_placeAt ini_X0 wc_X0_placeAt
theorem ml_X6_267 : Cond.methodLink RX6 267 yX4_countRollsAhead ∈ gW := gW_at 823 (by decide +kernel) (by decide +kernel)
theorem sv_X6_267 : GoodIn gW (wsV RX6 267 RX4 yX4_countRollsAhead (Cond.code yX4_countRollsAhead cX4_countRollsAhead 5 (some .int) :: gW)) := gIn_V ml_X6_267 wi_X4_countRollsAhead we_X4_countRollsAhead ini_X4 wc_X4_countRollsAhead
theorem ml_X6_270 : Cond.methodLink RX6 270 yX4_copyFrom ∈ gW := gW_at 364 (by decide +kernel) (by decide +kernel)
theorem sv_X6_270 : GoodIn gW (wsV RX6 270 RX4 yX4_copyFrom (Cond.code yX4_copyFrom cX4_copyFrom 3 none :: gW)) := gIn_V ml_X6_270 wi_X4_copyFrom we_X4_copyFrom ini_X4 wc_X4_copyFrom
theorem ml_X6_275 : Cond.methodLink RX6 275 yX6_nextIce ∈ gW := gW_at 855 (by decide +kernel) (by decide +kernel)
theorem ss_X6_275 : GoodIn gW (va_wsS RX6 275 yX6_nextIce (Cond.code yX6_nextIce cX6_nextIce 3 (some .float) :: gW)) := gIn_S ml_X6_275 wt_X6_nextIce ini_X6 wc_X6_nextIce
theorem kc_X6_281 : Cond.constantFloat RX6 281 (1025758986) ∈ gW := gW_at 302 (by decide +kernel) (by decide +kernel)
theorem ml_X6_284 : Cond.methodLink RX6 284 yX6_isDaysToPass ∈ gW := gW_at 878 (by decide +kernel) (by decide +kernel)
theorem ss_X6_284 : GoodIn gW (va_wsS RX6 284 yX6_isDaysToPass (Cond.code yX6_isDaysToPass cX6_isDaysToPass 1 (some .boolean) :: gW)) := gIn_S ml_X6_284 wt_X6_isDaysToPass ini_X6 wc_X6_isDaysToPass
theorem ml_X6_287 : Cond.methodLink RX6 287 yX4_countGoodDrills ∈ gW := gW_at 881 (by decide +kernel) (by decide +kernel)
theorem sv_X6_287 : GoodIn gW (wsV RX6 287 RX4 yX4_countGoodDrills (Cond.code yX4_countGoodDrills cX4_countGoodDrills 3 (some .int) :: gW)) := gIn_V ml_X6_287 wi_X4_countGoodDrills we_X4_countGoodDrills ini_X4 wc_X4_countGoodDrills
theorem ml_X6_290 : Cond.methodLink RX6 290 yX4_letDaysGoBy ∈ gW := gW_at 885 (by decide +kernel) (by decide +kernel)
theorem sv_X6_290 : GoodIn gW (wsV RX6 290 RX4 yX4_letDaysGoBy (Cond.code yX4_letDaysGoBy cX4_letDaysGoBy 4 none :: gW)) := gIn_V ml_X6_290 wi_X4_letDaysGoBy we_X4_letDaysGoBy ini_X4 wc_X4_letDaysGoBy
theorem fl_X6_294 : Cond.fieldLink RX6 294 (TX3 1).1 (TX3 1).2.1 (TX3 1).2.2.1 ∈ gW := gW_at 232 (by decide +kernel) (by decide +kernel)
theorem cl_X6_297 : Cond.classLink RX6 297 "java/lang/IllegalStateException" ∈ gW := gW_at 905 (by decide +kernel) (by decide +kernel)
theorem ml_X6_301 : Cond.methodLink RX6 301 ⟨"java/lang/IllegalStateException", "<init>", "(Ljava/lang/String;)V"⟩ ∈ gW := gW_at 915 (by decide +kernel) (by decide +kernel)
theorem fl_X6_302 : Cond.fieldLink RX6 302 (TX3 0).1 (TX3 0).2.1 (TX3 0).2.2.1 ∈ gW := gW_at 230 (by decide +kernel) (by decide +kernel)
theorem ml_X6_306 : Cond.methodLink RX6 306 yX3_parse ∈ gW := gW_at 928 (by decide +kernel) (by decide +kernel)
theorem sv_X6_306 : GoodIn gW (wsV RX6 306 RX3 yX3_parse (Cond.code yX3_parse cX3_parse 1 (some .int) :: gW)) := gIn_V ml_X6_306 wi_X3_parse we_X3_parse ini_X3 wc_X3_parse
theorem fl_X6_311 : Cond.fieldLink RX6 311 (TX3 3).1 (TX3 3).2.1 (TX3 3).2.2.1 ∈ gW := gW_at 235 (by decide +kernel) (by decide +kernel)
theorem ml_X6_314 : Cond.methodLink RX6 314 yX3_carryOut ∈ gW := gW_at 957 (by decide +kernel) (by decide +kernel)
theorem sv_X6_314 : GoodIn gW (wsV RX6 314 RX3 yX3_carryOut (Cond.code yX3_carryOut cX3_carryOut 4 (some .int) :: gW)) := gIn_V ml_X6_314 wi_X3_carryOut we_X3_carryOut ini_X3 wc_X3_carryOut
theorem fl_X6_324 : Cond.fieldLink RX6 324 (TX4 1).1 (TX4 1).2.1 (TX4 1).2.2.1 ∈ gW := gW_at 167 (by decide +kernel) (by decide +kernel)
theorem ml_X6_327 : Cond.methodLink RX6 327 yX4_countInRows ∈ gW := gW_at 1004 (by decide +kernel) (by decide +kernel)
theorem sv_X6_327 : GoodIn gW (wsV RX6 327 RX4 yX4_countInRows (Cond.code yX4_countInRows cX4_countInRows 3 (some .int) :: gW)) := gIn_V ml_X6_327 wi_X4_countInRows we_X4_countInRows ini_X4 wc_X4_countInRows
theorem ml_X6_330 : Cond.methodLink RX6 330 yX4_countStarted ∈ gW := gW_at 1008 (by decide +kernel) (by decide +kernel)
theorem sv_X6_330 : GoodIn gW (wsV RX6 330 RX4 yX4_countStarted (Cond.code yX4_countStarted cX4_countStarted 3 (some .int) :: gW)) := gIn_V ml_X6_330 wi_X4_countStarted we_X4_countStarted ini_X4 wc_X4_countStarted
theorem ml_X6_333 : Cond.methodLink RX6 333 yX4_countDone ∈ gW := gW_at 1012 (by decide +kernel) (by decide +kernel)
theorem sv_X6_333 : GoodIn gW (wsV RX6 333 RX4 yX4_countDone (Cond.code yX4_countDone cX4_countDone 3 (some .int) :: gW)) := gIn_V ml_X6_333 wi_X4_countDone we_X4_countDone ini_X4 wc_X4_countDone
theorem ml_X6_336 : Cond.methodLink RX6 336 yX4_countOnRoad ∈ gW := gW_at 1016 (by decide +kernel) (by decide +kernel)
theorem sv_X6_336 : GoodIn gW (wsV RX6 336 RX4 yX4_countOnRoad (Cond.code yX4_countOnRoad cX4_countOnRoad 3 (some .int) :: gW)) := gIn_V ml_X6_336 wi_X4_countOnRoad we_X4_countOnRoad ini_X4 wc_X4_countOnRoad
theorem ml_X6_337 : Cond.methodLink RX6 337 yX4_countArrived ∈ gW := gW_at 1021 (by decide +kernel) (by decide +kernel)
theorem sv_X6_337 : GoodIn gW (wsV RX6 337 RX4 yX4_countArrived (Cond.code yX4_countArrived cX4_countArrived 3 (some .int) :: gW)) := gIn_V ml_X6_337 wi_X4_countArrived we_X4_countArrived ini_X4 wc_X4_countArrived
theorem fl_X6_338 : Cond.fieldLink RX6 338 (TX4 8).1 (TX4 8).2.1 (TX4 8).2.2.1 ∈ gW := gW_at 183 (by decide +kernel) (by decide +kernel)
theorem ml_X6_341 : Cond.methodLink RX6 341 yX4_countCracks ∈ gW := gW_at 1026 (by decide +kernel) (by decide +kernel)
theorem sv_X6_341 : GoodIn gW (wsV RX6 341 RX4 yX4_countCracks (Cond.code yX4_countCracks cX4_countCracks 3 (some .int) :: gW)) := gIn_V ml_X6_341 wi_X4_countCracks we_X4_countCracks ini_X4 wc_X4_countCracks
theorem fl_X6_344 : Cond.fieldLink RX6 344 (TX4 6).1 (TX4 6).2.1 (TX4 6).2.2.1 ∈ gW := gW_at 179 (by decide +kernel) (by decide +kernel)
theorem fl_X6_347 : Cond.fieldLink RX6 347 (TX1 2).1 (TX1 2).2.1 (TX1 2).2.2.1 ∈ gW := gW_at 215 (by decide +kernel) (by decide +kernel)
theorem ml_X6_350 : Cond.methodLink RX6 350 yX4_tonnesInRows ∈ gW := gW_at 313 (by decide +kernel) (by decide +kernel)
theorem sv_X6_350 : GoodIn gW (wsV RX6 350 RX4 yX4_tonnesInRows (Cond.code yX4_tonnesInRows cX4_tonnesInRows 4 (some .int) :: gW)) := gIn_V ml_X6_350 wi_X4_tonnesInRows we_X4_tonnesInRows ini_X4 wc_X4_tonnesInRows
theorem ml_X6_353 : Cond.methodLink RX6 353 yX4_tonnesUnderWay ∈ gW := gW_at 317 (by decide +kernel) (by decide +kernel)
theorem sv_X6_353 : GoodIn gW (wsV RX6 353 RX4 yX4_tonnesUnderWay (Cond.code yX4_tonnesUnderWay cX4_tonnesUnderWay 3 (some .int) :: gW)) := gIn_V ml_X6_353 wi_X4_tonnesUnderWay we_X4_tonnesUnderWay ini_X4 wc_X4_tonnesUnderWay
theorem ml_X6_356 : Cond.methodLink RX6 356 yX4_hasOneTruckAMile ∈ gW := gW_at 337 (by decide +kernel) (by decide +kernel)
theorem sv_X6_356 : GoodIn gW (wsV RX6 356 RX4 yX4_hasOneTruckAMile (Cond.code yX4_hasOneTruckAMile cX4_hasOneTruckAMile 5 (some .boolean) :: gW)) := gIn_V ml_X6_356 wi_X4_hasOneTruckAMile we_X4_hasOneTruckAMile ini_X4 wc_X4_hasOneTruckAMile
theorem ml_X6_359 : Cond.methodLink RX6 359 yX4_isIceInRange ∈ gW := gW_at 345 (by decide +kernel) (by decide +kernel)
theorem sv_X6_359 : GoodIn gW (wsV RX6 359 RX4 yX4_isIceInRange (Cond.code yX4_isIceInRange cX4_isIceInRange 2 (some .boolean) :: gW)) := gIn_V ml_X6_359 wi_X4_isIceInRange we_X4_isIceInRange ini_X4 wc_X4_isIceInRange
theorem kc_X6_362 : Cond.constantDouble RX6 362 (4622945017495814144) ∈ gW := gW_at 354 (by decide +kernel) (by decide +kernel)
theorem ml_X6_364 : Cond.methodLink RX6 364 yX6_doubleBits ∈ gW := gW_at 355 (by decide +kernel) (by decide +kernel)
theorem ss_X6_364 : GoodIn gW (va_wsS RX6 364 yX6_doubleBits (Cond.code yX6_doubleBits cX6_doubleBits 5 (some .long) :: gW)) := gIn_S ml_X6_364 wt_X6_doubleBits ini_X6 wc_X6_doubleBits
theorem cl_X6_368 : Cond.classLink RX6 368 "java/lang/ArithmeticException" ∈ gW := gW_at 1052 (by decide +kernel) (by decide +kernel)
theorem ml_X6_372 : Cond.methodLink RX6 372 ⟨"java/lang/ArithmeticException", "<init>", "(Ljava/lang/String;)V"⟩ ∈ gW := gW_at 1054 (by decide +kernel) (by decide +kernel)
theorem ml_X6_375 : Cond.methodLink RX6 375 yX1_takeBack ∈ gW := gW_at 1063 (by decide +kernel) (by decide +kernel)
theorem sv_X6_375 : GoodIn gW (wsV RX6 375 RX1 yX1_takeBack (Cond.code yX1_takeBack cX1_takeBack 2 none :: gW)) := gIn_V ml_X6_375 wi_X1_takeBack we_X1_takeBack ini_X1 wc_X1_takeBack
theorem fl_X6_380 : Cond.fieldLink RX6 380 "IceConvoys" "LOWEST_SETTING" "[I" ∈ gW := gW_at 390 (by decide +kernel) (by decide +kernel)
theorem fl_X6_383 : Cond.fieldLink RX6 383 "IceConvoys" "HIGHEST_SETTING" "[I" ∈ gW := gW_at 392 (by decide +kernel) (by decide +kernel)
theorem kc_X6_386 : Cond.constantFloat RX6 386 (1069547520) ∈ gW := gW_at 858 (by decide +kernel) (by decide +kernel)
theorem kc_X6_387 : Cond.constantFloat RX6 387 (1092616192) ∈ gW := gW_at 859 (by decide +kernel) (by decide +kernel)
theorem kc_X6_388 : Cond.constantFloat RX6 388 (1053609165) ∈ gW := gW_at 860 (by decide +kernel) (by decide +kernel)
theorem kc_X6_389 : Cond.constantFloat RX6 389 (1128792064) ∈ gW := gW_at 861 (by decide +kernel) (by decide +kernel)
theorem kc_X6_390 : Cond.constantFloat RX6 390 (1036831949) ∈ gW := gW_at 303 (by decide +kernel) (by decide +kernel)
theorem kc_X6_391 : Cond.constantFloat RX6 391 (1120403456) ∈ gW := gW_at 304 (by decide +kernel) (by decide +kernel)
theorem kc_X6_392 : Cond.constantFloat RX6 392 (1258291200) ∈ gW := gW_at 534 (by decide +kernel) (by decide +kernel)
theorem kc_X6_393 : Cond.constantDouble RX6 393 (4611686018427387904) ∈ gW := gW_at 358 (by decide +kernel) (by decide +kernel)
theorem kc_X6_395 : Cond.constantDouble RX6 395 (4841369599423283200) ∈ gW := gW_at 359 (by decide +kernel) (by decide +kernel)
theorem ml_X7_3 : Cond.methodLink RX7 3 Lib.objectInit ∈ gW := gW_at 1080 (by decide +kernel) (by decide +kernel)
theorem fl_X7_9 : Cond.fieldLink RX7 9 (TX7 0).1 (TX7 0).2.1 (TX7 0).2.2.1 ∈ gW := gW_at 1100 (by decide +kernel) (by decide +kernel)
theorem fl_X7_13 : Cond.fieldLink RX7 13 (TX7 1).1 (TX7 1).2.1 (TX7 1).2.2.1 ∈ gW := gW_at 1101 (by decide +kernel) (by decide +kernel)
theorem fl_X7_16 : Cond.fieldLink RX7 16 (TX7 2).1 (TX7 2).2.1 (TX7 2).2.2.1 ∈ gW := gW_at 1102 (by decide +kernel) (by decide +kernel)
theorem fl_X7_19 : Cond.fieldLink RX7 19 (TX7 3).1 (TX7 3).2.1 (TX7 3).2.2.1 ∈ gW := gW_at 1103 (by decide +kernel) (by decide +kernel)
theorem fl_X7_22 : Cond.fieldLink RX7 22 (TX7 5).1 (TX7 5).2.1 (TX7 5).2.2.1 ∈ gW := gW_at 1105 (by decide +kernel) (by decide +kernel)
theorem fl_X7_25 : Cond.fieldLink RX7 25 (TX7 11).1 (TX7 11).2.1 (TX7 11).2.2.1 ∈ gW := gW_at 1111 (by decide +kernel) (by decide +kernel)
theorem fl_X7_29 : Cond.fieldLink RX7 29 (TX7 15).1 (TX7 15).2.1 (TX7 15).2.2.1 ∈ gW := gW_at 1115 (by decide +kernel) (by decide +kernel)
theorem fl_X7_33 : Cond.fieldLink RX7 33 (TX7 16).1 (TX7 16).2.1 (TX7 16).2.2.1 ∈ gW := gW_at 1116 (by decide +kernel) (by decide +kernel)
theorem kc_X7_36 : Cond.constantFloat RX7 36 (1106247680) ∈ gW := gW_at 1081 (by decide +kernel) (by decide +kernel)
theorem ml_X7_37 : Cond.methodLink RX7 37 yX7_setIce ∈ gW := gW_at 1082 (by decide +kernel) (by decide +kernel)
theorem sv_X7_37 : GoodIn gW (wsV RX7 37 RX7 yX7_setIce (Cond.code yX7_setIce cX7_setIce 3 none :: gW)) := gIn_V ml_X7_37 wi_X7_setIce we_X7_setIce ini_X7 wc_X7_setIce
theorem ml_X7_41 : Cond.methodLink RX7 41 yX7_set ∈ gW := gW_at 1096 (by decide +kernel) (by decide +kernel)
theorem sv_X7_41 : GoodIn gW (wsV RX7 41 RX7 yX7_set (Cond.code yX7_set cX7_set 4 none :: gW)) := gIn_V ml_X7_41 wi_X7_set we_X7_set ini_X7 wc_X7_set
theorem fl_X7_45 : Cond.fieldLink RX7 45 (TX7 7).1 (TX7 7).2.1 (TX7 7).2.2.1 ∈ gW := gW_at 1107 (by decide +kernel) (by decide +kernel)
theorem ml_X7_48 : Cond.methodLink RX7 48 ⟨"java/lang/System", "arraycopy", "(Ljava/lang/Object;ILjava/lang/Object;II)V"⟩ ∈ gW := gW_at 1171 (by decide +kernel) (by decide +kernel)
theorem fl_X7_54 : Cond.fieldLink RX7 54 (TX7 6).1 (TX7 6).2.1 (TX7 6).2.2.1 ∈ gW := gW_at 1106 (by decide +kernel) (by decide +kernel)
theorem fl_X7_57 : Cond.fieldLink RX7 57 (TX7 8).1 (TX7 8).2.1 (TX7 8).2.2.1 ∈ gW := gW_at 1108 (by decide +kernel) (by decide +kernel)
theorem fl_X7_60 : Cond.fieldLink RX7 60 (TX7 9).1 (TX7 9).2.1 (TX7 9).2.2.1 ∈ gW := gW_at 1109 (by decide +kernel) (by decide +kernel)
theorem fl_X7_63 : Cond.fieldLink RX7 63 (TX7 10).1 (TX7 10).2.1 (TX7 10).2.2.1 ∈ gW := gW_at 1110 (by decide +kernel) (by decide +kernel)
theorem ml_X7_67 : Cond.methodLink RX7 67 yX7_get ∈ gW := gW_at 1204 (by decide +kernel) (by decide +kernel)
theorem sv_X7_67 : GoodIn gW (wsV RX7 67 RX7 yX7_get (Cond.code yX7_get cX7_get 3 (some .int) :: gW)) := gIn_V ml_X7_67 wi_X7_get we_X7_get ini_X7 wc_X7_get
theorem ml_X7_71 : Cond.methodLink RX7 71 ⟨"java/lang/Float", "intBitsToFloat", "(I)F"⟩ ∈ gW := gW_at 1228 (by decide +kernel) (by decide +kernel)
theorem ml_X7_77 : Cond.methodLink RX7 77 yJxf58ca_floatToIntBits_5c35a ∈ gW := gW_at 1086 (by decide +kernel) (by decide +kernel)
theorem ss_X7_77 : GoodIn gW (va_wsS RX7 77 yJxf58ca_floatToIntBits_5c35a (Cond.code yJxf58ca_floatToIntBits_5c35a cJxf58ca_floatToIntBits_5c35a 1 (some .int) :: gW)) := gIn_S ml_X7_77 wt_Jxf58ca_floatToIntBits_5c35a (gW_at 61 (by decide +kernel) (by decide +kernel)) wc_Jxf58ca_floatToIntBits_5c35a
theorem ml_X7_81 : Cond.methodLink RX7 81 yX7_convoy1 ∈ gW := gW_at 1250 (by decide +kernel) (by decide +kernel)
theorem sv_X7_81 : GoodIn gW (wsV RX7 81 RX7 yX7_convoy1 (Cond.code yX7_convoy1 cX7_convoy1 3 (some .int) :: gW)) := gIn_V ml_X7_81 wi_X7_convoy1 we_X7_convoy1 ini_X7 wc_X7_convoy1
theorem ml_X7_84 : Cond.methodLink RX7 84 yX7_in ∈ gW := gW_at 1178 (by decide +kernel) (by decide +kernel)
theorem ss_X7_84 : GoodIn gW (va_wsS RX7 84 yX7_in (Cond.code yX7_in cX7_in 3 (some .boolean) :: gW)) := gIn_S ml_X7_84 wt_X7_in ini_X7 wc_X7_in
theorem ml_X7_88 : Cond.methodLink RX7 88 yX7_fails ∈ gW := gW_at 1181 (by decide +kernel) (by decide +kernel)
theorem sv_X7_88 : GoodIn gW (wsV RX7 88 RX7 yX7_fails (Cond.code yX7_fails cX7_fails 2 (some .int) :: gW)) := gIn_V ml_X7_88 wi_X7_fails we_X7_fails ini_X7 wc_X7_fails
theorem ml_X7_92 : Cond.methodLink RX7 92 yX7_keep ∈ gW := gW_at 1167 (by decide +kernel) (by decide +kernel)
theorem sv_X7_92 : GoodIn gW (wsV RX7 92 RX7 yX7_keep (Cond.code yX7_keep cX7_keep 1 none :: gW)) := gIn_V ml_X7_92 wi_X7_keep we_X7_keep ini_X7 wc_X7_keep
theorem ml_X7_95 : Cond.methodLink RX7 95 yX7_doSet ∈ gW := gW_at 1174 (by decide +kernel) (by decide +kernel)
theorem sv_X7_95 : GoodIn gW (wsV RX7 95 RX7 yX7_doSet (Cond.code yX7_doSet cX7_doSet 6 (some .int) :: gW)) := gIn_V ml_X7_95 wi_X7_doSet we_X7_doSet ini_X7 wc_X7_doSet
theorem ml_X7_98 : Cond.methodLink RX7 98 yX7_ends ∈ gW := gW_at 1185 (by decide +kernel) (by decide +kernel)
theorem sv_X7_98 : GoodIn gW (wsV RX7 98 RX7 yX7_ends (Cond.code yX7_ends cX7_ends 2 (some .int) :: gW)) := gIn_V ml_X7_98 wi_X7_ends we_X7_ends ini_X7 wc_X7_ends
theorem ml_X7_101 : Cond.methodLink RX7 101 yX7_isMile ∈ gW := gW_at 1201 (by decide +kernel) (by decide +kernel)
theorem ss_X7_101 : GoodIn gW (va_wsS RX7 101 yX7_isMile (Cond.code yX7_isMile cX7_isMile 1 (some .boolean) :: gW)) := gIn_S ml_X7_101 wt_X7_isMile ini_X7 wc_X7_isMile
theorem ml_X7_105 : Cond.methodLink RX7 105 yX7_doDrill ∈ gW := gW_at 1197 (by decide +kernel) (by decide +kernel)
theorem sv_X7_105 : GoodIn gW (wsV RX7 105 RX7 yX7_doDrill (Cond.code yX7_doDrill cX7_doDrill 2 (some .int) :: gW)) := gIn_V ml_X7_105 wi_X7_doDrill we_X7_doDrill ini_X7 wc_X7_doDrill
theorem ml_X7_108 : Cond.methodLink RX7 108 yX7_isGood ∈ gW := gW_at 1216 (by decide +kernel) (by decide +kernel)
theorem sv_X7_108 : GoodIn gW (wsV RX7 108 RX7 yX7_isGood (Cond.code yX7_isGood cX7_isGood 2 (some .boolean) :: gW)) := gIn_V ml_X7_108 wi_X7_isGood we_X7_isGood ini_X7 wc_X7_isGood
theorem kc_X7_111 : Cond.constantFloat RX7 111 (1036831949) ∈ gW := gW_at 1239 (by decide +kernel) (by decide +kernel)
theorem kc_X7_112 : Cond.constantFloat RX7 112 (1120403456) ∈ gW := gW_at 1240 (by decide +kernel) (by decide +kernel)
theorem kc_X7_113 : Cond.constantFloat RX7 113 (1025758986) ∈ gW := gW_at 1241 (by decide +kernel) (by decide +kernel)
theorem ml_X7_114 : Cond.methodLink RX7 114 yX7_iceOf ∈ gW := gW_at 1224 (by decide +kernel) (by decide +kernel)
theorem sv_X7_114 : GoodIn gW (wsV RX7 114 RX7 yX7_iceOf (Cond.code yX7_iceOf cX7_iceOf 2 (some .float) :: gW)) := gIn_V ml_X7_114 wi_X7_iceOf we_X7_iceOf ini_X7 wc_X7_iceOf
theorem ml_X7_117 : Cond.methodLink RX7 117 yX7_bearsOf ∈ gW := gW_at 1235 (by decide +kernel) (by decide +kernel)
theorem sv_X7_117 : GoodIn gW (wsV RX7 117 RX7 yX7_bearsOf (Cond.code yX7_bearsOf cX7_bearsOf 5 (some .float) :: gW)) := gIn_V ml_X7_117 wi_X7_bearsOf we_X7_bearsOf ini_X7 wc_X7_bearsOf
theorem ml_X7_120 : Cond.methodLink RX7 120 yX7_whoIsAt ∈ gW := gW_at 1246 (by decide +kernel) (by decide +kernel)
theorem sv_X7_120 : GoodIn gW (wsV RX7 120 RX7 yX7_whoIsAt (Cond.code yX7_whoIsAt cX7_whoIsAt 5 (some .int) :: gW)) := gIn_V ml_X7_120 wi_X7_whoIsAt we_X7_whoIsAt ini_X7 wc_X7_whoIsAt
theorem ml_X7_123 : Cond.methodLink RX7 123 yX7_placeIn ∈ gW := gW_at 1270 (by decide +kernel) (by decide +kernel)
theorem ss_X7_123 : GoodIn gW (va_wsS RX7 123 yX7_placeIn (Cond.code yX7_placeIn cX7_placeIn 2 (some .int) :: gW)) := gIn_S ml_X7_123 wt_X7_placeIn ini_X7 wc_X7_placeIn
theorem ml_X7_126 : Cond.methodLink RX7 126 yX7_refuse ∈ gW := gW_at 1273 (by decide +kernel) (by decide +kernel)
theorem sv_X7_126 : GoodIn gW (wsV RX7 126 RX7 yX7_refuse (Cond.code yX7_refuse cX7_refuse 4 (some .int) :: gW)) := gIn_V ml_X7_126 wi_X7_refuse we_X7_refuse ini_X7 wc_X7_refuse
theorem ml_X7_130 : Cond.methodLink RX7 130 yX7_isPlace ∈ gW := gW_at 1281 (by decide +kernel) (by decide +kernel)
theorem ss_X7_130 : GoodIn gW (va_wsS RX7 130 yX7_isPlace (Cond.code yX7_isPlace cX7_isPlace 2 (some .boolean) :: gW)) := gIn_S ml_X7_130 wt_X7_isPlace ini_X7 wc_X7_isPlace
theorem ml_X7_134 : Cond.methodLink RX7 134 yX7_isConvoy ∈ gW := gW_at 1296 (by decide +kernel) (by decide +kernel)
theorem sv_X7_134 : GoodIn gW (wsV RX7 134 RX7 yX7_isConvoy (Cond.code yX7_isConvoy cX7_isConvoy 2 (some .boolean) :: gW)) := gIn_V ml_X7_134 wi_X7_isConvoy we_X7_isConvoy ini_X7 wc_X7_isConvoy
theorem ml_X7_137 : Cond.methodLink RX7 137 yX7_doJoin ∈ gW := gW_at 1292 (by decide +kernel) (by decide +kernel)
theorem sv_X7_137 : GoodIn gW (wsV RX7 137 RX7 yX7_doJoin (Cond.code yX7_doJoin cX7_doJoin 7 (some .int) :: gW)) := gIn_V ml_X7_137 wi_X7_doJoin we_X7_doJoin ini_X7 wc_X7_doJoin
theorem ml_X7_140 : Cond.methodLink RX7 140 yX7_truck1 ∈ gW := gW_at 1316 (by decide +kernel) (by decide +kernel)
theorem sv_X7_140 : GoodIn gW (wsV RX7 140 RX7 yX7_truck1 (Cond.code yX7_truck1 cX7_truck1 4 (some .int) :: gW)) := gIn_V ml_X7_140 wi_X7_truck1 we_X7_truck1 ini_X7 wc_X7_truck1
theorem kc_X7_143 : Cond.constantFloat RX7 143 (1056964608) ∈ gW := gW_at 1320 (by decide +kernel) (by decide +kernel)
theorem ml_X7_144 : Cond.methodLink RX7 144 yX7_isStarted ∈ gW := gW_at 1254 (by decide +kernel) (by decide +kernel)
theorem sv_X7_144 : GoodIn gW (wsV RX7 144 RX7 yX7_isStarted (Cond.code yX7_isStarted cX7_isStarted 2 (some .boolean) :: gW)) := gIn_V ml_X7_144 wi_X7_isStarted we_X7_isStarted ini_X7 wc_X7_isStarted
theorem ml_X7_147 : Cond.methodLink RX7 147 yX7_mileBy ∈ gW := gW_at 1258 (by decide +kernel) (by decide +kernel)
theorem sv_X7_147 : GoodIn gW (wsV RX7 147 RX7 yX7_mileBy (Cond.code yX7_mileBy cX7_mileBy 4 (some .int) :: gW)) := gIn_V ml_X7_147 wi_X7_mileBy we_X7_mileBy ini_X7 wc_X7_mileBy
theorem ml_X7_150 : Cond.methodLink RX7 150 yX7_loadOf ∈ gW := gW_at 1312 (by decide +kernel) (by decide +kernel)
theorem sv_X7_150 : GoodIn gW (wsV RX7 150 RX7 yX7_loadOf (Cond.code yX7_loadOf cX7_loadOf 4 (some .float) :: gW)) := gIn_V ml_X7_150 wi_X7_loadOf we_X7_loadOf ini_X7 wc_X7_loadOf
theorem ml_X7_154 : Cond.methodLink RX7 154 yJ9_min_7cf53 ∈ gW := gW_at 1325 (by decide +kernel) (by decide +kernel)
theorem ss_X7_154 : GoodIn gW (va_wsS RX7 154 yJ9_min_7cf53 (Cond.code yJ9_min_7cf53 cJ9_min_7cf53 2 (some .int) :: gW)) := gIn_S ml_X7_154 wt_J9_min_7cf53 (gW_at 66 (by decide +kernel) (by decide +kernel)) wc_J9_min_7cf53
theorem ml_X7_159 : Cond.methodLink RX7 159 yX7_barred ∈ gW := gW_at 1308 (by decide +kernel) (by decide +kernel)
theorem sv_X7_159 : GoodIn gW (wsV RX7 159 RX7 yX7_barred (Cond.code yX7_barred cX7_barred 5 (some .int) :: gW)) := gIn_V ml_X7_159 wi_X7_barred we_X7_barred ini_X7 wc_X7_barred
theorem ml_X7_162 : Cond.methodLink RX7 162 yX7_comesTo ∈ gW := gW_at 1321 (by decide +kernel) (by decide +kernel)
theorem sv_X7_162 : GoodIn gW (wsV RX7 162 RX7 yX7_comesTo (Cond.code yX7_comesTo cX7_comesTo 6 (some .int) :: gW)) := gIn_V ml_X7_162 wi_X7_comesTo we_X7_comesTo ini_X7 wc_X7_comesTo
theorem ml_X7_165 : Cond.methodLink RX7 165 yX7_doStart ∈ gW := gW_at 1304 (by decide +kernel) (by decide +kernel)
theorem sv_X7_165 : GoodIn gW (wsV RX7 165 RX7 yX7_doStart (Cond.code yX7_doStart cX7_doStart 4 (some .int) :: gW)) := gIn_V ml_X7_165 wi_X7_doStart we_X7_doStart ini_X7 wc_X7_doStart
theorem ml_X7_168 : Cond.methodLink RX7 168 yX7_isDone ∈ gW := gW_at 1338 (by decide +kernel) (by decide +kernel)
theorem sv_X7_168 : GoodIn gW (wsV RX7 168 RX7 yX7_isDone (Cond.code yX7_isDone cX7_isDone 2 (some .boolean) :: gW)) := gIn_V ml_X7_168 wi_X7_isDone we_X7_isDone ini_X7 wc_X7_isDone
theorem ml_X7_171 : Cond.methodLink RX7 171 yX7_whyNot ∈ gW := gW_at 1334 (by decide +kernel) (by decide +kernel)
theorem sv_X7_171 : GoodIn gW (wsV RX7 171 RX7 yX7_whyNot (Cond.code yX7_whyNot cX7_whyNot 2 (some .int) :: gW)) := gIn_V ml_X7_171 wi_X7_whyNot we_X7_whyNot ini_X7 wc_X7_whyNot
theorem ml_X7_174 : Cond.methodLink RX7 174 yX7_doRoll ∈ gW := gW_at 1330 (by decide +kernel) (by decide +kernel)
theorem sv_X7_174 : GoodIn gW (wsV RX7 174 RX7 yX7_doRoll (Cond.code yX7_doRoll cX7_doRoll 3 (some .int) :: gW)) := gIn_V ml_X7_174 wi_X7_doRoll we_X7_doRoll ini_X7 wc_X7_doRoll
theorem ml_X7_177 : Cond.methodLink RX7 177 yX7_trucksOf ∈ gW := gW_at 1350 (by decide +kernel) (by decide +kernel)
theorem sv_X7_177 : GoodIn gW (wsV RX7 177 RX7 yX7_trucksOf (Cond.code yX7_trucksOf cX7_trucksOf 6 (some .int) :: gW)) := gIn_V ml_X7_177 wi_X7_trucksOf we_X7_trucksOf ini_X7 wc_X7_trucksOf
theorem ml_X7_181 : Cond.methodLink RX7 181 yX7_isTruck ∈ gW := gW_at 1358 (by decide +kernel) (by decide +kernel)
theorem sv_X7_181 : GoodIn gW (wsV RX7 181 RX7 yX7_isTruck (Cond.code yX7_isTruck cX7_isTruck 3 (some .boolean) :: gW)) := gIn_V ml_X7_181 wi_X7_isTruck we_X7_isTruck ini_X7 wc_X7_isTruck
theorem ml_X7_184 : Cond.methodLink RX7 184 yX7_rolls ∈ gW := gW_at 1378 (by decide +kernel) (by decide +kernel)
theorem sv_X7_184 : GoodIn gW (wsV RX7 184 RX7 yX7_rolls (Cond.code yX7_rolls cX7_rolls 4 (some .int) :: gW)) := gIn_V ml_X7_184 wi_X7_rolls we_X7_rolls ini_X7 wc_X7_rolls
theorem ml_X7_187 : Cond.methodLink RX7 187 yJ9_abs_0f7a4 ∈ gW := gW_at 1387 (by decide +kernel) (by decide +kernel)
theorem ss_X7_187 : GoodIn gW (va_wsS RX7 187 yJ9_abs_0f7a4 (Cond.code yJ9_abs_0f7a4 cJ9_abs_0f7a4 1 (some .int) :: gW)) := gIn_S ml_X7_187 wt_J9_abs_0f7a4 (gW_at 66 (by decide +kernel) (by decide +kernel)) wc_J9_abs_0f7a4
theorem kc_X7_190 : Cond.constantFloat RX7 190 (1069547520) ∈ gW := gW_at 1390 (by decide +kernel) (by decide +kernel)
theorem kc_X7_191 : Cond.constantFloat RX7 191 (1092616192) ∈ gW := gW_at 1391 (by decide +kernel) (by decide +kernel)
theorem kc_X7_192 : Cond.constantFloat RX7 192 (1053609165) ∈ gW := gW_at 1392 (by decide +kernel) (by decide +kernel)
theorem kc_X7_193 : Cond.constantFloat RX7 193 (1128792064) ∈ gW := gW_at 1393 (by decide +kernel) (by decide +kernel)
theorem ml_X7_194 : Cond.methodLink RX7 194 yX7_iceBehind ∈ gW := gW_at 1383 (by decide +kernel) (by decide +kernel)
theorem sv_X7_194 : GoodIn gW (wsV RX7 194 RX7 yX7_iceBehind (Cond.code yX7_iceBehind cX7_iceBehind 4 (some .float) :: gW)) := gIn_V ml_X7_194 wi_X7_iceBehind we_X7_iceBehind ini_X7 wc_X7_iceBehind
theorem ml_X7_198 : Cond.methodLink RX7 198 yJ9_max_7cf53 ∈ gW := gW_at 1414 (by decide +kernel) (by decide +kernel)
theorem ss_X7_198 : GoodIn gW (va_wsS RX7 198 yJ9_max_7cf53 (Cond.code yJ9_max_7cf53 cJ9_max_7cf53 2 (some .int) :: gW)) := gIn_S ml_X7_198 wt_J9_max_7cf53 (gW_at 66 (by decide +kernel) (by decide +kernel)) wc_J9_max_7cf53
theorem ml_X7_201 : Cond.methodLink RX7 201 yX7_goodMany ∈ gW := gW_at 1406 (by decide +kernel) (by decide +kernel)
theorem sv_X7_201 : GoodIn gW (wsV RX7 201 RX7 yX7_goodMany (Cond.code yX7_goodMany cX7_goodMany 3 (some .int) :: gW)) := gIn_V ml_X7_201 wi_X7_goodMany we_X7_goodMany ini_X7 wc_X7_goodMany
theorem ml_X7_205 : Cond.methodLink RX7 205 yX7_goDay ∈ gW := gW_at 1410 (by decide +kernel) (by decide +kernel)
theorem sv_X7_205 : GoodIn gW (wsV RX7 205 RX7 yX7_goDay (Cond.code yX7_goDay cX7_goDay 2 none :: gW)) := gIn_V ml_X7_205 wi_X7_goDay we_X7_goDay ini_X7 wc_X7_goDay
theorem ml_X7_208 : Cond.methodLink RX7 208 yX7_doPass ∈ gW := gW_at 1402 (by decide +kernel) (by decide +kernel)
theorem sv_X7_208 : GoodIn gW (wsV RX7 208 RX7 yX7_doPass (Cond.code yX7_doPass cX7_doPass 4 (some .int) :: gW)) := gIn_V ml_X7_208 wi_X7_doPass we_X7_doPass ini_X7 wc_X7_doPass
theorem fl_X7_211 : Cond.fieldLink RX7 211 (TX7 12).1 (TX7 12).2.1 (TX7 12).2.2.1 ∈ gW := gW_at 1112 (by decide +kernel) (by decide +kernel)
theorem fl_X7_214 : Cond.fieldLink RX7 214 (TX7 14).1 (TX7 14).2.1 (TX7 14).2.2.1 ∈ gW := gW_at 1114 (by decide +kernel) (by decide +kernel)
theorem fl_X7_217 : Cond.fieldLink RX7 217 (TX7 13).1 (TX7 13).2.1 (TX7 13).2.2.1 ∈ gW := gW_at 1113 (by decide +kernel) (by decide +kernel)
theorem ml_X7_220 : Cond.methodLink RX7 220 yX7_isHere ∈ gW := gW_at 1514 (by decide +kernel) (by decide +kernel)
theorem sv_X7_220 : GoodIn gW (wsV RX7 220 RX7 yX7_isHere (Cond.code yX7_isHere cX7_isHere 3 (some .boolean) :: gW)) := gIn_V ml_X7_220 wi_X7_isHere we_X7_isHere ini_X7 wc_X7_isHere
theorem ml_X7_224 : Cond.methodLink RX7 224 yX7_sign1 ∈ gW := gW_at 1526 (by decide +kernel) (by decide +kernel)
theorem sv_X7_224 : GoodIn gW (wsV RX7 224 RX7 yX7_sign1 (Cond.code yX7_sign1 cX7_sign1 3 (some .int) :: gW)) := gIn_V ml_X7_224 wi_X7_sign1 we_X7_sign1 ini_X7 wc_X7_sign1
theorem ml_X7_228 : Cond.methodLink RX7 228 yX7_digit ∈ gW := gW_at 1522 (by decide +kernel) (by decide +kernel)
theorem sv_X7_228 : GoodIn gW (wsV RX7 228 RX7 yX7_digit (Cond.code yX7_digit cX7_digit 1 (some .int) :: gW)) := gIn_V ml_X7_228 wi_X7_digit we_X7_digit ini_X7 wc_X7_digit
theorem ml_X7_231 : Cond.methodLink RX7 231 yX7_number ∈ gW := gW_at 1518 (by decide +kernel) (by decide +kernel)
theorem sv_X7_231 : GoodIn gW (wsV RX7 231 RX7 yX7_number (Cond.code yX7_number cX7_number 2 (some .int) :: gW)) := gIn_V ml_X7_231 wi_X7_number we_X7_number ini_X7 wc_X7_number
theorem fl_X7_234 : Cond.fieldLink RX7 234 (TX7 17).1 (TX7 17).2.1 (TX7 17).2.2.1 ∈ gW := gW_at 1117 (by decide +kernel) (by decide +kernel)
theorem ml_X7_239 : Cond.methodLink RX7 239 yJ0_indexOf_0f7a4 ∈ gW := gW_at 1428 (by decide +kernel) (by decide +kernel)
theorem sv_X7_239 : GoodIn gW (wsV RX7 239 RJ0 yJ0_indexOf_0f7a4 (Cond.code yJ0_indexOf_0f7a4 cJ0_indexOf_0f7a4 2 (some .int) :: gW)) := gIn_V ml_X7_239 wi_J0_indexOf_0f7a4 we_J0_indexOf_0f7a4 (gW_at 70 (by decide +kernel) (by decide +kernel)) wc_J0_indexOf_0f7a4
theorem ml_X7_244 : Cond.methodLink RX7 244 yX7_signed ∈ gW := gW_at 1510 (by decide +kernel) (by decide +kernel)
theorem sv_X7_244 : GoodIn gW (wsV RX7 244 RX7 yX7_signed (Cond.code yX7_signed cX7_signed 3 (some .int) :: gW)) := gIn_V ml_X7_244 wi_X7_signed we_X7_signed ini_X7 wc_X7_signed
theorem ml_X7_247 : Cond.methodLink RX7 247 yX7_digitBehind ∈ gW := gW_at 1530 (by decide +kernel) (by decide +kernel)
theorem sv_X7_247 : GoodIn gW (wsV RX7 247 RX7 yX7_digitBehind (Cond.code yX7_digitBehind cX7_digitBehind 3 (some .int) :: gW)) := gIn_V ml_X7_247 wi_X7_digitBehind we_X7_digitBehind ini_X7 wc_X7_digitBehind
theorem ml_X7_251 : Cond.methodLink RX7 251 yX7_readOrder ∈ gW := gW_at 1423 (by decide +kernel) (by decide +kernel)
theorem sv_X7_251 : GoodIn gW (wsV RX7 251 RX7 yX7_readOrder (Cond.code yX7_readOrder cX7_readOrder 3 none :: gW)) := gIn_V ml_X7_251 wi_X7_readOrder we_X7_readOrder ini_X7 wc_X7_readOrder
theorem ml_X7_254 : Cond.methodLink RX7 254 yX7_does ∈ gW := gW_at 1534 (by decide +kernel) (by decide +kernel)
theorem sv_X7_254 : GoodIn gW (wsV RX7 254 RX7 yX7_does (Cond.code yX7_does cX7_does 4 none :: gW)) := gIn_V ml_X7_254 wi_X7_does we_X7_does ini_X7 wc_X7_does
theorem ml_X7_258 : Cond.methodLink RX7 258 yX7_inRows ∈ gW := gW_at 1546 (by decide +kernel) (by decide +kernel)
theorem sv_X7_258 : GoodIn gW (wsV RX7 258 RX7 yX7_inRows (Cond.code yX7_inRows cX7_inRows 3 (some .int) :: gW)) := gIn_V ml_X7_258 wi_X7_inRows we_X7_inRows ini_X7 wc_X7_inRows
theorem ml_X7_261 : Cond.methodLink RX7 261 yX7_overConvoys ∈ gW := gW_at 1550 (by decide +kernel) (by decide +kernel)
theorem sv_X7_261 : GoodIn gW (wsV RX7 261 RX7 yX7_overConvoys (Cond.code yX7_overConvoys cX7_overConvoys 4 (some .int) :: gW)) := gIn_V ml_X7_261 wi_X7_overConvoys we_X7_overConvoys ini_X7 wc_X7_overConvoys
theorem ml_X7_264 : Cond.methodLink RX7 264 yX7_waitingTonnes ∈ gW := gW_at 1554 (by decide +kernel) (by decide +kernel)
theorem sv_X7_264 : GoodIn gW (wsV RX7 264 RX7 yX7_waitingTonnes (Cond.code yX7_waitingTonnes cX7_waitingTonnes 5 (some .int) :: gW)) := gIn_V ml_X7_264 wi_X7_waitingTonnes we_X7_waitingTonnes ini_X7 wc_X7_waitingTonnes
theorem ml_X7_267 : Cond.methodLink RX7 267 yX7_allCracks ∈ gW := gW_at 1558 (by decide +kernel) (by decide +kernel)
theorem sv_X7_267 : GoodIn gW (wsV RX7 267 RX7 yX7_allCracks (Cond.code yX7_allCracks cX7_allCracks 3 (some .int) :: gW)) := gIn_V ml_X7_267 wi_X7_allCracks we_X7_allCracks ini_X7 wc_X7_allCracks
theorem kc_X7_270 : Cond.constantDouble RX7 270 (4622945017495814144) ∈ gW := gW_at 1570 (by decide +kernel) (by decide +kernel)
theorem ml_X7_272 : Cond.methodLink RX7 272 yJxe99ae_doubleToLongBits_ccdee ∈ gW := gW_at 1571 (by decide +kernel) (by decide +kernel)
theorem ss_X7_272 : GoodIn gW (va_wsS RX7 272 yJxe99ae_doubleToLongBits_ccdee (Cond.code yJxe99ae_doubleToLongBits_ccdee cJxe99ae_doubleToLongBits_ccdee 2 (some .long) :: gW)) := gIn_S ml_X7_272 wt_Jxe99ae_doubleToLongBits_ccdee (gW_at 79 (by decide +kernel) (by decide +kernel)) wc_Jxe99ae_doubleToLongBits_ccdee
theorem fl_X7_278 : Cond.fieldLink RX7 278 (TX7 4).1 (TX7 4).2.1 (TX7 4).2.2.1 ∈ gW := gW_at 1104 (by decide +kernel) (by decide +kernel)
theorem ml_Jx00060_7 : Cond.methodLink RJx00060 7 ⟨"java/lang/IndexOutOfBoundsException", "<init>", "(Ljava/lang/String;)V"⟩ ∈ gW := gW_at 489 (by decide +kernel) (by decide +kernel)
theorem kc_J11_110 : Cond.constant RJ11 110 (55232) ∈ gW := gW_at 1505 (by decide +kernel) (by decide +kernel)
theorem kc_J11_76 : Cond.constant RJ11 76 (56320) ∈ gW := gW_at 1509 (by decide +kernel) (by decide +kernel)
theorem ml_Jxe99ae_122 : Cond.methodLink RJxe99ae 122 yJxe99ae_isNaN_b9ae7 ∈ gW := gW_at 1574 (by decide +kernel) (by decide +kernel)
theorem ss_Jxe99ae_122 : GoodIn gW (va_wsS RJxe99ae 122 yJxe99ae_isNaN_b9ae7 (Cond.code yJxe99ae_isNaN_b9ae7 cJxe99ae_isNaN_b9ae7 2 (some .boolean) :: gW)) := gIn_S ml_Jxe99ae_122 wt_Jxe99ae_isNaN_b9ae7 (gW_at 79 (by decide +kernel) (by decide +kernel)) wc_Jxe99ae_isNaN_b9ae7
theorem ml_Jxe99ae_134 : Cond.methodLink RJxe99ae 134 ⟨"java/lang/Double", "doubleToRawLongBits", "(D)J"⟩ ∈ gW := gW_at 1577 (by decide +kernel) (by decide +kernel)
theorem kc_Jxe99ae_137 : Cond.constantLong RJxe99ae 137 (9221120237041090560) ∈ gW := gW_at 1580 (by decide +kernel) (by decide +kernel)
theorem ml_Jxf58ca_59 : Cond.methodLink RJxf58ca 59 yJxf58ca_isNaN_12338 ∈ gW := gW_at 1089 (by decide +kernel) (by decide +kernel)
theorem ss_Jxf58ca_59 : GoodIn gW (va_wsS RJxf58ca 59 yJxf58ca_isNaN_12338 (Cond.code yJxf58ca_isNaN_12338 cJxf58ca_isNaN_12338 1 (some .boolean) :: gW)) := gIn_S ml_Jxf58ca_59 wt_Jxf58ca_isNaN_12338 (gW_at 61 (by decide +kernel) (by decide +kernel)) wc_Jxf58ca_isNaN_12338
theorem ml_Jxf58ca_74 : Cond.methodLink RJxf58ca 74 ⟨"java/lang/Float", "floatToRawIntBits", "(F)I"⟩ ∈ gW := gW_at 1092 (by decide +kernel) (by decide +kernel)
theorem kc_Jxf58ca_77 : Cond.constant RJxf58ca 77 (2143289344) ∈ gW := gW_at 1095 (by decide +kernel) (by decide +kernel)
theorem fl_J0_9 : Cond.fieldLink RJ0 9 (TJ0 0).1 (TJ0 0).2.1 (TJ0 0).2.2.1 ∈ gW := gW_at 1619 (by decide +kernel) (by decide +kernel)
theorem ml_J0_335 : Cond.methodLink RJ0 335 yJ0_coder_7d493 ∈ gW := gW_at 1446 (by decide +kernel) (by decide +kernel)
theorem sv_J0_335 : GoodIn gW (wsV RJ0 335 RJ0 yJ0_coder_7d493 (Cond.code yJ0_coder_7d493 cJ0_coder_7d493 1 (some .byte) :: gW)) := gIn_V ml_J0_335 wi_J0_coder_7d493 we_J0_coder_7d493 (gW_at 70 (by decide +kernel) (by decide +kernel)) wc_J0_coder_7d493
theorem ml_J0_633 : Cond.methodLink RJ0 633 yJ0_indexOf_7cf53 ∈ gW := gW_at 1432 (by decide +kernel) (by decide +kernel)
theorem sv_J0_633 : GoodIn gW (wsV RJ0 633 RJ0 yJ0_indexOf_7cf53 (Cond.code yJ0_indexOf_7cf53 cJ0_indexOf_7cf53 3 (some .int) :: gW)) := gIn_V ml_J0_633 wi_J0_indexOf_7cf53 we_J0_indexOf_7cf53 (gW_at 70 (by decide +kernel) (by decide +kernel)) wc_J0_indexOf_7cf53
theorem ml_J0_492 : Cond.methodLink RJ0 492 yJ0_isLatin1_aae02 ∈ gW := gW_at 1436 (by decide +kernel) (by decide +kernel)
theorem sv_J0_492 : GoodIn gW (wsV RJ0 492 RJ0 yJ0_isLatin1_aae02 (Cond.code yJ0_isLatin1_aae02 cJ0_isLatin1_aae02 1 (some .boolean) :: gW)) := gIn_V ml_J0_492 wi_J0_isLatin1_aae02 we_J0_isLatin1_aae02 (gW_at 70 (by decide +kernel) (by decide +kernel)) wc_J0_isLatin1_aae02
theorem ml_J0_505 : Cond.methodLink RJ0 505 yJ0_length_8abf5 ∈ gW := gW_at 1442 (by decide +kernel) (by decide +kernel)
theorem sv_J0_505 : GoodIn gW (wsV RJ0 505 RJ0 yJ0_length_8abf5 (Cond.code yJ0_length_8abf5 cJ0_length_8abf5 1 (some .int) :: gW)) := gIn_V ml_J0_505 wi_J0_length_8abf5 we_J0_length_8abf5 (gW_at 70 (by decide +kernel) (by decide +kernel)) wc_J0_length_8abf5
theorem ml_J0_637 : Cond.methodLink RJ0 637 yJ1_indexOf_4cfef ∈ gW := gW_at 1450 (by decide +kernel) (by decide +kernel)
theorem ss_J0_637 : GoodIn gW (va_wsS RJ0 637 yJ1_indexOf_4cfef (Cond.code yJ1_indexOf_4cfef cJ1_indexOf_4cfef 4 (some .int) :: gW)) := gIn_S ml_J0_637 wt_J1_indexOf_4cfef (gW_at 75 (by decide +kernel) (by decide +kernel)) wc_J1_indexOf_4cfef
theorem ml_J0_640 : Cond.methodLink RJ0 640 yJ2_indexOf_4cfef ∈ gW := gW_at 1461 (by decide +kernel) (by decide +kernel)
theorem ss_J0_640 : GoodIn gW (va_wsS RJ0 640 yJ2_indexOf_4cfef (Cond.code yJ2_indexOf_4cfef cJ2_indexOf_4cfef 4 (some .int) :: gW)) := gIn_S ml_J0_640 wt_J2_indexOf_4cfef (gW_at 76 (by decide +kernel) (by decide +kernel)) wc_J2_indexOf_4cfef
theorem fl_J0_38 : Cond.fieldLink RJ0 38 "java/lang/String" "COMPACT_STRINGS" "Z" ∈ gW := gW_at 1440 (by decide +kernel) (by decide +kernel)
theorem fl_J0_15 : Cond.fieldLink RJ0 15 (TJ0 1).1 (TJ0 1).2.1 (TJ0 1).2.2.1 ∈ gW := gW_at 1618 (by decide +kernel) (by decide +kernel)
theorem fl_J0_1053 : Cond.fieldLink RJ0 1053 "jdk/internal/util/Preconditions" "SIOOBE_FORMATTER" "Ljava/util/function/BiFunction;" ∈ gW := gW_at 1479 (by decide +kernel) (by decide +kernel)
theorem ml_J0_1062 : Cond.methodLink RJ0 1062 yJ3_checkFromToIndex_8c36e ∈ gW := gW_at 1481 (by decide +kernel) (by decide +kernel)
theorem ss_J0_1062 : GoodIn gW (va_wsS RJ0 1062 yJ3_checkFromToIndex_8c36e (Cond.code yJ3_checkFromToIndex_8c36e cJ3_checkFromToIndex_8c36e 4 (some .int) :: gW)) := gIn_S ml_J0_1062 wt_J3_checkFromToIndex_8c36e (gW_at 77 (by decide +kernel) (by decide +kernel)) wc_J3_checkFromToIndex_8c36e
theorem ml_J1_88 : Cond.methodLink RJ1 88 yJ1_canEncode_9a6ad ∈ gW := gW_at 1453 (by decide +kernel) (by decide +kernel)
theorem ss_J1_88 : GoodIn gW (va_wsS RJ1 88 yJ1_canEncode_9a6ad (Cond.code yJ1_canEncode_9a6ad cJ1_canEncode_9a6ad 1 (some .boolean) :: gW)) := gIn_S ml_J1_88 wt_J1_canEncode_9a6ad (gW_at 75 (by decide +kernel) (by decide +kernel)) wc_J1_canEncode_9a6ad
theorem ml_J1_92 : Cond.methodLink RJ1 92 yJ9_max_7cf53 ∈ gW := gW_at 1456 (by decide +kernel) (by decide +kernel)
theorem ss_J1_92 : GoodIn gW (va_wsS RJ1 92 yJ9_max_7cf53 (Cond.code yJ9_max_7cf53 cJ9_max_7cf53 2 (some .int) :: gW)) := gIn_S ml_J1_92 wt_J9_max_7cf53 (gW_at 66 (by decide +kernel) (by decide +kernel)) wc_J9_max_7cf53
theorem ml_J1_38 : Cond.methodLink RJ1 38 yJ9_min_7cf53 ∈ gW := gW_at 1457 (by decide +kernel) (by decide +kernel)
theorem ss_J1_38 : GoodIn gW (va_wsS RJ1 38 yJ9_min_7cf53 (Cond.code yJ9_min_7cf53 cJ9_min_7cf53 2 (some .int) :: gW)) := gIn_S ml_J1_38 wt_J9_min_7cf53 (gW_at 66 (by decide +kernel) (by decide +kernel)) wc_J9_min_7cf53
theorem ml_J1_95 : Cond.methodLink RJ1 95 yJ1_indexOfChar_4cfef ∈ gW := gW_at 1458 (by decide +kernel) (by decide +kernel)
theorem ss_J1_95 : GoodIn gW (va_wsS RJ1 95 yJ1_indexOfChar_4cfef (Cond.code yJ1_indexOfChar_4cfef cJ1_indexOfChar_4cfef 6 (some .int) :: gW)) := gIn_S ml_J1_95 wt_J1_indexOfChar_4cfef (gW_at 75 (by decide +kernel) (by decide +kernel)) wc_J1_indexOfChar_4cfef
theorem fl_J2_44 : Cond.fieldLink RJ2 44 "java/lang/StringUTF16" "$assertionsDisabled" "Z" ∈ gW := gW_at 1490 (by decide +kernel) (by decide +kernel)
theorem ml_J2_48 : Cond.methodLink RJ2 48 yJ2_length_9d52b ∈ gW := gW_at 1473 (by decide +kernel) (by decide +kernel)
theorem ss_J2_48 : GoodIn gW (va_wsS RJ2 48 yJ2_length_9d52b (Cond.code yJ2_length_9d52b cJ2_length_9d52b 1 (some .int) :: gW)) := gIn_S ml_J2_48 wt_J2_length_9d52b (gW_at 76 (by decide +kernel) (by decide +kernel)) wc_J2_length_9d52b
-- no word: J2_getChar_3b067 18 .new 52
-- no word: J2_getChar_3b067 22 .ldc 54
-- no word: J2_getChar_3b067 24 .invokespecial 56
theorem fl_J2_59 : Cond.fieldLink RJ2 59 "java/lang/StringUTF16" "HI_BYTE_SHIFT" "I" ∈ gW := gW_at 1492 (by decide +kernel) (by decide +kernel)
theorem fl_J2_63 : Cond.fieldLink RJ2 63 "java/lang/StringUTF16" "LO_BYTE_SHIFT" "I" ∈ gW := gW_at 1494 (by decide +kernel) (by decide +kernel)
theorem ml_J2_224 : Cond.methodLink RJ2 224 yJ9_max_7cf53 ∈ gW := gW_at 1464 (by decide +kernel) (by decide +kernel)
theorem ss_J2_224 : GoodIn gW (va_wsS RJ2 224 yJ9_max_7cf53 (Cond.code yJ9_max_7cf53 cJ9_max_7cf53 2 (some .int) :: gW)) := gIn_S ml_J2_224 wt_J9_max_7cf53 (gW_at 66 (by decide +kernel) (by decide +kernel)) wc_J9_max_7cf53
theorem ml_J2_183 : Cond.methodLink RJ2 183 yJ9_min_7cf53 ∈ gW := gW_at 1465 (by decide +kernel) (by decide +kernel)
theorem ss_J2_183 : GoodIn gW (va_wsS RJ2 183 yJ9_min_7cf53 (Cond.code yJ9_min_7cf53 cJ9_min_7cf53 2 (some .int) :: gW)) := gIn_S ml_J2_183 wt_J9_min_7cf53 (gW_at 66 (by decide +kernel) (by decide +kernel)) wc_J9_min_7cf53
theorem kc_J2_227 : Cond.constant RJ2 227 (65536) ∈ gW := gW_at 1466 (by decide +kernel) (by decide +kernel)
theorem ml_J2_228 : Cond.methodLink RJ2 228 yJ2_indexOfChar_4cfef ∈ gW := gW_at 1467 (by decide +kernel) (by decide +kernel)
theorem ss_J2_228 : GoodIn gW (va_wsS RJ2 228 yJ2_indexOfChar_4cfef (Cond.code yJ2_indexOfChar_4cfef cJ2_indexOfChar_4cfef 4 (some .int) :: gW)) := gIn_S ml_J2_228 wt_J2_indexOfChar_4cfef (gW_at 76 (by decide +kernel) (by decide +kernel)) wc_J2_indexOfChar_4cfef
theorem ml_J2_232 : Cond.methodLink RJ2 232 yJ2_indexOfSupplementary_4cfef ∈ gW := gW_at 1496 (by decide +kernel) (by decide +kernel)
theorem ss_J2_232 : GoodIn gW (va_wsS RJ2 232 yJ2_indexOfSupplementary_4cfef (Cond.code yJ2_indexOfSupplementary_4cfef cJ2_indexOfSupplementary_4cfef 7 (some .int) :: gW)) := gIn_S ml_J2_232 wt_J2_indexOfSupplementary_4cfef (gW_at 76 (by decide +kernel) (by decide +kernel)) wc_J2_indexOfSupplementary_4cfef
theorem ml_J2_96 : Cond.methodLink RJ2 96 yJ2_checkBoundsBeginEnd_d044e ∈ gW := gW_at 1470 (by decide +kernel) (by decide +kernel)
theorem ss_J2_96 : GoodIn gW (va_wsS RJ2 96 yJ2_checkBoundsBeginEnd_d044e (Cond.code yJ2_checkBoundsBeginEnd_d044e cJ2_checkBoundsBeginEnd_d044e 3 none :: gW)) := gIn_S ml_J2_96 wt_J2_checkBoundsBeginEnd_d044e (gW_at 76 (by decide +kernel) (by decide +kernel)) wc_J2_checkBoundsBeginEnd_d044e
theorem ml_J2_244 : Cond.methodLink RJ2 244 yJ2_indexOfCharUnsafe_4cfef ∈ gW := gW_at 1484 (by decide +kernel) (by decide +kernel)
theorem ss_J2_244 : GoodIn gW (va_wsS RJ2 244 yJ2_indexOfCharUnsafe_4cfef (Cond.code yJ2_indexOfCharUnsafe_4cfef cJ2_indexOfCharUnsafe_4cfef 5 (some .int) :: gW)) := gIn_S ml_J2_244 wt_J2_indexOfCharUnsafe_4cfef (gW_at 76 (by decide +kernel) (by decide +kernel)) wc_J2_indexOfCharUnsafe_4cfef
theorem ml_J2_71 : Cond.methodLink RJ2 71 yJ2_getChar_3b067 ∈ gW := gW_at 1487 (by decide +kernel) (by decide +kernel)
theorem ss_J2_71 : GoodIn gW (va_wsS RJ2 71 yJ2_getChar_3b067 (Cond.code yJ2_getChar_3b067 cJ2_getChar_3b067 2 (some .char) :: gW)) := gIn_S ml_J2_71 wt_J2_getChar_3b067 (gW_at 76 (by decide +kernel) (by decide +kernel)) wc_J2_getChar_3b067
theorem ml_J2_164 : Cond.methodLink RJ2 164 yJ11_isValidCodePoint_9a6ad ∈ gW := gW_at 1499 (by decide +kernel) (by decide +kernel)
theorem ss_J2_164 : GoodIn gW (va_wsS RJ2 164 yJ11_isValidCodePoint_9a6ad (Cond.code yJ11_isValidCodePoint_9a6ad cJ11_isValidCodePoint_9a6ad 2 (some .boolean) :: gW)) := gIn_S ml_J2_164 wt_J11_isValidCodePoint_9a6ad (gW_at 78 (by decide +kernel) (by decide +kernel)) wc_J11_isValidCodePoint_9a6ad
theorem ml_J2_157 : Cond.methodLink RJ2 157 yJ11_highSurrogate_5068e ∈ gW := gW_at 1502 (by decide +kernel) (by decide +kernel)
theorem ss_J2_157 : GoodIn gW (va_wsS RJ2 157 yJ11_highSurrogate_5068e (Cond.code yJ11_highSurrogate_5068e cJ11_highSurrogate_5068e 1 (some .char) :: gW)) := gIn_S ml_J2_157 wt_J11_highSurrogate_5068e (gW_at 78 (by decide +kernel) (by decide +kernel)) wc_J11_highSurrogate_5068e
theorem ml_J2_161 : Cond.methodLink RJ2 161 yJ11_lowSurrogate_5068e ∈ gW := gW_at 1506 (by decide +kernel) (by decide +kernel)
theorem ss_J2_161 : GoodIn gW (va_wsS RJ2 161 yJ11_lowSurrogate_5068e (Cond.code yJ11_lowSurrogate_5068e cJ11_lowSurrogate_5068e 1 (some .char) :: gW)) := gIn_S ml_J2_161 wt_J11_lowSurrogate_5068e (gW_at 78 (by decide +kernel) (by decide +kernel)) wc_J11_lowSurrogate_5068e
theorem ml_J2_241 : Cond.methodLink RJ2 241 yJ0_checkBoundsBeginEnd_23922 ∈ gW := gW_at 1476 (by decide +kernel) (by decide +kernel)
theorem ss_J2_241 : GoodIn gW (va_wsS RJ2 241 yJ0_checkBoundsBeginEnd_23922 (Cond.code yJ0_checkBoundsBeginEnd_23922 cJ0_checkBoundsBeginEnd_23922 3 none :: gW)) := gIn_S ml_J2_241 wt_J0_checkBoundsBeginEnd_23922 (gW_at 70 (by decide +kernel) (by decide +kernel)) wc_J0_checkBoundsBeginEnd_23922
-- no word: J3_checkFromToIndex_8c36e 18 .invokestatic 99
theorem ml_L_7 : Cond.methodLink RL 7 yX6_set ∈ gW := gW_at 380 (by decide +kernel) (by decide +kernel)
theorem sv_L_7 : GoodIn gW (wsV RL 7 RX6 yX6_set (Cond.code yX6_set cX6_set 4 (some .int) :: gW)) := gIn_V ml_L_7 wi_X6_set we_X6_set ini_X6 wc_X6_set
theorem ml_L_15 : Cond.methodLink RL 15 yX6_setting ∈ gW := gW_at 477 (by decide +kernel) (by decide +kernel)
theorem sv_L_15 : GoodIn gW (wsV RL 15 RX6 yX6_setting (Cond.code yX6_setting cX6_setting 2 (some .int) :: gW)) := gIn_V ml_L_15 wi_X6_setting we_X6_setting ini_X6 wc_X6_setting
theorem ml_L_19 : Cond.methodLink RL 19 yX6_drill ∈ gW := gW_at 509 (by decide +kernel) (by decide +kernel)
theorem sv_L_19 : GoodIn gW (wsV RL 19 RX6 yX6_drill (Cond.code yX6_drill cX6_drill 2 (some .int) :: gW)) := gIn_V ml_L_19 wi_X6_drill we_X6_drill ini_X6 wc_X6_drill
theorem ml_L_24 : Cond.methodLink RL 24 yX6_drilled ∈ gW := gW_at 539 (by decide +kernel) (by decide +kernel)
theorem sv_L_24 : GoodIn gW (wsV RL 24 RX6 yX6_drilled (Cond.code yX6_drilled cX6_drilled 2 (some .int) :: gW)) := gIn_V ml_L_24 wi_X6_drilled we_X6_drilled ini_X6 wc_X6_drilled
theorem ml_L_29 : Cond.methodLink RL 29 yX6_mileOf ∈ gW := gW_at 562 (by decide +kernel) (by decide +kernel)
theorem sv_L_29 : GoodIn gW (wsV RL 29 RX6 yX6_mileOf (Cond.code yX6_mileOf cX6_mileOf 4 (some .int) :: gW)) := gIn_V ml_L_29 wi_X6_mileOf we_X6_mileOf ini_X6 wc_X6_mileOf
theorem ml_L_32 : Cond.methodLink RL 32 yX6_ice ∈ gW := gW_at 571 (by decide +kernel) (by decide +kernel)
theorem sv_L_32 : GoodIn gW (wsV RL 32 RX6 yX6_ice (Cond.code yX6_ice cX6_ice 2 (some .float) :: gW)) := gIn_V ml_L_32 wi_X6_ice we_X6_ice ini_X6 wc_X6_ice
theorem ml_L_36 : Cond.methodLink RL 36 yX6_bears ∈ gW := gW_at 578 (by decide +kernel) (by decide +kernel)
theorem sv_L_36 : GoodIn gW (wsV RL 36 RX6 yX6_bears (Cond.code yX6_bears cX6_bears 2 (some .int) :: gW)) := gIn_V ml_L_36 wi_X6_bears we_X6_bears ini_X6 wc_X6_bears
theorem ml_L_39 : Cond.methodLink RL 39 yX6_sign ∈ gW := gW_at 585 (by decide +kernel) (by decide +kernel)
theorem sv_L_39 : GoodIn gW (wsV RL 39 RX6 yX6_sign (Cond.code yX6_sign cX6_sign 3 (some .char) :: gW)) := gIn_V ml_L_39 wi_X6_sign we_X6_sign ini_X6 wc_X6_sign
theorem ml_L_43 : Cond.methodLink RL 43 yX6_truck ∈ gW := gW_at 601 (by decide +kernel) (by decide +kernel)
theorem sv_L_43 : GoodIn gW (wsV RL 43 RX6 yX6_truck (Cond.code yX6_truck cX6_truck 6 (some .int) :: gW)) := gIn_V ml_L_43 wi_X6_truck we_X6_truck ini_X6 wc_X6_truck
theorem ml_L_49 : Cond.methodLink RL 49 yX6_inRow ∈ gW := gW_at 658 (by decide +kernel) (by decide +kernel)
theorem sv_L_49 : GoodIn gW (wsV RL 49 RX6 yX6_inRow (Cond.code yX6_inRow cX6_inRow 5 (some .int) :: gW)) := gIn_V ml_L_49 wi_X6_inRow we_X6_inRow ini_X6 wc_X6_inRow
theorem ml_L_53 : Cond.methodLink RL 53 yX6_convoy ∈ gW := gW_at 671 (by decide +kernel) (by decide +kernel)
theorem sv_L_53 : GoodIn gW (wsV RL 53 RX6 yX6_convoy (Cond.code yX6_convoy cX6_convoy 3 (some .int) :: gW)) := gIn_V ml_L_53 wi_X6_convoy we_X6_convoy ini_X6 wc_X6_convoy
theorem ml_L_56 : Cond.methodLink RL 56 yX6_join ∈ gW := gW_at 680 (by decide +kernel) (by decide +kernel)
theorem sv_L_56 : GoodIn gW (wsV RL 56 RX6 yX6_join (Cond.code yX6_join cX6_join 5 (some .int) :: gW)) := gIn_V ml_L_56 wi_X6_join we_X6_join ini_X6 wc_X6_join
theorem ml_L_59 : Cond.methodLink RL 59 yX6_start ∈ gW := gW_at 705 (by decide +kernel) (by decide +kernel)
theorem sv_L_59 : GoodIn gW (wsV RL 59 RX6 yX6_start (Cond.code yX6_start cX6_start 3 (some .int) :: gW)) := gIn_V ml_L_59 wi_X6_start we_X6_start ini_X6 wc_X6_start
theorem ml_L_62 : Cond.methodLink RL 62 yX6_roll ∈ gW := gW_at 746 (by decide +kernel) (by decide +kernel)
theorem sv_L_62 : GoodIn gW (wsV RL 62 RX6 yX6_roll (Cond.code yX6_roll cX6_roll 3 (some .int) :: gW)) := gIn_V ml_L_62 wi_X6_roll we_X6_roll ini_X6 wc_X6_roll
theorem ml_L_65 : Cond.methodLink RL 65 yX6_why ∈ gW := gW_at 771 (by decide +kernel) (by decide +kernel)
theorem sv_L_65 : GoodIn gW (wsV RL 65 RX6 yX6_why (Cond.code yX6_why cX6_why 4 (some .int) :: gW)) := gIn_V ml_L_65 wi_X6_why we_X6_why ini_X6 wc_X6_why
theorem ml_L_69 : Cond.methodLink RL 69 yX6_convoyOf ∈ gW := gW_at 778 (by decide +kernel) (by decide +kernel)
theorem sv_L_69 : GoodIn gW (wsV RL 69 RX6 yX6_convoyOf (Cond.code yX6_convoyOf cX6_convoyOf 4 (some .int) :: gW)) := gIn_V ml_L_69 wi_X6_convoyOf we_X6_convoyOf ini_X6 wc_X6_convoyOf
theorem ml_L_72 : Cond.methodLink RL 72 yX6_truckOf ∈ gW := gW_at 789 (by decide +kernel) (by decide +kernel)
theorem sv_L_72 : GoodIn gW (wsV RL 72 RX6 yX6_truckOf (Cond.code yX6_truckOf cX6_truckOf 5 (some .int) :: gW)) := gIn_V ml_L_72 wi_X6_truckOf we_X6_truckOf ini_X6 wc_X6_truckOf
theorem ml_L_75 : Cond.methodLink RL 75 yX6_load ∈ gW := gW_at 802 (by decide +kernel) (by decide +kernel)
theorem sv_L_75 : GoodIn gW (wsV RL 75 RX6 yX6_load (Cond.code yX6_load cX6_load 4 (some .float) :: gW)) := gIn_V ml_L_75 wi_X6_load we_X6_load ini_X6 wc_X6_load
theorem ml_L_79 : Cond.methodLink RL 79 yX6_at ∈ gW := gW_at 810 (by decide +kernel) (by decide +kernel)
theorem sv_L_79 : GoodIn gW (wsV RL 79 RX6 yX6_at (Cond.code yX6_at cX6_at 3 (some .int) :: gW)) := gIn_V ml_L_79 wi_X6_at we_X6_at ini_X6 wc_X6_at
theorem ml_L_82 : Cond.methodLink RL 82 yX6_rolls ∈ gW := gW_at 819 (by decide +kernel) (by decide +kernel)
theorem sv_L_82 : GoodIn gW (wsV RL 82 RX6 yX6_rolls (Cond.code yX6_rolls cX6_rolls 2 (some .int) :: gW)) := gIn_V ml_L_82 wi_X6_rolls we_X6_rolls ini_X6 wc_X6_rolls
theorem ml_L_85 : Cond.methodLink RL 85 yX6_rollsAgain ∈ gW := gW_at 843 (by decide +kernel) (by decide +kernel)
theorem sv_L_85 : GoodIn gW (wsV RL 85 RX6 yX6_rollsAgain (Cond.code yX6_rollsAgain cX6_rollsAgain 3 (some .int) :: gW)) := gIn_V ml_L_85 wi_X6_rollsAgain we_X6_rollsAgain ini_X6 wc_X6_rollsAgain
theorem ml_L_88 : Cond.methodLink RL 88 yX6_iceIn ∈ gW := gW_at 850 (by decide +kernel) (by decide +kernel)
theorem sv_L_88 : GoodIn gW (wsV RL 88 RX6 yX6_iceIn (Cond.code yX6_iceIn cX6_iceIn 5 (some .int) :: gW)) := gIn_V ml_L_88 wi_X6_iceIn we_X6_iceIn ini_X6 wc_X6_iceIn
theorem ml_L_91 : Cond.methodLink RL 91 yX6_bearsIn ∈ gW := gW_at 865 (by decide +kernel) (by decide +kernel)
theorem sv_L_91 : GoodIn gW (wsV RL 91 RX6 yX6_bearsIn (Cond.code yX6_bearsIn cX6_bearsIn 5 (some .int) :: gW)) := gIn_V ml_L_91 wi_X6_bearsIn we_X6_bearsIn ini_X6 wc_X6_bearsIn
theorem ml_L_94 : Cond.methodLink RL 94 yX6_pass ∈ gW := gW_at 874 (by decide +kernel) (by decide +kernel)
theorem sv_L_94 : GoodIn gW (wsV RL 94 RX6 yX6_pass (Cond.code yX6_pass cX6_pass 3 (some .int) :: gW)) := gIn_V ml_L_94 wi_X6_pass we_X6_pass ini_X6 wc_X6_pass
theorem ml_L_97 : Cond.methodLink RL 97 yX6_append ∈ gW := gW_at 901 (by decide +kernel) (by decide +kernel)
theorem sv_L_97 : GoodIn gW (wsV RL 97 RX6 yX6_append (Cond.code yX6_append cX6_append 2 (some .int) :: gW)) := gIn_V ml_L_97 wi_X6_append we_X6_append ini_X6 wc_X6_append
theorem ml_L_103 : Cond.methodLink RL 103 yX6_read ∈ gW := gW_at 924 (by decide +kernel) (by decide +kernel)
theorem sv_L_103 : GoodIn gW (wsV RL 103 RX6 yX6_read (Cond.code yX6_read cX6_read 3 (some .int) :: gW)) := gIn_V ml_L_103 wi_X6_read we_X6_read ini_X6 wc_X6_read
theorem ml_L_107 : Cond.methodLink RL 107 yX6_refusal ∈ gW := gW_at 992 (by decide +kernel) (by decide +kernel)
theorem sv_L_107 : GoodIn gW (wsV RL 107 RX6 yX6_refusal (Cond.code yX6_refusal cX6_refusal 2 (some .int) :: gW)) := gIn_V ml_L_107 wi_X6_refusal we_X6_refusal ini_X6 wc_X6_refusal
theorem ml_L_111 : Cond.methodLink RL 111 yX6_account ∈ gW := gW_at 1000 (by decide +kernel) (by decide +kernel)
theorem sv_L_111 : GoodIn gW (wsV RL 111 RX6 yX6_account (Cond.code yX6_account cX6_account 2 (some .int) :: gW)) := gIn_V ml_L_111 wi_X6_account we_X6_account ini_X6 wc_X6_account
theorem ml_L_114 : Cond.methodLink RL 114 yX6_share ∈ gW := gW_at 1048 (by decide +kernel) (by decide +kernel)
theorem sv_L_114 : GoodIn gW (wsV RL 114 RX6 yX6_share (Cond.code yX6_share cX6_share 1 (some .float) :: gW)) := gIn_V ml_L_114 wi_X6_share we_X6_share ini_X6 wc_X6_share
theorem ml_L_120 : Cond.methodLink RL 120 yX6_undo ∈ gW := gW_at 1058 (by decide +kernel) (by decide +kernel)
theorem sv_L_120 : GoodIn gW (wsV RL 120 RX6 yX6_undo (Cond.code yX6_undo cX6_undo 1 (some .int) :: gW)) := gIn_V ml_L_120 wi_X6_undo we_X6_undo ini_X6 wc_X6_undo
theorem ml_L_123 : Cond.methodLink RL 123 yX6_restore ∈ gW := gW_at 1070 (by decide +kernel) (by decide +kernel)
theorem sv_L_123 : GoodIn gW (wsV RL 123 RX6 yX6_restore (Cond.code yX6_restore cX6_restore 1 (some .int) :: gW)) := gIn_V ml_L_123 wi_X6_restore we_X6_restore ini_X6 wc_X6_restore
theorem cl_L_8 : Cond.classLink RL 8 RX6 ∈ gW := gW_at 81 (by decide +kernel) (by decide +kernel)
theorem ml_L_126 : Cond.methodLink RL 126 yX6_init ∈ gW := gW_at 83 (by decide +kernel) (by decide +kernel)
theorem cl_L_127 : Cond.classLink RL 127 RX7 ∈ gW := gW_at 1075 (by decide +kernel) (by decide +kernel)
theorem ml_L_129 : Cond.methodLink RL 129 yX7_init ∈ gW := gW_at 1077 (by decide +kernel) (by decide +kernel)
theorem ml_L_130 : Cond.methodLink RL 130 yL_set ∈ gW := gW_at 376 (by decide +kernel) (by decide +kernel)
theorem ml_L_135 : Cond.methodLink RL 135 yX7_set_ ∈ gW := gW_at 1163 (by decide +kernel) (by decide +kernel)
theorem sv_L_135 : GoodIn gW (wsV RL 135 RX7 yX7_set_ (Cond.code yX7_set_ cX7_set_ 3 (some .int) :: gW)) := gIn_V ml_L_135 wi_X7_set_ we_X7_set_ ini_X7 wc_X7_set_
theorem ml_L_136 : Cond.methodLink RL 136 yX7_thrown ∈ gW := gW_at 1155 (by decide +kernel) (by decide +kernel)
theorem sv_L_136 : GoodIn gW (wsV RL 136 RX7 yX7_thrown (Cond.code yX7_thrown cX7_thrown 1 (some .int) :: gW)) := gIn_V ml_L_136 wi_X7_thrown we_X7_thrown ini_X7 wc_X7_thrown
theorem ml_L_139 : Cond.methodLink RL 139 yL_setting ∈ gW := gW_at 474 (by decide +kernel) (by decide +kernel)
theorem ml_L_142 : Cond.methodLink RL 142 yX7_setting ∈ gW := gW_at 1189 (by decide +kernel) (by decide +kernel)
theorem sv_L_142 : GoodIn gW (wsV RL 142 RX7 yX7_setting (Cond.code yX7_setting cX7_setting 2 (some .int) :: gW)) := gIn_V ml_L_142 wi_X7_setting we_X7_setting ini_X7 wc_X7_setting
theorem ml_L_143 : Cond.methodLink RL 143 yL_drill ∈ gW := gW_at 482 (by decide +kernel) (by decide +kernel)
theorem ml_L_145 : Cond.methodLink RL 145 yX7_drill ∈ gW := gW_at 1193 (by decide +kernel) (by decide +kernel)
theorem sv_L_145 : GoodIn gW (wsV RL 145 RX7 yX7_drill (Cond.code yX7_drill cX7_drill 2 (some .int) :: gW)) := gIn_V ml_L_145 wi_X7_drill we_X7_drill ini_X7 wc_X7_drill
theorem ml_L_146 : Cond.methodLink RL 146 yL_drilled ∈ gW := gW_at 535 (by decide +kernel) (by decide +kernel)
theorem ml_L_148 : Cond.methodLink RL 148 yX7_drilled ∈ gW := gW_at 1208 (by decide +kernel) (by decide +kernel)
theorem sv_L_148 : GoodIn gW (wsV RL 148 RX7 yX7_drilled (Cond.code yX7_drilled cX7_drilled 2 (some .int) :: gW)) := gIn_V ml_L_148 wi_X7_drilled we_X7_drilled ini_X7 wc_X7_drilled
theorem ml_L_149 : Cond.methodLink RL 149 yL_mileOf ∈ gW := gW_at 559 (by decide +kernel) (by decide +kernel)
theorem ml_L_151 : Cond.methodLink RL 151 yX7_mileOf ∈ gW := gW_at 1212 (by decide +kernel) (by decide +kernel)
theorem sv_L_151 : GoodIn gW (wsV RL 151 RX7 yX7_mileOf (Cond.code yX7_mileOf cX7_mileOf 3 (some .int) :: gW)) := gIn_V ml_L_151 wi_X7_mileOf we_X7_mileOf ini_X7 wc_X7_mileOf
theorem ml_L_152 : Cond.methodLink RL 152 yL_ice ∈ gW := gW_at 568 (by decide +kernel) (by decide +kernel)
theorem ml_L_155 : Cond.methodLink RL 155 yX7_ice ∈ gW := gW_at 1220 (by decide +kernel) (by decide +kernel)
theorem sv_L_155 : GoodIn gW (wsV RL 155 RX7 yX7_ice (Cond.code yX7_ice cX7_ice 2 (some .float) :: gW)) := gIn_V ml_L_155 wi_X7_ice we_X7_ice ini_X7 wc_X7_ice
theorem ml_L_156 : Cond.methodLink RL 156 yL_bears ∈ gW := gW_at 575 (by decide +kernel) (by decide +kernel)
theorem ml_L_158 : Cond.methodLink RL 158 yX7_bears ∈ gW := gW_at 1231 (by decide +kernel) (by decide +kernel)
theorem sv_L_158 : GoodIn gW (wsV RL 158 RX7 yX7_bears (Cond.code yX7_bears cX7_bears 2 (some .int) :: gW)) := gIn_V ml_L_158 wi_X7_bears we_X7_bears ini_X7 wc_X7_bears
theorem ml_L_159 : Cond.methodLink RL 159 yL_sign ∈ gW := gW_at 582 (by decide +kernel) (by decide +kernel)
theorem ml_L_161 : Cond.methodLink RL 161 yX7_sign ∈ gW := gW_at 1242 (by decide +kernel) (by decide +kernel)
theorem sv_L_161 : GoodIn gW (wsV RL 161 RX7 yX7_sign (Cond.code yX7_sign cX7_sign 2 (some .char) :: gW)) := gIn_V ml_L_161 wi_X7_sign we_X7_sign ini_X7 wc_X7_sign
theorem ml_L_162 : Cond.methodLink RL 162 yX6_weakest ∈ gW := gW_at 283 (by decide +kernel) (by decide +kernel)
theorem sv_L_162 : GoodIn gW (wsV RL 162 RX6 yX6_weakest (Cond.code yX6_weakest cX6_weakest 5 (some .int) :: gW)) := gIn_V ml_L_162 wi_X6_weakest we_X6_weakest ini_X6 wc_X6_weakest
theorem ml_L_165 : Cond.methodLink RL 165 yX7_weakest ∈ gW := gW_at 1262 (by decide +kernel) (by decide +kernel)
theorem sv_L_165 : GoodIn gW (wsV RL 165 RX7 yX7_weakest (Cond.code yX7_weakest cX7_weakest 3 (some .int) :: gW)) := gIn_V ml_L_165 wi_X7_weakest we_X7_weakest ini_X7 wc_X7_weakest
theorem ml_L_166 : Cond.methodLink RL 166 yL_truck ∈ gW := gW_at 597 (by decide +kernel) (by decide +kernel)
theorem ml_L_169 : Cond.methodLink RL 169 yX7_truck ∈ gW := gW_at 1266 (by decide +kernel) (by decide +kernel)
theorem sv_L_169 : GoodIn gW (wsV RL 169 RX7 yX7_truck (Cond.code yX7_truck cX7_truck 6 (some .int) :: gW)) := gIn_V ml_L_169 wi_X7_truck we_X7_truck ini_X7 wc_X7_truck
theorem ml_L_170 : Cond.methodLink RL 170 yL_inRow ∈ gW := gW_at 655 (by decide +kernel) (by decide +kernel)
theorem ml_L_173 : Cond.methodLink RL 173 yX7_inRow ∈ gW := gW_at 1277 (by decide +kernel) (by decide +kernel)
theorem sv_L_173 : GoodIn gW (wsV RL 173 RX7 yX7_inRow (Cond.code yX7_inRow cX7_inRow 4 (some .int) :: gW)) := gIn_V ml_L_173 wi_X7_inRow we_X7_inRow ini_X7 wc_X7_inRow
theorem ml_L_174 : Cond.methodLink RL 174 yL_convoy ∈ gW := gW_at 668 (by decide +kernel) (by decide +kernel)
theorem ml_L_176 : Cond.methodLink RL 176 yX7_convoy ∈ gW := gW_at 1284 (by decide +kernel) (by decide +kernel)
theorem sv_L_176 : GoodIn gW (wsV RL 176 RX7 yX7_convoy (Cond.code yX7_convoy cX7_convoy 4 (some .int) :: gW)) := gIn_V ml_L_176 wi_X7_convoy we_X7_convoy ini_X7 wc_X7_convoy
theorem ml_L_177 : Cond.methodLink RL 177 yL_join ∈ gW := gW_at 677 (by decide +kernel) (by decide +kernel)
theorem ml_L_179 : Cond.methodLink RL 179 yX7_join ∈ gW := gW_at 1288 (by decide +kernel) (by decide +kernel)
theorem sv_L_179 : GoodIn gW (wsV RL 179 RX7 yX7_join (Cond.code yX7_join cX7_join 4 (some .int) :: gW)) := gIn_V ml_L_179 wi_X7_join we_X7_join ini_X7 wc_X7_join
theorem ml_L_180 : Cond.methodLink RL 180 yL_start ∈ gW := gW_at 702 (by decide +kernel) (by decide +kernel)
theorem ml_L_182 : Cond.methodLink RL 182 yX7_start ∈ gW := gW_at 1300 (by decide +kernel) (by decide +kernel)
theorem sv_L_182 : GoodIn gW (wsV RL 182 RX7 yX7_start (Cond.code yX7_start cX7_start 2 (some .int) :: gW)) := gIn_V ml_L_182 wi_X7_start we_X7_start ini_X7 wc_X7_start
theorem ml_L_183 : Cond.methodLink RL 183 yL_roll ∈ gW := gW_at 743 (by decide +kernel) (by decide +kernel)
theorem ml_L_185 : Cond.methodLink RL 185 yX7_roll ∈ gW := gW_at 1326 (by decide +kernel) (by decide +kernel)
theorem sv_L_185 : GoodIn gW (wsV RL 185 RX7 yX7_roll (Cond.code yX7_roll cX7_roll 2 (some .int) :: gW)) := gIn_V ml_L_185 wi_X7_roll we_X7_roll ini_X7 wc_X7_roll
theorem ml_L_186 : Cond.methodLink RL 186 yL_why ∈ gW := gW_at 768 (by decide +kernel) (by decide +kernel)
theorem ml_L_189 : Cond.methodLink RL 189 yX7_why ∈ gW := gW_at 1342 (by decide +kernel) (by decide +kernel)
theorem sv_L_189 : GoodIn gW (wsV RL 189 RX7 yX7_why (Cond.code yX7_why cX7_why 3 (some .int) :: gW)) := gIn_V ml_L_189 wi_X7_why we_X7_why ini_X7 wc_X7_why
theorem ml_L_190 : Cond.methodLink RL 190 yL_convoyOf ∈ gW := gW_at 775 (by decide +kernel) (by decide +kernel)
theorem ml_L_192 : Cond.methodLink RL 192 yX7_convoyOf ∈ gW := gW_at 1346 (by decide +kernel) (by decide +kernel)
theorem sv_L_192 : GoodIn gW (wsV RL 192 RX7 yX7_convoyOf (Cond.code yX7_convoyOf cX7_convoyOf 3 (some .int) :: gW)) := gIn_V ml_L_192 wi_X7_convoyOf we_X7_convoyOf ini_X7 wc_X7_convoyOf
theorem ml_L_193 : Cond.methodLink RL 193 yL_truckOf ∈ gW := gW_at 786 (by decide +kernel) (by decide +kernel)
theorem ml_L_195 : Cond.methodLink RL 195 yX7_truckOf ∈ gW := gW_at 1354 (by decide +kernel) (by decide +kernel)
theorem sv_L_195 : GoodIn gW (wsV RL 195 RX7 yX7_truckOf (Cond.code yX7_truckOf cX7_truckOf 4 (some .int) :: gW)) := gIn_V ml_L_195 wi_X7_truckOf we_X7_truckOf ini_X7 wc_X7_truckOf
theorem ml_L_196 : Cond.methodLink RL 196 yL_load ∈ gW := gW_at 799 (by decide +kernel) (by decide +kernel)
theorem ml_L_199 : Cond.methodLink RL 199 yX7_load ∈ gW := gW_at 1362 (by decide +kernel) (by decide +kernel)
theorem sv_L_199 : GoodIn gW (wsV RL 199 RX7 yX7_load (Cond.code yX7_load cX7_load 3 (some .float) :: gW)) := gIn_V ml_L_199 wi_X7_load we_X7_load ini_X7 wc_X7_load
theorem ml_L_200 : Cond.methodLink RL 200 yL_at ∈ gW := gW_at 807 (by decide +kernel) (by decide +kernel)
theorem ml_L_202 : Cond.methodLink RL 202 yX7_at ∈ gW := gW_at 1366 (by decide +kernel) (by decide +kernel)
theorem sv_L_202 : GoodIn gW (wsV RL 202 RX7 yX7_at (Cond.code yX7_at cX7_at 2 (some .int) :: gW)) := gIn_V ml_L_202 wi_X7_at we_X7_at ini_X7 wc_X7_at
theorem ml_L_203 : Cond.methodLink RL 203 yL_rolls ∈ gW := gW_at 816 (by decide +kernel) (by decide +kernel)
theorem ml_L_205 : Cond.methodLink RL 205 yX7_rolls ∈ gW := gW_at 1370 (by decide +kernel) (by decide +kernel)
theorem sv_L_205 : GoodIn gW (wsV RL 205 RX7 yX7_rolls (Cond.code yX7_rolls cX7_rolls 4 (some .int) :: gW)) := gIn_V ml_L_205 wi_X7_rolls we_X7_rolls ini_X7 wc_X7_rolls
theorem ml_L_206 : Cond.methodLink RL 206 yL_rollsAgain ∈ gW := gW_at 840 (by decide +kernel) (by decide +kernel)
theorem ml_L_208 : Cond.methodLink RL 208 yX7_rollsAgain ∈ gW := gW_at 1374 (by decide +kernel) (by decide +kernel)
theorem sv_L_208 : GoodIn gW (wsV RL 208 RX7 yX7_rollsAgain (Cond.code yX7_rollsAgain cX7_rollsAgain 2 (some .int) :: gW)) := gIn_V ml_L_208 wi_X7_rollsAgain we_X7_rollsAgain ini_X7 wc_X7_rollsAgain
theorem ml_L_209 : Cond.methodLink RL 209 yL_iceIn ∈ gW := gW_at 847 (by decide +kernel) (by decide +kernel)
theorem ml_L_211 : Cond.methodLink RL 211 yX7_iceIn ∈ gW := gW_at 1379 (by decide +kernel) (by decide +kernel)
theorem sv_L_211 : GoodIn gW (wsV RL 211 RX7 yX7_iceIn (Cond.code yX7_iceIn cX7_iceIn 5 (some .int) :: gW)) := gIn_V ml_L_211 wi_X7_iceIn we_X7_iceIn ini_X7 wc_X7_iceIn
theorem ml_L_212 : Cond.methodLink RL 212 yL_bearsIn ∈ gW := gW_at 862 (by decide +kernel) (by decide +kernel)
theorem ml_L_214 : Cond.methodLink RL 214 yX7_bearsIn ∈ gW := gW_at 1394 (by decide +kernel) (by decide +kernel)
theorem sv_L_214 : GoodIn gW (wsV RL 214 RX7 yX7_bearsIn (Cond.code yX7_bearsIn cX7_bearsIn 5 (some .int) :: gW)) := gIn_V ml_L_214 wi_X7_bearsIn we_X7_bearsIn ini_X7 wc_X7_bearsIn
theorem ml_L_215 : Cond.methodLink RL 215 yL_pass ∈ gW := gW_at 871 (by decide +kernel) (by decide +kernel)
theorem ml_L_217 : Cond.methodLink RL 217 yX7_pass ∈ gW := gW_at 1398 (by decide +kernel) (by decide +kernel)
theorem sv_L_217 : GoodIn gW (wsV RL 217 RX7 yX7_pass (Cond.code yX7_pass cX7_pass 2 (some .int) :: gW)) := gIn_V ml_L_217 wi_X7_pass we_X7_pass ini_X7 wc_X7_pass
theorem ml_L_218 : Cond.methodLink RL 218 yL_append ∈ gW := gW_at 897 (by decide +kernel) (by decide +kernel)
theorem ml_L_221 : Cond.methodLink RL 221 yX7_append ∈ gW := gW_at 1415 (by decide +kernel) (by decide +kernel)
theorem sv_L_221 : GoodIn gW (wsV RL 221 RX7 yX7_append (Cond.code yX7_append cX7_append 2 (some .int) :: gW)) := gIn_V ml_L_221 wi_X7_append we_X7_append ini_X7 wc_X7_append
theorem ml_L_222 : Cond.methodLink RL 222 yL_read ∈ gW := gW_at 921 (by decide +kernel) (by decide +kernel)
theorem ml_L_225 : Cond.methodLink RL 225 yX7_read ∈ gW := gW_at 1419 (by decide +kernel) (by decide +kernel)
theorem sv_L_225 : GoodIn gW (wsV RL 225 RX7 yX7_read (Cond.code yX7_read cX7_read 2 (some .int) :: gW)) := gIn_V ml_L_225 wi_X7_read we_X7_read ini_X7 wc_X7_read
theorem ml_L_226 : Cond.methodLink RL 226 yX6_errorPosition ∈ gW := gW_at 305 (by decide +kernel) (by decide +kernel)
theorem sv_L_226 : GoodIn gW (wsV RL 226 RX6 yX6_errorPosition (Cond.code yX6_errorPosition cX6_errorPosition 1 (some .int) :: gW)) := gIn_V ml_L_226 wi_X6_errorPosition we_X6_errorPosition ini_X6 wc_X6_errorPosition
theorem ml_L_229 : Cond.methodLink RL 229 yX7_errorPosition ∈ gW := gW_at 1538 (by decide +kernel) (by decide +kernel)
theorem sv_L_229 : GoodIn gW (wsV RL 229 RX7 yX7_errorPosition (Cond.code yX7_errorPosition cX7_errorPosition 1 (some .int) :: gW)) := gIn_V ml_L_229 wi_X7_errorPosition we_X7_errorPosition ini_X7 wc_X7_errorPosition
theorem ml_L_230 : Cond.methodLink RL 230 yL_refusal ∈ gW := gW_at 989 (by decide +kernel) (by decide +kernel)
theorem ml_L_233 : Cond.methodLink RL 233 yX7_refusal ∈ gW := gW_at 1159 (by decide +kernel) (by decide +kernel)
theorem sv_L_233 : GoodIn gW (wsV RL 233 RX7 yX7_refusal (Cond.code yX7_refusal cX7_refusal 2 (some .int) :: gW)) := gIn_V ml_L_233 wi_X7_refusal we_X7_refusal ini_X7 wc_X7_refusal
theorem ml_L_234 : Cond.methodLink RL 234 yL_account ∈ gW := gW_at 997 (by decide +kernel) (by decide +kernel)
theorem ml_L_236 : Cond.methodLink RL 236 yX7_account ∈ gW := gW_at 1542 (by decide +kernel) (by decide +kernel)
theorem sv_L_236 : GoodIn gW (wsV RL 236 RX7 yX7_account (Cond.code yX7_account cX7_account 2 (some .int) :: gW)) := gIn_V ml_L_236 wi_X7_account we_X7_account ini_X7 wc_X7_account
theorem ml_L_237 : Cond.methodLink RL 237 yX6_isWell ∈ gW := gW_at 309 (by decide +kernel) (by decide +kernel)
theorem sv_L_237 : GoodIn gW (wsV RL 237 RX6 yX6_isWell (Cond.code yX6_isWell cX6_isWell 1 (some .boolean) :: gW)) := gIn_V ml_L_237 wi_X6_isWell we_X6_isWell ini_X6 wc_X6_isWell
theorem ml_L_241 : Cond.methodLink RL 241 yX7_isWell ∈ gW := gW_at 1562 (by decide +kernel) (by decide +kernel)
theorem sv_L_241 : GoodIn gW (wsV RL 241 RX7 yX7_isWell (Cond.code yX7_isWell cX7_isWell 4 (some .boolean) :: gW)) := gIn_V ml_L_241 wi_X7_isWell we_X7_isWell ini_X7 wc_X7_isWell
theorem ml_L_242 : Cond.methodLink RL 242 yX6_meanBits ∈ gW := gW_at 350 (by decide +kernel) (by decide +kernel)
theorem sv_L_242 : GoodIn gW (wsV RL 242 RX6 yX6_meanBits (Cond.code yX6_meanBits cX6_meanBits 4 (some .long) :: gW)) := gIn_V ml_L_242 wi_X6_meanBits we_X6_meanBits ini_X6 wc_X6_meanBits
theorem ml_L_246 : Cond.methodLink RL 246 yX7_meanBits ∈ gW := gW_at 1566 (by decide +kernel) (by decide +kernel)
theorem sv_L_246 : GoodIn gW (wsV RL 246 RX7 yX7_meanBits (Cond.code yX7_meanBits cX7_meanBits 4 (some .long) :: gW)) := gIn_V ml_L_246 wi_X7_meanBits we_X7_meanBits ini_X7 wc_X7_meanBits
theorem ml_L_247 : Cond.methodLink RL 247 yL_share ∈ gW := gW_at 1031 (by decide +kernel) (by decide +kernel)
theorem ml_L_250 : Cond.methodLink RL 250 yX7_share ∈ gW := gW_at 1581 (by decide +kernel) (by decide +kernel)
theorem sv_L_250 : GoodIn gW (wsV RL 250 RX7 yX7_share (Cond.code yX7_share cX7_share 1 (some .float) :: gW)) := gIn_V ml_L_250 wi_X7_share we_X7_share ini_X7 wc_X7_share
theorem ml_L_251 : Cond.methodLink RL 251 yL_undo ∈ gW := gW_at 1055 (by decide +kernel) (by decide +kernel)
theorem ml_L_253 : Cond.methodLink RL 253 yX7_undo ∈ gW := gW_at 1585 (by decide +kernel) (by decide +kernel)
theorem sv_L_253 : GoodIn gW (wsV RL 253 RX7 yX7_undo (Cond.code yX7_undo cX7_undo 1 (some .int) :: gW)) := gIn_V ml_L_253 wi_X7_undo we_X7_undo ini_X7 wc_X7_undo
theorem ml_L_254 : Cond.methodLink RL 254 yX6_save ∈ gW := gW_at 360 (by decide +kernel) (by decide +kernel)
theorem sv_L_254 : GoodIn gW (wsV RL 254 RX6 yX6_save (Cond.code yX6_save cX6_save 1 (some .int) :: gW)) := gIn_V ml_L_254 wi_X6_save we_X6_save ini_X6 wc_X6_save
theorem ml_L_257 : Cond.methodLink RL 257 yX7_save ∈ gW := gW_at 1589 (by decide +kernel) (by decide +kernel)
theorem sv_L_257 : GoodIn gW (wsV RL 257 RX7 yX7_save (Cond.code yX7_save cX7_save 1 (some .int) :: gW)) := gIn_V ml_L_257 wi_X7_save we_X7_save ini_X7 wc_X7_save
theorem ml_L_258 : Cond.methodLink RL 258 yL_restore ∈ gW := gW_at 1067 (by decide +kernel) (by decide +kernel)
theorem ml_L_260 : Cond.methodLink RL 260 yX7_restore ∈ gW := gW_at 1593 (by decide +kernel) (by decide +kernel)
theorem sv_L_260 : GoodIn gW (wsV RL 260 RX7 yX7_restore (Cond.code yX7_restore cX7_restore 1 (some .int) :: gW)) := gIn_V ml_L_260 wi_X7_restore we_X7_restore ini_X7 wc_X7_restore
