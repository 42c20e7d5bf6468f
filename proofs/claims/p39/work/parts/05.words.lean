/-! printed by wip/p39/mk_words.py: words by their places, methods with their room, call sites -/
theorem gW_r (ws : List Cond) (ps : List Nat) (hp : ws = ps.filterMap (fun i => lw_tbl[i]?)) (h : ws.all goodWord = true) : ∀ w ∈ ws, w ∈ gW := by
  intro w hw
  have h1 := List.all_eq_true.mp h w hw
  rw [hp] at hw
  obtain ⟨i, -, hi⟩ := List.mem_filterMap.mp hw
  exact List.mem_filter.mpr ⟨(by first | exact List.mem_of_getElem? hi | exact List.getElem?_mem hi), h1⟩
def gRoomB (Y : gY) (M : gM) (cu su : Nat) : Bool := Nat.ble (Y.2.2.2.2.frames + 1) M.2.2.2.2.2.2.frames && (Nat.ble (8 + (Y.2.2.1 + 11) + Y.2.2.2.2.locals) M.2.2.2.2.2.2.locals && (Nat.ble (cu + Y.2.2.2.2.cells) M.2.2.2.2.2.2.cells && Nat.ble (su + Y.2.2.2.2.slots) M.2.2.2.2.2.2.slots))
theorem gRoom_of {Y : gY} {M : gM} {cu su : Nat} (h : gRoomB Y M cu su = true) : gRoom Y M cu su := by
  simp only [gRoomB, Bool.and_eq_true] at h
  exact ⟨Nat.le_of_ble_eq_true h.1, Nat.le_of_ble_eq_true h.2.1, Nat.le_of_ble_eq_true h.2.2.1, Nat.le_of_ble_eq_true h.2.2.2⟩

theorem inX0 : ∀ w ∈ u_ws RX0 TX0 4, w ∈ gW := gW_r _ [116, 118, 120, 122] (by decide +kernel) (by decide +kernel)
theorem ini_X0 : Cond.initialized RX0 ∈ gW := gW_at 12 (by decide +kernel) (by decide +kernel)
theorem new_X0 : Cond.instantiable RX0 4 ∈ gW := gW_at 99 (by decide +kernel) (by decide +kernel)
theorem inX1 : ∀ w ∈ u_ws RX1 TX1 3, w ∈ gW := gW_r _ [178, 180, 182] (by decide +kernel) (by decide +kernel)
theorem ini_X1 : Cond.initialized RX1 ∈ gW := gW_at 13 (by decide +kernel) (by decide +kernel)
theorem new_X1 : Cond.instantiable RX1 3 ∈ gW := gW_at 166 (by decide +kernel) (by decide +kernel)
theorem inX2 : ∀ w ∈ u_ws RX2 TX2 6, w ∈ gW := gW_r _ [85, 87, 89, 91, 93, 95] (by decide +kernel) (by decide +kernel)
theorem ini_X2 : Cond.initialized RX2 ∈ gW := gW_at 11 (by decide +kernel) (by decide +kernel)
theorem new_X2 : Cond.instantiable RX2 6 ∈ gW := gW_at 63 (by decide +kernel) (by decide +kernel)
theorem inX3 : ∀ w ∈ u_ws RX3 TX3 8, w ∈ gW := gW_r _ [202, 204, 206, 208, 210, 212, 214, 216] (by decide +kernel) (by decide +kernel)
theorem ini_X3 : Cond.initialized RX3 ∈ gW := gW_at 14 (by decide +kernel) (by decide +kernel)
theorem new_X3 : Cond.instantiable RX3 8 ∈ gW := gW_at 186 (by decide +kernel) (by decide +kernel)
theorem inX4 : ∀ w ∈ u_ws RX4 TX4 9, w ∈ gW := gW_r _ [146, 148, 150, 152, 154, 156, 158, 160, 162] (by decide +kernel) (by decide +kernel)
theorem ini_X4 : Cond.initialized RX4 ∈ gW := gW_at 10 (by decide +kernel) (by decide +kernel)
theorem new_X4 : Cond.instantiable RX4 9 ∈ gW := gW_at 52 (by decide +kernel) (by decide +kernel)
theorem inX5 : ∀ w ∈ u_ws RX5 TX5 3, w ∈ gW := gW_r _ [491, 493, 495] (by decide +kernel) (by decide +kernel)
theorem ini_X5 : Cond.initialized RX5 ∈ gW := gW_at 24 (by decide +kernel) (by decide +kernel)
theorem new_X5 : Cond.instantiable RX5 3 ∈ gW := gW_at 478 (by decide +kernel) (by decide +kernel)
theorem inX6 : ∀ w ∈ u_ws RX6 TX6 8, w ∈ gW := gW_r _ [228, 230, 232, 234, 236, 238, 240, 242] (by decide +kernel) (by decide +kernel)
theorem ini_X6 : Cond.initialized RX6 ∈ gW := gW_at 9 (by decide +kernel) (by decide +kernel)
theorem new_X6 : Cond.instantiable RX6 8 ∈ gW := gW_at 44 (by decide +kernel) (by decide +kernel)
theorem inJ0 : ∀ w ∈ u_ws RJ0 TJ0 4, w ∈ gW := gW_r _ [446, 448, 1222, 1224] (by decide +kernel) (by decide +kernel)
theorem ini_J0 : Cond.initialized RJ0 ∈ gW := gW_at 23 (by decide +kernel) (by decide +kernel)
theorem new_J0 : Cond.instantiable RJ0 4 ∈ gW := gW_at 445 (by decide +kernel) (by decide +kernel)
theorem inJ4 : ∀ w ∈ u_ws RJ4 TJ4 4, w ∈ gW := gW_r _ [1009, 1011, 1013, 1015] (by decide +kernel) (by decide +kernel)
theorem ini_J4 : Cond.initialized RJ4 ∈ gW := gW_at 32 (by decide +kernel) (by decide +kernel)
theorem new_J4 : Cond.instantiable RJ4 4 ∈ gW := gW_at 988 (by decide +kernel) (by decide +kernel)
theorem inJx00060 : ∀ w ∈ u_ws RJx00060 TJx00060 6, w ∈ gW := gW_r _ [434, 435, 436, 437, 438, 439] (by decide +kernel) (by decide +kernel)
theorem ini_Jx00060 : Cond.initialized RJx00060 ∈ gW := gW_at 22 (by decide +kernel) (by decide +kernel)
theorem new_Jx00060 : Cond.instantiable RJx00060 6 ∈ gW := gW_at 427 (by decide +kernel) (by decide +kernel)
theorem ini_L : Cond.initialized RL ∈ gW := gW_at 8 (by decide +kernel) (by decide +kernel)
theorem arr_int : Cond.arrayClass .int ∈ gW := gW_at 98 (by decide +kernel) (by decide +kernel)
theorem arr_char : Cond.arrayClass .char ∈ gW := gW_at 219 (by decide +kernel) (by decide +kernel)
theorem arr_long : Cond.arrayClass .long ∈ gW := gW_at 1018 (by decide +kernel) (by decide +kernel)
theorem arr_byte : Cond.arrayClass .byte ∈ gW := gW_at 338 (by decide +kernel) (by decide +kernel)
theorem obj_inst : Cond.instanceMethod Lib.objectInit ∈ gW := gW_at 49 (by decide +kernel) (by decide +kernel)
theorem obj_code : Cond.code Lib.objectInit ⟨#[0xb1]⟩ 1 none ∈ gW := gW_at 50 (by decide +kernel) (by decide +kernel)
abbrev YX0_init : gY := (yX0_init, cX0_init, 1, none, { frames := 1, cells := 1, slots := 4, locals := 24 })
abbrev MX0_init : gM := (cX0_init, 1, RX0, none, [], "<init>", YX0_init.2.2.2.2)
theorem yn_X0_init : gName yX0_init 0 := ⟨by decide +kernel, by decide +kernel, by decide +kernel⟩
theorem wc_X0_init : Cond.code yX0_init cX0_init 1 none ∈ gW := gW_at 102 (by decide +kernel) (by decide +kernel)
theorem wi_X0_init : Cond.instanceMethod yX0_init ∈ gW := gW_at 101 (by decide +kernel) (by decide +kernel)
abbrev YX0_copyFrom : gY := (yX0_copyFrom, cX0_copyFrom, 3, none, { frames := 0, cells := 0, slots := 0, locals := 0 })
abbrev MX0_copyFrom : gM := (cX0_copyFrom, 3, RX0, none, [], "copyFrom", YX0_copyFrom.2.2.2.2)
theorem yn_X0_copyFrom : gName yX0_copyFrom 1 := ⟨by decide +kernel, by decide +kernel, by decide +kernel⟩
theorem wc_X0_copyFrom : Cond.code yX0_copyFrom cX0_copyFrom 3 none ∈ gW := gW_at 354 (by decide +kernel) (by decide +kernel)
theorem wi_X0_copyFrom : Cond.instanceMethod yX0_copyFrom ∈ gW := gW_at 352 (by decide +kernel) (by decide +kernel)
theorem we_X0_copyFrom : Cond.selects RX0 yX0_copyFrom yX0_copyFrom ∈ gW := gW_at 353 (by decide +kernel) (by decide +kernel)
abbrev YX0_hasStarted : gY := (yX0_hasStarted, cX0_hasStarted, 1, (some .boolean), { frames := 0, cells := 0, slots := 0, locals := 0 })
abbrev MX0_hasStarted : gM := (cX0_hasStarted, 1, RX0, (some .boolean), [], "hasStarted", YX0_hasStarted.2.2.2.2)
theorem yn_X0_hasStarted : gName yX0_hasStarted 0 := ⟨by decide +kernel, by decide +kernel, by decide +kernel⟩
theorem wc_X0_hasStarted : Cond.code yX0_hasStarted cX0_hasStarted 1 (some .boolean) ∈ gW := gW_at 521 (by decide +kernel) (by decide +kernel)
theorem wi_X0_hasStarted : Cond.instanceMethod yX0_hasStarted ∈ gW := gW_at 519 (by decide +kernel) (by decide +kernel)
theorem we_X0_hasStarted : Cond.selects RX0 yX0_hasStarted yX0_hasStarted ∈ gW := gW_at 520 (by decide +kernel) (by decide +kernel)
abbrev YX0_isDone : gY := (yX0_isDone, cX0_isDone, 1, (some .boolean), { frames := 3, cells := 0, slots := 0, locals := 65 })
abbrev MX0_isDone : gM := (cX0_isDone, 1, RX0, (some .boolean), [], "isDone", YX0_isDone.2.2.2.2)
theorem yn_X0_isDone : gName yX0_isDone 0 := ⟨by decide +kernel, by decide +kernel, by decide +kernel⟩
theorem wc_X0_isDone : Cond.code yX0_isDone cX0_isDone 1 (some .boolean) ∈ gW := gW_at 660 (by decide +kernel) (by decide +kernel)
theorem wi_X0_isDone : Cond.instanceMethod yX0_isDone ∈ gW := gW_at 658 (by decide +kernel) (by decide +kernel)
theorem we_X0_isDone : Cond.selects RX0 yX0_isDone yX0_isDone ∈ gW := gW_at 659 (by decide +kernel) (by decide +kernel)
abbrev YX0_mileWithLead : gY := (yX0_mileWithLead, cX0_mileWithLead, 3, (some .int), { frames := 0, cells := 0, slots := 0, locals := 0 })
abbrev MX0_mileWithLead : gM := (cX0_mileWithLead, 3, RX0, (some .int), [], "mileWithLead", YX0_mileWithLead.2.2.2.2)
theorem yn_X0_mileWithLead : gName yX0_mileWithLead 2 := ⟨by decide +kernel, by decide +kernel, by decide +kernel⟩
theorem wc_X0_mileWithLead : Cond.code yX0_mileWithLead cX0_mileWithLead 3 (some .int) ∈ gW := gW_at 596 (by decide +kernel) (by decide +kernel)
theorem wi_X0_mileWithLead : Cond.instanceMethod yX0_mileWithLead ∈ gW := gW_at 594 (by decide +kernel) (by decide +kernel)
theorem we_X0_mileWithLead : Cond.selects RX0 yX0_mileWithLead yX0_mileWithLead ∈ gW := gW_at 595 (by decide +kernel) (by decide +kernel)
abbrev YX0_mileOfTruck : gY := (yX0_mileOfTruck, cX0_mileOfTruck, 2, (some .int), { frames := 1, cells := 0, slots := 0, locals := 22 })
abbrev MX0_mileOfTruck : gM := (cX0_mileOfTruck, 2, RX0, (some .int), [], "mileOfTruck", YX0_mileOfTruck.2.2.2.2)
theorem yn_X0_mileOfTruck : gName yX0_mileOfTruck 1 := ⟨by decide +kernel, by decide +kernel, by decide +kernel⟩
theorem wc_X0_mileOfTruck : Cond.code yX0_mileOfTruck cX0_mileOfTruck 2 (some .int) ∈ gW := gW_at 635 (by decide +kernel) (by decide +kernel)
theorem wi_X0_mileOfTruck : Cond.instanceMethod yX0_mileOfTruck ∈ gW := gW_at 633 (by decide +kernel) (by decide +kernel)
theorem we_X0_mileOfTruck : Cond.selects RX0 yX0_mileOfTruck yX0_mileOfTruck ∈ gW := gW_at 634 (by decide +kernel) (by decide +kernel)
abbrev YX0_countOnRoad : gY := (yX0_countOnRoad, cX0_countOnRoad, 3, (some .int), { frames := 2, cells := 0, slots := 0, locals := 43 })
abbrev MX0_countOnRoad : gM := (cX0_countOnRoad, 3, RX0, (some .int), [], "countOnRoad", YX0_countOnRoad.2.2.2.2)
theorem yn_X0_countOnRoad : gName yX0_countOnRoad 0 := ⟨by decide +kernel, by decide +kernel, by decide +kernel⟩
theorem wc_X0_countOnRoad : Cond.code yX0_countOnRoad cX0_countOnRoad 3 (some .int) ∈ gW := gW_at 670 (by decide +kernel) (by decide +kernel)
theorem wi_X0_countOnRoad : Cond.instanceMethod yX0_countOnRoad ∈ gW := gW_at 668 (by decide +kernel) (by decide +kernel)
theorem we_X0_countOnRoad : Cond.selects RX0 yX0_countOnRoad yX0_countOnRoad ∈ gW := gW_at 669 (by decide +kernel) (by decide +kernel)
abbrev YX0_countArrived : gY := (yX0_countArrived, cX0_countArrived, 3, (some .int), { frames := 2, cells := 0, slots := 0, locals := 43 })
abbrev MX0_countArrived : gM := (cX0_countArrived, 3, RX0, (some .int), [], "countArrived", YX0_countArrived.2.2.2.2)
theorem yn_X0_countArrived : gName yX0_countArrived 0 := ⟨by decide +kernel, by decide +kernel, by decide +kernel⟩
theorem wc_X0_countArrived : Cond.code yX0_countArrived cX0_countArrived 3 (some .int) ∈ gW := gW_at 664 (by decide +kernel) (by decide +kernel)
theorem wi_X0_countArrived : Cond.instanceMethod yX0_countArrived ∈ gW := gW_at 662 (by decide +kernel) (by decide +kernel)
theorem we_X0_countArrived : Cond.selects RX0 yX0_countArrived yX0_countArrived ∈ gW := gW_at 663 (by decide +kernel) (by decide +kernel)
abbrev YX0_placeAt : gY := (yX0_placeAt, cX0_placeAt, 3, (some .int), { frames := 1, cells := 0, slots := 0, locals := 22 })
abbrev MX0_placeAt : gM := (cX0_placeAt, 3, RX0, (some .int), [], "placeAt", YX0_placeAt.2.2.2.2)
theorem yn_X0_placeAt : gName yX0_placeAt 1 := ⟨by decide +kernel, by decide +kernel, by decide +kernel⟩
theorem wc_X0_placeAt : Cond.code yX0_placeAt cX0_placeAt 3 (some .int) ∈ gW := gW_at 605 (by decide +kernel) (by decide +kernel)
theorem wi_X0_placeAt : Cond.instanceMethod yX0_placeAt ∈ gW := gW_at 603 (by decide +kernel) (by decide +kernel)
theorem we_X0_placeAt : Cond.selects RX0 yX0_placeAt yX0_placeAt ∈ gW := gW_at 604 (by decide +kernel) (by decide +kernel)
abbrev YX0_tonnesNotArrived : gY := (yX0_tonnesNotArrived, cX0_tonnesNotArrived, 4, (some .int), { frames := 2, cells := 0, slots := 0, locals := 43 })
abbrev MX0_tonnesNotArrived : gM := (cX0_tonnesNotArrived, 4, RX0, (some .int), [], "tonnesNotArrived", YX0_tonnesNotArrived.2.2.2.2)
theorem yn_X0_tonnesNotArrived : gName yX0_tonnesNotArrived 0 := ⟨by decide +kernel, by decide +kernel, by decide +kernel⟩
theorem wc_X0_tonnesNotArrived : Cond.code yX0_tonnesNotArrived cX0_tonnesNotArrived 4 (some .int) ∈ gW := gW_at 872 (by decide +kernel) (by decide +kernel)
theorem wi_X0_tonnesNotArrived : Cond.instanceMethod yX0_tonnesNotArrived ∈ gW := gW_at 870 (by decide +kernel) (by decide +kernel)
theorem we_X0_tonnesNotArrived : Cond.selects RX0 yX0_tonnesNotArrived yX0_tonnesNotArrived ∈ gW := gW_at 871 (by decide +kernel) (by decide +kernel)
abbrev YX0_strainAheadOf : gY := (yX0_strainAheadOf, cX0_strainAheadOf, 6, (some .int), { frames := 2, cells := 0, slots := 0, locals := 43 })
abbrev MX0_strainAheadOf : gM := (cX0_strainAheadOf, 6, RX0, (some .int), [], "strainAheadOf", YX0_strainAheadOf.2.2.2.2)
theorem yn_X0_strainAheadOf : gName yX0_strainAheadOf 2 := ⟨by decide +kernel, by decide +kernel, by decide +kernel⟩
theorem wc_X0_strainAheadOf : Cond.code yX0_strainAheadOf cX0_strainAheadOf 6 (some .int) ∈ gW := gW_at 949 (by decide +kernel) (by decide +kernel)
theorem wi_X0_strainAheadOf : Cond.instanceMethod yX0_strainAheadOf ∈ gW := gW_at 947 (by decide +kernel) (by decide +kernel)
theorem we_X0_strainAheadOf : Cond.selects RX0 yX0_strainAheadOf yX0_strainAheadOf ∈ gW := gW_at 948 (by decide +kernel) (by decide +kernel)
abbrev YX1_init : gY := (yX1_init, cX1_init, 2, none, { frames := 3, cells := 201, slots := 1144, locals := 65 })
abbrev MX1_init : gM := (cX1_init, 2, RX1, none, [], "<init>", YX1_init.2.2.2.2)
theorem yn_X1_init : gName yX1_init 0 := ⟨by decide +kernel, by decide +kernel, by decide +kernel⟩
theorem wc_X1_init : Cond.code yX1_init cX1_init 2 none ∈ gW := gW_at 169 (by decide +kernel) (by decide +kernel)
theorem wi_X1_init : Cond.instanceMethod yX1_init ∈ gW := gW_at 168 (by decide +kernel) (by decide +kernel)
abbrev YX1_keep : gY := (yX1_keep, cX1_keep, 2, none, { frames := 2, cells := 0, slots := 0, locals := 48 })
abbrev MX1_keep : gM := (cX1_keep, 2, RX1, none, [], "keep", YX1_keep.2.2.2.2)
theorem yn_X1_keep : gName yX1_keep 1 := ⟨by decide +kernel, by decide +kernel, by decide +kernel⟩
theorem wc_X1_keep : Cond.code yX1_keep cX1_keep 2 none ∈ gW := gW_at 342 (by decide +kernel) (by decide +kernel)
theorem wi_X1_keep : Cond.instanceMethod yX1_keep ∈ gW := gW_at 340 (by decide +kernel) (by decide +kernel)
theorem we_X1_keep : Cond.selects RX1 yX1_keep yX1_keep ∈ gW := gW_at 341 (by decide +kernel) (by decide +kernel)
abbrev YX1_takeBack : gY := (yX1_takeBack, cX1_takeBack, 2, none, { frames := 2, cells := 0, slots := 0, locals := 44 })
abbrev MX1_takeBack : gM := (cX1_takeBack, 2, RX1, none, [], "takeBack", YX1_takeBack.2.2.2.2)
theorem yn_X1_takeBack : gName yX1_takeBack 1 := ⟨by decide +kernel, by decide +kernel, by decide +kernel⟩
theorem wc_X1_takeBack : Cond.code yX1_takeBack cX1_takeBack 2 none ∈ gW := gW_at 922 (by decide +kernel) (by decide +kernel)
theorem wi_X1_takeBack : Cond.instanceMethod yX1_takeBack ∈ gW := gW_at 920 (by decide +kernel) (by decide +kernel)
theorem we_X1_takeBack : Cond.selects RX1 yX1_takeBack yX1_takeBack ∈ gW := gW_at 921 (by decide +kernel) (by decide +kernel)
abbrev YX2_init : gY := (yX2_init, cX2_init, 1, none, { frames := 1, cells := 0, slots := 0, locals := 24 })
abbrev MX2_init : gM := (cX2_init, 1, RX2, none, [], "<init>", YX2_init.2.2.2.2)
theorem yn_X2_init : gName yX2_init 0 := ⟨by decide +kernel, by decide +kernel, by decide +kernel⟩
theorem wc_X2_init : Cond.code yX2_init cX2_init 1 none ∈ gW := gW_at 66 (by decide +kernel) (by decide +kernel)
theorem wi_X2_init : Cond.instanceMethod yX2_init ∈ gW := gW_at 65 (by decide +kernel) (by decide +kernel)
abbrev YX2_copyFrom : gY := (yX2_copyFrom, cX2_copyFrom, 2, none, { frames := 0, cells := 0, slots := 0, locals := 0 })
abbrev MX2_copyFrom : gM := (cX2_copyFrom, 2, RX2, none, [], "copyFrom", YX2_copyFrom.2.2.2.2)
theorem yn_X2_copyFrom : gName yX2_copyFrom 1 := ⟨by decide +kernel, by decide +kernel, by decide +kernel⟩
theorem wc_X2_copyFrom : Cond.code yX2_copyFrom cX2_copyFrom 2 none ∈ gW := gW_at 350 (by decide +kernel) (by decide +kernel)
theorem wi_X2_copyFrom : Cond.instanceMethod yX2_copyFrom ∈ gW := gW_at 348 (by decide +kernel) (by decide +kernel)
theorem we_X2_copyFrom : Cond.selects RX2 yX2_copyFrom yX2_copyFrom ∈ gW := gW_at 349 (by decide +kernel) (by decide +kernel)
abbrev YX2_carry : gY := (yX2_carry, cX2_carry, 2, none, { frames := 1, cells := 0, slots := 0, locals := 48 })
abbrev MX2_carry : gM := (cX2_carry, 2, RX2, none, [], "carry", YX2_carry.2.2.2.2)
theorem yn_X2_carry : gName yX2_carry 1 := ⟨by decide +kernel, by decide +kernel, by decide +kernel⟩
theorem wc_X2_carry : Cond.code yX2_carry cX2_carry 2 none ∈ gW := gW_at 640 (by decide +kernel) (by decide +kernel)
theorem wi_X2_carry : Cond.instanceMethod yX2_carry ∈ gW := gW_at 638 (by decide +kernel) (by decide +kernel)
theorem we_X2_carry : Cond.selects RX2 yX2_carry yX2_carry ∈ gW := gW_at 639 (by decide +kernel) (by decide +kernel)
abbrev YX2_cracksAfter : gY := (yX2_cracksAfter, cX2_cracksAfter, 2, (some .int), { frames := 1, cells := 0, slots := 0, locals := 48 })
abbrev MX2_cracksAfter : gM := (cX2_cracksAfter, 2, RX2, (some .int), [], "cracksAfter", YX2_cracksAfter.2.2.2.2)
theorem yn_X2_cracksAfter : gName yX2_cracksAfter 1 := ⟨by decide +kernel, by decide +kernel, by decide +kernel⟩
theorem wc_X2_cracksAfter : Cond.code yX2_cracksAfter cX2_cracksAfter 2 (some .int) ∈ gW := gW_at 954 (by decide +kernel) (by decide +kernel)
theorem wi_X2_cracksAfter : Cond.instanceMethod yX2_cracksAfter ∈ gW := gW_at 952 (by decide +kernel) (by decide +kernel)
theorem we_X2_cracksAfter : Cond.selects RX2 yX2_cracksAfter yX2_cracksAfter ∈ gW := gW_at 953 (by decide +kernel) (by decide +kernel)
abbrev YX2_liveThroughDay : gY := (yX2_liveThroughDay, cX2_liveThroughDay, 2, none, { frames := 1, cells := 0, slots := 0, locals := 48 })
abbrev MX2_liveThroughDay : gM := (cX2_liveThroughDay, 2, RX2, none, [], "liveThroughDay", YX2_liveThroughDay.2.2.2.2)
theorem yn_X2_liveThroughDay : gName yX2_liveThroughDay 1 := ⟨by decide +kernel, by decide +kernel, by decide +kernel⟩
theorem wc_X2_liveThroughDay : Cond.code yX2_liveThroughDay cX2_liveThroughDay 2 none ∈ gW := gW_at 384 (by decide +kernel) (by decide +kernel)
theorem wi_X2_liveThroughDay : Cond.instanceMethod yX2_liveThroughDay ∈ gW := gW_at 382 (by decide +kernel) (by decide +kernel)
theorem we_X2_liveThroughDay : Cond.selects RX2 yX2_liveThroughDay yX2_liveThroughDay ∈ gW := gW_at 383 (by decide +kernel) (by decide +kernel)
abbrev YX3_init : gY := (yX3_init, cX3_init, 1, none, { frames := 1, cells := 5, slots := 140, locals := 24 })
abbrev MX3_init : gM := (cX3_init, 1, RX3, none, [], "<init>", YX3_init.2.2.2.2)
theorem yn_X3_init : gName yX3_init 0 := ⟨by decide +kernel, by decide +kernel, by decide +kernel⟩
theorem wc_X3_init : Cond.code yX3_init cX3_init 1 none ∈ gW := gW_at 189 (by decide +kernel) (by decide +kernel)
theorem wi_X3_init : Cond.instanceMethod yX3_init ∈ gW := gW_at 188 (by decide +kernel) (by decide +kernel)
abbrev YX3_parse : gY := (yX3_parse, cX3_parse, 1, (some .int), { frames := 4, cells := 0, slots := 0, locals := 86 })
abbrev MX3_parse : gM := (cX3_parse, 1, RX3, (some .int), [], "parse", YX3_parse.2.2.2.2)
theorem yn_X3_parse : gName yX3_parse 0 := ⟨by decide +kernel, by decide +kernel, by decide +kernel⟩
theorem wc_X3_parse : Cond.code yX3_parse cX3_parse 1 (some .int) ∈ gW := gW_at 1273 (by decide +kernel) (by decide +kernel)
theorem wi_X3_parse : Cond.instanceMethod yX3_parse ∈ gW := gW_at 1271 (by decide +kernel) (by decide +kernel)
theorem we_X3_parse : Cond.selects RX3 yX3_parse yX3_parse ∈ gW := gW_at 1272 (by decide +kernel) (by decide +kernel)
abbrev YX3_parseOrder : gY := (yX3_parseOrder, cX3_parseOrder, 2, (some .boolean), { frames := 3, cells := 0, slots := 0, locals := 65 })
abbrev MX3_parseOrder : gM := (cX3_parseOrder, 2, RX3, (some .boolean), [], "parseOrder", YX3_parseOrder.2.2.2.2)
theorem yn_X3_parseOrder : gName yX3_parseOrder 0 := ⟨by decide +kernel, by decide +kernel, by decide +kernel⟩
theorem wc_X3_parseOrder : Cond.code yX3_parseOrder cX3_parseOrder 2 (some .boolean) ∈ gW := gW_at 1277 (by decide +kernel) (by decide +kernel)
theorem wi_X3_parseOrder : Cond.instanceMethod yX3_parseOrder ∈ gW := gW_at 1276 (by decide +kernel) (by decide +kernel)
theorem we_X3_parseOrder : Cond.selects RX3 yX3_parseOrder yX3_parseOrder ∈ gW := gW_at 1 (by decide +kernel) (by decide +kernel)
abbrev YX3_parseTemperature : gY := (yX3_parseTemperature, cX3_parseTemperature, 3, (some .boolean), { frames := 2, cells := 0, slots := 0, locals := 43 })
abbrev MX3_parseTemperature : gM := (cX3_parseTemperature, 3, RX3, (some .boolean), [], "parseTemperature", YX3_parseTemperature.2.2.2.2)
theorem yn_X3_parseTemperature : gName yX3_parseTemperature 0 := ⟨by decide +kernel, by decide +kernel, by decide +kernel⟩
theorem wc_X3_parseTemperature : Cond.code yX3_parseTemperature cX3_parseTemperature 3 (some .boolean) ∈ gW := gW_at 1289 (by decide +kernel) (by decide +kernel)
theorem wi_X3_parseTemperature : Cond.instanceMethod yX3_parseTemperature ∈ gW := gW_at 1288 (by decide +kernel) (by decide +kernel)
theorem we_X3_parseTemperature : Cond.selects RX3 yX3_parseTemperature yX3_parseTemperature ∈ gW := gW_at 4 (by decide +kernel) (by decide +kernel)
abbrev YX3_parseJoin : gY := (yX3_parseJoin, cX3_parseJoin, 1, (some .boolean), { frames := 1, cells := 0, slots := 0, locals := 21 })
abbrev MX3_parseJoin : gM := (cX3_parseJoin, 1, RX3, (some .boolean), [], "parseJoin", YX3_parseJoin.2.2.2.2)
theorem yn_X3_parseJoin : gName yX3_parseJoin 0 := ⟨by decide +kernel, by decide +kernel, by decide +kernel⟩
theorem wc_X3_parseJoin : Cond.code yX3_parseJoin cX3_parseJoin 1 (some .boolean) ∈ gW := gW_at 1297 (by decide +kernel) (by decide +kernel)
theorem wi_X3_parseJoin : Cond.instanceMethod yX3_parseJoin ∈ gW := gW_at 1296 (by decide +kernel) (by decide +kernel)
theorem we_X3_parseJoin : Cond.selects RX3 yX3_parseJoin yX3_parseJoin ∈ gW := gW_at 6 (by decide +kernel) (by decide +kernel)
abbrev YX3_skip : gY := (yX3_skip, cX3_skip, 2, (some .boolean), { frames := 0, cells := 0, slots := 0, locals := 0 })
abbrev MX3_skip : gM := (cX3_skip, 2, RX3, (some .boolean), [], "skip", YX3_skip.2.2.2.2)
theorem yn_X3_skip : gName yX3_skip 1 := ⟨by decide +kernel, by decide +kernel, by decide +kernel⟩
theorem wc_X3_skip : Cond.code yX3_skip cX3_skip 2 (some .boolean) ∈ gW := gW_at 1293 (by decide +kernel) (by decide +kernel)
theorem wi_X3_skip : Cond.instanceMethod yX3_skip ∈ gW := gW_at 1292 (by decide +kernel) (by decide +kernel)
theorem we_X3_skip : Cond.selects RX3 yX3_skip yX3_skip ∈ gW := gW_at 5 (by decide +kernel) (by decide +kernel)
abbrev YX3_parseNumber : gY := (yX3_parseNumber, cX3_parseNumber, 3, (some .int), { frames := 1, cells := 0, slots := 0, locals := 21 })
abbrev MX3_parseNumber : gM := (cX3_parseNumber, 3, RX3, (some .int), [], "parseNumber", YX3_parseNumber.2.2.2.2)
theorem yn_X3_parseNumber : gName yX3_parseNumber 0 := ⟨by decide +kernel, by decide +kernel, by decide +kernel⟩
theorem wc_X3_parseNumber : Cond.code yX3_parseNumber cX3_parseNumber 3 (some .int) ∈ gW := gW_at 1281 (by decide +kernel) (by decide +kernel)
theorem wi_X3_parseNumber : Cond.instanceMethod yX3_parseNumber ∈ gW := gW_at 1280 (by decide +kernel) (by decide +kernel)
theorem we_X3_parseNumber : Cond.selects RX3 yX3_parseNumber yX3_parseNumber ∈ gW := gW_at 2 (by decide +kernel) (by decide +kernel)
abbrev YX3_parseDigit : gY := (yX3_parseDigit, cX3_parseDigit, 2, (some .int), { frames := 0, cells := 0, slots := 0, locals := 0 })
abbrev MX3_parseDigit : gM := (cX3_parseDigit, 2, RX3, (some .int), [], "parseDigit", YX3_parseDigit.2.2.2.2)
theorem yn_X3_parseDigit : gName yX3_parseDigit 0 := ⟨by decide +kernel, by decide +kernel, by decide +kernel⟩
theorem wc_X3_parseDigit : Cond.code yX3_parseDigit cX3_parseDigit 2 (some .int) ∈ gW := gW_at 1285 (by decide +kernel) (by decide +kernel)
theorem wi_X3_parseDigit : Cond.instanceMethod yX3_parseDigit ∈ gW := gW_at 1284 (by decide +kernel) (by decide +kernel)
theorem we_X3_parseDigit : Cond.selects RX3 yX3_parseDigit yX3_parseDigit ∈ gW := gW_at 3 (by decide +kernel) (by decide +kernel)
abbrev YX3_carryOut : gY := (yX3_carryOut, cX3_carryOut, 4, (some .int), { frames := 5, cells := 0, slots := 0, locals := 115 })
abbrev MX3_carryOut : gM := (cX3_carryOut, 4, RX3, (some .int), [], "carryOut", YX3_carryOut.2.2.2.2)
theorem yn_X3_carryOut : gName yX3_carryOut 2 := ⟨by decide +kernel, by decide +kernel, by decide +kernel⟩
theorem wc_X3_carryOut : Cond.code yX3_carryOut cX3_carryOut 4 (some .int) ∈ gW := gW_at 1302 (by decide +kernel) (by decide +kernel)
theorem wi_X3_carryOut : Cond.instanceMethod yX3_carryOut ∈ gW := gW_at 1300 (by decide +kernel) (by decide +kernel)
theorem we_X3_carryOut : Cond.selects RX3 yX3_carryOut yX3_carryOut ∈ gW := gW_at 1301 (by decide +kernel) (by decide +kernel)
abbrev YX3_carryOutDrill : gY := (yX3_carryOutDrill, cX3_carryOutDrill, 2, (some .int), { frames := 1, cells := 0, slots := 0, locals := 21 })
abbrev MX3_carryOutDrill : gM := (cX3_carryOutDrill, 2, RX3, (some .int), [], "carryOutDrill", YX3_carryOutDrill.2.2.2.2)
theorem yn_X3_carryOutDrill : gName yX3_carryOutDrill 2 := ⟨by decide +kernel, by decide +kernel, by decide +kernel⟩
theorem wc_X3_carryOutDrill : Cond.code yX3_carryOutDrill cX3_carryOutDrill 2 (some .int) ∈ gW := gW_at 1305 (by decide +kernel) (by decide +kernel)
theorem wt_X3_carryOutDrill : Cond.static yX3_carryOutDrill ∈ gW := gW_at 1304 (by decide +kernel) (by decide +kernel)
abbrev YX3_carryOutMove : gY := (yX3_carryOutMove, cX3_carryOutMove, 3, (some .int), { frames := 3, cells := 0, slots := 0, locals := 93 })
abbrev MX3_carryOutMove : gM := (cX3_carryOutMove, 3, RX3, (some .int), [], "carryOutMove", YX3_carryOutMove.2.2.2.2)
theorem yn_X3_carryOutMove : gName yX3_carryOutMove 3 := ⟨by decide +kernel, by decide +kernel, by decide +kernel⟩
theorem wc_X3_carryOutMove : Cond.code yX3_carryOutMove cX3_carryOutMove 3 (some .int) ∈ gW := gW_at 1311 (by decide +kernel) (by decide +kernel)
theorem wt_X3_carryOutMove : Cond.static yX3_carryOutMove ∈ gW := gW_at 1310 (by decide +kernel) (by decide +kernel)
abbrev YX3_carryOutTemperature : gY := (yX3_carryOutTemperature, cX3_carryOutTemperature, 2, (some .int), { frames := 2, cells := 0, slots := 0, locals := 41 })
abbrev MX3_carryOutTemperature : gM := (cX3_carryOutTemperature, 2, RX3, (some .int), [], "carryOutTemperature", YX3_carryOutTemperature.2.2.2.2)
theorem yn_X3_carryOutTemperature : gName yX3_carryOutTemperature 2 := ⟨by decide +kernel, by decide +kernel, by decide +kernel⟩
theorem wc_X3_carryOutTemperature : Cond.code yX3_carryOutTemperature cX3_carryOutTemperature 2 (some .int) ∈ gW := gW_at 1316 (by decide +kernel) (by decide +kernel)
theorem wt_X3_carryOutTemperature : Cond.static yX3_carryOutTemperature ∈ gW := gW_at 1315 (by decide +kernel) (by decide +kernel)
abbrev YX3_carryOutJoin : gY := (yX3_carryOutJoin, cX3_carryOutJoin, 4, (some .int), { frames := 2, cells := 0, slots := 0, locals := 44 })
abbrev MX3_carryOutJoin : gM := (cX3_carryOutJoin, 4, RX3, (some .int), [], "carryOutJoin", YX3_carryOutJoin.2.2.2.2)
theorem yn_X3_carryOutJoin : gName yX3_carryOutJoin 2 := ⟨by decide +kernel, by decide +kernel, by decide +kernel⟩
theorem wc_X3_carryOutJoin : Cond.code yX3_carryOutJoin cX3_carryOutJoin 4 (some .int) ∈ gW := gW_at 1321 (by decide +kernel) (by decide +kernel)
theorem wi_X3_carryOutJoin : Cond.instanceMethod yX3_carryOutJoin ∈ gW := gW_at 1320 (by decide +kernel) (by decide +kernel)
theorem we_X3_carryOutJoin : Cond.selects RX3 yX3_carryOutJoin yX3_carryOutJoin ∈ gW := gW_at 7 (by decide +kernel) (by decide +kernel)
abbrev YX3_carryOutDays : gY := (yX3_carryOutDays, cX3_carryOutDays, 2, (some .int), { frames := 3, cells := 0, slots := 0, locals := 92 })
abbrev MX3_carryOutDays : gM := (cX3_carryOutDays, 2, RX3, (some .int), [], "carryOutDays", YX3_carryOutDays.2.2.2.2)
theorem yn_X3_carryOutDays : gName yX3_carryOutDays 2 := ⟨by decide +kernel, by decide +kernel, by decide +kernel⟩
theorem wc_X3_carryOutDays : Cond.code yX3_carryOutDays cX3_carryOutDays 2 (some .int) ∈ gW := gW_at 1326 (by decide +kernel) (by decide +kernel)
theorem wt_X3_carryOutDays : Cond.static yX3_carryOutDays ∈ gW := gW_at 1325 (by decide +kernel) (by decide +kernel)
abbrev YX4_init : gY := (yX4_init, cX4_init, 2, none, { frames := 2, cells := 24, slots := 133, locals := 44 })
abbrev MX4_init : gM := (cX4_init, 2, RX4, none, [], "<init>", YX4_init.2.2.2.2)
theorem yn_X4_init : gName yX4_init 0 := ⟨by decide +kernel, by decide +kernel, by decide +kernel⟩
theorem wc_X4_init : Cond.code yX4_init cX4_init 2 none ∈ gW := gW_at 55 (by decide +kernel) (by decide +kernel)
theorem wi_X4_init : Cond.instanceMethod yX4_init ∈ gW := gW_at 54 (by decide +kernel) (by decide +kernel)
abbrev YX4_copyFrom : gY := (yX4_copyFrom, cX4_copyFrom, 3, none, { frames := 1, cells := 0, slots := 0, locals := 22 })
abbrev MX4_copyFrom : gM := (cX4_copyFrom, 3, RX4, none, [], "copyFrom", YX4_copyFrom.2.2.2.2)
theorem yn_X4_copyFrom : gName yX4_copyFrom 1 := ⟨by decide +kernel, by decide +kernel, by decide +kernel⟩
theorem wc_X4_copyFrom : Cond.code yX4_copyFrom cX4_copyFrom 3 none ∈ gW := gW_at 346 (by decide +kernel) (by decide +kernel)
theorem wi_X4_copyFrom : Cond.instanceMethod yX4_copyFrom ∈ gW := gW_at 344 (by decide +kernel) (by decide +kernel)
theorem we_X4_copyFrom : Cond.selects RX4 yX4_copyFrom yX4_copyFrom ∈ gW := gW_at 345 (by decide +kernel) (by decide +kernel)
abbrev YX4_isConvoy : gY := (yX4_isConvoy, cX4_isConvoy, 2, (some .boolean), { frames := 0, cells := 0, slots := 0, locals := 0 })
abbrev MX4_isConvoy : gM := (cX4_isConvoy, 2, RX4, (some .boolean), [], "isConvoy", YX4_isConvoy.2.2.2.2)
theorem yn_X4_isConvoy : gName yX4_isConvoy 1 := ⟨by decide +kernel, by decide +kernel, by decide +kernel⟩
theorem wc_X4_isConvoy : Cond.code yX4_isConvoy cX4_isConvoy 2 (some .boolean) ∈ gW := gW_at 513 (by decide +kernel) (by decide +kernel)
theorem wi_X4_isConvoy : Cond.instanceMethod yX4_isConvoy ∈ gW := gW_at 511 (by decide +kernel) (by decide +kernel)
theorem we_X4_isConvoy : Cond.selects RX4 yX4_isConvoy yX4_isConvoy ∈ gW := gW_at 512 (by decide +kernel) (by decide +kernel)
abbrev YX4_truckIn : gY := (yX4_truckIn, cX4_truckIn, 3, (some (.object "IceConvoys$Truck")), { frames := 1, cells := 0, slots := 0, locals := 21 })
abbrev MX4_truckIn : gM := (cX4_truckIn, 3, RX4, (some (.object "IceConvoys$Truck")), [], "truckIn", YX4_truckIn.2.2.2.2)
theorem yn_X4_truckIn : gName yX4_truckIn 2 := ⟨by decide +kernel, by decide +kernel, by decide +kernel⟩
theorem wc_X4_truckIn : Cond.code yX4_truckIn cX4_truckIn 3 (some (.object "IceConvoys$Truck")) ∈ gW := gW_at 828 (by decide +kernel) (by decide +kernel)
theorem wi_X4_truckIn : Cond.instanceMethod yX4_truckIn ∈ gW := gW_at 826 (by decide +kernel) (by decide +kernel)
theorem we_X4_truckIn : Cond.selects RX4 yX4_truckIn yX4_truckIn ∈ gW := gW_at 827 (by decide +kernel) (by decide +kernel)
abbrev YX4_noteIce : gY := (yX4_noteIce, cX4_noteIce, 2, none, { frames := 0, cells := 0, slots := 0, locals := 0 })
abbrev MX4_noteIce : gM := (cX4_noteIce, 2, RX4, none, [], "noteIce", YX4_noteIce.2.2.2.2)
theorem yn_X4_noteIce : gName yX4_noteIce 1 := ⟨by decide +kernel, by decide +kernel, by decide +kernel⟩
theorem wc_X4_noteIce : Cond.code yX4_noteIce cX4_noteIce 2 none ∈ gW := gW_at 559 (by decide +kernel) (by decide +kernel)
theorem wi_X4_noteIce : Cond.instanceMethod yX4_noteIce ∈ gW := gW_at 557 (by decide +kernel) (by decide +kernel)
theorem we_X4_noteIce : Cond.selects RX4 yX4_noteIce yX4_noteIce ∈ gW := gW_at 558 (by decide +kernel) (by decide +kernel)
abbrev YX4_isDrillGood : gY := (yX4_isDrillGood, cX4_isDrillGood, 2, (some .boolean), { frames := 0, cells := 0, slots := 0, locals := 0 })
abbrev MX4_isDrillGood : gM := (cX4_isDrillGood, 2, RX4, (some .boolean), [], "isDrillGood", YX4_isDrillGood.2.2.2.2)
theorem yn_X4_isDrillGood : gName yX4_isDrillGood 1 := ⟨by decide +kernel, by decide +kernel, by decide +kernel⟩
theorem wc_X4_isDrillGood : Cond.code yX4_isDrillGood cX4_isDrillGood 2 (some .boolean) ∈ gW := gW_at 376 (by decide +kernel) (by decide +kernel)
theorem wi_X4_isDrillGood : Cond.instanceMethod yX4_isDrillGood ∈ gW := gW_at 374 (by decide +kernel) (by decide +kernel)
theorem we_X4_isDrillGood : Cond.selects RX4 yX4_isDrillGood yX4_isDrillGood ∈ gW := gW_at 375 (by decide +kernel) (by decide +kernel)
abbrev YX4_borneByDrill : gY := (yX4_borneByDrill, cX4_borneByDrill, 2, (some .float), { frames := 2, cells := 0, slots := 0, locals := 44 })
abbrev MX4_borneByDrill : gM := (cX4_borneByDrill, 2, RX4, (some .float), [], "borneByDrill", YX4_borneByDrill.2.2.2.2)
theorem yn_X4_borneByDrill : gName yX4_borneByDrill 1 := ⟨by decide +kernel, by decide +kernel, by decide +kernel⟩
theorem wc_X4_borneByDrill : Cond.code yX4_borneByDrill cX4_borneByDrill 2 (some .float) ∈ gW := gW_at 610 (by decide +kernel) (by decide +kernel)
theorem wi_X4_borneByDrill : Cond.instanceMethod yX4_borneByDrill ∈ gW := gW_at 608 (by decide +kernel) (by decide +kernel)
theorem we_X4_borneByDrill : Cond.selects RX4 yX4_borneByDrill yX4_borneByDrill ∈ gW := gW_at 609 (by decide +kernel) (by decide +kernel)
abbrev YX4_borneWithCracks : gY := (yX4_borneWithCracks, cX4_borneWithCracks, 3, (some .float), { frames := 1, cells := 0, slots := 0, locals := 22 })
abbrev MX4_borneWithCracks : gM := (cX4_borneWithCracks, 3, RX4, (some .float), [], "borneWithCracks", YX4_borneWithCracks.2.2.2.2)
theorem yn_X4_borneWithCracks : gName yX4_borneWithCracks 2 := ⟨by decide +kernel, by decide +kernel, by decide +kernel⟩
theorem wc_X4_borneWithCracks : Cond.code yX4_borneWithCracks cX4_borneWithCracks 3 (some .float) ∈ gW := gW_at 614 (by decide +kernel) (by decide +kernel)
theorem wi_X4_borneWithCracks : Cond.instanceMethod yX4_borneWithCracks ∈ gW := gW_at 612 (by decide +kernel) (by decide +kernel)
theorem we_X4_borneWithCracks : Cond.selects RX4 yX4_borneWithCracks yX4_borneWithCracks ∈ gW := gW_at 613 (by decide +kernel) (by decide +kernel)
abbrev YX4_freePlace : gY := (yX4_freePlace, cX4_freePlace, 3, (some .int), { frames := 0, cells := 0, slots := 0, locals := 0 })
abbrev MX4_freePlace : gM := (cX4_freePlace, 3, RX4, (some .int), [], "freePlace", YX4_freePlace.2.2.2.2)
theorem yn_X4_freePlace : gName yX4_freePlace 1 := ⟨by decide +kernel, by decide +kernel, by decide +kernel⟩
theorem wc_X4_freePlace : Cond.code yX4_freePlace cX4_freePlace 3 (some .int) ∈ gW := gW_at 474 (by decide +kernel) (by decide +kernel)
theorem wi_X4_freePlace : Cond.instanceMethod yX4_freePlace ∈ gW := gW_at 472 (by decide +kernel) (by decide +kernel)
theorem we_X4_freePlace : Cond.selects RX4 yX4_freePlace yX4_freePlace ∈ gW := gW_at 473 (by decide +kernel) (by decide +kernel)
abbrev YX4_convoyAt : gY := (yX4_convoyAt, cX4_convoyAt, 3, (some .int), { frames := 2, cells := 0, slots := 0, locals := 44 })
abbrev MX4_convoyAt : gM := (cX4_convoyAt, 3, RX4, (some .int), [], "convoyAt", YX4_convoyAt.2.2.2.2)
theorem yn_X4_convoyAt : gName yX4_convoyAt 1 := ⟨by decide +kernel, by decide +kernel, by decide +kernel⟩
theorem wc_X4_convoyAt : Cond.code yX4_convoyAt cX4_convoyAt 3 (some .int) ∈ gW := gW_at 752 (by decide +kernel) (by decide +kernel)
theorem wi_X4_convoyAt : Cond.instanceMethod yX4_convoyAt ∈ gW := gW_at 750 (by decide +kernel) (by decide +kernel)
theorem we_X4_convoyAt : Cond.selects RX4 yX4_convoyAt yX4_convoyAt ∈ gW := gW_at 751 (by decide +kernel) (by decide +kernel)
abbrev YX4_isTakenByOther : gY := (yX4_isTakenByOther, cX4_isTakenByOther, 4, (some .boolean), { frames := 2, cells := 0, slots := 0, locals := 44 })
abbrev MX4_isTakenByOther : gM := (cX4_isTakenByOther, 4, RX4, (some .boolean), [], "isTakenByOther", YX4_isTakenByOther.2.2.2.2)
theorem yn_X4_isTakenByOther : gName yX4_isTakenByOther 2 := ⟨by decide +kernel, by decide +kernel, by decide +kernel⟩
theorem wc_X4_isTakenByOther : Cond.code yX4_isTakenByOther cX4_isTakenByOther 4 (some .boolean) ∈ gW := gW_at 601 (by decide +kernel) (by decide +kernel)
theorem wi_X4_isTakenByOther : Cond.instanceMethod yX4_isTakenByOther ∈ gW := gW_at 599 (by decide +kernel) (by decide +kernel)
theorem we_X4_isTakenByOther : Cond.selects RX4 yX4_isTakenByOther yX4_isTakenByOther ∈ gW := gW_at 600 (by decide +kernel) (by decide +kernel)
abbrev YX4_joinObstacle : gY := (yX4_joinObstacle, cX4_joinObstacle, 4, (some .int), { frames := 1, cells := 0, slots := 0, locals := 21 })
abbrev MX4_joinObstacle : gM := (cX4_joinObstacle, 4, RX4, (some .int), [], "joinObstacle", YX4_joinObstacle.2.2.2.2)
theorem yn_X4_joinObstacle : gName yX4_joinObstacle 3 := ⟨by decide +kernel, by decide +kernel, by decide +kernel⟩
theorem wc_X4_joinObstacle : Cond.code yX4_joinObstacle cX4_joinObstacle 4 (some .int) ∈ gW := gW_at 509 (by decide +kernel) (by decide +kernel)
theorem wi_X4_joinObstacle : Cond.instanceMethod yX4_joinObstacle ∈ gW := gW_at 507 (by decide +kernel) (by decide +kernel)
theorem we_X4_joinObstacle : Cond.selects RX4 yX4_joinObstacle yX4_joinObstacle ∈ gW := gW_at 508 (by decide +kernel) (by decide +kernel)
abbrev YX4_startObstacle : gY := (yX4_startObstacle, cX4_startObstacle, 2, (some .int), { frames := 4, cells := 0, slots := 0, locals := 93 })
abbrev MX4_startObstacle : gM := (cX4_startObstacle, 2, RX4, (some .int), [], "startObstacle", YX4_startObstacle.2.2.2.2)
theorem yn_X4_startObstacle : gName yX4_startObstacle 1 := ⟨by decide +kernel, by decide +kernel, by decide +kernel⟩
theorem wc_X4_startObstacle : Cond.code yX4_startObstacle cX4_startObstacle 2 (some .int) ∈ gW := gW_at 588 (by decide +kernel) (by decide +kernel)
theorem wi_X4_startObstacle : Cond.instanceMethod yX4_startObstacle ∈ gW := gW_at 586 (by decide +kernel) (by decide +kernel)
theorem we_X4_startObstacle : Cond.selects RX4 yX4_startObstacle yX4_startObstacle ∈ gW := gW_at 587 (by decide +kernel) (by decide +kernel)
abbrev YX4_rollObstacle : gY := (yX4_rollObstacle, cX4_rollObstacle, 2, (some .int), { frames := 4, cells := 0, slots := 0, locals := 93 })
abbrev MX4_rollObstacle : gM := (cX4_rollObstacle, 2, RX4, (some .int), [], "rollObstacle", YX4_rollObstacle.2.2.2.2)
theorem yn_X4_rollObstacle : gName yX4_rollObstacle 1 := ⟨by decide +kernel, by decide +kernel, by decide +kernel⟩
theorem wc_X4_rollObstacle : Cond.code yX4_rollObstacle cX4_rollObstacle 2 (some .int) ∈ gW := gW_at 656 (by decide +kernel) (by decide +kernel)
theorem wi_X4_rollObstacle : Cond.instanceMethod yX4_rollObstacle ∈ gW := gW_at 654 (by decide +kernel) (by decide +kernel)
theorem we_X4_rollObstacle : Cond.selects RX4 yX4_rollObstacle yX4_rollObstacle ∈ gW := gW_at 655 (by decide +kernel) (by decide +kernel)
abbrev YX4_wayObstacle : gY := (yX4_wayObstacle, cX4_wayObstacle, 7, (some .int), { frames := 3, cells := 0, slots := 0, locals := 67 })
abbrev MX4_wayObstacle : gM := (cX4_wayObstacle, 7, RX4, (some .int), [], "wayObstacle", YX4_wayObstacle.2.2.2.2)
theorem yn_X4_wayObstacle : gName yX4_wayObstacle 1 := ⟨by decide +kernel, by decide +kernel, by decide +kernel⟩
theorem wc_X4_wayObstacle : Cond.code yX4_wayObstacle cX4_wayObstacle 7 (some .int) ∈ gW := gW_at 592 (by decide +kernel) (by decide +kernel)
theorem wi_X4_wayObstacle : Cond.instanceMethod yX4_wayObstacle ∈ gW := gW_at 590 (by decide +kernel) (by decide +kernel)
theorem we_X4_wayObstacle : Cond.selects RX4 yX4_wayObstacle yX4_wayObstacle ∈ gW := gW_at 591 (by decide +kernel) (by decide +kernel)
abbrev YX4_letJoin : gY := (yX4_letJoin, cX4_letJoin, 3, none, { frames := 0, cells := 0, slots := 0, locals := 0 })
abbrev MX4_letJoin : gM := (cX4_letJoin, 3, RX4, none, [], "letJoin", YX4_letJoin.2.2.2.2)
theorem yn_X4_letJoin : gName yX4_letJoin 2 := ⟨by decide +kernel, by decide +kernel, by decide +kernel⟩
theorem wc_X4_letJoin : Cond.code yX4_letJoin cX4_letJoin 3 none ∈ gW := gW_at 544 (by decide +kernel) (by decide +kernel)
theorem wi_X4_letJoin : Cond.instanceMethod yX4_letJoin ∈ gW := gW_at 542 (by decide +kernel) (by decide +kernel)
theorem we_X4_letJoin : Cond.selects RX4 yX4_letJoin yX4_letJoin ∈ gW := gW_at 543 (by decide +kernel) (by decide +kernel)
abbrev YX4_advance : gY := (yX4_advance, cX4_advance, 5, none, { frames := 2, cells := 0, slots := 0, locals := 69 })
abbrev MX4_advance : gM := (cX4_advance, 5, RX4, none, [], "advance", YX4_advance.2.2.2.2)
theorem yn_X4_advance : gName yX4_advance 1 := ⟨by decide +kernel, by decide +kernel, by decide +kernel⟩
theorem wc_X4_advance : Cond.code yX4_advance cX4_advance 5 none ∈ gW := gW_at 631 (by decide +kernel) (by decide +kernel)
theorem wi_X4_advance : Cond.instanceMethod yX4_advance ∈ gW := gW_at 629 (by decide +kernel) (by decide +kernel)
theorem we_X4_advance : Cond.selects RX4 yX4_advance yX4_advance ∈ gW := gW_at 630 (by decide +kernel) (by decide +kernel)
abbrev YX4_countRollsAhead : gY := (yX4_countRollsAhead, cX4_countRollsAhead, 5, (some .int), { frames := 4, cells := 0, slots := 0, locals := 96 })
abbrev MX4_countRollsAhead : gM := (cX4_countRollsAhead, 5, RX4, (some .int), [], "countRollsAhead", YX4_countRollsAhead.2.2.2.2)
theorem yn_X4_countRollsAhead : gName yX4_countRollsAhead 1 := ⟨by decide +kernel, by decide +kernel, by decide +kernel⟩
theorem wc_X4_countRollsAhead : Cond.code yX4_countRollsAhead cX4_countRollsAhead 5 (some .int) ∈ gW := gW_at 941 (by decide +kernel) (by decide +kernel)
theorem wi_X4_countRollsAhead : Cond.instanceMethod yX4_countRollsAhead ∈ gW := gW_at 939 (by decide +kernel) (by decide +kernel)
theorem we_X4_countRollsAhead : Cond.selects RX4 yX4_countRollsAhead yX4_countRollsAhead ∈ gW := gW_at 940 (by decide +kernel) (by decide +kernel)
abbrev YX4_couldLeadBe : gY := (yX4_couldLeadBe, cX4_couldLeadBe, 8, (some .boolean), { frames := 3, cells := 0, slots := 0, locals := 69 })
abbrev MX4_couldLeadBe : gM := (cX4_couldLeadBe, 8, RX4, (some .boolean), [], "couldLeadBe", YX4_couldLeadBe.2.2.2.2)
theorem yn_X4_couldLeadBe : gName yX4_couldLeadBe 2 := ⟨by decide +kernel, by decide +kernel, by decide +kernel⟩
theorem wc_X4_couldLeadBe : Cond.code yX4_couldLeadBe cX4_couldLeadBe 8 (some .boolean) ∈ gW := gW_at 945 (by decide +kernel) (by decide +kernel)
theorem wi_X4_couldLeadBe : Cond.instanceMethod yX4_couldLeadBe ∈ gW := gW_at 943 (by decide +kernel) (by decide +kernel)
theorem we_X4_couldLeadBe : Cond.selects RX4 yX4_couldLeadBe yX4_couldLeadBe ∈ gW := gW_at 944 (by decide +kernel) (by decide +kernel)
abbrev YX4_letDaysGoBy : gY := (yX4_letDaysGoBy, cX4_letDaysGoBy, 4, none, { frames := 2, cells := 0, slots := 0, locals := 69 })
abbrev MX4_letDaysGoBy : gM := (cX4_letDaysGoBy, 4, RX4, none, [], "letDaysGoBy", YX4_letDaysGoBy.2.2.2.2)
theorem yn_X4_letDaysGoBy : gName yX4_letDaysGoBy 1 := ⟨by decide +kernel, by decide +kernel, by decide +kernel⟩
theorem wc_X4_letDaysGoBy : Cond.code yX4_letDaysGoBy cX4_letDaysGoBy 4 none ∈ gW := gW_at 380 (by decide +kernel) (by decide +kernel)
theorem wi_X4_letDaysGoBy : Cond.instanceMethod yX4_letDaysGoBy ∈ gW := gW_at 378 (by decide +kernel) (by decide +kernel)
theorem we_X4_letDaysGoBy : Cond.selects RX4 yX4_letDaysGoBy yX4_letDaysGoBy ∈ gW := gW_at 379 (by decide +kernel) (by decide +kernel)
abbrev YX4_countGoodDrills : gY := (yX4_countGoodDrills, cX4_countGoodDrills, 3, (some .int), { frames := 1, cells := 0, slots := 0, locals := 21 })
abbrev MX4_countGoodDrills : gM := (cX4_countGoodDrills, 3, RX4, (some .int), [], "countGoodDrills", YX4_countGoodDrills.2.2.2.2)
theorem yn_X4_countGoodDrills : gName yX4_countGoodDrills 0 := ⟨by decide +kernel, by decide +kernel, by decide +kernel⟩
theorem wc_X4_countGoodDrills : Cond.code yX4_countGoodDrills cX4_countGoodDrills 3 (some .int) ∈ gW := gW_at 372 (by decide +kernel) (by decide +kernel)
theorem wi_X4_countGoodDrills : Cond.instanceMethod yX4_countGoodDrills ∈ gW := gW_at 370 (by decide +kernel) (by decide +kernel)
theorem we_X4_countGoodDrills : Cond.selects RX4 yX4_countGoodDrills yX4_countGoodDrills ∈ gW := gW_at 371 (by decide +kernel) (by decide +kernel)
abbrev YX4_countCracks : gY := (yX4_countCracks, cX4_countCracks, 3, (some .int), { frames := 0, cells := 0, slots := 0, locals := 0 })
abbrev MX4_countCracks : gM := (cX4_countCracks, 3, RX4, (some .int), [], "countCracks", YX4_countCracks.2.2.2.2)
theorem yn_X4_countCracks : gName yX4_countCracks 0 := ⟨by decide +kernel, by decide +kernel, by decide +kernel⟩
theorem wc_X4_countCracks : Cond.code yX4_countCracks cX4_countCracks 3 (some .int) ∈ gW := gW_at 721 (by decide +kernel) (by decide +kernel)
theorem wi_X4_countCracks : Cond.instanceMethod yX4_countCracks ∈ gW := gW_at 719 (by decide +kernel) (by decide +kernel)
theorem we_X4_countCracks : Cond.selects RX4 yX4_countCracks yX4_countCracks ∈ gW := gW_at 720 (by decide +kernel) (by decide +kernel)
abbrev YX4_countInRows : gY := (yX4_countInRows, cX4_countInRows, 3, (some .int), { frames := 0, cells := 0, slots := 0, locals := 0 })
abbrev MX4_countInRows : gM := (cX4_countInRows, 3, RX4, (some .int), [], "countInRows", YX4_countInRows.2.2.2.2)
theorem yn_X4_countInRows : gName yX4_countInRows 0 := ⟨by decide +kernel, by decide +kernel, by decide +kernel⟩
theorem wc_X4_countInRows : Cond.code yX4_countInRows cX4_countInRows 3 (some .int) ∈ gW := gW_at 699 (by decide +kernel) (by decide +kernel)
theorem wi_X4_countInRows : Cond.instanceMethod yX4_countInRows ∈ gW := gW_at 697 (by decide +kernel) (by decide +kernel)
theorem we_X4_countInRows : Cond.selects RX4 yX4_countInRows yX4_countInRows ∈ gW := gW_at 698 (by decide +kernel) (by decide +kernel)
abbrev YX4_countStarted : gY := (yX4_countStarted, cX4_countStarted, 3, (some .int), { frames := 1, cells := 0, slots := 0, locals := 20 })
abbrev MX4_countStarted : gM := (cX4_countStarted, 3, RX4, (some .int), [], "countStarted", YX4_countStarted.2.2.2.2)
theorem yn_X4_countStarted : gName yX4_countStarted 0 := ⟨by decide +kernel, by decide +kernel, by decide +kernel⟩
theorem wc_X4_countStarted : Cond.code yX4_countStarted cX4_countStarted 3 (some .int) ∈ gW := gW_at 703 (by decide +kernel) (by decide +kernel)
theorem wi_X4_countStarted : Cond.instanceMethod yX4_countStarted ∈ gW := gW_at 701 (by decide +kernel) (by decide +kernel)
theorem we_X4_countStarted : Cond.selects RX4 yX4_countStarted yX4_countStarted ∈ gW := gW_at 702 (by decide +kernel) (by decide +kernel)
abbrev YX4_countDone : gY := (yX4_countDone, cX4_countDone, 3, (some .int), { frames := 4, cells := 0, slots := 0, locals := 85 })
abbrev MX4_countDone : gM := (cX4_countDone, 3, RX4, (some .int), [], "countDone", YX4_countDone.2.2.2.2)
theorem yn_X4_countDone : gName yX4_countDone 0 := ⟨by decide +kernel, by decide +kernel, by decide +kernel⟩
theorem wc_X4_countDone : Cond.code yX4_countDone cX4_countDone 3 (some .int) ∈ gW := gW_at 707 (by decide +kernel) (by decide +kernel)
theorem wi_X4_countDone : Cond.instanceMethod yX4_countDone ∈ gW := gW_at 705 (by decide +kernel) (by decide +kernel)
theorem we_X4_countDone : Cond.selects RX4 yX4_countDone yX4_countDone ∈ gW := gW_at 706 (by decide +kernel) (by decide +kernel)
abbrev YX4_countOnRoad : gY := (yX4_countOnRoad, cX4_countOnRoad, 3, (some .int), { frames := 3, cells := 0, slots := 0, locals := 65 })
abbrev MX4_countOnRoad : gM := (cX4_countOnRoad, 3, RX4, (some .int), [], "countOnRoad", YX4_countOnRoad.2.2.2.2)
theorem yn_X4_countOnRoad : gName yX4_countOnRoad 0 := ⟨by decide +kernel, by decide +kernel, by decide +kernel⟩
theorem wc_X4_countOnRoad : Cond.code yX4_countOnRoad cX4_countOnRoad 3 (some .int) ∈ gW := gW_at 711 (by decide +kernel) (by decide +kernel)
theorem wi_X4_countOnRoad : Cond.instanceMethod yX4_countOnRoad ∈ gW := gW_at 709 (by decide +kernel) (by decide +kernel)
theorem we_X4_countOnRoad : Cond.selects RX4 yX4_countOnRoad yX4_countOnRoad ∈ gW := gW_at 710 (by decide +kernel) (by decide +kernel)
abbrev YX4_countArrived : gY := (yX4_countArrived, cX4_countArrived, 3, (some .int), { frames := 3, cells := 0, slots := 0, locals := 65 })
abbrev MX4_countArrived : gM := (cX4_countArrived, 3, RX4, (some .int), [], "countArrived", YX4_countArrived.2.2.2.2)
theorem yn_X4_countArrived : gName yX4_countArrived 0 := ⟨by decide +kernel, by decide +kernel, by decide +kernel⟩
theorem wc_X4_countArrived : Cond.code yX4_countArrived cX4_countArrived 3 (some .int) ∈ gW := gW_at 716 (by decide +kernel) (by decide +kernel)
theorem wi_X4_countArrived : Cond.instanceMethod yX4_countArrived ∈ gW := gW_at 714 (by decide +kernel) (by decide +kernel)
theorem we_X4_countArrived : Cond.selects RX4 yX4_countArrived yX4_countArrived ∈ gW := gW_at 715 (by decide +kernel) (by decide +kernel)
abbrev YX4_tonnesInRows : gY := (yX4_tonnesInRows, cX4_tonnesInRows, 4, (some .int), { frames := 0, cells := 0, slots := 0, locals := 0 })
abbrev MX4_tonnesInRows : gM := (cX4_tonnesInRows, 4, RX4, (some .int), [], "tonnesInRows", YX4_tonnesInRows.2.2.2.2)
theorem yn_X4_tonnesInRows : gName yX4_tonnesInRows 0 := ⟨by decide +kernel, by decide +kernel, by decide +kernel⟩
theorem wc_X4_tonnesInRows : Cond.code yX4_tonnesInRows cX4_tonnesInRows 4 (some .int) ∈ gW := gW_at 864 (by decide +kernel) (by decide +kernel)
theorem wi_X4_tonnesInRows : Cond.instanceMethod yX4_tonnesInRows ∈ gW := gW_at 862 (by decide +kernel) (by decide +kernel)
theorem we_X4_tonnesInRows : Cond.selects RX4 yX4_tonnesInRows yX4_tonnesInRows ∈ gW := gW_at 863 (by decide +kernel) (by decide +kernel)
abbrev YX4_tonnesUnderWay : gY := (yX4_tonnesUnderWay, cX4_tonnesUnderWay, 3, (some .int), { frames := 3, cells := 0, slots := 0, locals := 66 })
abbrev MX4_tonnesUnderWay : gM := (cX4_tonnesUnderWay, 3, RX4, (some .int), [], "tonnesUnderWay", YX4_tonnesUnderWay.2.2.2.2)
theorem yn_X4_tonnesUnderWay : gName yX4_tonnesUnderWay 0 := ⟨by decide +kernel, by decide +kernel, by decide +kernel⟩
theorem wc_X4_tonnesUnderWay : Cond.code yX4_tonnesUnderWay cX4_tonnesUnderWay 3 (some .int) ∈ gW := gW_at 868 (by decide +kernel) (by decide +kernel)
theorem wi_X4_tonnesUnderWay : Cond.instanceMethod yX4_tonnesUnderWay ∈ gW := gW_at 866 (by decide +kernel) (by decide +kernel)
theorem we_X4_tonnesUnderWay : Cond.selects RX4 yX4_tonnesUnderWay yX4_tonnesUnderWay ∈ gW := gW_at 867 (by decide +kernel) (by decide +kernel)
abbrev YX4_hasOneTruckAMile : gY := (yX4_hasOneTruckAMile, cX4_hasOneTruckAMile, 5, (some .boolean), { frames := 2, cells := 0, slots := 0, locals := 43 })
abbrev MX4_hasOneTruckAMile : gM := (cX4_hasOneTruckAMile, 5, RX4, (some .boolean), [], "hasOneTruckAMile", YX4_hasOneTruckAMile.2.2.2.2)
theorem yn_X4_hasOneTruckAMile : gName yX4_hasOneTruckAMile 0 := ⟨by decide +kernel, by decide +kernel, by decide +kernel⟩
theorem wc_X4_hasOneTruckAMile : Cond.code yX4_hasOneTruckAMile cX4_hasOneTruckAMile 5 (some .boolean) ∈ gW := gW_at 876 (by decide +kernel) (by decide +kernel)
theorem wi_X4_hasOneTruckAMile : Cond.instanceMethod yX4_hasOneTruckAMile ∈ gW := gW_at 874 (by decide +kernel) (by decide +kernel)
theorem we_X4_hasOneTruckAMile : Cond.selects RX4 yX4_hasOneTruckAMile yX4_hasOneTruckAMile ∈ gW := gW_at 875 (by decide +kernel) (by decide +kernel)
abbrev YX4_isIceInRange : gY := (yX4_isIceInRange, cX4_isIceInRange, 2, (some .boolean), { frames := 0, cells := 0, slots := 0, locals := 0 })
abbrev MX4_isIceInRange : gM := (cX4_isIceInRange, 2, RX4, (some .boolean), [], "isIceInRange", YX4_isIceInRange.2.2.2.2)
theorem yn_X4_isIceInRange : gName yX4_isIceInRange 0 := ⟨by decide +kernel, by decide +kernel, by decide +kernel⟩
theorem wc_X4_isIceInRange : Cond.code yX4_isIceInRange cX4_isIceInRange 2 (some .boolean) ∈ gW := gW_at 880 (by decide +kernel) (by decide +kernel)
theorem wi_X4_isIceInRange : Cond.instanceMethod yX4_isIceInRange ∈ gW := gW_at 878 (by decide +kernel) (by decide +kernel)
theorem we_X4_isIceInRange : Cond.selects RX4 yX4_isIceInRange yX4_isIceInRange ∈ gW := gW_at 879 (by decide +kernel) (by decide +kernel)
abbrev YX5_init : gY := (yX5_init, cX5_init, 4, none, { frames := 1, cells := 0, slots := 0, locals := 24 })
abbrev MX5_init : gM := (cX5_init, 4, RX5, none, [], "<init>", YX5_init.2.2.2.2)
theorem yn_X5_init : gName yX5_init 3 := ⟨by decide +kernel, by decide +kernel, by decide +kernel⟩
theorem wc_X5_init : Cond.code yX5_init cX5_init 4 none ∈ gW := gW_at 481 (by decide +kernel) (by decide +kernel)
theorem wi_X5_init : Cond.instanceMethod yX5_init ∈ gW := gW_at 480 (by decide +kernel) (by decide +kernel)
abbrev YX5_burden : gY := (yX5_burden, cX5_burden, 1, (some .float), { frames := 0, cells := 0, slots := 0, locals := 0 })
abbrev MX5_burden : gM := (cX5_burden, 1, RX5, (some .float), [], "burden", YX5_burden.2.2.2.2)
theorem yn_X5_burden : gName yX5_burden 0 := ⟨by decide +kernel, by decide +kernel, by decide +kernel⟩
theorem wc_X5_burden : Cond.code yX5_burden cX5_burden 1 (some .float) ∈ gW := gW_at 624 (by decide +kernel) (by decide +kernel)
theorem wi_X5_burden : Cond.instanceMethod yX5_burden ∈ gW := gW_at 622 (by decide +kernel) (by decide +kernel)
theorem we_X5_burden : Cond.selects RX5 yX5_burden yX5_burden ∈ gW := gW_at 623 (by decide +kernel) (by decide +kernel)
abbrev YX5_strainOnIce : gY := (yX5_strainOnIce, cX5_strainOnIce, 1, (some .int), { frames := 0, cells := 0, slots := 0, locals := 0 })
abbrev MX5_strainOnIce : gM := (cX5_strainOnIce, 1, RX5, (some .int), [], "strainOnIce", YX5_strainOnIce.2.2.2.2)
theorem yn_X5_strainOnIce : gName yX5_strainOnIce 0 := ⟨by decide +kernel, by decide +kernel, by decide +kernel⟩
theorem wc_X5_strainOnIce : Cond.code yX5_strainOnIce cX5_strainOnIce 1 (some .int) ∈ gW := gW_at 644 (by decide +kernel) (by decide +kernel)
theorem wi_X5_strainOnIce : Cond.instanceMethod yX5_strainOnIce ∈ gW := gW_at 642 (by decide +kernel) (by decide +kernel)
theorem we_X5_strainOnIce : Cond.selects RX5 yX5_strainOnIce yX5_strainOnIce ∈ gW := gW_at 643 (by decide +kernel) (by decide +kernel)
abbrev YX6_init : gY := (yX6_init, cX6_init, 1, none, { frames := 4, cells := 283, slots := 1721, locals := 86 })
abbrev MX6_init : gM := (cX6_init, 1, RX6, none, [], "<init>", YX6_init.2.2.2.2)
theorem yn_X6_init : gName yX6_init 0 := ⟨by decide +kernel, by decide +kernel, by decide +kernel⟩
theorem wc_X6_init : Cond.code yX6_init cX6_init 1 none ∈ gW := gW_at 47 (by decide +kernel) (by decide +kernel)
theorem wi_X6_init : Cond.instanceMethod yX6_init ∈ gW := gW_at 46 (by decide +kernel) (by decide +kernel)
abbrev YX6_set : gY := (yX6_set, cX6_set, 4, (some .int), { frames := 6, cells := 1, slots := 6, locals := 130 })
abbrev MX6_set : gM := (cX6_set, 4, RX6, (some .int), [], "set", YX6_set.2.2.2.2)
theorem yn_X6_set : gName yX6_set 2 := ⟨by decide +kernel, by decide +kernel, by decide +kernel⟩
theorem wc_X6_set : Cond.code yX6_set cX6_set 4 (some .int) ∈ gW := gW_at 256 (by decide +kernel) (by decide +kernel)
theorem wi_X6_set : Cond.instanceMethod yX6_set ∈ gW := gW_at 254 (by decide +kernel) (by decide +kernel)
theorem we_X6_set : Cond.selects RX6 yX6_set yX6_set ∈ gW := gW_at 255 (by decide +kernel) (by decide +kernel)
abbrev YX6_setting : gY := (yX6_setting, cX6_setting, 2, (some .int), { frames := 6, cells := 1, slots := 6, locals := 130 })
abbrev MX6_setting : gM := (cX6_setting, 2, RX6, (some .int), [], "setting", YX6_setting.2.2.2.2)
theorem yn_X6_setting : gName yX6_setting 1 := ⟨by decide +kernel, by decide +kernel, by decide +kernel⟩
theorem wc_X6_setting : Cond.code yX6_setting cX6_setting 2 (some .int) ∈ gW := gW_at 726 (by decide +kernel) (by decide +kernel)
theorem wi_X6_setting : Cond.instanceMethod yX6_setting ∈ gW := gW_at 724 (by decide +kernel) (by decide +kernel)
theorem we_X6_setting : Cond.selects RX6 yX6_setting yX6_setting ∈ gW := gW_at 725 (by decide +kernel) (by decide +kernel)
abbrev YX6_drill : gY := (yX6_drill, cX6_drill, 2, (some .int), { frames := 6, cells := 1, slots := 6, locals := 130 })
abbrev MX6_drill : gM := (cX6_drill, 2, RX6, (some .int), [], "drill", YX6_drill.2.2.2.2)
theorem yn_X6_drill : gName yX6_drill 1 := ⟨by decide +kernel, by decide +kernel, by decide +kernel⟩
theorem wc_X6_drill : Cond.code yX6_drill cX6_drill 2 (some .int) ∈ gW := gW_at 551 (by decide +kernel) (by decide +kernel)
theorem wi_X6_drill : Cond.instanceMethod yX6_drill ∈ gW := gW_at 549 (by decide +kernel) (by decide +kernel)
theorem we_X6_drill : Cond.selects RX6 yX6_drill yX6_drill ∈ gW := gW_at 550 (by decide +kernel) (by decide +kernel)
abbrev YX6_drilled : gY := (yX6_drilled, cX6_drilled, 2, (some .int), { frames := 6, cells := 1, slots := 6, locals := 130 })
abbrev MX6_drilled : gM := (cX6_drilled, 2, RX6, (some .int), [], "drilled", YX6_drilled.2.2.2.2)
theorem yn_X6_drilled : gName yX6_drilled 1 := ⟨by decide +kernel, by decide +kernel, by decide +kernel⟩
theorem wc_X6_drilled : Cond.code yX6_drilled cX6_drilled 2 (some .int) ∈ gW := gW_at 734 (by decide +kernel) (by decide +kernel)
theorem wi_X6_drilled : Cond.instanceMethod yX6_drilled ∈ gW := gW_at 732 (by decide +kernel) (by decide +kernel)
theorem we_X6_drilled : Cond.selects RX6 yX6_drilled yX6_drilled ∈ gW := gW_at 733 (by decide +kernel) (by decide +kernel)
abbrev YX6_mileOf : gY := (yX6_mileOf, cX6_mileOf, 4, (some .int), { frames := 6, cells := 1, slots := 6, locals := 130 })
abbrev MX6_mileOf : gM := (cX6_mileOf, 4, RX6, (some .int), [], "mileOf", YX6_mileOf.2.2.2.2)
theorem yn_X6_mileOf : gName yX6_mileOf 2 := ⟨by decide +kernel, by decide +kernel, by decide +kernel⟩
theorem wc_X6_mileOf : Cond.code yX6_mileOf cX6_mileOf 4 (some .int) ∈ gW := gW_at 689 (by decide +kernel) (by decide +kernel)
theorem wi_X6_mileOf : Cond.instanceMethod yX6_mileOf ∈ gW := gW_at 687 (by decide +kernel) (by decide +kernel)
theorem we_X6_mileOf : Cond.selects RX6 yX6_mileOf yX6_mileOf ∈ gW := gW_at 688 (by decide +kernel) (by decide +kernel)
abbrev YX6_ice : gY := (yX6_ice, cX6_ice, 2, (some .float), { frames := 6, cells := 1, slots := 6, locals := 130 })
abbrev MX6_ice : gM := (cX6_ice, 2, RX6, (some .float), [], "ice", YX6_ice.2.2.2.2)
theorem yn_X6_ice : gName yX6_ice 1 := ⟨by decide +kernel, by decide +kernel, by decide +kernel⟩
theorem wc_X6_ice : Cond.code yX6_ice cX6_ice 2 (some .float) ∈ gW := gW_at 567 (by decide +kernel) (by decide +kernel)
theorem wi_X6_ice : Cond.instanceMethod yX6_ice ∈ gW := gW_at 565 (by decide +kernel) (by decide +kernel)
theorem we_X6_ice : Cond.selects RX6 yX6_ice yX6_ice ∈ gW := gW_at 566 (by decide +kernel) (by decide +kernel)
abbrev YX6_bears : gY := (yX6_bears, cX6_bears, 2, (some .int), { frames := 6, cells := 1, slots := 6, locals := 130 })
abbrev MX6_bears : gM := (cX6_bears, 2, RX6, (some .int), [], "bears", YX6_bears.2.2.2.2)
theorem yn_X6_bears : gName yX6_bears 1 := ⟨by decide +kernel, by decide +kernel, by decide +kernel⟩
theorem wc_X6_bears : Cond.code yX6_bears cX6_bears 2 (some .int) ∈ gW := gW_at 761 (by decide +kernel) (by decide +kernel)
theorem wi_X6_bears : Cond.instanceMethod yX6_bears ∈ gW := gW_at 759 (by decide +kernel) (by decide +kernel)
theorem we_X6_bears : Cond.selects RX6 yX6_bears yX6_bears ∈ gW := gW_at 760 (by decide +kernel) (by decide +kernel)
abbrev YX6_sign : gY := (yX6_sign, cX6_sign, 3, (some .char), { frames := 6, cells := 1, slots := 6, locals := 130 })
abbrev MX6_sign : gM := (cX6_sign, 3, RX6, (some .char), [], "sign", YX6_sign.2.2.2.2)
theorem yn_X6_sign : gName yX6_sign 1 := ⟨by decide +kernel, by decide +kernel, by decide +kernel⟩
theorem wc_X6_sign : Cond.code yX6_sign cX6_sign 3 (some .char) ∈ gW := gW_at 766 (by decide +kernel) (by decide +kernel)
theorem wi_X6_sign : Cond.instanceMethod yX6_sign ∈ gW := gW_at 764 (by decide +kernel) (by decide +kernel)
theorem we_X6_sign : Cond.selects RX6 yX6_sign yX6_sign ∈ gW := gW_at 765 (by decide +kernel) (by decide +kernel)
abbrev YX6_weakest : gY := (yX6_weakest, cX6_weakest, 5, (some .int), { frames := 3, cells := 0, slots := 0, locals := 65 })
abbrev MX6_weakest : gM := (cX6_weakest, 5, RX6, (some .int), [], "weakest", YX6_weakest.2.2.2.2)
theorem yn_X6_weakest : gName yX6_weakest 0 := ⟨by decide +kernel, by decide +kernel, by decide +kernel⟩
theorem wc_X6_weakest : Cond.code yX6_weakest cX6_weakest 5 (some .int) ∈ gW := gW_at 771 (by decide +kernel) (by decide +kernel)
theorem wi_X6_weakest : Cond.instanceMethod yX6_weakest ∈ gW := gW_at 769 (by decide +kernel) (by decide +kernel)
theorem we_X6_weakest : Cond.selects RX6 yX6_weakest yX6_weakest ∈ gW := gW_at 770 (by decide +kernel) (by decide +kernel)
abbrev YX6_truck : gY := (yX6_truck, cX6_truck, 6, (some .int), { frames := 6, cells := 1, slots := 6, locals := 130 })
abbrev MX6_truck : gM := (cX6_truck, 6, RX6, (some .int), [], "truck", YX6_truck.2.2.2.2)
theorem yn_X6_truck : gName yX6_truck 4 := ⟨by decide +kernel, by decide +kernel, by decide +kernel⟩
theorem wc_X6_truck : Cond.code yX6_truck cX6_truck 6 (some .int) ∈ gW := gW_at 453 (by decide +kernel) (by decide +kernel)
theorem wi_X6_truck : Cond.instanceMethod yX6_truck ∈ gW := gW_at 451 (by decide +kernel) (by decide +kernel)
theorem we_X6_truck : Cond.selects RX6 yX6_truck yX6_truck ∈ gW := gW_at 452 (by decide +kernel) (by decide +kernel)
abbrev YX6_inRow : gY := (yX6_inRow, cX6_inRow, 5, (some .int), { frames := 6, cells := 1, slots := 6, locals := 130 })
abbrev MX6_inRow : gM := (cX6_inRow, 5, RX6, (some .int), [], "inRow", YX6_inRow.2.2.2.2)
theorem yn_X6_inRow : gName yX6_inRow 3 := ⟨by decide +kernel, by decide +kernel, by decide +kernel⟩
theorem wc_X6_inRow : Cond.code yX6_inRow cX6_inRow 5 (some .int) ∈ gW := gW_at 802 (by decide +kernel) (by decide +kernel)
theorem wi_X6_inRow : Cond.instanceMethod yX6_inRow ∈ gW := gW_at 800 (by decide +kernel) (by decide +kernel)
theorem we_X6_inRow : Cond.selects RX6 yX6_inRow yX6_inRow ∈ gW := gW_at 801 (by decide +kernel) (by decide +kernel)
abbrev YX6_convoy : gY := (yX6_convoy, cX6_convoy, 3, (some .int), { frames := 6, cells := 1, slots := 6, locals := 130 })
abbrev MX6_convoy : gM := (cX6_convoy, 3, RX6, (some .int), [], "convoy", YX6_convoy.2.2.2.2)
theorem yn_X6_convoy : gName yX6_convoy 1 := ⟨by decide +kernel, by decide +kernel, by decide +kernel⟩
theorem wc_X6_convoy : Cond.code yX6_convoy cX6_convoy 3 (some .int) ∈ gW := gW_at 402 (by decide +kernel) (by decide +kernel)
theorem wi_X6_convoy : Cond.instanceMethod yX6_convoy ∈ gW := gW_at 400 (by decide +kernel) (by decide +kernel)
theorem we_X6_convoy : Cond.selects RX6 yX6_convoy yX6_convoy ∈ gW := gW_at 401 (by decide +kernel) (by decide +kernel)
abbrev YX6_join : gY := (yX6_join, cX6_join, 5, (some .int), { frames := 6, cells := 1, slots := 6, locals := 130 })
abbrev MX6_join : gM := (cX6_join, 5, RX6, (some .int), [], "join", YX6_join.2.2.2.2)
theorem yn_X6_join : gName yX6_join 3 := ⟨by decide +kernel, by decide +kernel, by decide +kernel⟩
theorem wc_X6_join : Cond.code yX6_join cX6_join 5 (some .int) ∈ gW := gW_at 505 (by decide +kernel) (by decide +kernel)
theorem wi_X6_join : Cond.instanceMethod yX6_join ∈ gW := gW_at 503 (by decide +kernel) (by decide +kernel)
theorem we_X6_join : Cond.selects RX6 yX6_join yX6_join ∈ gW := gW_at 504 (by decide +kernel) (by decide +kernel)
abbrev YX6_start : gY := (yX6_start, cX6_start, 3, (some .int), { frames := 6, cells := 1, slots := 6, locals := 130 })
abbrev MX6_start : gM := (cX6_start, 3, RX6, (some .int), [], "start", YX6_start.2.2.2.2)
theorem yn_X6_start : gName yX6_start 1 := ⟨by decide +kernel, by decide +kernel, by decide +kernel⟩
theorem wc_X6_start : Cond.code yX6_start cX6_start 3 (some .int) ∈ gW := gW_at 584 (by decide +kernel) (by decide +kernel)
theorem wi_X6_start : Cond.instanceMethod yX6_start ∈ gW := gW_at 582 (by decide +kernel) (by decide +kernel)
theorem we_X6_start : Cond.selects RX6 yX6_start yX6_start ∈ gW := gW_at 583 (by decide +kernel) (by decide +kernel)
abbrev YX6_roll : gY := (yX6_roll, cX6_roll, 3, (some .int), { frames := 6, cells := 1, slots := 6, locals := 130 })
abbrev MX6_roll : gM := (cX6_roll, 3, RX6, (some .int), [], "roll", YX6_roll.2.2.2.2)
theorem yn_X6_roll : gName yX6_roll 1 := ⟨by decide +kernel, by decide +kernel, by decide +kernel⟩
theorem wc_X6_roll : Cond.code yX6_roll cX6_roll 3 (some .int) ∈ gW := gW_at 652 (by decide +kernel) (by decide +kernel)
theorem wi_X6_roll : Cond.instanceMethod yX6_roll ∈ gW := gW_at 650 (by decide +kernel) (by decide +kernel)
theorem we_X6_roll : Cond.selects RX6 yX6_roll yX6_roll ∈ gW := gW_at 651 (by decide +kernel) (by decide +kernel)
abbrev YX6_why : gY := (yX6_why, cX6_why, 4, (some .int), { frames := 6, cells := 1, slots := 6, locals := 130 })
abbrev MX6_why : gM := (cX6_why, 4, RX6, (some .int), [], "why", YX6_why.2.2.2.2)
theorem yn_X6_why : gName yX6_why 2 := ⟨by decide +kernel, by decide +kernel, by decide +kernel⟩
theorem wc_X6_why : Cond.code yX6_why cX6_why 4 (some .int) ∈ gW := gW_at 894 (by decide +kernel) (by decide +kernel)
theorem wi_X6_why : Cond.instanceMethod yX6_why ∈ gW := gW_at 892 (by decide +kernel) (by decide +kernel)
theorem we_X6_why : Cond.selects RX6 yX6_why yX6_why ∈ gW := gW_at 893 (by decide +kernel) (by decide +kernel)
abbrev YX6_convoyOf : gY := (yX6_convoyOf, cX6_convoyOf, 4, (some .int), { frames := 6, cells := 1, slots := 6, locals := 130 })
abbrev MX6_convoyOf : gM := (cX6_convoyOf, 4, RX6, (some .int), [], "convoyOf", YX6_convoyOf.2.2.2.2)
theorem yn_X6_convoyOf : gName yX6_convoyOf 2 := ⟨by decide +kernel, by decide +kernel, by decide +kernel⟩
theorem wc_X6_convoyOf : Cond.code yX6_convoyOf cX6_convoyOf 4 (some .int) ∈ gW := gW_at 813 (by decide +kernel) (by decide +kernel)
theorem wi_X6_convoyOf : Cond.instanceMethod yX6_convoyOf ∈ gW := gW_at 811 (by decide +kernel) (by decide +kernel)
theorem we_X6_convoyOf : Cond.selects RX6 yX6_convoyOf yX6_convoyOf ∈ gW := gW_at 812 (by decide +kernel) (by decide +kernel)
abbrev YX6_truckOf : gY := (yX6_truckOf, cX6_truckOf, 5, (some .int), { frames := 6, cells := 1, slots := 6, locals := 130 })
abbrev MX6_truckOf : gM := (cX6_truckOf, 5, RX6, (some .int), [], "truckOf", YX6_truckOf.2.2.2.2)
theorem yn_X6_truckOf : gName yX6_truckOf 3 := ⟨by decide +kernel, by decide +kernel, by decide +kernel⟩
theorem wc_X6_truckOf : Cond.code yX6_truckOf cX6_truckOf 5 (some .int) ∈ gW := gW_at 824 (by decide +kernel) (by decide +kernel)
theorem wi_X6_truckOf : Cond.instanceMethod yX6_truckOf ∈ gW := gW_at 822 (by decide +kernel) (by decide +kernel)
theorem we_X6_truckOf : Cond.selects RX6 yX6_truckOf yX6_truckOf ∈ gW := gW_at 823 (by decide +kernel) (by decide +kernel)
abbrev YX6_load : gY := (yX6_load, cX6_load, 4, (some .float), { frames := 6, cells := 1, slots := 6, locals := 130 })
abbrev MX6_load : gM := (cX6_load, 4, RX6, (some .float), [], "load", YX6_load.2.2.2.2)
theorem yn_X6_load : gName yX6_load 2 := ⟨by decide +kernel, by decide +kernel, by decide +kernel⟩
theorem wc_X6_load : Cond.code yX6_load cX6_load 4 (some .float) ∈ gW := gW_at 835 (by decide +kernel) (by decide +kernel)
theorem wi_X6_load : Cond.instanceMethod yX6_load ∈ gW := gW_at 833 (by decide +kernel) (by decide +kernel)
theorem we_X6_load : Cond.selects RX6 yX6_load yX6_load ∈ gW := gW_at 834 (by decide +kernel) (by decide +kernel)
abbrev YX6_at : gY := (yX6_at, cX6_at, 3, (some .int), { frames := 6, cells := 1, slots := 6, locals := 130 })
abbrev MX6_at : gM := (cX6_at, 3, RX6, (some .int), [], "at", YX6_at.2.2.2.2)
theorem yn_X6_at : gName yX6_at 1 := ⟨by decide +kernel, by decide +kernel, by decide +kernel⟩
theorem wc_X6_at : Cond.code yX6_at cX6_at 3 (some .int) ∈ gW := gW_at 748 (by decide +kernel) (by decide +kernel)
theorem wi_X6_at : Cond.instanceMethod yX6_at ∈ gW := gW_at 746 (by decide +kernel) (by decide +kernel)
theorem we_X6_at : Cond.selects RX6 yX6_at yX6_at ∈ gW := gW_at 747 (by decide +kernel) (by decide +kernel)
abbrev YX6_rolls : gY := (yX6_rolls, cX6_rolls, 2, (some .int), { frames := 6, cells := 1, slots := 6, locals := 130 })
abbrev MX6_rolls : gM := (cX6_rolls, 2, RX6, (some .int), [], "rolls", YX6_rolls.2.2.2.2)
theorem yn_X6_rolls : gName yX6_rolls 1 := ⟨by decide +kernel, by decide +kernel, by decide +kernel⟩
theorem wc_X6_rolls : Cond.code yX6_rolls cX6_rolls 2 (some .int) ∈ gW := gW_at 937 (by decide +kernel) (by decide +kernel)
theorem wi_X6_rolls : Cond.instanceMethod yX6_rolls ∈ gW := gW_at 935 (by decide +kernel) (by decide +kernel)
theorem we_X6_rolls : Cond.selects RX6 yX6_rolls yX6_rolls ∈ gW := gW_at 936 (by decide +kernel) (by decide +kernel)
abbrev YX6_rollsAgain : gY := (yX6_rollsAgain, cX6_rollsAgain, 3, (some .int), { frames := 6, cells := 1, slots := 6, locals := 130 })
abbrev MX6_rollsAgain : gM := (cX6_rollsAgain, 3, RX6, (some .int), [], "rollsAgain", YX6_rollsAgain.2.2.2.2)
theorem yn_X6_rollsAgain : gName yX6_rollsAgain 1 := ⟨by decide +kernel, by decide +kernel, by decide +kernel⟩
theorem wc_X6_rollsAgain : Cond.code yX6_rollsAgain cX6_rollsAgain 3 (some .int) ∈ gW := gW_at 932 (by decide +kernel) (by decide +kernel)
theorem wi_X6_rollsAgain : Cond.instanceMethod yX6_rollsAgain ∈ gW := gW_at 930 (by decide +kernel) (by decide +kernel)
theorem we_X6_rollsAgain : Cond.selects RX6 yX6_rollsAgain yX6_rollsAgain ∈ gW := gW_at 931 (by decide +kernel) (by decide +kernel)
abbrev YX6_iceIn : gY := (yX6_iceIn, cX6_iceIn, 5, (some .int), { frames := 6, cells := 1, slots := 6, locals := 130 })
abbrev MX6_iceIn : gM := (cX6_iceIn, 5, RX6, (some .int), [], "iceIn", YX6_iceIn.2.2.2.2)
theorem yn_X6_iceIn : gName yX6_iceIn 2 := ⟨by decide +kernel, by decide +kernel, by decide +kernel⟩
theorem wc_X6_iceIn : Cond.code yX6_iceIn cX6_iceIn 5 (some .int) ∈ gW := gW_at 972 (by decide +kernel) (by decide +kernel)
theorem wi_X6_iceIn : Cond.instanceMethod yX6_iceIn ∈ gW := gW_at 970 (by decide +kernel) (by decide +kernel)
theorem we_X6_iceIn : Cond.selects RX6 yX6_iceIn yX6_iceIn ∈ gW := gW_at 971 (by decide +kernel) (by decide +kernel)
abbrev YX6_bearsIn : gY := (yX6_bearsIn, cX6_bearsIn, 5, (some .int), { frames := 6, cells := 1, slots := 6, locals := 130 })
abbrev MX6_bearsIn : gM := (cX6_bearsIn, 5, RX6, (some .int), [], "bearsIn", YX6_bearsIn.2.2.2.2)
theorem yn_X6_bearsIn : gName yX6_bearsIn 2 := ⟨by decide +kernel, by decide +kernel, by decide +kernel⟩
theorem wc_X6_bearsIn : Cond.code yX6_bearsIn cX6_bearsIn 5 (some .int) ∈ gW := gW_at 962 (by decide +kernel) (by decide +kernel)
theorem wi_X6_bearsIn : Cond.instanceMethod yX6_bearsIn ∈ gW := gW_at 960 (by decide +kernel) (by decide +kernel)
theorem we_X6_bearsIn : Cond.selects RX6 yX6_bearsIn yX6_bearsIn ∈ gW := gW_at 961 (by decide +kernel) (by decide +kernel)
abbrev YX6_pass : gY := (yX6_pass, cX6_pass, 3, (some .int), { frames := 6, cells := 1, slots := 6, locals := 130 })
abbrev MX6_pass : gM := (cX6_pass, 3, RX6, (some .int), [], "pass", YX6_pass.2.2.2.2)
theorem yn_X6_pass : gName yX6_pass 1 := ⟨by decide +kernel, by decide +kernel, by decide +kernel⟩
theorem wc_X6_pass : Cond.code yX6_pass cX6_pass 3 (some .int) ∈ gW := gW_at 364 (by decide +kernel) (by decide +kernel)
theorem wi_X6_pass : Cond.instanceMethod yX6_pass ∈ gW := gW_at 362 (by decide +kernel) (by decide +kernel)
theorem we_X6_pass : Cond.selects RX6 yX6_pass yX6_pass ∈ gW := gW_at 363 (by decide +kernel) (by decide +kernel)
abbrev YX6_append : gY := (yX6_append, cX6_append, 2, (some .int), { frames := 6, cells := 1, slots := 6, locals := 130 })
abbrev MX6_append : gM := (cX6_append, 2, RX6, (some .int), [], "append", YX6_append.2.2.2.2)
theorem yn_X6_append : gName yX6_append 1 := ⟨by decide +kernel, by decide +kernel, by decide +kernel⟩
theorem wc_X6_append : Cond.code yX6_append cX6_append 2 (some .int) ∈ gW := gW_at 1261 (by decide +kernel) (by decide +kernel)
theorem wi_X6_append : Cond.instanceMethod yX6_append ∈ gW := gW_at 1259 (by decide +kernel) (by decide +kernel)
theorem we_X6_append : Cond.selects RX6 yX6_append yX6_append ∈ gW := gW_at 1260 (by decide +kernel) (by decide +kernel)
abbrev YX6_read : gY := (yX6_read, cX6_read, 3, (some .int), { frames := 6, cells := 1, slots := 6, locals := 138 })
abbrev MX6_read : gM := (cX6_read, 3, RX6, (some .int), [], "read", YX6_read.2.2.2.2)
theorem yn_X6_read : gName yX6_read 0 := ⟨by decide +kernel, by decide +kernel, by decide +kernel⟩
theorem wc_X6_read : Cond.code yX6_read cX6_read 3 (some .int) ∈ gW := gW_at 1269 (by decide +kernel) (by decide +kernel)
theorem wi_X6_read : Cond.instanceMethod yX6_read ∈ gW := gW_at 1267 (by decide +kernel) (by decide +kernel)
theorem we_X6_read : Cond.selects RX6 yX6_read yX6_read ∈ gW := gW_at 1268 (by decide +kernel) (by decide +kernel)
abbrev YX6_refusal : gY := (yX6_refusal, cX6_refusal, 2, (some .int), { frames := 6, cells := 1, slots := 6, locals := 130 })
abbrev MX6_refusal : gM := (cX6_refusal, 2, RX6, (some .int), [], "refusal", YX6_refusal.2.2.2.2)
theorem yn_X6_refusal : gName yX6_refusal 1 := ⟨by decide +kernel, by decide +kernel, by decide +kernel⟩
theorem wc_X6_refusal : Cond.code yX6_refusal cX6_refusal 2 (some .int) ∈ gW := gW_at 678 (by decide +kernel) (by decide +kernel)
theorem wi_X6_refusal : Cond.instanceMethod yX6_refusal ∈ gW := gW_at 676 (by decide +kernel) (by decide +kernel)
theorem we_X6_refusal : Cond.selects RX6 yX6_refusal yX6_refusal ∈ gW := gW_at 677 (by decide +kernel) (by decide +kernel)
abbrev YX6_account : gY := (yX6_account, cX6_account, 2, (some .int), { frames := 6, cells := 1, slots := 6, locals := 130 })
abbrev MX6_account : gM := (cX6_account, 2, RX6, (some .int), [], "account", YX6_account.2.2.2.2)
theorem yn_X6_account : gName yX6_account 1 := ⟨by decide +kernel, by decide +kernel, by decide +kernel⟩
theorem wc_X6_account : Cond.code yX6_account cX6_account 2 (some .int) ∈ gW := gW_at 695 (by decide +kernel) (by decide +kernel)
theorem wi_X6_account : Cond.instanceMethod yX6_account ∈ gW := gW_at 693 (by decide +kernel) (by decide +kernel)
theorem we_X6_account : Cond.selects RX6 yX6_account yX6_account ∈ gW := gW_at 694 (by decide +kernel) (by decide +kernel)
abbrev YX6_isWell : gY := (yX6_isWell, cX6_isWell, 1, (some .boolean), { frames := 4, cells := 0, slots := 0, locals := 88 })
abbrev MX6_isWell : gM := (cX6_isWell, 1, RX6, (some .boolean), [], "isWell", YX6_isWell.2.2.2.2)
theorem yn_X6_isWell : gName yX6_isWell 0 := ⟨by decide +kernel, by decide +kernel, by decide +kernel⟩
theorem wc_X6_isWell : Cond.code yX6_isWell cX6_isWell 1 (some .boolean) ∈ gW := gW_at 860 (by decide +kernel) (by decide +kernel)
theorem wi_X6_isWell : Cond.instanceMethod yX6_isWell ∈ gW := gW_at 858 (by decide +kernel) (by decide +kernel)
theorem we_X6_isWell : Cond.selects RX6 yX6_isWell yX6_isWell ∈ gW := gW_at 859 (by decide +kernel) (by decide +kernel)
abbrev YX6_meanBits : gY := (yX6_meanBits, cX6_meanBits, 4, (some .long), { frames := 1, cells := 0, slots := 0, locals := 24 })
abbrev MX6_meanBits : gM := (cX6_meanBits, 4, RX6, (some .long), [], "meanBits", YX6_meanBits.2.2.2.2)
theorem yn_X6_meanBits : gName yX6_meanBits 0 := ⟨by decide +kernel, by decide +kernel, by decide +kernel⟩
theorem wc_X6_meanBits : Cond.code yX6_meanBits cX6_meanBits 4 (some .long) ∈ gW := gW_at 775 (by decide +kernel) (by decide +kernel)
theorem wi_X6_meanBits : Cond.instanceMethod yX6_meanBits ∈ gW := gW_at 773 (by decide +kernel) (by decide +kernel)
theorem we_X6_meanBits : Cond.selects RX6 yX6_meanBits yX6_meanBits ∈ gW := gW_at 774 (by decide +kernel) (by decide +kernel)
abbrev YX6_share : gY := (yX6_share, cX6_share, 1, (some .float), { frames := 6, cells := 1, slots := 6, locals := 130 })
abbrev MX6_share : gM := (cX6_share, 1, RX6, (some .float), [], "share", YX6_share.2.2.2.2)
theorem yn_X6_share : gName yX6_share 0 := ⟨by decide +kernel, by decide +kernel, by decide +kernel⟩
theorem wc_X6_share : Cond.code yX6_share cX6_share 1 (some .float) ∈ gW := gW_at 840 (by decide +kernel) (by decide +kernel)
theorem wi_X6_share : Cond.instanceMethod yX6_share ∈ gW := gW_at 838 (by decide +kernel) (by decide +kernel)
theorem we_X6_share : Cond.selects RX6 yX6_share yX6_share ∈ gW := gW_at 839 (by decide +kernel) (by decide +kernel)
abbrev YX6_undo : gY := (yX6_undo, cX6_undo, 1, (some .int), { frames := 6, cells := 1, slots := 6, locals := 130 })
abbrev MX6_undo : gM := (cX6_undo, 1, RX6, (some .int), [], "undo", YX6_undo.2.2.2.2)
theorem yn_X6_undo : gName yX6_undo 0 := ⟨by decide +kernel, by decide +kernel, by decide +kernel⟩
theorem wc_X6_undo : Cond.code yX6_undo cX6_undo 1 (some .int) ∈ gW := gW_at 902 (by decide +kernel) (by decide +kernel)
theorem wi_X6_undo : Cond.instanceMethod yX6_undo ∈ gW := gW_at 900 (by decide +kernel) (by decide +kernel)
theorem we_X6_undo : Cond.selects RX6 yX6_undo yX6_undo ∈ gW := gW_at 901 (by decide +kernel) (by decide +kernel)
abbrev YX6_isSetting : gY := (yX6_isSetting, cX6_isSetting, 1, (some .boolean), { frames := 0, cells := 0, slots := 0, locals := 0 })
abbrev MX6_isSetting : gM := (cX6_isSetting, 1, RX6, (some .boolean), [], "isSetting", YX6_isSetting.2.2.2.2)
theorem yn_X6_isSetting : gName yX6_isSetting 1 := ⟨by decide +kernel, by decide +kernel, by decide +kernel⟩
theorem wc_X6_isSetting : Cond.code yX6_isSetting cX6_isSetting 1 (some .boolean) ∈ gW := gW_at 262 (by decide +kernel) (by decide +kernel)
theorem wt_X6_isSetting : Cond.static yX6_isSetting ∈ gW := gW_at 261 (by decide +kernel) (by decide +kernel)
abbrev YX6_isSettingValue : gY := (yX6_isSettingValue, cX6_isSettingValue, 2, (some .boolean), { frames := 1, cells := 0, slots := 0, locals := 20 })
abbrev MX6_isSettingValue : gM := (cX6_isSettingValue, 2, RX6, (some .boolean), [], "isSettingValue", YX6_isSettingValue.2.2.2.2)
theorem yn_X6_isSettingValue : gName yX6_isSettingValue 2 := ⟨by decide +kernel, by decide +kernel, by decide +kernel⟩
theorem wc_X6_isSettingValue : Cond.code yX6_isSettingValue cX6_isSettingValue 2 (some .boolean) ∈ gW := gW_at 259 (by decide +kernel) (by decide +kernel)
theorem wt_X6_isSettingValue : Cond.static yX6_isSettingValue ∈ gW := gW_at 258 (by decide +kernel) (by decide +kernel)
abbrev YX6_isMile : gY := (yX6_isMile, cX6_isMile, 1, (some .boolean), { frames := 0, cells := 0, slots := 0, locals := 0 })
abbrev MX6_isMile : gM := (cX6_isMile, 1, RX6, (some .boolean), [], "isMile", YX6_isMile.2.2.2.2)
theorem yn_X6_isMile : gName yX6_isMile 1 := ⟨by decide +kernel, by decide +kernel, by decide +kernel⟩
theorem wc_X6_isMile : Cond.code yX6_isMile cX6_isMile 1 (some .boolean) ∈ gW := gW_at 554 (by decide +kernel) (by decide +kernel)
theorem wt_X6_isMile : Cond.static yX6_isMile ∈ gW := gW_at 553 (by decide +kernel) (by decide +kernel)
abbrev YX6_isRow : gY := (yX6_isRow, cX6_isRow, 1, (some .boolean), { frames := 0, cells := 0, slots := 0, locals := 0 })
abbrev MX6_isRow : gM := (cX6_isRow, 1, RX6, (some .boolean), [], "isRow", YX6_isRow.2.2.2.2)
theorem yn_X6_isRow : gName yX6_isRow 1 := ⟨by decide +kernel, by decide +kernel, by decide +kernel⟩
theorem wc_X6_isRow : Cond.code yX6_isRow cX6_isRow 1 (some .boolean) ∈ gW := gW_at 456 (by decide +kernel) (by decide +kernel)
theorem wt_X6_isRow : Cond.static yX6_isRow ∈ gW := gW_at 455 (by decide +kernel) (by decide +kernel)
abbrev YX6_isPlace : gY := (yX6_isPlace, cX6_isPlace, 1, (some .boolean), { frames := 0, cells := 0, slots := 0, locals := 0 })
abbrev MX6_isPlace : gM := (cX6_isPlace, 1, RX6, (some .boolean), [], "isPlace", YX6_isPlace.2.2.2.2)
theorem yn_X6_isPlace : gName yX6_isPlace 1 := ⟨by decide +kernel, by decide +kernel, by decide +kernel⟩
theorem wc_X6_isPlace : Cond.code yX6_isPlace cX6_isPlace 1 (some .boolean) ∈ gW := gW_at 517 (by decide +kernel) (by decide +kernel)
theorem wt_X6_isPlace : Cond.static yX6_isPlace ∈ gW := gW_at 516 (by decide +kernel) (by decide +kernel)
abbrev YX6_isDaysToPass : gY := (yX6_isDaysToPass, cX6_isDaysToPass, 1, (some .boolean), { frames := 0, cells := 0, slots := 0, locals := 0 })
abbrev MX6_isDaysToPass : gM := (cX6_isDaysToPass, 1, RX6, (some .boolean), [], "isDaysToPass", YX6_isDaysToPass.2.2.2.2)
theorem yn_X6_isDaysToPass : gName yX6_isDaysToPass 1 := ⟨by decide +kernel, by decide +kernel, by decide +kernel⟩
theorem wc_X6_isDaysToPass : Cond.code yX6_isDaysToPass cX6_isDaysToPass 1 (some .boolean) ∈ gW := gW_at 367 (by decide +kernel) (by decide +kernel)
theorem wt_X6_isDaysToPass : Cond.static yX6_isDaysToPass ∈ gW := gW_at 366 (by decide +kernel) (by decide +kernel)
abbrev YX6_refusalFor : gY := (yX6_refusalFor, cX6_refusalFor, 2, (some .int), { frames := 0, cells := 0, slots := 0, locals := 0 })
abbrev MX6_refusalFor : gM := (cX6_refusalFor, 2, RX6, (some .int), [], "refusalFor", YX6_refusalFor.2.2.2.2)
theorem yn_X6_refusalFor : gName yX6_refusalFor 2 := ⟨by decide +kernel, by decide +kernel, by decide +kernel⟩
theorem wc_X6_refusalFor : Cond.code yX6_refusalFor cX6_refusalFor 2 (some .int) ∈ gW := gW_at 406 (by decide +kernel) (by decide +kernel)
theorem wt_X6_refusalFor : Cond.static yX6_refusalFor ∈ gW := gW_at 405 (by decide +kernel) (by decide +kernel)
abbrev YX6_nextIce : gY := (yX6_nextIce, cX6_nextIce, 3, (some .float), { frames := 0, cells := 0, slots := 0, locals := 0 })
abbrev MX6_nextIce : gM := (cX6_nextIce, 3, RX6, (some .float), [], "nextIce", YX6_nextIce.2.2.2.2)
theorem yn_X6_nextIce : gName yX6_nextIce 2 := ⟨by decide +kernel, by decide +kernel, by decide +kernel⟩
theorem wc_X6_nextIce : Cond.code yX6_nextIce cX6_nextIce 3 (some .float) ∈ gW := gW_at 387 (by decide +kernel) (by decide +kernel)
theorem wt_X6_nextIce : Cond.static yX6_nextIce ∈ gW := gW_at 386 (by decide +kernel) (by decide +kernel)
abbrev YX6_borneBy : gY := (yX6_borneBy, cX6_borneBy, 3, (some .float), { frames := 0, cells := 0, slots := 0, locals := 0 })
abbrev MX6_borneBy : gM := (cX6_borneBy, 3, RX6, (some .float), [], "borneBy", YX6_borneBy.2.2.2.2)
theorem yn_X6_borneBy : gName yX6_borneBy 3 := ⟨by decide +kernel, by decide +kernel, by decide +kernel⟩
theorem wc_X6_borneBy : Cond.code yX6_borneBy cX6_borneBy 3 (some .float) ∈ gW := gW_at 617 (by decide +kernel) (by decide +kernel)
theorem wt_X6_borneBy : Cond.static yX6_borneBy ∈ gW := gW_at 616 (by decide +kernel) (by decide +kernel)
abbrev YX6_floatBits : gY := (yX6_floatBits, cX6_floatBits, 3, (some .int), { frames := 0, cells := 0, slots := 0, locals := 0 })
abbrev MX6_floatBits : gM := (cX6_floatBits, 3, RX6, (some .int), [], "floatBits", YX6_floatBits.2.2.2.2)
theorem yn_X6_floatBits : gName yX6_floatBits 1 := ⟨by decide +kernel, by decide +kernel, by decide +kernel⟩
theorem wc_X6_floatBits : Cond.code yX6_floatBits cX6_floatBits 3 (some .int) ∈ gW := gW_at 562 (by decide +kernel) (by decide +kernel)
theorem wt_X6_floatBits : Cond.static yX6_floatBits ∈ gW := gW_at 561 (by decide +kernel) (by decide +kernel)
abbrev YX6_doubleBits : gY := (yX6_doubleBits, cX6_doubleBits, 5, (some .long), { frames := 0, cells := 0, slots := 0, locals := 0 })
abbrev MX6_doubleBits : gM := (cX6_doubleBits, 5, RX6, (some .long), [], "doubleBits", YX6_doubleBits.2.2.2.2)
theorem yn_X6_doubleBits : gName yX6_doubleBits 1 := ⟨by decide +kernel, by decide +kernel, by decide +kernel⟩
theorem wc_X6_doubleBits : Cond.code yX6_doubleBits cX6_doubleBits 5 (some .long) ∈ gW := gW_at 779 (by decide +kernel) (by decide +kernel)
theorem wt_X6_doubleBits : Cond.static yX6_doubleBits ∈ gW := gW_at 778 (by decide +kernel) (by decide +kernel)
abbrev YJ5_init_d00df : gY := (yJ5_init_d00df, cJ5_init_d00df, 2, none, { frames := 9, cells := 1, slots := 16, locals := 420 })
abbrev MJ5_init_d00df : gM := (cJ5_init_d00df, 2, RJ5, none, [], "<init>", YJ5_init_d00df.2.2.2.2)
theorem yn_J5_init_d00df : gName yJ5_init_d00df 1 := ⟨by decide +kernel, by decide +kernel, by decide +kernel⟩
theorem wc_J5_init_d00df : Cond.code yJ5_init_d00df cJ5_init_d00df 2 none ∈ gW := gW_at 994 (by decide +kernel) (by decide +kernel)
theorem wi_J5_init_d00df : Cond.instanceMethod yJ5_init_d00df ∈ gW := gW_at 993 (by decide +kernel) (by decide +kernel)
abbrev YJ5_length_8abf5 : gY := (yJ5_length_8abf5, cJ5_length_8abf5, 1, (some .int), { frames := 0, cells := 0, slots := 0, locals := 0 })
abbrev MJ5_length_8abf5 : gM := (cJ5_length_8abf5, 1, RJ5, (some .int), [], "length", YJ5_length_8abf5.2.2.2.2)
theorem yn_J5_length_8abf5 : gName yJ5_length_8abf5 0 := ⟨by decide +kernel, by decide +kernel, by decide +kernel⟩
theorem wc_J5_length_8abf5 : Cond.code yJ5_length_8abf5 cJ5_length_8abf5 1 (some .int) ∈ gW := gW_at 1188 (by decide +kernel) (by decide +kernel)
theorem wi_J5_length_8abf5 : Cond.instanceMethod yJ5_length_8abf5 ∈ gW := gW_at 1182 (by decide +kernel) (by decide +kernel)
abbrev YJ5_ensureCapacityInternal_d00df : gY := (yJ5_ensureCapacityInternal_d00df, cJ5_ensureCapacityInternal_d00df, 3, none, { frames := 9, cells := 0, slots := 0, locals := 425 })
abbrev MJ5_ensureCapacityInternal_d00df : gM := (cJ5_ensureCapacityInternal_d00df, 3, RJ5, none, [], "ensureCapacityInternal", YJ5_ensureCapacityInternal_d00df.2.2.2.2)
theorem yn_J5_ensureCapacityInternal_d00df : gName yJ5_ensureCapacityInternal_d00df 1 := ⟨by decide +kernel, by decide +kernel, by decide +kernel⟩
theorem wc_J5_ensureCapacityInternal_d00df : Cond.code yJ5_ensureCapacityInternal_d00df cJ5_ensureCapacityInternal_d00df 3 none ∈ gW := gW_at 1034 (by decide +kernel) (by decide +kernel)
theorem wi_J5_ensureCapacityInternal_d00df : Cond.instanceMethod yJ5_ensureCapacityInternal_d00df ∈ gW := gW_at 1033 (by decide +kernel) (by decide +kernel)
abbrev YJ5_append_cf1ce : gY := (yJ5_append_cf1ce, cJ5_append_cf1ce, 3, (some (.object "java/lang/AbstractStringBuilder")), { frames := 11, cells := 0, slots := 0, locals := 469 })
abbrev MJ5_append_cf1ce : gM := (cJ5_append_cf1ce, 3, RJ5, (some (.object "java/lang/AbstractStringBuilder")), [], "append", YJ5_append_cf1ce.2.2.2.2)
theorem yn_J5_append_cf1ce : gName yJ5_append_cf1ce 1 := ⟨by decide +kernel, by decide +kernel, by decide +kernel⟩
theorem wc_J5_append_cf1ce : Cond.code yJ5_append_cf1ce cJ5_append_cf1ce 3 (some (.object "java/lang/AbstractStringBuilder")) ∈ gW := gW_at 1026 (by decide +kernel) (by decide +kernel)
theorem wi_J5_append_cf1ce : Cond.instanceMethod yJ5_append_cf1ce ∈ gW := gW_at 1025 (by decide +kernel) (by decide +kernel)
abbrev YJ5_append_c97b9 : gY := (yJ5_append_c97b9, cJ5_append_c97b9, 4, (some (.object "java/lang/AbstractStringBuilder")), { frames := 10, cells := 0, slots := 0, locals := 447 })
abbrev MJ5_append_c97b9 : gM := (cJ5_append_c97b9, 4, RJ5, (some (.object "java/lang/AbstractStringBuilder")), [], "append", YJ5_append_c97b9.2.2.2.2)
theorem yn_J5_append_c97b9 : gName yJ5_append_c97b9 1 := ⟨by decide +kernel, by decide +kernel, by decide +kernel⟩
theorem wc_J5_append_c97b9 : Cond.code yJ5_append_c97b9 cJ5_append_c97b9 4 (some (.object "java/lang/AbstractStringBuilder")) ∈ gW := gW_at 1142 (by decide +kernel) (by decide +kernel)
theorem wi_J5_append_c97b9 : Cond.instanceMethod yJ5_append_c97b9 ∈ gW := gW_at 1141 (by decide +kernel) (by decide +kernel)
abbrev YJ5_getValue_6d5f1 : gY := (yJ5_getValue_6d5f1, cJ5_getValue_6d5f1, 1, (some (.array .byte)), { frames := 0, cells := 0, slots := 0, locals := 0 })
abbrev MJ5_getValue_6d5f1 : gM := (cJ5_getValue_6d5f1, 1, RJ5, (some (.array .byte)), [], "getValue", YJ5_getValue_6d5f1.2.2.2.2)
theorem yn_J5_getValue_6d5f1 : gName yJ5_getValue_6d5f1 0 := ⟨by decide +kernel, by decide +kernel, by decide +kernel⟩
theorem wc_J5_getValue_6d5f1 : Cond.code yJ5_getValue_6d5f1 cJ5_getValue_6d5f1 1 (some (.array .byte)) ∈ gW := gW_at 1180 (by decide +kernel) (by decide +kernel)
theorem wi_J5_getValue_6d5f1 : Cond.instanceMethod yJ5_getValue_6d5f1 ∈ gW := gW_at 1177 (by decide +kernel) (by decide +kernel)
abbrev YJ5_isLatin1_aae02 : gY := (yJ5_isLatin1_aae02, cJ5_isLatin1_aae02, 1, (some .boolean), { frames := 0, cells := 0, slots := 0, locals := 0 })
abbrev MJ5_isLatin1_aae02 : gM := (cJ5_isLatin1_aae02, 1, RJ5, (some .boolean), [], "isLatin1", YJ5_isLatin1_aae02.2.2.2.2)
theorem yn_J5_isLatin1_aae02 : gName yJ5_isLatin1_aae02 0 := ⟨by decide +kernel, by decide +kernel, by decide +kernel⟩
theorem wc_J5_isLatin1_aae02 : Cond.code yJ5_isLatin1_aae02 cJ5_isLatin1_aae02 1 (some .boolean) ∈ gW := gW_at 1066 (by decide +kernel) (by decide +kernel)
theorem wi_J5_isLatin1_aae02 : Cond.instanceMethod yJ5_isLatin1_aae02 ∈ gW := gW_at 1063 (by decide +kernel) (by decide +kernel)
abbrev YJ5_inflateIfNeededFor_a7421 : gY := (yJ5_inflateIfNeededFor_a7421, cJ5_inflateIfNeededFor_a7421, 2, none, { frames := 9, cells := 0, slots := 0, locals := 421 })
abbrev MJ5_inflateIfNeededFor_a7421 : gM := (cJ5_inflateIfNeededFor_a7421, 2, RJ5, none, [], "inflateIfNeededFor", YJ5_inflateIfNeededFor_a7421.2.2.2.2)
theorem yn_J5_inflateIfNeededFor_a7421 : gName yJ5_inflateIfNeededFor_a7421 1 := ⟨by decide +kernel, by decide +kernel, by decide +kernel⟩
theorem wc_J5_inflateIfNeededFor_a7421 : Cond.code yJ5_inflateIfNeededFor_a7421 cJ5_inflateIfNeededFor_a7421 2 none ∈ gW := gW_at 1109 (by decide +kernel) (by decide +kernel)
theorem wi_J5_inflateIfNeededFor_a7421 : Cond.instanceMethod yJ5_inflateIfNeededFor_a7421 ∈ gW := gW_at 1108 (by decide +kernel) (by decide +kernel)
abbrev YJ5_putStringAt_47b60 : gY := (yJ5_putStringAt_47b60, cJ5_putStringAt_47b60, 3, none, { frames := 10, cells := 0, slots := 0, locals := 447 })
abbrev MJ5_putStringAt_47b60 : gM := (cJ5_putStringAt_47b60, 3, RJ5, none, [], "putStringAt", YJ5_putStringAt_47b60.2.2.2.2)
theorem yn_J5_putStringAt_47b60 : gName yJ5_putStringAt_47b60 2 := ⟨by decide +kernel, by decide +kernel, by decide +kernel⟩
theorem wc_J5_putStringAt_47b60 : Cond.code yJ5_putStringAt_47b60 cJ5_putStringAt_47b60 3 none ∈ gW := gW_at 1105 (by decide +kernel) (by decide +kernel)
theorem wi_J5_putStringAt_47b60 : Cond.instanceMethod yJ5_putStringAt_47b60 ∈ gW := gW_at 1104 (by decide +kernel) (by decide +kernel)
abbrev YJx00060_init_a7421 : gY := (yJx00060_init_a7421, cJx00060_init_a7421, 2, none, { frames := 6, cells := 1, slots := 6, locals := 130 })
abbrev MJx00060_init_a7421 : gM := (cJx00060_init_a7421, 2, RJx00060, none, [], "<init>", YJx00060_init_a7421.2.2.2.2)
theorem yn_Jx00060_init_a7421 : gName yJx00060_init_a7421 1 := ⟨by decide +kernel, by decide +kernel, by decide +kernel⟩
theorem wc_Jx00060_init_a7421 : Cond.code yJx00060_init_a7421 cJx00060_init_a7421 2 none ∈ gW := gW_at 429 (by decide +kernel) (by decide +kernel)
theorem wi_Jx00060_init_a7421 : Cond.instanceMethod yJx00060_init_a7421 ∈ gW := gW_at 428 (by decide +kernel) (by decide +kernel)
abbrev YJxe99ae_isNaN_b9ae7 : gY := (yJxe99ae_isNaN_b9ae7, cJxe99ae_isNaN_b9ae7, 2, (some .boolean), { frames := 0, cells := 0, slots := 0, locals := 0 })
abbrev MJxe99ae_isNaN_b9ae7 : gM := (cJxe99ae_isNaN_b9ae7, 2, RJxe99ae, (some .boolean), [], "isNaN", YJxe99ae_isNaN_b9ae7.2.2.2.2)
theorem yn_Jxe99ae_isNaN_b9ae7 : gName yJxe99ae_isNaN_b9ae7 1 := ⟨by decide +kernel, by decide +kernel, by decide +kernel⟩
theorem wc_Jxe99ae_isNaN_b9ae7 : Cond.code yJxe99ae_isNaN_b9ae7 cJxe99ae_isNaN_b9ae7 2 (some .boolean) ∈ gW := gW_at 788 (by decide +kernel) (by decide +kernel)
theorem wt_Jxe99ae_isNaN_b9ae7 : Cond.static yJxe99ae_isNaN_b9ae7 ∈ gW := gW_at 787 (by decide +kernel) (by decide +kernel)
abbrev YJxe99ae_doubleToLongBits_ccdee : gY := (yJxe99ae_doubleToLongBits_ccdee, cJxe99ae_doubleToLongBits_ccdee, 2, (some .long), { frames := 1, cells := 0, slots := 0, locals := 48 })
abbrev MJxe99ae_doubleToLongBits_ccdee : gM := (cJxe99ae_doubleToLongBits_ccdee, 2, RJxe99ae, (some .long), [], "doubleToLongBits", YJxe99ae_doubleToLongBits_ccdee.2.2.2.2)
theorem yn_Jxe99ae_doubleToLongBits_ccdee : gName yJxe99ae_doubleToLongBits_ccdee 1 := ⟨by decide +kernel, by decide +kernel, by decide +kernel⟩
theorem wc_Jxe99ae_doubleToLongBits_ccdee : Cond.code yJxe99ae_doubleToLongBits_ccdee cJxe99ae_doubleToLongBits_ccdee 2 (some .long) ∈ gW := gW_at 785 (by decide +kernel) (by decide +kernel)
theorem wt_Jxe99ae_doubleToLongBits_ccdee : Cond.static yJxe99ae_doubleToLongBits_ccdee ∈ gW := gW_at 784 (by decide +kernel) (by decide +kernel)
abbrev YJxf58ca_isNaN_12338 : gY := (yJxf58ca_isNaN_12338, cJxf58ca_isNaN_12338, 1, (some .boolean), { frames := 0, cells := 0, slots := 0, locals := 0 })
abbrev MJxf58ca_isNaN_12338 : gM := (cJxf58ca_isNaN_12338, 1, RJxf58ca, (some .boolean), [], "isNaN", YJxf58ca_isNaN_12338.2.2.2.2)
theorem yn_Jxf58ca_isNaN_12338 : gName yJxf58ca_isNaN_12338 1 := ⟨by decide +kernel, by decide +kernel, by decide +kernel⟩
theorem wc_Jxf58ca_isNaN_12338 : Cond.code yJxf58ca_isNaN_12338 cJxf58ca_isNaN_12338 1 (some .boolean) ∈ gW := gW_at 573 (by decide +kernel) (by decide +kernel)
theorem wt_Jxf58ca_isNaN_12338 : Cond.static yJxf58ca_isNaN_12338 ∈ gW := gW_at 572 (by decide +kernel) (by decide +kernel)
abbrev YJxf58ca_floatToIntBits_5c35a : gY := (yJxf58ca_floatToIntBits_5c35a, cJxf58ca_floatToIntBits_5c35a, 1, (some .int), { frames := 1, cells := 0, slots := 0, locals := 48 })
abbrev MJxf58ca_floatToIntBits_5c35a : gM := (cJxf58ca_floatToIntBits_5c35a, 1, RJxf58ca, (some .int), [], "floatToIntBits", YJxf58ca_floatToIntBits_5c35a.2.2.2.2)
theorem yn_Jxf58ca_floatToIntBits_5c35a : gName yJxf58ca_floatToIntBits_5c35a 1 := ⟨by decide +kernel, by decide +kernel, by decide +kernel⟩
theorem wc_Jxf58ca_floatToIntBits_5c35a : Cond.code yJxf58ca_floatToIntBits_5c35a cJxf58ca_floatToIntBits_5c35a 1 (some .int) ∈ gW := gW_at 570 (by decide +kernel) (by decide +kernel)
theorem wt_Jxf58ca_floatToIntBits_5c35a : Cond.static yJxf58ca_floatToIntBits_5c35a ∈ gW := gW_at 569 (by decide +kernel) (by decide +kernel)
abbrev YJ6_getChars_ba4f3 : gY := (yJ6_getChars_ba4f3, cJ6_getChars_ba4f3, 7, (some .int), { frames := 0, cells := 0, slots := 0, locals := 0 })
abbrev MJ6_getChars_ba4f3 : gM := (cJ6_getChars_ba4f3, 7, RJ6, (some .int), [], "getChars", YJ6_getChars_ba4f3.2.2.2.2)
theorem yn_J6_getChars_ba4f3 : gName yJ6_getChars_ba4f3 3 := ⟨by decide +kernel, by decide +kernel, by decide +kernel⟩
theorem wc_J6_getChars_ba4f3 : Cond.code yJ6_getChars_ba4f3 cJ6_getChars_ba4f3 7 (some .int) ∈ gW := gW_at 1148 (by decide +kernel) (by decide +kernel)
theorem wt_J6_getChars_ba4f3 : Cond.static yJ6_getChars_ba4f3 ∈ gW := gW_at 1147 (by decide +kernel) (by decide +kernel)
abbrev YJ6_stringSize_0f7a4 : gY := (yJ6_stringSize_0f7a4, cJ6_stringSize_0f7a4, 4, (some .int), { frames := 0, cells := 0, slots := 0, locals := 0 })
abbrev MJ6_stringSize_0f7a4 : gM := (cJ6_stringSize_0f7a4, 4, RJ6, (some .int), [], "stringSize", YJ6_stringSize_0f7a4.2.2.2.2)
theorem yn_J6_stringSize_0f7a4 : gName yJ6_stringSize_0f7a4 1 := ⟨by decide +kernel, by decide +kernel, by decide +kernel⟩
theorem wc_J6_stringSize_0f7a4 : Cond.code yJ6_stringSize_0f7a4 cJ6_stringSize_0f7a4 4 (some .int) ∈ gW := gW_at 1145 (by decide +kernel) (by decide +kernel)
theorem wt_J6_stringSize_0f7a4 : Cond.static yJ6_stringSize_0f7a4 ∈ gW := gW_at 1144 (by decide +kernel) (by decide +kernel)
abbrev YJ0_init_81219 : gY := (yJ0_init_81219, cJ0_init_81219, 2, none, { frames := 10, cells := 1, slots := 60, locals := 449 })
abbrev MJ0_init_81219 : gM := (cJ0_init_81219, 2, RJ0, none, [], "<init>", YJ0_init_81219.2.2.2.2)
theorem yn_J0_init_81219 : gName yJ0_init_81219 1 := ⟨by decide +kernel, by decide +kernel, by decide +kernel⟩
theorem wc_J0_init_81219 : Cond.code yJ0_init_81219 cJ0_init_81219 2 none ∈ gW := gW_at 1171 (by decide +kernel) (by decide +kernel)
theorem wi_J0_init_81219 : Cond.instanceMethod yJ0_init_81219 ∈ gW := gW_at 1170 (by decide +kernel) (by decide +kernel)
abbrev YJ0_length_8abf5 : gY := (yJ0_length_8abf5, cJ0_length_8abf5, 1, (some .int), { frames := 1, cells := 0, slots := 0, locals := 20 })
abbrev MJ0_length_8abf5 : gM := (cJ0_length_8abf5, 1, RJ0, (some .int), [], "length", YJ0_length_8abf5.2.2.2.2)
theorem yn_J0_length_8abf5 : gName yJ0_length_8abf5 0 := ⟨by decide +kernel, by decide +kernel, by decide +kernel⟩
theorem wc_J0_length_8abf5 : Cond.code yJ0_length_8abf5 cJ0_length_8abf5 1 (some .int) ∈ gW := gW_at 1096 (by decide +kernel) (by decide +kernel)
theorem wi_J0_length_8abf5 : Cond.instanceMethod yJ0_length_8abf5 ∈ gW := gW_at 1094 (by decide +kernel) (by decide +kernel)
theorem we_J0_length_8abf5 : Cond.selects RJ0 yJ0_length_8abf5 yJ0_length_8abf5 ∈ gW := gW_at 1095 (by decide +kernel) (by decide +kernel)
abbrev YJ0_charAt_5068e : gY := (yJ0_charAt_5068e, cJ0_charAt_5068e, 2, (some .char), { frames := 9, cells := 0, slots := 0, locals := 421 })
abbrev MJ0_charAt_5068e : gM := (cJ0_charAt_5068e, 2, RJ0, (some .char), [], "charAt", YJ0_charAt_5068e.2.2.2.2)
theorem yn_J0_charAt_5068e : gName yJ0_charAt_5068e 1 := ⟨by decide +kernel, by decide +kernel, by decide +kernel⟩
theorem wc_J0_charAt_5068e : Cond.code yJ0_charAt_5068e cJ0_charAt_5068e 2 (some .char) ∈ gW := gW_at 1234 (by decide +kernel) (by decide +kernel)
theorem wi_J0_charAt_5068e : Cond.instanceMethod yJ0_charAt_5068e ∈ gW := gW_at 1232 (by decide +kernel) (by decide +kernel)
theorem we_J0_charAt_5068e : Cond.selects RJ0 yJ0_charAt_5068e yJ0_charAt_5068e ∈ gW := gW_at 1233 (by decide +kernel) (by decide +kernel)
abbrev YJ0_getBytes_840e7 : gY := (yJ0_getBytes_840e7, cJ0_getBytes_840e7, 4, none, { frames := 9, cells := 0, slots := 0, locals := 424 })
abbrev MJ0_getBytes_840e7 : gM := (cJ0_getBytes_840e7, 4, RJ0, none, [], "getBytes", YJ0_getBytes_840e7.2.2.2.2)
theorem yn_J0_getBytes_840e7 : gName yJ0_getBytes_840e7 3 := ⟨by decide +kernel, by decide +kernel, by decide +kernel⟩
theorem wc_J0_getBytes_840e7 : Cond.code yJ0_getBytes_840e7 cJ0_getBytes_840e7 4 none ∈ gW := gW_at 1133 (by decide +kernel) (by decide +kernel)
theorem wi_J0_getBytes_840e7 : Cond.instanceMethod yJ0_getBytes_840e7 ∈ gW := gW_at 1131 (by decide +kernel) (by decide +kernel)
theorem we_J0_getBytes_840e7 : Cond.selects RJ0 yJ0_getBytes_840e7 yJ0_getBytes_840e7 ∈ gW := gW_at 1132 (by decide +kernel) (by decide +kernel)
abbrev YJ0_init_db425 : gY := (yJ0_init_db425, cJ0_init_db425, 5, none, { frames := 9, cells := 1, slots := 60, locals := 425 })
abbrev MJ0_init_db425 : gM := (cJ0_init_db425, 5, RJ0, none, [], "<init>", YJ0_init_db425.2.2.2.2)
theorem yn_J0_init_db425 : gName yJ0_init_db425 2 := ⟨by decide +kernel, by decide +kernel, by decide +kernel⟩
theorem wc_J0_init_db425 : Cond.code yJ0_init_db425 cJ0_init_db425 5 none ∈ gW := gW_at 1174 (by decide +kernel) (by decide +kernel)
theorem wi_J0_init_db425 : Cond.instanceMethod yJ0_init_db425 ∈ gW := gW_at 1173 (by decide +kernel) (by decide +kernel)
abbrev YJ0_coder_7d493 : gY := (yJ0_coder_7d493, cJ0_coder_7d493, 1, (some .byte), { frames := 0, cells := 0, slots := 0, locals := 0 })
abbrev MJ0_coder_7d493 : gM := (cJ0_coder_7d493, 1, RJ0, (some .byte), [], "coder", YJ0_coder_7d493.2.2.2.2)
theorem yn_J0_coder_7d493 : gName yJ0_coder_7d493 0 := ⟨by decide +kernel, by decide +kernel, by decide +kernel⟩
theorem wc_J0_coder_7d493 : Cond.code yJ0_coder_7d493 cJ0_coder_7d493 1 (some .byte) ∈ gW := gW_at 1100 (by decide +kernel) (by decide +kernel)
theorem wi_J0_coder_7d493 : Cond.instanceMethod yJ0_coder_7d493 ∈ gW := gW_at 1098 (by decide +kernel) (by decide +kernel)
theorem we_J0_coder_7d493 : Cond.selects RJ0 yJ0_coder_7d493 yJ0_coder_7d493 ∈ gW := gW_at 1099 (by decide +kernel) (by decide +kernel)
abbrev YJ0_isLatin1_aae02 : gY := (yJ0_isLatin1_aae02, cJ0_isLatin1_aae02, 1, (some .boolean), { frames := 0, cells := 0, slots := 0, locals := 0 })
abbrev MJ0_isLatin1_aae02 : gM := (cJ0_isLatin1_aae02, 1, RJ0, (some .boolean), [], "isLatin1", YJ0_isLatin1_aae02.2.2.2.2)
theorem yn_J0_isLatin1_aae02 : gName yJ0_isLatin1_aae02 0 := ⟨by decide +kernel, by decide +kernel, by decide +kernel⟩
theorem wc_J0_isLatin1_aae02 : Cond.code yJ0_isLatin1_aae02 cJ0_isLatin1_aae02 1 (some .boolean) ∈ gW := gW_at 1238 (by decide +kernel) (by decide +kernel)
theorem wi_J0_isLatin1_aae02 : Cond.instanceMethod yJ0_isLatin1_aae02 ∈ gW := gW_at 1236 (by decide +kernel) (by decide +kernel)
theorem we_J0_isLatin1_aae02 : Cond.selects RJ0 yJ0_isLatin1_aae02 yJ0_isLatin1_aae02 ∈ gW := gW_at 1237 (by decide +kernel) (by decide +kernel)
abbrev YJ0_checkIndex_df160 : gY := (yJ0_checkIndex_df160, cJ0_checkIndex_df160, 2, none, { frames := 1, cells := 0, slots := 0, locals := 22 })
abbrev MJ0_checkIndex_df160 : gM := (cJ0_checkIndex_df160, 2, RJ0, none, [], "checkIndex", YJ0_checkIndex_df160.2.2.2.2)
theorem yn_J0_checkIndex_df160 : gName yJ0_checkIndex_df160 2 := ⟨by decide +kernel, by decide +kernel, by decide +kernel⟩
theorem wc_J0_checkIndex_df160 : Cond.code yJ0_checkIndex_df160 cJ0_checkIndex_df160 2 none ∈ gW := gW_at 1244 (by decide +kernel) (by decide +kernel)
theorem wt_J0_checkIndex_df160 : Cond.static yJ0_checkIndex_df160 ∈ gW := gW_at 1243 (by decide +kernel) (by decide +kernel)
abbrev YJ0_checkBoundsOffCount_cabcc : gY := (yJ0_checkBoundsOffCount_cabcc, cJ0_checkBoundsOffCount_cabcc, 3, (some .int), { frames := 9, cells := 0, slots := 0, locals := 423 })
abbrev MJ0_checkBoundsOffCount_cabcc : gM := (cJ0_checkBoundsOffCount_cabcc, 3, RJ0, (some .int), [], "checkBoundsOffCount", YJ0_checkBoundsOffCount_cabcc.2.2.2.2)
theorem yn_J0_checkBoundsOffCount_cabcc : gName yJ0_checkBoundsOffCount_cabcc 3 := ⟨by decide +kernel, by decide +kernel, by decide +kernel⟩
theorem wc_J0_checkBoundsOffCount_cabcc : Cond.code yJ0_checkBoundsOffCount_cabcc cJ0_checkBoundsOffCount_cabcc 3 (some .int) ∈ gW := gW_at 1126 (by decide +kernel) (by decide +kernel)
theorem wt_J0_checkBoundsOffCount_cabcc : Cond.static yJ0_checkBoundsOffCount_cabcc ∈ gW := gW_at 1125 (by decide +kernel) (by decide +kernel)
abbrev YJ0_checkBoundsBeginEnd_23922 : gY := (yJ0_checkBoundsBeginEnd_23922, cJ0_checkBoundsBeginEnd_23922, 3, none, { frames := 9, cells := 0, slots := 0, locals := 423 })
abbrev MJ0_checkBoundsBeginEnd_23922 : gM := (cJ0_checkBoundsBeginEnd_23922, 3, RJ0, none, [], "checkBoundsBeginEnd", YJ0_checkBoundsBeginEnd_23922.2.2.2.2)
theorem yn_J0_checkBoundsBeginEnd_23922 : gName yJ0_checkBoundsBeginEnd_23922 3 := ⟨by decide +kernel, by decide +kernel, by decide +kernel⟩
theorem wc_J0_checkBoundsBeginEnd_23922 : Cond.code yJ0_checkBoundsBeginEnd_23922 cJ0_checkBoundsBeginEnd_23922 3 none ∈ gW := gW_at 1078 (by decide +kernel) (by decide +kernel)
theorem wt_J0_checkBoundsBeginEnd_23922 : Cond.static yJ0_checkBoundsBeginEnd_23922 ∈ gW := gW_at 1077 (by decide +kernel) (by decide +kernel)
abbrev YJ4_init_da8c8 : gY := (yJ4_init_da8c8, cJ4_init_da8c8, 1, none, { frames := 10, cells := 1, slots := 16, locals := 441 })
abbrev MJ4_init_da8c8 : gM := (cJ4_init_da8c8, 1, RJ4, none, [], "<init>", YJ4_init_da8c8.2.2.2.2)
theorem yn_J4_init_da8c8 : gName yJ4_init_da8c8 0 := ⟨by decide +kernel, by decide +kernel, by decide +kernel⟩
theorem wc_J4_init_da8c8 : Cond.code yJ4_init_da8c8 cJ4_init_da8c8 1 none ∈ gW := gW_at 991 (by decide +kernel) (by decide +kernel)
theorem wi_J4_init_da8c8 : Cond.instanceMethod yJ4_init_da8c8 ∈ gW := gW_at 990 (by decide +kernel) (by decide +kernel)
abbrev YJ4_append_15ec4 : gY := (yJ4_append_15ec4, cJ4_append_15ec4, 2, (some (.object "java/lang/StringBuilder")), { frames := 12, cells := 0, slots := 0, locals := 491 })
abbrev MJ4_append_15ec4 : gM := (cJ4_append_15ec4, 2, RJ4, (some (.object "java/lang/StringBuilder")), [], "append", YJ4_append_15ec4.2.2.2.2)
theorem yn_J4_append_15ec4 : gName yJ4_append_15ec4 1 := ⟨by decide +kernel, by decide +kernel, by decide +kernel⟩
theorem wc_J4_append_15ec4 : Cond.code yJ4_append_15ec4 cJ4_append_15ec4 2 (some (.object "java/lang/StringBuilder")) ∈ gW := gW_at 1023 (by decide +kernel) (by decide +kernel)
theorem wi_J4_append_15ec4 : Cond.instanceMethod yJ4_append_15ec4 ∈ gW := gW_at 1021 (by decide +kernel) (by decide +kernel)
theorem we_J4_append_15ec4 : Cond.selects RJ4 yJ4_append_15ec4 yJ4_append_15ec4 ∈ gW := gW_at 1022 (by decide +kernel) (by decide +kernel)
abbrev YJ4_append_bf812 : gY := (yJ4_append_bf812, cJ4_append_bf812, 2, (some (.object "java/lang/StringBuilder")), { frames := 11, cells := 0, slots := 0, locals := 470 })
abbrev MJ4_append_bf812 : gM := (cJ4_append_bf812, 2, RJ4, (some (.object "java/lang/StringBuilder")), [], "append", YJ4_append_bf812.2.2.2.2)
theorem yn_J4_append_bf812 : gName yJ4_append_bf812 1 := ⟨by decide +kernel, by decide +kernel, by decide +kernel⟩
theorem wc_J4_append_bf812 : Cond.code yJ4_append_bf812 cJ4_append_bf812 2 (some (.object "java/lang/StringBuilder")) ∈ gW := gW_at 1139 (by decide +kernel) (by decide +kernel)
theorem wi_J4_append_bf812 : Cond.instanceMethod yJ4_append_bf812 ∈ gW := gW_at 1137 (by decide +kernel) (by decide +kernel)
theorem we_J4_append_bf812 : Cond.selects RJ4 yJ4_append_bf812 yJ4_append_bf812 ∈ gW := gW_at 1138 (by decide +kernel) (by decide +kernel)
abbrev YJ4_toString_0e30d : gY := (yJ4_toString_0e30d, cJ4_toString_0e30d, 1, (some (.object "java/lang/String")), { frames := 11, cells := 2, slots := 64, locals := 470 })
abbrev MJ4_toString_0e30d : gM := (cJ4_toString_0e30d, 1, RJ4, (some (.object "java/lang/String")), [], "toString", YJ4_toString_0e30d.2.2.2.2)
theorem yn_J4_toString_0e30d : gName yJ4_toString_0e30d 0 := ⟨by decide +kernel, by decide +kernel, by decide +kernel⟩
theorem wc_J4_toString_0e30d : Cond.code yJ4_toString_0e30d cJ4_toString_0e30d 1 (some (.object "java/lang/String")) ∈ gW := gW_at 1167 (by decide +kernel) (by decide +kernel)
theorem wi_J4_toString_0e30d : Cond.instanceMethod yJ4_toString_0e30d ∈ gW := gW_at 1165 (by decide +kernel) (by decide +kernel)
theorem we_J4_toString_0e30d : Cond.selects RJ4 yJ4_toString_0e30d yJ4_toString_0e30d ∈ gW := gW_at 1166 (by decide +kernel) (by decide +kernel)
abbrev YJ4_length_8abf5 : gY := (yJ4_length_8abf5, cJ4_length_8abf5, 1, (some .int), { frames := 1, cells := 0, slots := 0, locals := 20 })
abbrev MJ4_length_8abf5 : gM := (cJ4_length_8abf5, 1, RJ4, (some .int), [], "length", YJ4_length_8abf5.2.2.2.2)
theorem yn_J4_length_8abf5 : gName yJ4_length_8abf5 0 := ⟨by decide +kernel, by decide +kernel, by decide +kernel⟩
theorem wc_J4_length_8abf5 : Cond.code yJ4_length_8abf5 cJ4_length_8abf5 1 (some .int) ∈ gW := gW_at 1186 (by decide +kernel) (by decide +kernel)
theorem wi_J4_length_8abf5 : Cond.instanceMethod yJ4_length_8abf5 ∈ gW := gW_at 1185 (by decide +kernel) (by decide +kernel)
abbrev YJ1_charAt_3b067 : gY := (yJ1_charAt_3b067, cJ1_charAt_3b067, 2, (some .char), { frames := 2, cells := 0, slots := 0, locals := 43 })
abbrev MJ1_charAt_3b067 : gM := (cJ1_charAt_3b067, 2, RJ1, (some .char), [], "charAt", YJ1_charAt_3b067.2.2.2.2)
theorem yn_J1_charAt_3b067 : gName yJ1_charAt_3b067 2 := ⟨by decide +kernel, by decide +kernel, by decide +kernel⟩
theorem wc_J1_charAt_3b067 : Cond.code yJ1_charAt_3b067 cJ1_charAt_3b067 2 (some .char) ∈ gW := gW_at 1241 (by decide +kernel) (by decide +kernel)
theorem wt_J1_charAt_3b067 : Cond.static yJ1_charAt_3b067 ∈ gW := gW_at 1240 (by decide +kernel) (by decide +kernel)
abbrev YJ7_checkLength_df160 : gY := (yJ7_checkLength_df160, cJ7_checkLength_df160, 2, none, { frames := 0, cells := 0, slots := 0, locals := 0 })
abbrev MJ7_checkLength_df160 : gM := (cJ7_checkLength_df160, 2, RJ7, none, [], "checkLength", YJ7_checkLength_df160.2.2.2.2)
theorem yn_J7_checkLength_df160 : gName yJ7_checkLength_df160 2 := ⟨by decide +kernel, by decide +kernel, by decide +kernel⟩
theorem wc_J7_checkLength_df160 : Cond.code yJ7_checkLength_df160 cJ7_checkLength_df160 2 none ∈ gW := gW_at 1198 (by decide +kernel) (by decide +kernel)
theorem wt_J7_checkLength_df160 : Cond.static yJ7_checkLength_df160 ∈ gW := gW_at 1197 (by decide +kernel) (by decide +kernel)
abbrev YJ7_copyOfRange_39247 : gY := (yJ7_copyOfRange_39247, cJ7_copyOfRange_39247, 3, (some (.array .byte)), { frames := 2, cells := 1, slots := 60, locals := 72 })
abbrev MJ7_copyOfRange_39247 : gM := (cJ7_copyOfRange_39247, 3, RJ7, (some (.array .byte)), [], "copyOfRange", YJ7_copyOfRange_39247.2.2.2.2)
theorem yn_J7_copyOfRange_39247 : gName yJ7_copyOfRange_39247 3 := ⟨by decide +kernel, by decide +kernel, by decide +kernel⟩
theorem wc_J7_copyOfRange_39247 : Cond.code yJ7_copyOfRange_39247 cJ7_copyOfRange_39247 3 (some (.array .byte)) ∈ gW := gW_at 1192 (by decide +kernel) (by decide +kernel)
theorem wt_J7_copyOfRange_39247 : Cond.static yJ7_copyOfRange_39247 ∈ gW := gW_at 1191 (by decide +kernel) (by decide +kernel)
abbrev YJ7_copyOfRangeByte_39247 : gY := (yJ7_copyOfRangeByte_39247, cJ7_copyOfRangeByte_39247, 5, (some (.array .byte)), { frames := 1, cells := 1, slots := 60, locals := 48 })
abbrev MJ7_copyOfRangeByte_39247 : gM := (cJ7_copyOfRangeByte_39247, 5, RJ7, (some (.array .byte)), [], "copyOfRangeByte", YJ7_copyOfRangeByte_39247.2.2.2.2)
theorem yn_J7_copyOfRangeByte_39247 : gName yJ7_copyOfRangeByte_39247 3 := ⟨by decide +kernel, by decide +kernel, by decide +kernel⟩
theorem wc_J7_copyOfRangeByte_39247 : Cond.code yJ7_copyOfRangeByte_39247 cJ7_copyOfRangeByte_39247 5 (some (.array .byte)) ∈ gW := gW_at 1195 (by decide +kernel) (by decide +kernel)
theorem wt_J7_copyOfRangeByte_39247 : Cond.static yJ7_copyOfRangeByte_39247 ∈ gW := gW_at 1194 (by decide +kernel) (by decide +kernel)
abbrev YJ3_checkIndex_8e157 : gY := (yJ3_checkIndex_8e157, cJ3_checkIndex_8e157, 3, (some .int), { frames := 0, cells := 0, slots := 0, locals := 0 })
abbrev MJ3_checkIndex_8e157 : gM := (cJ3_checkIndex_8e157, 3, RJ3, (some .int), [], "checkIndex", YJ3_checkIndex_8e157.2.2.2.2)
theorem yn_J3_checkIndex_8e157 : gName yJ3_checkIndex_8e157 3 := ⟨by decide +kernel, by decide +kernel, by decide +kernel⟩
theorem wc_J3_checkIndex_8e157 : Cond.code yJ3_checkIndex_8e157 cJ3_checkIndex_8e157 3 (some .int) ∈ gW := gW_at 1247 (by decide +kernel) (by decide +kernel)
theorem wt_J3_checkIndex_8e157 : Cond.static yJ3_checkIndex_8e157 ∈ gW := gW_at 1246 (by decide +kernel) (by decide +kernel)
abbrev YL_cell : gY := (yL_cell, cL_cell, 2, (some .int), { frames := 0, cells := 0, slots := 0, locals := 0 })
abbrev ML_cell : gM := (cL_cell, 2, RL, (some .int), [], "cell", YL_cell.2.2.2.2)
theorem yn_L_cell : gName yL_cell 2 := ⟨by decide +kernel, by decide +kernel, by decide +kernel⟩
theorem wc_L_cell : Cond.code yL_cell cL_cell 2 (some .int) ∈ gW := gW_at 247 (by decide +kernel) (by decide +kernel)
theorem wt_L_cell : Cond.static yL_cell ∈ gW := gW_at 246 (by decide +kernel) (by decide +kernel)
abbrev YL_set : gY := (yL_set, cL_set, 4, (some .int), { frames := 7, cells := 1, slots := 6, locals := 153 })
abbrev ML_set : gM := (cL_set, 4, RL, (some .int), tableOf [((0), (6), (7), (14))], "set", YL_set.2.2.2.2)
theorem yn_L_set : gName yL_set 3 := ⟨by decide +kernel, by decide +kernel, by decide +kernel⟩
theorem wc_L_set : Cond.codeWith yL_set cL_set 4 (some .int) [((0), (6), (7), (14))] ∈ gW := gW_at 251 (by decide +kernel) (by decide +kernel)
theorem wt_L_set : Cond.static yL_set ∈ gW := gW_at 250 (by decide +kernel) (by decide +kernel)
abbrev YL_drill : gY := (yL_drill, cL_drill, 3, (some .int), { frames := 7, cells := 1, slots := 6, locals := 151 })
abbrev ML_drill : gM := (cL_drill, 3, RL, (some .int), tableOf [((0), (5), (6), (20))], "drill", YL_drill.2.2.2.2)
theorem yn_L_drill : gName yL_drill 2 := ⟨by decide +kernel, by decide +kernel, by decide +kernel⟩
theorem wc_L_drill : Cond.codeWith yL_drill cL_drill 3 (some .int) [((0), (5), (6), (20))] ∈ gW := gW_at 547 (by decide +kernel) (by decide +kernel)
theorem wt_L_drill : Cond.static yL_drill ∈ gW := gW_at 546 (by decide +kernel) (by decide +kernel)
abbrev YL_drilled : gY := (yL_drilled, cL_drilled, 3, (some .int), { frames := 7, cells := 1, slots := 6, locals := 151 })
abbrev ML_drilled : gM := (cL_drilled, 3, RL, (some .int), tableOf [((0), (5), (6), (20)), ((0), (5), (10), (25))], "drilled", YL_drilled.2.2.2.2)
theorem yn_L_drilled : gName yL_drilled 2 := ⟨by decide +kernel, by decide +kernel, by decide +kernel⟩
theorem wc_L_drilled : Cond.codeWith yL_drilled cL_drilled 3 (some .int) [((0), (5), (6), (20)), ((0), (5), (10), (25))] ∈ gW := gW_at 730 (by decide +kernel) (by decide +kernel)
theorem wt_L_drilled : Cond.static yL_drilled ∈ gW := gW_at 729 (by decide +kernel) (by decide +kernel)
abbrev YL_mileOf : gY := (yL_mileOf, cL_mileOf, 4, (some .int), { frames := 7, cells := 1, slots := 6, locals := 153 })
abbrev ML_mileOf : gM := (cL_mileOf, 4, RL, (some .int), tableOf [((0), (6), (7), (20)), ((0), (6), (11), (14))], "mileOf", YL_mileOf.2.2.2.2)
theorem yn_L_mileOf : gName yL_mileOf 3 := ⟨by decide +kernel, by decide +kernel, by decide +kernel⟩
theorem wc_L_mileOf : Cond.codeWith yL_mileOf cL_mileOf 4 (some .int) [((0), (6), (7), (20)), ((0), (6), (11), (14))] ∈ gW := gW_at 685 (by decide +kernel) (by decide +kernel)
theorem wt_L_mileOf : Cond.static yL_mileOf ∈ gW := gW_at 684 (by decide +kernel) (by decide +kernel)
abbrev YL_truck : gY := (yL_truck, cL_truck, 6, (some .int), { frames := 7, cells := 1, slots := 6, locals := 155 })
abbrev ML_truck : gM := (cL_truck, 6, RL, (some .int), tableOf [((0), (9), (10), (20)), ((0), (9), (14), (14)), ((0), (9), (19), (34))], "truck", YL_truck.2.2.2.2)
theorem yn_L_truck : gName yL_truck 5 := ⟨by decide +kernel, by decide +kernel, by decide +kernel⟩
theorem wc_L_truck : Cond.codeWith yL_truck cL_truck 6 (some .int) [((0), (9), (10), (20)), ((0), (9), (14), (14)), ((0), (9), (19), (34))] ∈ gW := gW_at 425 (by decide +kernel) (by decide +kernel)
theorem wt_L_truck : Cond.static yL_truck ∈ gW := gW_at 424 (by decide +kernel) (by decide +kernel)
abbrev YL_inRow : gY := (yL_inRow, cL_inRow, 5, (some .int), { frames := 7, cells := 1, slots := 6, locals := 154 })
abbrev ML_inRow : gM := (cL_inRow, 5, RL, (some .int), tableOf [((0), (7), (8), (20)), ((0), (7), (13), (25)), ((0), (7), (18), (14))], "inRow", YL_inRow.2.2.2.2)
theorem yn_L_inRow : gName yL_inRow 4 := ⟨by decide +kernel, by decide +kernel, by decide +kernel⟩
theorem wc_L_inRow : Cond.codeWith yL_inRow cL_inRow 5 (some .int) [((0), (7), (8), (20)), ((0), (7), (13), (25)), ((0), (7), (18), (14))] ∈ gW := gW_at 798 (by decide +kernel) (by decide +kernel)
theorem wt_L_inRow : Cond.static yL_inRow ∈ gW := gW_at 797 (by decide +kernel) (by decide +kernel)
abbrev YL_convoy : gY := (yL_convoy, cL_convoy, 3, (some .int), { frames := 7, cells := 1, slots := 6, locals := 152 })
abbrev ML_convoy : gM := (cL_convoy, 3, RL, (some .int), tableOf [((0), (5), (6), (14)), ((0), (5), (9), (34))], "convoy", YL_convoy.2.2.2.2)
theorem yn_L_convoy : gName yL_convoy 2 := ⟨by decide +kernel, by decide +kernel, by decide +kernel⟩
theorem wc_L_convoy : Cond.codeWith yL_convoy cL_convoy 3 (some .int) [((0), (5), (6), (14)), ((0), (5), (9), (34))] ∈ gW := gW_at 397 (by decide +kernel) (by decide +kernel)
theorem wt_L_convoy : Cond.static yL_convoy ∈ gW := gW_at 396 (by decide +kernel) (by decide +kernel)
abbrev YL_join : gY := (yL_join, cL_join, 5, (some .int), { frames := 7, cells := 1, slots := 6, locals := 154 })
abbrev ML_join : gM := (cL_join, 5, RL, (some .int), tableOf [((0), (7), (8), (20)), ((0), (7), (12), (25)), ((0), (7), (17), (34))], "join", YL_join.2.2.2.2)
theorem yn_L_join : gName yL_join 4 := ⟨by decide +kernel, by decide +kernel, by decide +kernel⟩
theorem wc_L_join : Cond.codeWith yL_join cL_join 5 (some .int) [((0), (7), (8), (20)), ((0), (7), (12), (25)), ((0), (7), (17), (34))] ∈ gW := gW_at 500 (by decide +kernel) (by decide +kernel)
theorem wt_L_join : Cond.static yL_join ∈ gW := gW_at 499 (by decide +kernel) (by decide +kernel)
abbrev YL_start : gY := (yL_start, cL_start, 3, (some .int), { frames := 7, cells := 1, slots := 6, locals := 152 })
abbrev ML_start : gM := (cL_start, 3, RL, (some .int), tableOf [((0), (5), (6), (20)), ((0), (5), (9), (34))], "start", YL_start.2.2.2.2)
theorem yn_L_start : gName yL_start 2 := ⟨by decide +kernel, by decide +kernel, by decide +kernel⟩
theorem wc_L_start : Cond.codeWith yL_start cL_start 3 (some .int) [((0), (5), (6), (20)), ((0), (5), (9), (34))] ∈ gW := gW_at 580 (by decide +kernel) (by decide +kernel)
theorem wt_L_start : Cond.static yL_start ∈ gW := gW_at 579 (by decide +kernel) (by decide +kernel)
abbrev YL_roll : gY := (yL_roll, cL_roll, 3, (some .int), { frames := 7, cells := 1, slots := 6, locals := 152 })
abbrev ML_roll : gM := (cL_roll, 3, RL, (some .int), tableOf [((0), (5), (6), (20)), ((0), (5), (9), (34))], "roll", YL_roll.2.2.2.2)
theorem yn_L_roll : gName yL_roll 2 := ⟨by decide +kernel, by decide +kernel, by decide +kernel⟩
theorem wc_L_roll : Cond.codeWith yL_roll cL_roll 3 (some .int) [((0), (5), (6), (20)), ((0), (5), (9), (34))] ∈ gW := gW_at 648 (by decide +kernel) (by decide +kernel)
theorem wt_L_roll : Cond.static yL_roll ∈ gW := gW_at 647 (by decide +kernel) (by decide +kernel)
abbrev YL_why : gY := (yL_why, cL_why, 4, (some .int), { frames := 7, cells := 1, slots := 6, locals := 153 })
abbrev ML_why : gM := (cL_why, 4, RL, (some .int), tableOf [((0), (6), (7), (20))], "why", YL_why.2.2.2.2)
theorem yn_L_why : gName yL_why 3 := ⟨by decide +kernel, by decide +kernel, by decide +kernel⟩
theorem wc_L_why : Cond.codeWith yL_why cL_why 4 (some .int) [((0), (6), (7), (20))] ∈ gW := gW_at 890 (by decide +kernel) (by decide +kernel)
theorem wt_L_why : Cond.static yL_why ∈ gW := gW_at 889 (by decide +kernel) (by decide +kernel)
abbrev YL_convoyOf : gY := (yL_convoyOf, cL_convoyOf, 4, (some .int), { frames := 7, cells := 1, slots := 6, locals := 153 })
abbrev ML_convoyOf : gM := (cL_convoyOf, 4, RL, (some .int), tableOf [((0), (6), (7), (20)), ((0), (6), (11), (14))], "convoyOf", YL_convoyOf.2.2.2.2)
theorem yn_L_convoyOf : gName yL_convoyOf 3 := ⟨by decide +kernel, by decide +kernel, by decide +kernel⟩
theorem wc_L_convoyOf : Cond.codeWith yL_convoyOf cL_convoyOf 4 (some .int) [((0), (6), (7), (20)), ((0), (6), (11), (14))] ∈ gW := gW_at 809 (by decide +kernel) (by decide +kernel)
theorem wt_L_convoyOf : Cond.static yL_convoyOf ∈ gW := gW_at 808 (by decide +kernel) (by decide +kernel)
abbrev YL_truckOf : gY := (yL_truckOf, cL_truckOf, 5, (some .int), { frames := 7, cells := 1, slots := 6, locals := 154 })
abbrev ML_truckOf : gM := (cL_truckOf, 5, RL, (some .int), tableOf [((0), (7), (8), (20)), ((0), (7), (13), (14))], "truckOf", YL_truckOf.2.2.2.2)
theorem yn_L_truckOf : gName yL_truckOf 4 := ⟨by decide +kernel, by decide +kernel, by decide +kernel⟩
theorem wc_L_truckOf : Cond.codeWith yL_truckOf cL_truckOf 5 (some .int) [((0), (7), (8), (20)), ((0), (7), (13), (14))] ∈ gW := gW_at 820 (by decide +kernel) (by decide +kernel)
theorem wt_L_truckOf : Cond.static yL_truckOf ∈ gW := gW_at 819 (by decide +kernel) (by decide +kernel)
abbrev YL_at : gY := (yL_at, cL_at, 3, (some .int), { frames := 7, cells := 1, slots := 6, locals := 152 })
abbrev ML_at : gM := (cL_at, 3, RL, (some .int), tableOf [((0), (5), (6), (20)), ((0), (5), (10), (25))], "at", YL_at.2.2.2.2)
theorem yn_L_at : gName yL_at 2 := ⟨by decide +kernel, by decide +kernel, by decide +kernel⟩
theorem wc_L_at : Cond.codeWith yL_at cL_at 3 (some .int) [((0), (5), (6), (20)), ((0), (5), (10), (25))] ∈ gW := gW_at 744 (by decide +kernel) (by decide +kernel)
theorem wt_L_at : Cond.static yL_at ∈ gW := gW_at 743 (by decide +kernel) (by decide +kernel)
abbrev YL_rolls : gY := (yL_rolls, cL_rolls, 4, (some .int), { frames := 7, cells := 1, slots := 6, locals := 152 })
abbrev ML_rolls : gM := (cL_rolls, 4, RL, (some .int), tableOf [((0), (17), (18), (20))], "rolls", YL_rolls.2.2.2.2)
theorem yn_L_rolls : gName yL_rolls 3 := ⟨by decide +kernel, by decide +kernel, by decide +kernel⟩
theorem wc_L_rolls : Cond.codeWith yL_rolls cL_rolls 4 (some .int) [((0), (17), (18), (20))] ∈ gW := gW_at 928 (by decide +kernel) (by decide +kernel)
theorem wt_L_rolls : Cond.static yL_rolls ∈ gW := gW_at 927 (by decide +kernel) (by decide +kernel)
abbrev YL_iceIn : gY := (yL_iceIn, cL_iceIn, 4, (some .int), { frames := 7, cells := 1, slots := 6, locals := 154 })
abbrev ML_iceIn : gM := (cL_iceIn, 4, RL, (some .int), tableOf [((0), (6), (7), (20)), ((0), (6), (11), (14))], "iceIn", YL_iceIn.2.2.2.2)
theorem yn_L_iceIn : gName yL_iceIn 3 := ⟨by decide +kernel, by decide +kernel, by decide +kernel⟩
theorem wc_L_iceIn : Cond.codeWith yL_iceIn cL_iceIn 4 (some .int) [((0), (6), (7), (20)), ((0), (6), (11), (14))] ∈ gW := gW_at 968 (by decide +kernel) (by decide +kernel)
theorem wt_L_iceIn : Cond.static yL_iceIn ∈ gW := gW_at 967 (by decide +kernel) (by decide +kernel)
abbrev YL_bearsIn : gY := (yL_bearsIn, cL_bearsIn, 4, (some .int), { frames := 7, cells := 1, slots := 6, locals := 154 })
abbrev ML_bearsIn : gM := (cL_bearsIn, 4, RL, (some .int), tableOf [((0), (6), (7), (20)), ((0), (6), (11), (14)), ((0), (6), (15), (25))], "bearsIn", YL_bearsIn.2.2.2.2)
theorem yn_L_bearsIn : gName yL_bearsIn 3 := ⟨by decide +kernel, by decide +kernel, by decide +kernel⟩
theorem wc_L_bearsIn : Cond.codeWith yL_bearsIn cL_bearsIn 4 (some .int) [((0), (6), (7), (20)), ((0), (6), (11), (14)), ((0), (6), (15), (25))] ∈ gW := gW_at 958 (by decide +kernel) (by decide +kernel)
theorem wt_L_bearsIn : Cond.static yL_bearsIn ∈ gW := gW_at 957 (by decide +kernel) (by decide +kernel)
abbrev YL_pass : gY := (yL_pass, cL_pass, 3, (some .int), { frames := 7, cells := 1, slots := 6, locals := 152 })
abbrev ML_pass : gM := (cL_pass, 3, RL, (some .int), tableOf [((0), (5), (6), (14))], "pass", YL_pass.2.2.2.2)
theorem yn_L_pass : gName yL_pass 2 := ⟨by decide +kernel, by decide +kernel, by decide +kernel⟩
theorem wc_L_pass : Cond.codeWith yL_pass cL_pass 3 (some .int) [((0), (5), (6), (14))] ∈ gW := gW_at 360 (by decide +kernel) (by decide +kernel)
theorem wt_L_pass : Cond.static yL_pass ∈ gW := gW_at 359 (by decide +kernel) (by decide +kernel)
abbrev YL_refusal : gY := (yL_refusal, cL_refusal, 3, (some .int), { frames := 7, cells := 1, slots := 6, locals := 151 })
abbrev ML_refusal : gM := (cL_refusal, 3, RL, (some .int), tableOf [((0), (5), (6), (25))], "refusal", YL_refusal.2.2.2.2)
theorem yn_L_refusal : gName yL_refusal 2 := ⟨by decide +kernel, by decide +kernel, by decide +kernel⟩
theorem wc_L_refusal : Cond.codeWith yL_refusal cL_refusal 3 (some .int) [((0), (5), (6), (25))] ∈ gW := gW_at 674 (by decide +kernel) (by decide +kernel)
theorem wt_L_refusal : Cond.static yL_refusal ∈ gW := gW_at 673 (by decide +kernel) (by decide +kernel)
abbrev YL_append : gY := (yL_append, cL_append, 3, (some .int), { frames := 7, cells := 1, slots := 6, locals := 151 })
abbrev ML_append : gM := (cL_append, 3, RL, (some .int), tableOf [((0), (5), (6), (88))], "append", YL_append.2.2.2.2)
theorem yn_L_append : gName yL_append 2 := ⟨by decide +kernel, by decide +kernel, by decide +kernel⟩
theorem wc_L_append : Cond.codeWith yL_append cL_append 3 (some .int) [((0), (5), (6), (88))] ∈ gW := gW_at 1257 (by decide +kernel) (by decide +kernel)
theorem wt_L_append : Cond.static yL_append ∈ gW := gW_at 1256 (by decide +kernel) (by decide +kernel)
abbrev YL_does : gY := (yL_does, cL_does, 2, (some .int), { frames := 7, cells := 1, slots := 6, locals := 160 })
abbrev ML_does : gM := (cL_does, 2, RL, (some .int), tableOf [((0), (4), (5), (14)), ((0), (4), (8), (34))], "does", YL_does.2.2.2.2)
theorem yn_L_does : gName yL_does 1 := ⟨by decide +kernel, by decide +kernel, by decide +kernel⟩
theorem wc_L_does : Cond.codeWith yL_does cL_does 2 (some .int) [((0), (4), (5), (14)), ((0), (4), (8), (34))] ∈ gW := gW_at 1265 (by decide +kernel) (by decide +kernel)
theorem wt_L_does : Cond.static yL_does ∈ gW := gW_at 1264 (by decide +kernel) (by decide +kernel)
abbrev YL_read : gY := (yL_read, cL_read, 3, (some .int), { frames := 10, cells := 64, slots := 400, locals := 442 })
abbrev ML_read : gM := (cL_read, 3, RL, (some .int), [], "read", YL_read.2.2.2.2)
theorem yn_L_read : gName yL_read 2 := ⟨by decide +kernel, by decide +kernel, by decide +kernel⟩
theorem wc_L_read : Cond.code yL_read cL_read 3 (some .int) ∈ gW := gW_at 1229 (by decide +kernel) (by decide +kernel)
theorem wt_L_read : Cond.static yL_read ∈ gW := gW_at 1228 (by decide +kernel) (by decide +kernel)
abbrev YL_undo : gY := (yL_undo, cL_undo, 2, (some .int), { frames := 7, cells := 1, slots := 6, locals := 150 })
abbrev ML_undo : gM := (cL_undo, 2, RL, (some .int), tableOf [((0), (4), (5), (88))], "undo", YL_undo.2.2.2.2)
theorem yn_L_undo : gName yL_undo 1 := ⟨by decide +kernel, by decide +kernel, by decide +kernel⟩
theorem wc_L_undo : Cond.codeWith yL_undo cL_undo 2 (some .int) [((0), (4), (5), (88))] ∈ gW := gW_at 897 (by decide +kernel) (by decide +kernel)
theorem wt_L_undo : Cond.static yL_undo ∈ gW := gW_at 896 (by decide +kernel) (by decide +kernel)
abbrev YL_bears : gY := (yL_bears, cL_bears, 2, (some .float), { frames := 7, cells := 1, slots := 6, locals := 151 })
abbrev ML_bears : gM := (cL_bears, 2, RL, (some .float), [], "bears", YL_bears.2.2.2.2)
theorem yn_L_bears : gName yL_bears 2 := ⟨by decide +kernel, by decide +kernel, by decide +kernel⟩
theorem wc_L_bears : Cond.code yL_bears cL_bears 2 (some .float) ∈ gW := gW_at 757 (by decide +kernel) (by decide +kernel)
theorem wt_L_bears : Cond.static yL_bears ∈ gW := gW_at 756 (by decide +kernel) (by decide +kernel)
abbrev YL_drawn : gY := (yL_drawn, cL_drawn, 10, (some (.object "IceConvoys")), { frames := 8, cells := 700, slots := 6000, locals := 180 })
abbrev ML_drawn : gM := (cL_drawn, 10, RL, (some (.object "IceConvoys")), [], "drawn", YL_drawn.2.2.2.2)
theorem yn_L_drawn : gName yL_drawn 1 := ⟨by decide +kernel, by decide +kernel, by decide +kernel⟩
theorem wc_L_drawn : Cond.code yL_drawn cL_drawn 10 (some (.object "IceConvoys")) ∈ gW := gW_at 42 (by decide +kernel) (by decide +kernel)
theorem wt_L_drawn : Cond.static yL_drawn ∈ gW := gW_at 41 (by decide +kernel) (by decide +kernel)
abbrev YL_miles : gY := (yL_miles, cL_miles, 12, (some .boolean), { frames := 8, cells := 320, slots := 1920, locals := 176 })
abbrev ML_miles : gM := (cL_miles, 12, RL, (some .boolean), [], "miles", YL_miles.2.2.2.2)
theorem yn_L_miles : gName yL_miles 1 := ⟨by decide +kernel, by decide +kernel, by decide +kernel⟩
theorem wc_L_miles : Cond.code yL_miles cL_miles 12 (some .boolean) ∈ gW := gW_at 682 (by decide +kernel) (by decide +kernel)
theorem wt_L_miles : Cond.static yL_miles ∈ gW := gW_at 681 (by decide +kernel) (by decide +kernel)
abbrev YL_sums : gY := (yL_sums, cL_sums, 16, (some .boolean), { frames := 8, cells := 320, slots := 2000, locals := 178 })
abbrev ML_sums : gM := (cL_sums, 16, RL, (some .boolean), [], "sums", YL_sums.2.2.2.2)
theorem yn_L_sums : gName yL_sums 1 := ⟨by decide +kernel, by decide +kernel, by decide +kernel⟩
theorem wc_L_sums : Cond.code yL_sums cL_sums 16 (some .boolean) ∈ gW := gW_at 795 (by decide +kernel) (by decide +kernel)
theorem wt_L_sums : Cond.static yL_sums ∈ gW := gW_at 794 (by decide +kernel) (by decide +kernel)
abbrev YL_expected : gY := (yL_expected, cL_expected, 7, (some .int), { frames := 8, cells := 40, slots := 240, locals := 176 })
abbrev ML_expected : gM := (cL_expected, 7, RL, (some .int), [], "expected", YL_expected.2.2.2.2)
theorem yn_L_expected : gName yL_expected 3 := ⟨by decide +kernel, by decide +kernel, by decide +kernel⟩
theorem wc_L_expected : Cond.code yL_expected cL_expected 7 (some .int) ∈ gW := gW_at 887 (by decide +kernel) (by decide +kernel)
theorem wt_L_expected : Cond.static yL_expected ∈ gW := gW_at 886 (by decide +kernel) (by decide +kernel)
abbrev YL_reasons : gY := (yL_reasons, cL_reasons, 8, (some .boolean), { frames := 9, cells := 2400, slots := 14400, locals := 213 })
abbrev ML_reasons : gM := (cL_reasons, 8, RL, (some .boolean), [], "reasons", YL_reasons.2.2.2.2)
theorem yn_L_reasons : gName yL_reasons 1 := ⟨by decide +kernel, by decide +kernel, by decide +kernel⟩
theorem wc_L_reasons : Cond.code yL_reasons cL_reasons 8 (some .boolean) ∈ gW := gW_at 884 (by decide +kernel) (by decide +kernel)
theorem wt_L_reasons : Cond.static yL_reasons ∈ gW := gW_at 883 (by decide +kernel) (by decide +kernel)
abbrev YL_ahead : gY := (yL_ahead, cL_ahead, 12, (some .boolean), { frames := 9, cells := 4800, slots := 28800, locals := 207 })
abbrev ML_ahead : gM := (cL_ahead, 12, RL, (some .boolean), [], "ahead", YL_ahead.2.2.2.2)
theorem yn_L_ahead : gName yL_ahead 2 := ⟨by decide +kernel, by decide +kernel, by decide +kernel⟩
theorem wc_L_ahead : Cond.code yL_ahead cL_ahead 12 (some .boolean) ∈ gW := gW_at 925 (by decide +kernel) (by decide +kernel)
theorem wt_L_ahead : Cond.static yL_ahead ∈ gW := gW_at 924 (by decide +kernel) (by decide +kernel)
abbrev YL_sum : gY := (yL_sum, cL_sum, 5, (some .long), { frames := 8, cells := 300, slots := 1800, locals := 178 })
abbrev ML_sum : gM := (cL_sum, 5, RL, (some .long), [], "sum", YL_sum.2.2.2.2)
theorem yn_L_sum : gName yL_sum 1 := ⟨by decide +kernel, by decide +kernel, by decide +kernel⟩
theorem wc_L_sum : Cond.code yL_sum cL_sum 5 (some .long) ∈ gW := gW_at 978 (by decide +kernel) (by decide +kernel)
theorem wt_L_sum : Cond.static yL_sum ∈ gW := gW_at 977 (by decide +kernel) (by decide +kernel)
abbrev YL_undone : gY := (yL_undone, cL_undone, 7, (some .boolean), { frames := 13, cells := 9000, slots := 54000, locals := 512 })
abbrev ML_undone : gM := (cL_undone, 7, RL, (some .boolean), [], "undone", YL_undone.2.2.2.2)
theorem yn_L_undone : gName yL_undone 2 := ⟨by decide +kernel, by decide +kernel, by decide +kernel⟩
theorem wc_L_undone : Cond.code yL_undone cL_undone 7 (some .boolean) ∈ gW := gW_at 975 (by decide +kernel) (by decide +kernel)
theorem wt_L_undone : Cond.static yL_undone ∈ gW := gW_at 974 (by decide +kernel) (by decide +kernel)
theorem ml_X0_3 : Cond.methodLink RX0 3 Lib.objectInit ∈ gW := gW_at 103 (by decide +kernel) (by decide +kernel)
theorem fl_X0_9 : Cond.fieldLink RX0 9 (TX0 0).1 (TX0 0).2.1 (TX0 0).2.2.1 ∈ gW := gW_at 105 (by decide +kernel) (by decide +kernel)
theorem fl_X0_15 : Cond.fieldLink RX0 15 (TX0 1).1 (TX0 1).2.1 (TX0 1).2.2.1 ∈ gW := gW_at 108 (by decide +kernel) (by decide +kernel)
theorem fl_X0_18 : Cond.fieldLink RX0 18 (TX0 2).1 (TX0 2).2.1 (TX0 2).2.2.1 ∈ gW := gW_at 111 (by decide +kernel) (by decide +kernel)
theorem cl_X0_21 : Cond.classLink RX0 21 RX5 ∈ gW := gW_at 104 (by decide +kernel) (by decide +kernel)
theorem fl_X0_23 : Cond.fieldLink RX0 23 (TX0 3).1 (TX0 3).2.1 (TX0 3).2.2.1 ∈ gW := gW_at 114 (by decide +kernel) (by decide +kernel)
theorem ml_X0_27 : Cond.methodLink RX0 27 yX0_hasStarted ∈ gW := gW_at 636 (by decide +kernel) (by decide +kernel)
theorem sv_X0_27 : GoodIn gW (wsV RX0 27 RX0 yX0_hasStarted (Cond.code yX0_hasStarted cX0_hasStarted 1 (some .boolean) :: gW)) := gIn_V ml_X0_27 wi_X0_hasStarted we_X0_hasStarted ini_X0 wc_X0_hasStarted
theorem ml_X0_31 : Cond.methodLink RX0 31 yX0_countArrived ∈ gW := gW_at 661 (by decide +kernel) (by decide +kernel)
theorem sv_X0_31 : GoodIn gW (wsV RX0 31 RX0 yX0_countArrived (Cond.code yX0_countArrived cX0_countArrived 3 (some .int) :: gW)) := gIn_V ml_X0_31 wi_X0_countArrived we_X0_countArrived ini_X0 wc_X0_countArrived
theorem ml_X0_35 : Cond.methodLink RX0 35 yX0_mileWithLead ∈ gW := gW_at 606 (by decide +kernel) (by decide +kernel)
theorem sv_X0_35 : GoodIn gW (wsV RX0 35 RX0 yX0_mileWithLead (Cond.code yX0_mileWithLead cX0_mileWithLead 3 (some .int) :: gW)) := gIn_V ml_X0_35 wi_X0_mileWithLead we_X0_mileWithLead ini_X0 wc_X0_mileWithLead
theorem ml_X0_39 : Cond.methodLink RX0 39 yX0_mileOfTruck ∈ gW := gW_at 665 (by decide +kernel) (by decide +kernel)
theorem sv_X0_39 : GoodIn gW (wsV RX0 39 RX0 yX0_mileOfTruck (Cond.code yX0_mileOfTruck cX0_mileOfTruck 2 (some .int) :: gW)) := gIn_V ml_X0_39 wi_X0_mileOfTruck we_X0_mileOfTruck ini_X0 wc_X0_mileOfTruck
theorem mn_X0_43 : Cond.methodLinkNest RX0 43 yX6_isMile "IceConvoys" ∈ gNw := gNw_at 671 (by decide +kernel) (by decide +kernel)
theorem fl_X0_47 : Cond.fieldLink RX0 47 (TX5 1).1 (TX5 1).2.1 (TX5 1).2.2.1 ∈ gW := gW_at 486 (by decide +kernel) (by decide +kernel)
theorem ml_X0_50 : Cond.methodLink RX0 50 yX5_strainOnIce ∈ gW := gW_at 950 (by decide +kernel) (by decide +kernel)
theorem sv_X0_50 : GoodIn gW (wsV RX0 50 RX5 yX5_strainOnIce (Cond.code yX5_strainOnIce cX5_strainOnIce 1 (some .int) :: gW)) := gIn_V ml_X0_50 wi_X5_strainOnIce we_X5_strainOnIce ini_X5 wc_X5_strainOnIce
theorem ml_X1_3 : Cond.methodLink RX1 3 Lib.objectInit ∈ gW := gW_at 170 (by decide +kernel) (by decide +kernel)
theorem cl_X1_9 : Cond.classLink RX1 9 RX4 ∈ gW := gW_at 171 (by decide +kernel) (by decide +kernel)
theorem fl_X1_11 : Cond.fieldLink RX1 11 (TX1 0).1 (TX1 0).2.1 (TX1 0).2.2.1 ∈ gW := gW_at 174 (by decide +kernel) (by decide +kernel)
theorem fl_X1_17 : Cond.fieldLink RX1 17 (TX1 1).1 (TX1 1).2.1 (TX1 1).2.2.1 ∈ gW := gW_at 175 (by decide +kernel) (by decide +kernel)
theorem fl_X1_21 : Cond.fieldLink RX1 21 (TX1 2).1 (TX1 2).2.1 (TX1 2).2.2.1 ∈ gW := gW_at 176 (by decide +kernel) (by decide +kernel)
theorem ml_X1_24 : Cond.methodLink RX1 24 yX4_init ∈ gW := gW_at 173 (by decide +kernel) (by decide +kernel)
theorem ml_X1_25 : Cond.methodLink RX1 25 yX4_copyFrom ∈ gW := gW_at 343 (by decide +kernel) (by decide +kernel)
theorem sv_X1_25 : GoodIn gW (wsV RX1 25 RX4 yX4_copyFrom (Cond.code yX4_copyFrom cX4_copyFrom 3 none :: gW)) := gIn_V ml_X1_25 wi_X4_copyFrom we_X4_copyFrom ini_X4 wc_X4_copyFrom
theorem ml_X1_29 : Cond.methodLink RX1 29 yJ9_min_7cf53 ∈ gW := gW_at 355 (by decide +kernel) (by decide +kernel)
theorem ss_X1_29 : GoodIn gW (va_wsS RX1 29 yJ9_min_7cf53 (Cond.code yJ9_min_7cf53 cJ9_min_7cf53 2 (some .int) :: gW)) := gIn_S ml_X1_29 wt_J9_min_7cf53 (gW_at 19 (by decide +kernel) (by decide +kernel)) wc_J9_min_7cf53
theorem ml_X2_3 : Cond.methodLink RX2 3 Lib.objectInit ∈ gW := gW_at 67 (by decide +kernel) (by decide +kernel)
theorem kc_X2_9 : Cond.constantFloat RX2 9 (1106247680) ∈ gW := gW_at 68 (by decide +kernel) (by decide +kernel)
theorem fl_X2_10 : Cond.fieldLink RX2 10 (TX2 0).1 (TX2 0).2.1 (TX2 0).2.2.1 ∈ gW := gW_at 69 (by decide +kernel) (by decide +kernel)
theorem fl_X2_16 : Cond.fieldLink RX2 16 (TX2 1).1 (TX2 1).2.1 (TX2 1).2.2.1 ∈ gW := gW_at 72 (by decide +kernel) (by decide +kernel)
theorem fl_X2_19 : Cond.fieldLink RX2 19 (TX2 2).1 (TX2 2).2.1 (TX2 2).2.2.1 ∈ gW := gW_at 75 (by decide +kernel) (by decide +kernel)
theorem fl_X2_23 : Cond.fieldLink RX2 23 (TX2 3).1 (TX2 3).2.1 (TX2 3).2.2.1 ∈ gW := gW_at 78 (by decide +kernel) (by decide +kernel)
theorem fl_X2_26 : Cond.fieldLink RX2 26 (TX2 4).1 (TX2 4).2.1 (TX2 4).2.2.1 ∈ gW := gW_at 81 (by decide +kernel) (by decide +kernel)
theorem fl_X2_29 : Cond.fieldLink RX2 29 (TX2 5).1 (TX2 5).2.1 (TX2 5).2.2.1 ∈ gW := gW_at 83 (by decide +kernel) (by decide +kernel)
theorem ml_X2_32 : Cond.methodLink RX2 32 yX5_strainOnIce ∈ gW := gW_at 641 (by decide +kernel) (by decide +kernel)
theorem sv_X2_32 : GoodIn gW (wsV RX2 32 RX5 yX5_strainOnIce (Cond.code yX5_strainOnIce cX5_strainOnIce 1 (some .int) :: gW)) := gIn_V ml_X2_32 wi_X5_strainOnIce we_X5_strainOnIce ini_X5 wc_X5_strainOnIce
theorem ml_X2_38 : Cond.methodLink RX2 38 yJ9_min_7cf53 ∈ gW := gW_at 645 (by decide +kernel) (by decide +kernel)
theorem ss_X2_38 : GoodIn gW (va_wsS RX2 38 yJ9_min_7cf53 (Cond.code yJ9_min_7cf53 cJ9_min_7cf53 2 (some .int) :: gW)) := gIn_S ml_X2_38 wt_J9_min_7cf53 (gW_at 19 (by decide +kernel) (by decide +kernel)) wc_J9_min_7cf53
theorem mn_X2_44 : Cond.methodLinkNest RX2 44 yX6_nextIce "IceConvoys" ∈ gNw := gNw_at 385 (by decide +kernel) (by decide +kernel)
theorem ml_X2_48 : Cond.methodLink RX2 48 yJ9_max_7cf53 ∈ gW := gW_at 392 (by decide +kernel) (by decide +kernel)
theorem ss_X2_48 : GoodIn gW (va_wsS RX2 48 yJ9_max_7cf53 (Cond.code yJ9_max_7cf53 cJ9_max_7cf53 2 (some .int) :: gW)) := gIn_S ml_X2_48 wt_J9_max_7cf53 (gW_at 19 (by decide +kernel) (by decide +kernel)) wc_J9_max_7cf53
theorem ml_X3_3 : Cond.methodLink RX3 3 Lib.objectInit ∈ gW := gW_at 190 (by decide +kernel) (by decide +kernel)
theorem fl_X3_9 : Cond.fieldLink RX3 9 (TX3 0).1 (TX3 0).2.1 (TX3 0).2.2.1 ∈ gW := gW_at 191 (by decide +kernel) (by decide +kernel)
theorem fl_X3_15 : Cond.fieldLink RX3 15 (TX3 1).1 (TX3 1).2.1 (TX3 1).2.2.1 ∈ gW := gW_at 193 (by decide +kernel) (by decide +kernel)
theorem fl_X3_19 : Cond.fieldLink RX3 19 (TX3 2).1 (TX3 2).2.1 (TX3 2).2.2.1 ∈ gW := gW_at 195 (by decide +kernel) (by decide +kernel)
theorem fl_X3_22 : Cond.fieldLink RX3 22 (TX3 3).1 (TX3 3).2.1 (TX3 3).2.2.1 ∈ gW := gW_at 196 (by decide +kernel) (by decide +kernel)
theorem fl_X3_25 : Cond.fieldLink RX3 25 (TX3 4).1 (TX3 4).2.1 (TX3 4).2.2.1 ∈ gW := gW_at 198 (by decide +kernel) (by decide +kernel)
theorem fl_X3_29 : Cond.fieldLink RX3 29 (TX3 5).1 (TX3 5).2.1 (TX3 5).2.2.1 ∈ gW := gW_at 199 (by decide +kernel) (by decide +kernel)
theorem fl_X3_32 : Cond.fieldLink RX3 32 (TX3 6).1 (TX3 6).2.1 (TX3 6).2.2.1 ∈ gW := gW_at 200 (by decide +kernel) (by decide +kernel)
theorem fl_X3_35 : Cond.fieldLink RX3 35 (TX3 7).1 (TX3 7).2.1 (TX3 7).2.2.1 ∈ gW := gW_at 201 (by decide +kernel) (by decide +kernel)
theorem ml_X3_38 : Cond.methodLink RX3 38 yX3_parseOrder ∈ gW := gW_at 1274 (by decide +kernel) (by decide +kernel)
theorem sv_X3_38 : GoodIn gW (wsV RX3 38 RX3 yX3_parseOrder (Cond.code yX3_parseOrder cX3_parseOrder 2 (some .boolean) :: gW)) := gIn_V ml_X3_38 wi_X3_parseOrder we_X3_parseOrder ini_X3 wc_X3_parseOrder
theorem ml_X3_42 : Cond.methodLink RX3 42 yX3_skip ∈ gW := gW_at 1290 (by decide +kernel) (by decide +kernel)
theorem sv_X3_42 : GoodIn gW (wsV RX3 42 RX3 yX3_skip (Cond.code yX3_skip cX3_skip 2 (some .boolean) :: gW)) := gIn_V ml_X3_42 wi_X3_skip we_X3_skip ini_X3 wc_X3_skip
theorem ml_X3_46 : Cond.methodLink RX3 46 yX3_parseNumber ∈ gW := gW_at 1278 (by decide +kernel) (by decide +kernel)
theorem sv_X3_46 : GoodIn gW (wsV RX3 46 RX3 yX3_parseNumber (Cond.code yX3_parseNumber cX3_parseNumber 3 (some .int) :: gW)) := gIn_V ml_X3_46 wi_X3_parseNumber we_X3_parseNumber ini_X3 wc_X3_parseNumber
theorem ml_X3_50 : Cond.methodLink RX3 50 yX3_parseDigit ∈ gW := gW_at 1282 (by decide +kernel) (by decide +kernel)
theorem sv_X3_50 : GoodIn gW (wsV RX3 50 RX3 yX3_parseDigit (Cond.code yX3_parseDigit cX3_parseDigit 2 (some .int) :: gW)) := gIn_V ml_X3_50 wi_X3_parseDigit we_X3_parseDigit ini_X3 wc_X3_parseDigit
theorem ml_X3_53 : Cond.methodLink RX3 53 yX3_parseTemperature ∈ gW := gW_at 1286 (by decide +kernel) (by decide +kernel)
theorem sv_X3_53 : GoodIn gW (wsV RX3 53 RX3 yX3_parseTemperature (Cond.code yX3_parseTemperature cX3_parseTemperature 3 (some .boolean) :: gW)) := gIn_V ml_X3_53 wi_X3_parseTemperature we_X3_parseTemperature ini_X3 wc_X3_parseTemperature
theorem ml_X3_56 : Cond.methodLink RX3 56 yX3_parseJoin ∈ gW := gW_at 1294 (by decide +kernel) (by decide +kernel)
theorem sv_X3_56 : GoodIn gW (wsV RX3 56 RX3 yX3_parseJoin (Cond.code yX3_parseJoin cX3_parseJoin 1 (some .boolean) :: gW)) := gIn_V ml_X3_56 wi_X3_parseJoin we_X3_parseJoin ini_X3 wc_X3_parseJoin
theorem ml_X3_59 : Cond.methodLink RX3 59 yX3_carryOutDrill ∈ gW := gW_at 1303 (by decide +kernel) (by decide +kernel)
theorem ss_X3_59 : GoodIn gW (va_wsS RX3 59 yX3_carryOutDrill (Cond.code yX3_carryOutDrill cX3_carryOutDrill 2 (some .int) :: gW)) := gIn_S ml_X3_59 wt_X3_carryOutDrill ini_X3 wc_X3_carryOutDrill
theorem ml_X3_63 : Cond.methodLink RX3 63 yX4_startObstacle ∈ gW := gW_at 1308 (by decide +kernel) (by decide +kernel)
theorem sv_X3_63 : GoodIn gW (wsV RX3 63 RX4 yX4_startObstacle (Cond.code yX4_startObstacle cX4_startObstacle 2 (some .int) :: gW)) := gIn_V ml_X3_63 wi_X4_startObstacle we_X4_startObstacle ini_X4 wc_X4_startObstacle
theorem ml_X3_69 : Cond.methodLink RX3 69 yX3_carryOutMove ∈ gW := gW_at 1309 (by decide +kernel) (by decide +kernel)
theorem ss_X3_69 : GoodIn gW (va_wsS RX3 69 yX3_carryOutMove (Cond.code yX3_carryOutMove cX3_carryOutMove 3 (some .int) :: gW)) := gIn_S ml_X3_69 wt_X3_carryOutMove ini_X3 wc_X3_carryOutMove
theorem ml_X3_73 : Cond.methodLink RX3 73 yX4_rollObstacle ∈ gW := gW_at 1313 (by decide +kernel) (by decide +kernel)
theorem sv_X3_73 : GoodIn gW (wsV RX3 73 RX4 yX4_rollObstacle (Cond.code yX4_rollObstacle cX4_rollObstacle 2 (some .int) :: gW)) := gIn_V ml_X3_73 wi_X4_rollObstacle we_X4_rollObstacle ini_X4 wc_X4_rollObstacle
theorem ml_X3_76 : Cond.methodLink RX3 76 yX3_carryOutTemperature ∈ gW := gW_at 1314 (by decide +kernel) (by decide +kernel)
theorem ss_X3_76 : GoodIn gW (va_wsS RX3 76 yX3_carryOutTemperature (Cond.code yX3_carryOutTemperature cX3_carryOutTemperature 2 (some .int) :: gW)) := gIn_S ml_X3_76 wt_X3_carryOutTemperature ini_X3 wc_X3_carryOutTemperature
theorem ml_X3_79 : Cond.methodLink RX3 79 yX3_carryOutJoin ∈ gW := gW_at 1318 (by decide +kernel) (by decide +kernel)
theorem sv_X3_79 : GoodIn gW (wsV RX3 79 RX3 yX3_carryOutJoin (Cond.code yX3_carryOutJoin cX3_carryOutJoin 4 (some .int) :: gW)) := gIn_V ml_X3_79 wi_X3_carryOutJoin we_X3_carryOutJoin ini_X3 wc_X3_carryOutJoin
theorem ml_X3_82 : Cond.methodLink RX3 82 yX3_carryOutDays ∈ gW := gW_at 1324 (by decide +kernel) (by decide +kernel)
theorem ss_X3_82 : GoodIn gW (va_wsS RX3 82 yX3_carryOutDays (Cond.code yX3_carryOutDays cX3_carryOutDays 2 (some .int) :: gW)) := gIn_S ml_X3_82 wt_X3_carryOutDays ini_X3 wc_X3_carryOutDays
theorem mn_X3_85 : Cond.methodLinkNest RX3 85 yX6_isMile "IceConvoys" ∈ gNw := gNw_at 1306 (by decide +kernel) (by decide +kernel)
theorem fl_X3_89 : Cond.fieldLink RX3 89 (TX4 2).1 (TX4 2).2.1 (TX4 2).2.2.1 ∈ gW := gW_at 132 (by decide +kernel) (by decide +kernel)
theorem ml_X3_93 : Cond.methodLink RX3 93 yX4_noteIce ∈ gW := gW_at 1307 (by decide +kernel) (by decide +kernel)
theorem sv_X3_93 : GoodIn gW (wsV RX3 93 RX4 yX4_noteIce (Cond.code yX4_noteIce cX4_noteIce 2 none :: gW)) := gIn_V ml_X3_93 wi_X4_noteIce we_X4_noteIce ini_X4 wc_X4_noteIce
theorem fl_X3_97 : Cond.fieldLink RX3 97 (TX4 4).1 (TX4 4).2.1 (TX4 4).2.2.1 ∈ gW := gW_at 136 (by decide +kernel) (by decide +kernel)
theorem ml_X3_101 : Cond.methodLink RX3 101 yX4_advance ∈ gW := gW_at 1312 (by decide +kernel) (by decide +kernel)
theorem sv_X3_101 : GoodIn gW (wsV RX3 101 RX4 yX4_advance (Cond.code yX4_advance cX4_advance 5 none :: gW)) := gIn_V ml_X3_101 wi_X4_advance we_X4_advance ini_X4 wc_X4_advance
theorem mn_X3_105 : Cond.methodLinkNest RX3 105 yX6_isSettingValue "IceConvoys" ∈ gNw := gNw_at 1317 (by decide +kernel) (by decide +kernel)
theorem fl_X3_109 : Cond.fieldLink RX3 109 (TX4 0).1 (TX4 0).2.1 (TX4 0).2.2.1 ∈ gW := gW_at 127 (by decide +kernel) (by decide +kernel)
theorem ml_X3_112 : Cond.methodLink RX3 112 yX4_joinObstacle ∈ gW := gW_at 1322 (by decide +kernel) (by decide +kernel)
theorem sv_X3_112 : GoodIn gW (wsV RX3 112 RX4 yX4_joinObstacle (Cond.code yX4_joinObstacle cX4_joinObstacle 4 (some .int) :: gW)) := gIn_V ml_X3_112 wi_X4_joinObstacle we_X4_joinObstacle ini_X4 wc_X4_joinObstacle
theorem ml_X3_116 : Cond.methodLink RX3 116 yX4_letJoin ∈ gW := gW_at 1323 (by decide +kernel) (by decide +kernel)
theorem sv_X3_116 : GoodIn gW (wsV RX3 116 RX4 yX4_letJoin (Cond.code yX4_letJoin cX4_letJoin 3 none :: gW)) := gIn_V ml_X3_116 wi_X4_letJoin we_X4_letJoin ini_X4 wc_X4_letJoin
theorem mn_X3_120 : Cond.methodLinkNest RX3 120 yX6_isDaysToPass "IceConvoys" ∈ gNw := gNw_at 1327 (by decide +kernel) (by decide +kernel)
theorem ml_X3_123 : Cond.methodLink RX3 123 yX4_letDaysGoBy ∈ gW := gW_at 1328 (by decide +kernel) (by decide +kernel)
theorem sv_X3_123 : GoodIn gW (wsV RX3 123 RX4 yX4_letDaysGoBy (Cond.code yX4_letDaysGoBy cX4_letDaysGoBy 4 none :: gW)) := gIn_V ml_X3_123 wi_X4_letDaysGoBy we_X4_letDaysGoBy ini_X4 wc_X4_letDaysGoBy
theorem ml_X4_3 : Cond.methodLink RX4 3 Lib.objectInit ∈ gW := gW_at 56 (by decide +kernel) (by decide +kernel)
theorem fl_X4_9 : Cond.fieldLink RX4 9 (TX4 0).1 (TX4 0).2.1 (TX4 0).2.2.1 ∈ gW := gW_at 125 (by decide +kernel) (by decide +kernel)
theorem fl_X4_15 : Cond.fieldLink RX4 15 (TX4 1).1 (TX4 1).2.1 (TX4 1).2.2.1 ∈ gW := gW_at 128 (by decide +kernel) (by decide +kernel)
theorem cl_X4_19 : Cond.classLink RX4 19 RX2 ∈ gW := gW_at 57 (by decide +kernel) (by decide +kernel)
theorem fl_X4_21 : Cond.fieldLink RX4 21 (TX4 2).1 (TX4 2).2.1 (TX4 2).2.2.1 ∈ gW := gW_at 130 (by decide +kernel) (by decide +kernel)
theorem cl_X4_25 : Cond.classLink RX4 25 RX5 ∈ gW := gW_at 59 (by decide +kernel) (by decide +kernel)
theorem fl_X4_27 : Cond.fieldLink RX4 27 (TX4 3).1 (TX4 3).2.1 (TX4 3).2.2.1 ∈ gW := gW_at 133 (by decide +kernel) (by decide +kernel)
theorem cl_X4_31 : Cond.classLink RX4 31 RX0 ∈ gW := gW_at 61 (by decide +kernel) (by decide +kernel)
theorem fl_X4_33 : Cond.fieldLink RX4 33 (TX4 4).1 (TX4 4).2.1 (TX4 4).2.2.1 ∈ gW := gW_at 135 (by decide +kernel) (by decide +kernel)
theorem fl_X4_37 : Cond.fieldLink RX4 37 (TX4 5).1 (TX4 5).2.1 (TX4 5).2.2.1 ∈ gW := gW_at 138 (by decide +kernel) (by decide +kernel)
theorem fl_X4_40 : Cond.fieldLink RX4 40 (TX4 6).1 (TX4 6).2.1 (TX4 6).2.2.1 ∈ gW := gW_at 140 (by decide +kernel) (by decide +kernel)
theorem fl_X4_43 : Cond.fieldLink RX4 43 (TX4 7).1 (TX4 7).2.1 (TX4 7).2.2.1 ∈ gW := gW_at 142 (by decide +kernel) (by decide +kernel)
theorem fl_X4_46 : Cond.fieldLink RX4 46 (TX4 8).1 (TX4 8).2.1 (TX4 8).2.2.1 ∈ gW := gW_at 144 (by decide +kernel) (by decide +kernel)
theorem mn_X4_49 : Cond.methodLinkNest RX4 49 yX2_init "IceConvoys" ∈ gNw := gNw_at 64 (by decide +kernel) (by decide +kernel)
theorem mn_X4_50 : Cond.methodLinkNest RX4 50 yX0_init "IceConvoys" ∈ gNw := gNw_at 100 (by decide +kernel) (by decide +kernel)
theorem ml_X4_51 : Cond.methodLink RX4 51 yX2_copyFrom ∈ gW := gW_at 347 (by decide +kernel) (by decide +kernel)
theorem sv_X4_51 : GoodIn gW (wsV RX4 51 RX2 yX2_copyFrom (Cond.code yX2_copyFrom cX2_copyFrom 2 none :: gW)) := gIn_V ml_X4_51 wi_X2_copyFrom we_X2_copyFrom ini_X2 wc_X2_copyFrom
theorem ml_X4_55 : Cond.methodLink RX4 55 yX0_copyFrom ∈ gW := gW_at 351 (by decide +kernel) (by decide +kernel)
theorem sv_X4_55 : GoodIn gW (wsV RX4 55 RX0 yX0_copyFrom (Cond.code yX0_copyFrom cX0_copyFrom 3 none :: gW)) := gIn_V ml_X4_55 wi_X0_copyFrom we_X0_copyFrom ini_X0 wc_X0_copyFrom
theorem ml_X4_58 : Cond.methodLink RX4 58 yX4_isConvoy ∈ gW := gW_at 510 (by decide +kernel) (by decide +kernel)
theorem sv_X4_58 : GoodIn gW (wsV RX4 58 RX4 yX4_isConvoy (Cond.code yX4_isConvoy cX4_isConvoy 2 (some .boolean) :: gW)) := gIn_V ml_X4_58 wi_X4_isConvoy we_X4_isConvoy ini_X4 wc_X4_isConvoy
theorem fl_X4_62 : Cond.fieldLink RX4 62 (TX0 3).1 (TX0 3).2.1 (TX0 3).2.2.1 ∈ gW := gW_at 115 (by decide +kernel) (by decide +kernel)
theorem fl_X4_65 : Cond.fieldLink RX4 65 (TX2 0).1 (TX2 0).2.1 (TX2 0).2.2.1 ∈ gW := gW_at 70 (by decide +kernel) (by decide +kernel)
theorem fl_X4_69 : Cond.fieldLink RX4 69 (TX2 1).1 (TX2 1).2.1 (TX2 1).2.2.1 ∈ gW := gW_at 74 (by decide +kernel) (by decide +kernel)
theorem fl_X4_72 : Cond.fieldLink RX4 72 (TX2 2).1 (TX2 2).2.1 (TX2 2).2.2.1 ∈ gW := gW_at 76 (by decide +kernel) (by decide +kernel)
theorem fl_X4_75 : Cond.fieldLink RX4 75 (TX2 3).1 (TX2 3).2.1 (TX2 3).2.2.1 ∈ gW := gW_at 80 (by decide +kernel) (by decide +kernel)
theorem ml_X4_78 : Cond.methodLink RX4 78 yX4_borneWithCracks ∈ gW := gW_at 611 (by decide +kernel) (by decide +kernel)
theorem sv_X4_78 : GoodIn gW (wsV RX4 78 RX4 yX4_borneWithCracks (Cond.code yX4_borneWithCracks cX4_borneWithCracks 3 (some .float) :: gW)) := gIn_V ml_X4_78 wi_X4_borneWithCracks we_X4_borneWithCracks ini_X4 wc_X4_borneWithCracks
theorem ml_X4_82 : Cond.methodLink RX4 82 yX4_isDrillGood ∈ gW := gW_at 373 (by decide +kernel) (by decide +kernel)
theorem sv_X4_82 : GoodIn gW (wsV RX4 82 RX4 yX4_isDrillGood (Cond.code yX4_isDrillGood cX4_isDrillGood 2 (some .boolean) :: gW)) := gIn_V ml_X4_82 wi_X4_isDrillGood we_X4_isDrillGood ini_X4 wc_X4_isDrillGood
theorem mn_X4_86 : Cond.methodLinkNest RX4 86 yX6_borneBy "IceConvoys" ∈ gNw := gNw_at 615 (by decide +kernel) (by decide +kernel)
theorem ml_X4_90 : Cond.methodLink RX4 90 yX0_placeAt ∈ gW := gW_at 602 (by decide +kernel) (by decide +kernel)
theorem sv_X4_90 : GoodIn gW (wsV RX4 90 RX0 yX0_placeAt (Cond.code yX0_placeAt cX0_placeAt 3 (some .int) :: gW)) := gIn_V ml_X4_90 wi_X0_placeAt we_X0_placeAt ini_X0 wc_X0_placeAt
theorem mn_X4_94 : Cond.methodLinkNest RX4 94 yX6_isRow "IceConvoys" ∈ gNw := gNw_at 514 (by decide +kernel) (by decide +kernel)
theorem mn_X4_97 : Cond.methodLinkNest RX4 97 yX6_isPlace "IceConvoys" ∈ gNw := gNw_at 515 (by decide +kernel) (by decide +kernel)
theorem ml_X4_100 : Cond.methodLink RX4 100 yX0_hasStarted ∈ gW := gW_at 518 (by decide +kernel) (by decide +kernel)
theorem sv_X4_100 : GoodIn gW (wsV RX4 100 RX0 yX0_hasStarted (Cond.code yX0_hasStarted cX0_hasStarted 1 (some .boolean) :: gW)) := gIn_V ml_X4_100 wi_X0_hasStarted we_X0_hasStarted ini_X0 wc_X0_hasStarted
theorem mn_X4_104 : Cond.methodLinkNest RX4 104 yX6_refusalFor "IceConvoys" ∈ gNw := gNw_at 522 (by decide +kernel) (by decide +kernel)
theorem fl_X4_108 : Cond.fieldLink RX4 108 (TX0 2).1 (TX0 2).2.1 (TX0 2).2.2.1 ∈ gW := gW_at 112 (by decide +kernel) (by decide +kernel)
theorem ml_X4_111 : Cond.methodLink RX4 111 yX4_wayObstacle ∈ gW := gW_at 589 (by decide +kernel) (by decide +kernel)
theorem sv_X4_111 : GoodIn gW (wsV RX4 111 RX4 yX4_wayObstacle (Cond.code yX4_wayObstacle cX4_wayObstacle 7 (some .int) :: gW)) := gIn_V ml_X4_111 wi_X4_wayObstacle we_X4_wayObstacle ini_X4 wc_X4_wayObstacle
theorem ml_X4_114 : Cond.methodLink RX4 114 yX0_isDone ∈ gW := gW_at 657 (by decide +kernel) (by decide +kernel)
theorem sv_X4_114 : GoodIn gW (wsV RX4 114 RX0 yX0_isDone (Cond.code yX0_isDone cX0_isDone 1 (some .boolean) :: gW)) := gIn_V ml_X4_114 wi_X0_isDone we_X0_isDone ini_X0 wc_X0_isDone
theorem fl_X4_117 : Cond.fieldLink RX4 117 (TX0 1).1 (TX0 1).2.1 (TX0 1).2.2.1 ∈ gW := gW_at 109 (by decide +kernel) (by decide +kernel)
theorem ml_X4_120 : Cond.methodLink RX4 120 yX0_mileWithLead ∈ gW := gW_at 593 (by decide +kernel) (by decide +kernel)
theorem sv_X4_120 : GoodIn gW (wsV RX4 120 RX0 yX0_mileWithLead (Cond.code yX0_mileWithLead cX0_mileWithLead 3 (some .int) :: gW)) := gIn_V ml_X4_120 wi_X0_mileWithLead we_X0_mileWithLead ini_X0 wc_X0_mileWithLead
theorem mn_X4_123 : Cond.methodLinkNest RX4 123 yX6_isMile "IceConvoys" ∈ gNw := gNw_at 597 (by decide +kernel) (by decide +kernel)
theorem ml_X4_126 : Cond.methodLink RX4 126 yX4_isTakenByOther ∈ gW := gW_at 598 (by decide +kernel) (by decide +kernel)
theorem sv_X4_126 : GoodIn gW (wsV RX4 126 RX4 yX4_isTakenByOther (Cond.code yX4_isTakenByOther cX4_isTakenByOther 4 (some .boolean) :: gW)) := gIn_V ml_X4_126 wi_X4_isTakenByOther we_X4_isTakenByOther ini_X4 wc_X4_isTakenByOther
theorem ml_X4_130 : Cond.methodLink RX4 130 yX4_borneByDrill ∈ gW := gW_at 607 (by decide +kernel) (by decide +kernel)
theorem sv_X4_130 : GoodIn gW (wsV RX4 130 RX4 yX4_borneByDrill (Cond.code yX4_borneByDrill cX4_borneByDrill 2 (some .float) :: gW)) := gIn_V ml_X4_130 wi_X4_borneByDrill we_X4_borneByDrill ini_X4 wc_X4_borneByDrill
theorem ml_X4_134 : Cond.methodLink RX4 134 yX5_burden ∈ gW := gW_at 621 (by decide +kernel) (by decide +kernel)
theorem sv_X4_134 : GoodIn gW (wsV RX4 134 RX5 yX5_burden (Cond.code yX5_burden cX5_burden 1 (some .float) :: gW)) := gIn_V ml_X4_134 wi_X5_burden we_X5_burden ini_X5 wc_X5_burden
theorem ml_X4_138 : Cond.methodLink RX4 138 yX0_mileOfTruck ∈ gW := gW_at 632 (by decide +kernel) (by decide +kernel)
theorem sv_X4_138 : GoodIn gW (wsV RX4 138 RX0 yX0_mileOfTruck (Cond.code yX0_mileOfTruck cX0_mileOfTruck 2 (some .int) :: gW)) := gIn_V ml_X4_138 wi_X0_mileOfTruck we_X0_mileOfTruck ini_X0 wc_X0_mileOfTruck
theorem ml_X4_141 : Cond.methodLink RX4 141 yX2_carry ∈ gW := gW_at 637 (by decide +kernel) (by decide +kernel)
theorem sv_X4_141 : GoodIn gW (wsV RX4 141 RX2 yX2_carry (Cond.code yX2_carry cX2_carry 2 none :: gW)) := gIn_V ml_X4_141 wi_X2_carry we_X2_carry ini_X2 wc_X2_carry
theorem fl_X4_145 : Cond.fieldLink RX4 145 (TX5 1).1 (TX5 1).2.1 (TX5 1).2.2.1 ∈ gW := gW_at 488 (by decide +kernel) (by decide +kernel)
theorem fl_X4_148 : Cond.fieldLink RX4 148 (TX0 0).1 (TX0 0).2.1 (TX0 0).2.2.1 ∈ gW := gW_at 107 (by decide +kernel) (by decide +kernel)
theorem ml_X4_151 : Cond.methodLink RX4 151 yX4_couldLeadBe ∈ gW := gW_at 942 (by decide +kernel) (by decide +kernel)
theorem sv_X4_151 : GoodIn gW (wsV RX4 151 RX4 yX4_couldLeadBe (Cond.code yX4_couldLeadBe cX4_couldLeadBe 8 (some .boolean) :: gW)) := gIn_V ml_X4_151 wi_X4_couldLeadBe we_X4_couldLeadBe ini_X4 wc_X4_couldLeadBe
theorem ml_X4_154 : Cond.methodLink RX4 154 yX0_strainAheadOf ∈ gW := gW_at 946 (by decide +kernel) (by decide +kernel)
theorem sv_X4_154 : GoodIn gW (wsV RX4 154 RX0 yX0_strainAheadOf (Cond.code yX0_strainAheadOf cX0_strainAheadOf 6 (some .int) :: gW)) := gIn_V ml_X4_154 wi_X0_strainAheadOf we_X0_strainAheadOf ini_X0 wc_X0_strainAheadOf
theorem ml_X4_157 : Cond.methodLink RX4 157 yX2_cracksAfter ∈ gW := gW_at 951 (by decide +kernel) (by decide +kernel)
theorem sv_X4_157 : GoodIn gW (wsV RX4 157 RX2 yX2_cracksAfter (Cond.code yX2_cracksAfter cX2_cracksAfter 2 (some .int) :: gW)) := gIn_V ml_X4_157 wi_X2_cracksAfter we_X2_cracksAfter ini_X2 wc_X2_cracksAfter
theorem ml_X4_160 : Cond.methodLink RX4 160 yX2_liveThroughDay ∈ gW := gW_at 381 (by decide +kernel) (by decide +kernel)
theorem sv_X4_160 : GoodIn gW (wsV RX4 160 RX2 yX2_liveThroughDay (Cond.code yX2_liveThroughDay cX2_liveThroughDay 2 none :: gW)) := gIn_V ml_X4_160 wi_X2_liveThroughDay we_X2_liveThroughDay ini_X2 wc_X2_liveThroughDay
theorem ml_X4_164 : Cond.methodLink RX4 164 yX0_countOnRoad ∈ gW := gW_at 712 (by decide +kernel) (by decide +kernel)
theorem sv_X4_164 : GoodIn gW (wsV RX4 164 RX0 yX0_countOnRoad (Cond.code yX0_countOnRoad cX0_countOnRoad 3 (some .int) :: gW)) := gIn_V ml_X4_164 wi_X0_countOnRoad we_X0_countOnRoad ini_X0 wc_X0_countOnRoad
theorem ml_X4_168 : Cond.methodLink RX4 168 yX0_countArrived ∈ gW := gW_at 717 (by decide +kernel) (by decide +kernel)
theorem sv_X4_168 : GoodIn gW (wsV RX4 168 RX0 yX0_countArrived (Cond.code yX0_countArrived cX0_countArrived 3 (some .int) :: gW)) := gIn_V ml_X4_168 wi_X0_countArrived we_X0_countArrived ini_X0 wc_X0_countArrived
theorem ml_X4_171 : Cond.methodLink RX4 171 yX0_tonnesNotArrived ∈ gW := gW_at 869 (by decide +kernel) (by decide +kernel)
theorem sv_X4_171 : GoodIn gW (wsV RX4 171 RX0 yX0_tonnesNotArrived (Cond.code yX0_tonnesNotArrived cX0_tonnesNotArrived 4 (some .int) :: gW)) := gIn_V ml_X4_171 wi_X0_tonnesNotArrived we_X0_tonnesNotArrived ini_X0 wc_X0_tonnesNotArrived
theorem kc_X4_174 : Cond.constantFloat RX4 174 (1128792064) ∈ gW := gW_at 881 (by decide +kernel) (by decide +kernel)
theorem ml_X5_1 : Cond.methodLink RX5 1 Lib.objectInit ∈ gW := gW_at 482 (by decide +kernel) (by decide +kernel)
theorem fl_X5_7 : Cond.fieldLink RX5 7 (TX5 0).1 (TX5 0).2.1 (TX5 0).2.2.1 ∈ gW := gW_at 483 (by decide +kernel) (by decide +kernel)
theorem fl_X5_13 : Cond.fieldLink RX5 13 (TX5 1).1 (TX5 1).2.1 (TX5 1).2.2.1 ∈ gW := gW_at 485 (by decide +kernel) (by decide +kernel)
theorem fl_X5_16 : Cond.fieldLink RX5 16 (TX5 2).1 (TX5 2).2.1 (TX5 2).2.2.1 ∈ gW := gW_at 489 (by decide +kernel) (by decide +kernel)
theorem kc_X5_19 : Cond.constantFloat RX5 19 (1056964608) ∈ gW := gW_at 625 (by decide +kernel) (by decide +kernel)
theorem ml_X6_3 : Cond.methodLink RX6 3 Lib.objectInit ∈ gW := gW_at 48 (by decide +kernel) (by decide +kernel)
theorem cl_X6_9 : Cond.classLink RX6 9 RX4 ∈ gW := gW_at 51 (by decide +kernel) (by decide +kernel)
theorem ml_X6_11 : Cond.methodLink RX6 11 yX4_init ∈ gW := gW_at 53 (by decide +kernel) (by decide +kernel)
theorem fl_X6_12 : Cond.fieldLink RX6 12 (TX6 0).1 (TX6 0).2.1 (TX6 0).2.2.1 ∈ gW := gW_at 220 (by decide +kernel) (by decide +kernel)
theorem fl_X6_16 : Cond.fieldLink RX6 16 (TX6 1).1 (TX6 1).2.1 (TX6 1).2.2.1 ∈ gW := gW_at 221 (by decide +kernel) (by decide +kernel)
theorem fl_X6_19 : Cond.fieldLink RX6 19 (TX6 2).1 (TX6 2).2.1 (TX6 2).2.2.1 ∈ gW := gW_at 222 (by decide +kernel) (by decide +kernel)
theorem fl_X6_22 : Cond.fieldLink RX6 22 (TX6 3).1 (TX6 3).2.1 (TX6 3).2.2.1 ∈ gW := gW_at 223 (by decide +kernel) (by decide +kernel)
theorem cl_X6_26 : Cond.classLink RX6 26 RX1 ∈ gW := gW_at 165 (by decide +kernel) (by decide +kernel)
theorem ml_X6_28 : Cond.methodLink RX6 28 yX1_init ∈ gW := gW_at 167 (by decide +kernel) (by decide +kernel)
theorem fl_X6_29 : Cond.fieldLink RX6 29 (TX6 4).1 (TX6 4).2.1 (TX6 4).2.2.1 ∈ gW := gW_at 224 (by decide +kernel) (by decide +kernel)
theorem cl_X6_33 : Cond.classLink RX6 33 RX3 ∈ gW := gW_at 185 (by decide +kernel) (by decide +kernel)
theorem mn_X6_35 : Cond.methodLinkNest RX6 35 yX3_init "IceConvoys" ∈ gNw := gNw_at 187 (by decide +kernel) (by decide +kernel)
theorem fl_X6_36 : Cond.fieldLink RX6 36 (TX6 5).1 (TX6 5).2.1 (TX6 5).2.2.1 ∈ gW := gW_at 225 (by decide +kernel) (by decide +kernel)
theorem fl_X6_40 : Cond.fieldLink RX6 40 (TX6 6).1 (TX6 6).2.1 (TX6 6).2.2.1 ∈ gW := gW_at 226 (by decide +kernel) (by decide +kernel)
theorem fl_X6_44 : Cond.fieldLink RX6 44 (TX6 7).1 (TX6 7).2.1 (TX6 7).2.2.1 ∈ gW := gW_at 227 (by decide +kernel) (by decide +kernel)
theorem ml_X6_47 : Cond.methodLink RX6 47 yX6_isSettingValue ∈ gW := gW_at 257 (by decide +kernel) (by decide +kernel)
theorem ss_X6_47 : GoodIn gW (va_wsS RX6 47 yX6_isSettingValue (Cond.code yX6_isSettingValue cX6_isSettingValue 2 (some .boolean) :: gW)) := gIn_S ml_X6_47 wt_X6_isSettingValue ini_X6 wc_X6_isSettingValue
theorem cl_X6_51 : Cond.classLink RX6 51 "java/lang/IllegalArgumentException" ∈ gW := gW_at 267 (by decide +kernel) (by decide +kernel)
theorem ml_X6_55 : Cond.methodLink RX6 55 ⟨"java/lang/IllegalArgumentException", "<init>", "(Ljava/lang/String;)V"⟩ ∈ gW := gW_at 313 (by decide +kernel) (by decide +kernel)
theorem ml_X6_58 : Cond.methodLink RX6 58 yX1_keep ∈ gW := gW_at 339 (by decide +kernel) (by decide +kernel)
theorem sv_X6_58 : GoodIn gW (wsV RX6 58 RX1 yX1_keep (Cond.code yX1_keep cX1_keep 2 none :: gW)) := gIn_V ml_X6_58 wi_X1_keep we_X1_keep ini_X1 wc_X1_keep
theorem fl_X6_62 : Cond.fieldLink RX6 62 (TX4 0).1 (TX4 0).2.1 (TX4 0).2.2.1 ∈ gW := gW_at 126 (by decide +kernel) (by decide +kernel)
theorem ml_X6_66 : Cond.methodLink RX6 66 yX6_isSetting ∈ gW := gW_at 260 (by decide +kernel) (by decide +kernel)
theorem ss_X6_66 : GoodIn gW (va_wsS RX6 66 yX6_isSetting (Cond.code yX6_isSetting cX6_isSetting 1 (some .boolean) :: gW)) := gIn_S ml_X6_66 wt_X6_isSetting ini_X6 wc_X6_isSetting
theorem ml_X6_72 : Cond.methodLink RX6 72 yX6_isMile ∈ gW := gW_at 552 (by decide +kernel) (by decide +kernel)
theorem ss_X6_72 : GoodIn gW (va_wsS RX6 72 yX6_isMile (Cond.code yX6_isMile cX6_isMile 1 (some .boolean) :: gW)) := gIn_S ml_X6_72 wt_X6_isMile ini_X6 wc_X6_isMile
theorem cl_X6_75 : Cond.classLink RX6 75 "java/lang/IndexOutOfBoundsException" ∈ gW := gW_at 457 (by decide +kernel) (by decide +kernel)
theorem ml_X6_79 : Cond.methodLink RX6 79 ⟨"java/lang/IndexOutOfBoundsException", "<init>", "(Ljava/lang/String;)V"⟩ ∈ gW := gW_at 467 (by decide +kernel) (by decide +kernel)
theorem fl_X6_80 : Cond.fieldLink RX6 80 (TX4 2).1 (TX4 2).2.1 (TX4 2).2.2.1 ∈ gW := gW_at 131 (by decide +kernel) (by decide +kernel)
theorem ml_X6_84 : Cond.methodLink RX6 84 yX4_noteIce ∈ gW := gW_at 556 (by decide +kernel) (by decide +kernel)
theorem sv_X6_84 : GoodIn gW (wsV RX6 84 RX4 yX4_noteIce (Cond.code yX4_noteIce cX4_noteIce 2 none :: gW)) := gIn_V ml_X6_84 wi_X4_noteIce we_X4_noteIce ini_X4 wc_X4_noteIce
theorem fl_X6_88 : Cond.fieldLink RX6 88 (TX2 1).1 (TX2 1).2.1 (TX2 1).2.2.1 ∈ gW := gW_at 73 (by decide +kernel) (by decide +kernel)
theorem ml_X6_94 : Cond.methodLink RX6 94 yX6_floatBits ∈ gW := gW_at 560 (by decide +kernel) (by decide +kernel)
theorem ss_X6_94 : GoodIn gW (va_wsS RX6 94 yX6_floatBits (Cond.code yX6_floatBits cX6_floatBits 3 (some .int) :: gW)) := gIn_S ml_X6_94 wt_X6_floatBits ini_X6 wc_X6_floatBits
theorem fl_X6_98 : Cond.fieldLink RX6 98 (TX2 2).1 (TX2 2).2.1 (TX2 2).2.2.1 ∈ gW := gW_at 77 (by decide +kernel) (by decide +kernel)
theorem cl_X6_101 : Cond.classLink RX6 101 "java/util/NoSuchElementException" ∈ gW := gW_at 524 (by decide +kernel) (by decide +kernel)
theorem ml_X6_105 : Cond.methodLink RX6 105 ⟨"java/util/NoSuchElementException", "<init>", "(Ljava/lang/String;)V"⟩ ∈ gW := gW_at 534 (by decide +kernel) (by decide +kernel)
theorem fl_X6_106 : Cond.fieldLink RX6 106 (TX2 3).1 (TX2 3).2.1 (TX2 3).2.2.1 ∈ gW := gW_at 79 (by decide +kernel) (by decide +kernel)
theorem fl_X6_109 : Cond.fieldLink RX6 109 (TX2 4).1 (TX2 4).2.1 (TX2 4).2.2.1 ∈ gW := gW_at 82 (by decide +kernel) (by decide +kernel)
theorem ml_X6_112 : Cond.methodLink RX6 112 yX4_isDrillGood ∈ gW := gW_at 690 (by decide +kernel) (by decide +kernel)
theorem sv_X6_112 : GoodIn gW (wsV RX6 112 RX4 yX4_isDrillGood (Cond.code yX4_isDrillGood cX4_isDrillGood 2 (some .boolean) :: gW)) := gIn_V ml_X6_112 wi_X4_isDrillGood we_X4_isDrillGood ini_X4 wc_X4_isDrillGood
theorem fl_X6_116 : Cond.fieldLink RX6 116 (TX2 5).1 (TX2 5).2.1 (TX2 5).2.2.1 ∈ gW := gW_at 84 (by decide +kernel) (by decide +kernel)
theorem fl_X6_121 : Cond.fieldLink RX6 121 (TX2 0).1 (TX2 0).2.1 (TX2 0).2.2.1 ∈ gW := gW_at 71 (by decide +kernel) (by decide +kernel)
theorem ml_X6_124 : Cond.methodLink RX6 124 yX4_borneByDrill ∈ gW := gW_at 762 (by decide +kernel) (by decide +kernel)
theorem sv_X6_124 : GoodIn gW (wsV RX6 124 RX4 yX4_borneByDrill (Cond.code yX4_borneByDrill cX4_borneByDrill 2 (some .float) :: gW)) := gIn_V ml_X6_124 wi_X4_borneByDrill we_X4_borneByDrill ini_X4 wc_X4_borneByDrill
theorem ml_X6_128 : Cond.methodLink RX6 128 yX4_convoyAt ∈ gW := gW_at 749 (by decide +kernel) (by decide +kernel)
theorem sv_X6_128 : GoodIn gW (wsV RX6 128 RX4 yX4_convoyAt (Cond.code yX4_convoyAt cX4_convoyAt 3 (some .int) :: gW)) := gIn_V ml_X6_128 wi_X4_convoyAt we_X4_convoyAt ini_X4 wc_X4_convoyAt
theorem ml_X6_132 : Cond.methodLink RX6 132 yX6_isRow ∈ gW := gW_at 454 (by decide +kernel) (by decide +kernel)
theorem ss_X6_132 : GoodIn gW (va_wsS RX6 132 yX6_isRow (Cond.code yX6_isRow cX6_isRow 1 (some .boolean) :: gW)) := gIn_S ml_X6_132 wt_X6_isRow ini_X6 wc_X6_isRow
theorem ml_X6_139 : Cond.methodLink RX6 139 yX4_freePlace ∈ gW := gW_at 471 (by decide +kernel) (by decide +kernel)
theorem sv_X6_139 : GoodIn gW (wsV RX6 139 RX4 yX4_freePlace (Cond.code yX4_freePlace cX4_freePlace 3 (some .int) :: gW)) := gIn_V ml_X6_139 wi_X4_freePlace we_X4_freePlace ini_X4 wc_X4_freePlace
theorem ml_X6_142 : Cond.methodLink RX6 142 yX6_refusalFor ∈ gW := gW_at 404 (by decide +kernel) (by decide +kernel)
theorem ss_X6_142 : GoodIn gW (va_wsS RX6 142 yX6_refusalFor (Cond.code yX6_refusalFor cX6_refusalFor 2 (some .int) :: gW)) := gIn_S ml_X6_142 wt_X6_refusalFor ini_X6 wc_X6_refusalFor
theorem cl_X6_146 : Cond.classLink RX6 146 "java/lang/UnsupportedOperationException" ∈ gW := gW_at 407 (by decide +kernel) (by decide +kernel)
theorem ml_X6_150 : Cond.methodLink RX6 150 ⟨"java/lang/UnsupportedOperationException", "<init>", "(Ljava/lang/String;)V"⟩ ∈ gW := gW_at 417 (by decide +kernel) (by decide +kernel)
theorem fl_X6_153 : Cond.fieldLink RX6 153 (TX4 3).1 (TX4 3).2.1 (TX4 3).2.2.1 ∈ gW := gW_at 134 (by decide +kernel) (by decide +kernel)
theorem cl_X6_157 : Cond.classLink RX6 157 RX5 ∈ gW := gW_at 477 (by decide +kernel) (by decide +kernel)
theorem ml_X6_159 : Cond.methodLink RX6 159 yX5_init ∈ gW := gW_at 479 (by decide +kernel) (by decide +kernel)
theorem fl_X6_162 : Cond.fieldLink RX6 162 (TX4 7).1 (TX4 7).2.1 (TX4 7).2.2.1 ∈ gW := gW_at 143 (by decide +kernel) (by decide +kernel)
theorem ml_X6_165 : Cond.methodLink RX6 165 yX6_isPlace ∈ gW := gW_at 803 (by decide +kernel) (by decide +kernel)
theorem ss_X6_165 : GoodIn gW (va_wsS RX6 165 yX6_isPlace (Cond.code yX6_isPlace cX6_isPlace 1 (some .boolean) :: gW)) := gIn_S ml_X6_165 wt_X6_isPlace ini_X6 wc_X6_isPlace
theorem fl_X6_174 : Cond.fieldLink RX6 174 (TX5 1).1 (TX5 1).2.1 (TX5 1).2.2.1 ∈ gW := gW_at 487 (by decide +kernel) (by decide +kernel)
theorem fl_X6_177 : Cond.fieldLink RX6 177 (TX5 2).1 (TX5 2).2.1 (TX5 2).2.2.1 ∈ gW := gW_at 490 (by decide +kernel) (by decide +kernel)
theorem fl_X6_182 : Cond.fieldLink RX6 182 (TX4 5).1 (TX4 5).2.1 (TX4 5).2.2.1 ∈ gW := gW_at 139 (by decide +kernel) (by decide +kernel)
theorem fl_X6_187 : Cond.fieldLink RX6 187 (TX4 4).1 (TX4 4).2.1 (TX4 4).2.2.1 ∈ gW := gW_at 137 (by decide +kernel) (by decide +kernel)
theorem fl_X6_191 : Cond.fieldLink RX6 191 (TX0 0).1 (TX0 0).2.1 (TX0 0).2.2.1 ∈ gW := gW_at 106 (by decide +kernel) (by decide +kernel)
theorem ml_X6_196 : Cond.methodLink RX6 196 yX4_joinObstacle ∈ gW := gW_at 506 (by decide +kernel) (by decide +kernel)
theorem sv_X6_196 : GoodIn gW (wsV RX6 196 RX4 yX4_joinObstacle (Cond.code yX4_joinObstacle cX4_joinObstacle 4 (some .int) :: gW)) := gIn_V ml_X6_196 wi_X4_joinObstacle we_X4_joinObstacle ini_X4 wc_X4_joinObstacle
theorem ml_X6_204 : Cond.methodLink RX6 204 yX4_letJoin ∈ gW := gW_at 541 (by decide +kernel) (by decide +kernel)
theorem sv_X6_204 : GoodIn gW (wsV RX6 204 RX4 yX4_letJoin (Cond.code yX4_letJoin cX4_letJoin 3 none :: gW)) := gIn_V ml_X6_204 wi_X4_letJoin we_X4_letJoin ini_X4 wc_X4_letJoin
theorem fl_X6_208 : Cond.fieldLink RX6 208 (TX0 2).1 (TX0 2).2.1 (TX0 2).2.2.1 ∈ gW := gW_at 113 (by decide +kernel) (by decide +kernel)
theorem ml_X6_211 : Cond.methodLink RX6 211 yX4_startObstacle ∈ gW := gW_at 585 (by decide +kernel) (by decide +kernel)
theorem sv_X6_211 : GoodIn gW (wsV RX6 211 RX4 yX4_startObstacle (Cond.code yX4_startObstacle cX4_startObstacle 2 (some .int) :: gW)) := gIn_V ml_X6_211 wi_X4_startObstacle we_X4_startObstacle ini_X4 wc_X4_startObstacle
theorem ml_X6_218 : Cond.methodLink RX6 218 yX4_advance ∈ gW := gW_at 628 (by decide +kernel) (by decide +kernel)
theorem sv_X6_218 : GoodIn gW (wsV RX6 218 RX4 yX4_advance (Cond.code yX4_advance cX4_advance 5 none :: gW)) := gIn_V ml_X6_218 wi_X4_advance we_X4_advance ini_X4 wc_X4_advance
theorem ml_X6_222 : Cond.methodLink RX6 222 yX4_rollObstacle ∈ gW := gW_at 653 (by decide +kernel) (by decide +kernel)
theorem sv_X6_222 : GoodIn gW (wsV RX6 222 RX4 yX4_rollObstacle (Cond.code yX4_rollObstacle cX4_rollObstacle 2 (some .int) :: gW)) := gIn_V ml_X6_222 wi_X4_rollObstacle we_X4_rollObstacle ini_X4 wc_X4_rollObstacle
theorem ml_X6_227 : Cond.methodLink RX6 227 yX0_countOnRoad ∈ gW := gW_at 667 (by decide +kernel) (by decide +kernel)
theorem sv_X6_227 : GoodIn gW (wsV RX6 227 RX0 yX0_countOnRoad (Cond.code yX0_countOnRoad cX0_countOnRoad 3 (some .int) :: gW)) := gIn_V ml_X6_227 wi_X0_countOnRoad we_X0_countOnRoad ini_X0 wc_X0_countOnRoad
theorem ml_X6_231 : Cond.methodLink RX6 231 yX4_isConvoy ∈ gW := gW_at 814 (by decide +kernel) (by decide +kernel)
theorem sv_X6_231 : GoodIn gW (wsV RX6 231 RX4 yX4_isConvoy (Cond.code yX4_isConvoy cX4_isConvoy 2 (some .boolean) :: gW)) := gIn_V ml_X6_231 wi_X4_isConvoy we_X4_isConvoy ini_X4 wc_X4_isConvoy
theorem fl_X6_234 : Cond.fieldLink RX6 234 (TX0 1).1 (TX0 1).2.1 (TX0 1).2.2.1 ∈ gW := gW_at 110 (by decide +kernel) (by decide +kernel)
theorem ml_X6_237 : Cond.methodLink RX6 237 yX0_countArrived ∈ gW := gW_at 815 (by decide +kernel) (by decide +kernel)
theorem sv_X6_237 : GoodIn gW (wsV RX6 237 RX0 yX0_countArrived (Cond.code yX0_countArrived cX0_countArrived 3 (some .int) :: gW)) := gIn_V ml_X6_237 wi_X0_countArrived we_X0_countArrived ini_X0 wc_X0_countArrived
theorem ml_X6_240 : Cond.methodLink RX6 240 yX0_isDone ∈ gW := gW_at 816 (by decide +kernel) (by decide +kernel)
theorem sv_X6_240 : GoodIn gW (wsV RX6 240 RX0 yX0_isDone (Cond.code yX0_isDone cX0_isDone 1 (some .boolean) :: gW)) := gIn_V ml_X6_240 wi_X0_isDone we_X0_isDone ini_X0 wc_X0_isDone
theorem ml_X6_246 : Cond.methodLink RX6 246 yX4_truckIn ∈ gW := gW_at 825 (by decide +kernel) (by decide +kernel)
theorem sv_X6_246 : GoodIn gW (wsV RX6 246 RX4 yX4_truckIn (Cond.code yX4_truckIn cX4_truckIn 3 (some (.object "IceConvoys$Truck")) :: gW)) := gIn_V ml_X6_246 wi_X4_truckIn we_X4_truckIn ini_X4 wc_X4_truckIn
theorem fl_X6_252 : Cond.fieldLink RX6 252 (TX5 0).1 (TX5 0).2.1 (TX5 0).2.2.1 ∈ gW := gW_at 484 (by decide +kernel) (by decide +kernel)
theorem ml_X6_255 : Cond.methodLink RX6 255 yX0_mileOfTruck ∈ gW := gW_at 830 (by decide +kernel) (by decide +kernel)
theorem sv_X6_255 : GoodIn gW (wsV RX6 255 RX0 yX0_mileOfTruck (Cond.code yX0_mileOfTruck cX0_mileOfTruck 2 (some .int) :: gW)) := gIn_V ml_X6_255 wi_X0_mileOfTruck we_X0_mileOfTruck ini_X0 wc_X0_mileOfTruck
theorem ml_X6_258 : Cond.methodLink RX6 258 yX5_burden ∈ gW := gW_at 836 (by decide +kernel) (by decide +kernel)
theorem sv_X6_258 : GoodIn gW (wsV RX6 258 RX5 yX5_burden (Cond.code yX5_burden cX5_burden 1 (some .float) :: gW)) := gIn_V ml_X6_258 wi_X5_burden we_X5_burden ini_X5 wc_X5_burden
theorem ml_X6_264 : Cond.methodLink RX6 264 yX0_placeAt ∈ gW := gW_at 754 (by decide +kernel) (by decide +kernel)
theorem sv_X6_264 : GoodIn gW (wsV RX6 264 RX0 yX0_placeAt (Cond.code yX0_placeAt cX0_placeAt 3 (some .int) :: gW)) := gIn_V ml_X6_264 wi_X0_placeAt we_X0_placeAt ini_X0 wc_X0_placeAt
theorem ml_X6_267 : Cond.methodLink RX6 267 yX4_countRollsAhead ∈ gW := gW_at 938 (by decide +kernel) (by decide +kernel)
theorem sv_X6_267 : GoodIn gW (wsV RX6 267 RX4 yX4_countRollsAhead (Cond.code yX4_countRollsAhead cX4_countRollsAhead 5 (some .int) :: gW)) := gIn_V ml_X6_267 wi_X4_countRollsAhead we_X4_countRollsAhead ini_X4 wc_X4_countRollsAhead
theorem ml_X6_270 : Cond.methodLink RX6 270 yX4_copyFrom ∈ gW := gW_at 933 (by decide +kernel) (by decide +kernel)
theorem sv_X6_270 : GoodIn gW (wsV RX6 270 RX4 yX4_copyFrom (Cond.code yX4_copyFrom cX4_copyFrom 3 none :: gW)) := gIn_V ml_X6_270 wi_X4_copyFrom we_X4_copyFrom ini_X4 wc_X4_copyFrom
theorem ml_X6_275 : Cond.methodLink RX6 275 yX6_nextIce ∈ gW := gW_at 964 (by decide +kernel) (by decide +kernel)
theorem ss_X6_275 : GoodIn gW (va_wsS RX6 275 yX6_nextIce (Cond.code yX6_nextIce cX6_nextIce 3 (some .float) :: gW)) := gIn_S ml_X6_275 wt_X6_nextIce ini_X6 wc_X6_nextIce
theorem kc_X6_281 : Cond.constantFloat RX6 281 (1025758986) ∈ gW := gW_at 618 (by decide +kernel) (by decide +kernel)
theorem ml_X6_284 : Cond.methodLink RX6 284 yX6_isDaysToPass ∈ gW := gW_at 365 (by decide +kernel) (by decide +kernel)
theorem ss_X6_284 : GoodIn gW (va_wsS RX6 284 yX6_isDaysToPass (Cond.code yX6_isDaysToPass cX6_isDaysToPass 1 (some .boolean) :: gW)) := gIn_S ml_X6_284 wt_X6_isDaysToPass ini_X6 wc_X6_isDaysToPass
theorem ml_X6_287 : Cond.methodLink RX6 287 yX4_countGoodDrills ∈ gW := gW_at 369 (by decide +kernel) (by decide +kernel)
theorem sv_X6_287 : GoodIn gW (wsV RX6 287 RX4 yX4_countGoodDrills (Cond.code yX4_countGoodDrills cX4_countGoodDrills 3 (some .int) :: gW)) := gIn_V ml_X6_287 wi_X4_countGoodDrills we_X4_countGoodDrills ini_X4 wc_X4_countGoodDrills
theorem ml_X6_290 : Cond.methodLink RX6 290 yX4_letDaysGoBy ∈ gW := gW_at 377 (by decide +kernel) (by decide +kernel)
theorem sv_X6_290 : GoodIn gW (wsV RX6 290 RX4 yX4_letDaysGoBy (Cond.code yX4_letDaysGoBy cX4_letDaysGoBy 4 none :: gW)) := gIn_V ml_X6_290 wi_X4_letDaysGoBy we_X4_letDaysGoBy ini_X4 wc_X4_letDaysGoBy
theorem fl_X6_294 : Cond.fieldLink RX6 294 (TX3 1).1 (TX3 1).2.1 (TX3 1).2.2.1 ∈ gW := gW_at 194 (by decide +kernel) (by decide +kernel)
theorem cl_X6_297 : Cond.classLink RX6 297 "java/lang/IllegalStateException" ∈ gW := gW_at 903 (by decide +kernel) (by decide +kernel)
theorem ml_X6_301 : Cond.methodLink RX6 301 ⟨"java/lang/IllegalStateException", "<init>", "(Ljava/lang/String;)V"⟩ ∈ gW := gW_at 913 (by decide +kernel) (by decide +kernel)
theorem fl_X6_302 : Cond.fieldLink RX6 302 (TX3 0).1 (TX3 0).2.1 (TX3 0).2.2.1 ∈ gW := gW_at 192 (by decide +kernel) (by decide +kernel)
theorem ml_X6_306 : Cond.methodLink RX6 306 yX3_parse ∈ gW := gW_at 1270 (by decide +kernel) (by decide +kernel)
theorem sv_X6_306 : GoodIn gW (wsV RX6 306 RX3 yX3_parse (Cond.code yX3_parse cX3_parse 1 (some .int) :: gW)) := gIn_V ml_X6_306 wi_X3_parse we_X3_parse ini_X3 wc_X3_parse
theorem fl_X6_311 : Cond.fieldLink RX6 311 (TX3 3).1 (TX3 3).2.1 (TX3 3).2.2.1 ∈ gW := gW_at 197 (by decide +kernel) (by decide +kernel)
theorem ml_X6_314 : Cond.methodLink RX6 314 yX3_carryOut ∈ gW := gW_at 1299 (by decide +kernel) (by decide +kernel)
theorem sv_X6_314 : GoodIn gW (wsV RX6 314 RX3 yX3_carryOut (Cond.code yX3_carryOut cX3_carryOut 4 (some .int) :: gW)) := gIn_V ml_X6_314 wi_X3_carryOut we_X3_carryOut ini_X3 wc_X3_carryOut
theorem fl_X6_324 : Cond.fieldLink RX6 324 (TX4 1).1 (TX4 1).2.1 (TX4 1).2.2.1 ∈ gW := gW_at 129 (by decide +kernel) (by decide +kernel)
theorem ml_X6_327 : Cond.methodLink RX6 327 yX4_countInRows ∈ gW := gW_at 696 (by decide +kernel) (by decide +kernel)
theorem sv_X6_327 : GoodIn gW (wsV RX6 327 RX4 yX4_countInRows (Cond.code yX4_countInRows cX4_countInRows 3 (some .int) :: gW)) := gIn_V ml_X6_327 wi_X4_countInRows we_X4_countInRows ini_X4 wc_X4_countInRows
theorem ml_X6_330 : Cond.methodLink RX6 330 yX4_countStarted ∈ gW := gW_at 700 (by decide +kernel) (by decide +kernel)
theorem sv_X6_330 : GoodIn gW (wsV RX6 330 RX4 yX4_countStarted (Cond.code yX4_countStarted cX4_countStarted 3 (some .int) :: gW)) := gIn_V ml_X6_330 wi_X4_countStarted we_X4_countStarted ini_X4 wc_X4_countStarted
theorem ml_X6_333 : Cond.methodLink RX6 333 yX4_countDone ∈ gW := gW_at 704 (by decide +kernel) (by decide +kernel)
theorem sv_X6_333 : GoodIn gW (wsV RX6 333 RX4 yX4_countDone (Cond.code yX4_countDone cX4_countDone 3 (some .int) :: gW)) := gIn_V ml_X6_333 wi_X4_countDone we_X4_countDone ini_X4 wc_X4_countDone
theorem ml_X6_336 : Cond.methodLink RX6 336 yX4_countOnRoad ∈ gW := gW_at 708 (by decide +kernel) (by decide +kernel)
theorem sv_X6_336 : GoodIn gW (wsV RX6 336 RX4 yX4_countOnRoad (Cond.code yX4_countOnRoad cX4_countOnRoad 3 (some .int) :: gW)) := gIn_V ml_X6_336 wi_X4_countOnRoad we_X4_countOnRoad ini_X4 wc_X4_countOnRoad
theorem ml_X6_337 : Cond.methodLink RX6 337 yX4_countArrived ∈ gW := gW_at 713 (by decide +kernel) (by decide +kernel)
theorem sv_X6_337 : GoodIn gW (wsV RX6 337 RX4 yX4_countArrived (Cond.code yX4_countArrived cX4_countArrived 3 (some .int) :: gW)) := gIn_V ml_X6_337 wi_X4_countArrived we_X4_countArrived ini_X4 wc_X4_countArrived
theorem fl_X6_338 : Cond.fieldLink RX6 338 (TX4 8).1 (TX4 8).2.1 (TX4 8).2.2.1 ∈ gW := gW_at 145 (by decide +kernel) (by decide +kernel)
theorem ml_X6_341 : Cond.methodLink RX6 341 yX4_countCracks ∈ gW := gW_at 718 (by decide +kernel) (by decide +kernel)
theorem sv_X6_341 : GoodIn gW (wsV RX6 341 RX4 yX4_countCracks (Cond.code yX4_countCracks cX4_countCracks 3 (some .int) :: gW)) := gIn_V ml_X6_341 wi_X4_countCracks we_X4_countCracks ini_X4 wc_X4_countCracks
theorem fl_X6_344 : Cond.fieldLink RX6 344 (TX4 6).1 (TX4 6).2.1 (TX4 6).2.2.1 ∈ gW := gW_at 141 (by decide +kernel) (by decide +kernel)
theorem fl_X6_347 : Cond.fieldLink RX6 347 (TX1 2).1 (TX1 2).2.1 (TX1 2).2.2.1 ∈ gW := gW_at 177 (by decide +kernel) (by decide +kernel)
theorem ml_X6_350 : Cond.methodLink RX6 350 yX4_tonnesInRows ∈ gW := gW_at 861 (by decide +kernel) (by decide +kernel)
theorem sv_X6_350 : GoodIn gW (wsV RX6 350 RX4 yX4_tonnesInRows (Cond.code yX4_tonnesInRows cX4_tonnesInRows 4 (some .int) :: gW)) := gIn_V ml_X6_350 wi_X4_tonnesInRows we_X4_tonnesInRows ini_X4 wc_X4_tonnesInRows
theorem ml_X6_353 : Cond.methodLink RX6 353 yX4_tonnesUnderWay ∈ gW := gW_at 865 (by decide +kernel) (by decide +kernel)
theorem sv_X6_353 : GoodIn gW (wsV RX6 353 RX4 yX4_tonnesUnderWay (Cond.code yX4_tonnesUnderWay cX4_tonnesUnderWay 3 (some .int) :: gW)) := gIn_V ml_X6_353 wi_X4_tonnesUnderWay we_X4_tonnesUnderWay ini_X4 wc_X4_tonnesUnderWay
theorem ml_X6_356 : Cond.methodLink RX6 356 yX4_hasOneTruckAMile ∈ gW := gW_at 873 (by decide +kernel) (by decide +kernel)
theorem sv_X6_356 : GoodIn gW (wsV RX6 356 RX4 yX4_hasOneTruckAMile (Cond.code yX4_hasOneTruckAMile cX4_hasOneTruckAMile 5 (some .boolean) :: gW)) := gIn_V ml_X6_356 wi_X4_hasOneTruckAMile we_X4_hasOneTruckAMile ini_X4 wc_X4_hasOneTruckAMile
theorem ml_X6_359 : Cond.methodLink RX6 359 yX4_isIceInRange ∈ gW := gW_at 877 (by decide +kernel) (by decide +kernel)
theorem sv_X6_359 : GoodIn gW (wsV RX6 359 RX4 yX4_isIceInRange (Cond.code yX4_isIceInRange cX4_isIceInRange 2 (some .boolean) :: gW)) := gIn_V ml_X6_359 wi_X4_isIceInRange we_X4_isIceInRange ini_X4 wc_X4_isIceInRange
theorem kc_X6_362 : Cond.constantDouble RX6 362 (4622945017495814144) ∈ gW := gW_at 776 (by decide +kernel) (by decide +kernel)
theorem ml_X6_364 : Cond.methodLink RX6 364 yX6_doubleBits ∈ gW := gW_at 777 (by decide +kernel) (by decide +kernel)
theorem ss_X6_364 : GoodIn gW (va_wsS RX6 364 yX6_doubleBits (Cond.code yX6_doubleBits cX6_doubleBits 5 (some .long) :: gW)) := gIn_S ml_X6_364 wt_X6_doubleBits ini_X6 wc_X6_doubleBits
theorem cl_X6_368 : Cond.classLink RX6 368 "java/lang/ArithmeticException" ∈ gW := gW_at 841 (by decide +kernel) (by decide +kernel)
theorem ml_X6_372 : Cond.methodLink RX6 372 ⟨"java/lang/ArithmeticException", "<init>", "(Ljava/lang/String;)V"⟩ ∈ gW := gW_at 851 (by decide +kernel) (by decide +kernel)
theorem ml_X6_375 : Cond.methodLink RX6 375 yX1_takeBack ∈ gW := gW_at 919 (by decide +kernel) (by decide +kernel)
theorem sv_X6_375 : GoodIn gW (wsV RX6 375 RX1 yX1_takeBack (Cond.code yX1_takeBack cX1_takeBack 2 none :: gW)) := gIn_V ml_X6_375 wi_X1_takeBack we_X1_takeBack ini_X1 wc_X1_takeBack
theorem fl_X6_380 : Cond.fieldLink RX6 380 "IceConvoys" "LOWEST_SETTING" "[I" ∈ gW := gW_at 263 (by decide +kernel) (by decide +kernel)
theorem fl_X6_383 : Cond.fieldLink RX6 383 "IceConvoys" "HIGHEST_SETTING" "[I" ∈ gW := gW_at 265 (by decide +kernel) (by decide +kernel)
theorem kc_X6_386 : Cond.constantFloat RX6 386 (1069547520) ∈ gW := gW_at 388 (by decide +kernel) (by decide +kernel)
theorem kc_X6_387 : Cond.constantFloat RX6 387 (1092616192) ∈ gW := gW_at 389 (by decide +kernel) (by decide +kernel)
theorem kc_X6_388 : Cond.constantFloat RX6 388 (1053609165) ∈ gW := gW_at 390 (by decide +kernel) (by decide +kernel)
theorem kc_X6_389 : Cond.constantFloat RX6 389 (1128792064) ∈ gW := gW_at 391 (by decide +kernel) (by decide +kernel)
theorem kc_X6_390 : Cond.constantFloat RX6 390 (1036831949) ∈ gW := gW_at 619 (by decide +kernel) (by decide +kernel)
theorem kc_X6_391 : Cond.constantFloat RX6 391 (1120403456) ∈ gW := gW_at 620 (by decide +kernel) (by decide +kernel)
theorem kc_X6_392 : Cond.constantFloat RX6 392 (1258291200) ∈ gW := gW_at 563 (by decide +kernel) (by decide +kernel)
theorem kc_X6_393 : Cond.constantDouble RX6 393 (4611686018427387904) ∈ gW := gW_at 780 (by decide +kernel) (by decide +kernel)
theorem kc_X6_395 : Cond.constantDouble RX6 395 (4841369599423283200) ∈ gW := gW_at 781 (by decide +kernel) (by decide +kernel)
theorem ml_J5_3 : Cond.methodLink RJ5 3 Lib.objectInit ∈ gW := gW_at 995 (by decide +kernel) (by decide +kernel)
theorem fl_J5_18 : Cond.fieldLink RJ5 18 "java/lang/String" "COMPACT_STRINGS" "Z" ∈ gW := gW_at 996 (by decide +kernel) (by decide +kernel)
theorem fl_J5_15 : Cond.fieldLink RJ5 15 (TJ4 0).1 (TJ4 0).2.1 (TJ4 0).2.2.1 ∈ gW := gW_at 1005 (by decide +kernel) (by decide +kernel)
theorem fl_J5_22 : Cond.fieldLink RJ5 22 (TJ4 1).1 (TJ4 1).2.1 (TJ4 1).2.2.1 ∈ gW := gW_at 1006 (by decide +kernel) (by decide +kernel)
theorem ml_J5_26 : Cond.methodLink RJ5 26 yJ2_newBytesFor_77867 ∈ gW := gW_at 998 (by decide +kernel) (by decide +kernel)
theorem ss_J5_26 : GoodIn gW (va_wsS RJ5 26 yJ2_newBytesFor_77867 (Cond.code yJ2_newBytesFor_77867 cJ2_newBytesFor_77867 1 (some (.array .byte)) :: gW)) := gIn_S ml_J5_26 wt_J2_newBytesFor_77867 (gW_at 33 (by decide +kernel) (by decide +kernel)) wc_J2_newBytesFor_77867
theorem fl_J5_79 : Cond.fieldLink RJ5 79 (TJ4 3).1 (TJ4 3).2.1 (TJ4 3).2.2.1 ∈ gW := gW_at 1008 (by decide +kernel) (by decide +kernel)
theorem ml_J5_104 : Cond.methodLink RJ5 104 yJ5_newCapacity_0f7a4 ∈ gW := gW_at 1035 (by decide +kernel) (by decide +kernel)
theorem sv_J5_104 : GoodIn gW (wsV RJ5 104 RJ5 yJ5_newCapacity_0f7a4 (Cond.code yJ5_newCapacity_0f7a4 cJ5_newCapacity_0f7a4 6 (some .int) :: gW)) := gIn_V ml_J5_104 wi_J5_newCapacity_0f7a4 we_J5_newCapacity_0f7a4 (gW_at 31 (by decide +kernel) (by decide +kernel)) wc_J5_newCapacity_0f7a4
theorem ml_J5_108 : Cond.methodLink RJ5 108 yJ7_copyOf_9075b ∈ gW := gW_at 1048 (by decide +kernel) (by decide +kernel)
theorem ss_J5_108 : GoodIn gW (va_wsS RJ5 108 yJ7_copyOf_9075b (Cond.code yJ7_copyOf_9075b cJ7_copyOf_9075b 3 (some (.array .byte)) :: gW)) := gIn_S ml_J5_108 wt_J7_copyOf_9075b (gW_at 35 (by decide +kernel) (by decide +kernel)) wc_J7_copyOf_9075b
theorem ml_J5_204 : Cond.methodLink RJ5 204 yJ5_appendNull_278bc ∈ gW := gW_at 1027 (by decide +kernel) (by decide +kernel)
theorem sv_J5_204 : GoodIn gW (wsV RJ5 204 RJ5 yJ5_appendNull_278bc (Cond.code yJ5_appendNull_278bc cJ5_appendNull_278bc 3 (some (.object "java/lang/AbstractStringBuilder")) :: gW)) := gIn_V ml_J5_204 wi_J5_appendNull_278bc we_J5_appendNull_278bc (gW_at 31 (by decide +kernel) (by decide +kernel)) wc_J5_appendNull_278bc
theorem ml_J5_32 : Cond.methodLink RJ5 32 yJ0_length_8abf5 ∈ gW := gW_at 1093 (by decide +kernel) (by decide +kernel)
theorem sv_J5_32 : GoodIn gW (wsV RJ5 32 RJ0 yJ0_length_8abf5 (Cond.code yJ0_length_8abf5 cJ0_length_8abf5 1 (some .int) :: gW)) := gIn_V ml_J5_32 wi_J0_length_8abf5 we_J0_length_8abf5 ini_J0 wc_J0_length_8abf5
theorem ml_J5_100 : Cond.methodLink RJ5 100 yJ5_ensureCapacityInternal_d00df ∈ gW := gW_at 1031 (by decide +kernel) (by decide +kernel)
theorem sv_J5_100 : GoodIn gW (wsV RJ5 100 RJ5 yJ5_ensureCapacityInternal_d00df (Cond.code yJ5_ensureCapacityInternal_d00df cJ5_ensureCapacityInternal_d00df 3 none :: gW)) := gIn_V ml_J5_100 wi_J5_ensureCapacityInternal_d00df we_J5_ensureCapacityInternal_d00df (gW_at 31 (by decide +kernel) (by decide +kernel)) wc_J5_ensureCapacityInternal_d00df
theorem ml_J5_208 : Cond.methodLink RJ5 208 yJ5_putStringAt_47b60 ∈ gW := gW_at 1102 (by decide +kernel) (by decide +kernel)
theorem sv_J5_208 : GoodIn gW (wsV RJ5 208 RJ5 yJ5_putStringAt_47b60 (Cond.code yJ5_putStringAt_47b60 cJ5_putStringAt_47b60 3 none :: gW)) := gIn_V ml_J5_208 wi_J5_putStringAt_47b60 we_J5_putStringAt_47b60 (gW_at 31 (by decide +kernel) (by decide +kernel)) wc_J5_putStringAt_47b60
theorem ml_J5_245 : Cond.methodLink RJ5 245 yJ6_stringSize_0f7a4 ∈ gW := gW_at 1143 (by decide +kernel) (by decide +kernel)
theorem ss_J5_245 : GoodIn gW (va_wsS RJ5 245 yJ6_stringSize_0f7a4 (Cond.code yJ6_stringSize_0f7a4 cJ6_stringSize_0f7a4 4 (some .int) :: gW)) := gIn_S ml_J5_245 wt_J6_stringSize_0f7a4 (gW_at 39 (by decide +kernel) (by decide +kernel)) wc_J6_stringSize_0f7a4
theorem ml_J5_83 : Cond.methodLink RJ5 83 yJ5_isLatin1_aae02 ∈ gW := gW_at 1062 (by decide +kernel) (by decide +kernel)
theorem sv_J5_83 : GoodIn gW (wsV RJ5 83 RJ5 yJ5_isLatin1_aae02 (Cond.code yJ5_isLatin1_aae02 cJ5_isLatin1_aae02 1 (some .boolean) :: gW)) := gIn_V ml_J5_83 wi_J5_isLatin1_aae02 we_J5_isLatin1_aae02 (gW_at 31 (by decide +kernel) (by decide +kernel)) wc_J5_isLatin1_aae02
theorem ml_J5_248 : Cond.methodLink RJ5 248 yJ6_getChars_ba4f3 ∈ gW := gW_at 1146 (by decide +kernel) (by decide +kernel)
theorem ss_J5_248 : GoodIn gW (va_wsS RJ5 248 yJ6_getChars_ba4f3 (Cond.code yJ6_getChars_ba4f3 cJ6_getChars_ba4f3 7 (some .int) :: gW)) := gIn_S ml_J5_248 wt_J6_getChars_ba4f3 (gW_at 39 (by decide +kernel) (by decide +kernel)) wc_J6_getChars_ba4f3
theorem ml_J5_251 : Cond.methodLink RJ5 251 yJ2_getChars_46870 ∈ gW := gW_at 1153 (by decide +kernel) (by decide +kernel)
theorem ss_J5_251 : GoodIn gW (va_wsS RJ5 251 yJ2_getChars_46870 (Cond.code yJ2_getChars_46870 cJ2_getChars_46870 5 (some .int) :: gW)) := gIn_S ml_J5_251 wt_J2_getChars_46870 (gW_at 33 (by decide +kernel) (by decide +kernel)) wc_J2_getChars_46870
theorem ml_J5_40 : Cond.methodLink RJ5 40 yJ0_coder_7d493 ∈ gW := gW_at 1110 (by decide +kernel) (by decide +kernel)
theorem sv_J5_40 : GoodIn gW (wsV RJ5 40 RJ0 yJ0_coder_7d493 (Cond.code yJ0_coder_7d493 cJ0_coder_7d493 1 (some .byte) :: gW)) := gIn_V ml_J5_40 wi_J0_coder_7d493 we_J0_coder_7d493 ini_J0 wc_J0_coder_7d493
theorem ml_J5_195 : Cond.methodLink RJ5 195 yJ5_inflate_da8c8 ∈ gW := gW_at 1111 (by decide +kernel) (by decide +kernel)
theorem sv_J5_195 : GoodIn gW (wsV RJ5 195 RJ5 yJ5_inflate_da8c8 (Cond.code yJ5_inflate_da8c8 cJ5_inflate_da8c8 2 none :: gW)) := gIn_V ml_J5_195 wi_J5_inflate_da8c8 we_J5_inflate_da8c8 (gW_at 31 (by decide +kernel) (by decide +kernel)) wc_J5_inflate_da8c8
theorem ml_J5_397 : Cond.methodLink RJ5 397 yJ5_inflateIfNeededFor_a7421 ∈ gW := gW_at 1106 (by decide +kernel) (by decide +kernel)
theorem sv_J5_397 : GoodIn gW (wsV RJ5 397 RJ5 yJ5_inflateIfNeededFor_a7421 (Cond.code yJ5_inflateIfNeededFor_a7421 cJ5_inflateIfNeededFor_a7421 2 none :: gW)) := gIn_V ml_J5_397 wi_J5_inflateIfNeededFor_a7421 we_J5_inflateIfNeededFor_a7421 (gW_at 31 (by decide +kernel) (by decide +kernel)) wc_J5_inflateIfNeededFor_a7421
theorem ml_J5_399 : Cond.methodLink RJ5 399 yJ0_getBytes_840e7 ∈ gW := gW_at 1130 (by decide +kernel) (by decide +kernel)
theorem sv_J5_399 : GoodIn gW (wsV RJ5 399 RJ0 yJ0_getBytes_840e7 (Cond.code yJ0_getBytes_840e7 cJ0_getBytes_840e7 4 none :: gW)) := gIn_V ml_J5_399 wi_J0_getBytes_840e7 we_J0_getBytes_840e7 ini_J0 wc_J0_getBytes_840e7
theorem ml_Jx00060_7 : Cond.methodLink RJx00060 7 ⟨"java/lang/IndexOutOfBoundsException", "<init>", "(Ljava/lang/String;)V"⟩ ∈ gW := gW_at 430 (by decide +kernel) (by decide +kernel)
theorem ml_Jxe99ae_122 : Cond.methodLink RJxe99ae 122 yJxe99ae_isNaN_b9ae7 ∈ gW := gW_at 786 (by decide +kernel) (by decide +kernel)
theorem ss_Jxe99ae_122 : GoodIn gW (va_wsS RJxe99ae 122 yJxe99ae_isNaN_b9ae7 (Cond.code yJxe99ae_isNaN_b9ae7 cJxe99ae_isNaN_b9ae7 2 (some .boolean) :: gW)) := gIn_S ml_Jxe99ae_122 wt_Jxe99ae_isNaN_b9ae7 (gW_at 28 (by decide +kernel) (by decide +kernel)) wc_Jxe99ae_isNaN_b9ae7
theorem ml_Jxe99ae_134 : Cond.methodLink RJxe99ae 134 ⟨"java/lang/Double", "doubleToRawLongBits", "(D)J"⟩ ∈ gW := gW_at 789 (by decide +kernel) (by decide +kernel)
theorem kc_Jxe99ae_137 : Cond.constantLong RJxe99ae 137 (9221120237041090560) ∈ gW := gW_at 792 (by decide +kernel) (by decide +kernel)
theorem ml_Jxf58ca_59 : Cond.methodLink RJxf58ca 59 yJxf58ca_isNaN_12338 ∈ gW := gW_at 571 (by decide +kernel) (by decide +kernel)
theorem ss_Jxf58ca_59 : GoodIn gW (va_wsS RJxf58ca 59 yJxf58ca_isNaN_12338 (Cond.code yJxf58ca_isNaN_12338 cJxf58ca_isNaN_12338 1 (some .boolean) :: gW)) := gIn_S ml_Jxf58ca_59 wt_Jxf58ca_isNaN_12338 (gW_at 27 (by decide +kernel) (by decide +kernel)) wc_Jxf58ca_isNaN_12338
theorem ml_Jxf58ca_74 : Cond.methodLink RJxf58ca 74 ⟨"java/lang/Float", "floatToRawIntBits", "(F)I"⟩ ∈ gW := gW_at 574 (by decide +kernel) (by decide +kernel)
theorem kc_Jxf58ca_77 : Cond.constant RJxf58ca 77 (2143289344) ∈ gW := gW_at 577 (by decide +kernel) (by decide +kernel)
theorem fl_J6_83 : Cond.fieldLink RJ6 83 "java/lang/Integer" "DigitOnes" "[B" ∈ gW := gW_at 1149 (by decide +kernel) (by decide +kernel)
theorem fl_J6_87 : Cond.fieldLink RJ6 87 "java/lang/Integer" "DigitTens" "[B" ∈ gW := gW_at 1151 (by decide +kernel) (by decide +kernel)
theorem ml_J0_489 : Cond.methodLink RJ0 489 yJ0_init_db425 ∈ gW := gW_at 1172 (by decide +kernel) (by decide +kernel)
theorem fl_J0_9 : Cond.fieldLink RJ0 9 (TJ0 0).1 (TJ0 0).2.1 (TJ0 0).2.2.1 ∈ gW := gW_at 1220 (by decide +kernel) (by decide +kernel)
theorem ml_J0_335 : Cond.methodLink RJ0 335 yJ0_coder_7d493 ∈ gW := gW_at 1097 (by decide +kernel) (by decide +kernel)
theorem sv_J0_335 : GoodIn gW (wsV RJ0 335 RJ0 yJ0_coder_7d493 (Cond.code yJ0_coder_7d493 cJ0_coder_7d493 1 (some .byte) :: gW)) := gIn_V ml_J0_335 wi_J0_coder_7d493 we_J0_coder_7d493 ini_J0 wc_J0_coder_7d493
theorem ml_J0_492 : Cond.methodLink RJ0 492 yJ0_isLatin1_aae02 ∈ gW := gW_at 1235 (by decide +kernel) (by decide +kernel)
theorem sv_J0_492 : GoodIn gW (wsV RJ0 492 RJ0 yJ0_isLatin1_aae02 (Cond.code yJ0_isLatin1_aae02 cJ0_isLatin1_aae02 1 (some .boolean) :: gW)) := gIn_V ml_J0_492 wi_J0_isLatin1_aae02 we_J0_isLatin1_aae02 ini_J0 wc_J0_isLatin1_aae02
theorem ml_J0_495 : Cond.methodLink RJ0 495 yJ1_charAt_3b067 ∈ gW := gW_at 1239 (by decide +kernel) (by decide +kernel)
theorem ss_J0_495 : GoodIn gW (va_wsS RJ0 495 yJ1_charAt_3b067 (Cond.code yJ1_charAt_3b067 cJ1_charAt_3b067 2 (some .char) :: gW)) := gIn_S ml_J0_495 wt_J1_charAt_3b067 (gW_at 38 (by decide +kernel) (by decide +kernel)) wc_J1_charAt_3b067
theorem ml_J0_498 : Cond.methodLink RJ0 498 yJ2_charAt_3b067 ∈ gW := gW_at 1248 (by decide +kernel) (by decide +kernel)
theorem ss_J0_498 : GoodIn gW (va_wsS RJ0 498 yJ2_charAt_3b067 (Cond.code yJ2_charAt_3b067 cJ2_charAt_3b067 2 (some .char) :: gW)) := gIn_S ml_J0_498 wt_J2_charAt_3b067 (gW_at 33 (by decide +kernel) (by decide +kernel)) wc_J2_charAt_3b067
theorem ml_J0_212 : Cond.methodLink RJ0 212 ⟨"java/lang/System", "arraycopy", "(Ljava/lang/Object;ILjava/lang/Object;II)V"⟩ ∈ gW := gW_at 1134 (by decide +kernel) (by decide +kernel)
theorem ml_J0_106 : Cond.methodLink RJ0 106 yJ1_inflate_0e8fd ∈ gW := gW_at 1135 (by decide +kernel) (by decide +kernel)
theorem ss_J0_106 : GoodIn gW (va_wsS RJ0 106 yJ1_inflate_0e8fd (Cond.code yJ1_inflate_0e8fd cJ1_inflate_0e8fd 5 none :: gW)) := gIn_S ml_J0_106 wt_J1_inflate_0e8fd (gW_at 38 (by decide +kernel) (by decide +kernel)) wc_J1_inflate_0e8fd
theorem ml_J0_1 : Cond.methodLink RJ0 1 Lib.objectInit ∈ gW := gW_at 1175 (by decide +kernel) (by decide +kernel)
theorem ml_J0_552 : Cond.methodLink RJ0 552 yJ5_getValue_6d5f1 ∈ gW := gW_at 1176 (by decide +kernel) (by decide +kernel)
theorem sv_J0_552 : GoodIn gW (wsV RJ0 552 RJ5 yJ5_getValue_6d5f1 (Cond.code yJ5_getValue_6d5f1 cJ5_getValue_6d5f1 1 (some (.array .byte)) :: gW)) := gIn_V ml_J0_552 wi_J5_getValue_6d5f1 we_J5_getValue_6d5f1 (gW_at 31 (by decide +kernel) (by decide +kernel)) wc_J5_getValue_6d5f1
theorem ml_J0_549 : Cond.methodLink RJ0 549 yJ5_length_8abf5 ∈ gW := gW_at 1181 (by decide +kernel) (by decide +kernel)
theorem sv_J0_549 : GoodIn gW (wsV RJ0 549 RJ5 yJ5_length_8abf5 (Cond.code yJ5_length_8abf5 cJ5_length_8abf5 1 (some .int) :: gW)) := gIn_V ml_J0_549 wi_J5_length_8abf5 we_J5_length_8abf5 (gW_at 31 (by decide +kernel) (by decide +kernel)) wc_J5_length_8abf5
theorem ml_J0_1047 : Cond.methodLink RJ0 1047 yJ5_isLatin1_aae02 ∈ gW := gW_at 1189 (by decide +kernel) (by decide +kernel)
theorem sv_J0_1047 : GoodIn gW (wsV RJ0 1047 RJ5 yJ5_isLatin1_aae02 (Cond.code yJ5_isLatin1_aae02 cJ5_isLatin1_aae02 1 (some .boolean) :: gW)) := gIn_V ml_J0_1047 wi_J5_isLatin1_aae02 we_J5_isLatin1_aae02 (gW_at 31 (by decide +kernel) (by decide +kernel)) wc_J5_isLatin1_aae02
theorem fl_J0_15 : Cond.fieldLink RJ0 15 (TJ0 1).1 (TJ0 1).2.1 (TJ0 1).2.2.1 ∈ gW := gW_at 1221 (by decide +kernel) (by decide +kernel)
theorem ml_J0_54 : Cond.methodLink RJ0 54 yJ7_copyOfRange_39247 ∈ gW := gW_at 1190 (by decide +kernel) (by decide +kernel)
theorem ss_J0_54 : GoodIn gW (va_wsS RJ0 54 yJ7_copyOfRange_39247 (Cond.code yJ7_copyOfRange_39247 cJ7_copyOfRange_39247 3 (some (.array .byte)) :: gW)) := gIn_S ml_J0_54 wt_J7_copyOfRange_39247 (gW_at 35 (by decide +kernel) (by decide +kernel)) wc_J7_copyOfRange_39247
theorem fl_J0_38 : Cond.fieldLink RJ0 38 "java/lang/String" "COMPACT_STRINGS" "Z" ∈ gW := gW_at 1101 (by decide +kernel) (by decide +kernel)
theorem fl_J0_1048 : Cond.fieldLink RJ0 1048 (TJ4 2).1 (TJ4 2).2.1 (TJ4 2).2.2.1 ∈ gW := gW_at 1007 (by decide +kernel) (by decide +kernel)
theorem ml_J0_1051 : Cond.methodLink RJ0 1051 yJ2_compress_39247 ∈ gW := gW_at 1207 (by decide +kernel) (by decide +kernel)
theorem ss_J0_1051 : GoodIn gW (va_wsS RJ0 1051 yJ2_compress_39247 (Cond.code yJ2_compress_39247 cJ2_compress_39247 6 (some (.array .byte)) :: gW)) := gIn_S ml_J0_1051 wt_J2_compress_39247 (gW_at 33 (by decide +kernel) (by decide +kernel)) wc_J2_compress_39247
theorem ml_J0_47 : Cond.methodLink RJ0 47 yJ2_coderFromArrayLen_85cad ∈ gW := gW_at 1217 (by decide +kernel) (by decide +kernel)
theorem ss_J0_47 : GoodIn gW (va_wsS RJ0 47 yJ2_coderFromArrayLen_85cad (Cond.code yJ2_coderFromArrayLen_85cad cJ2_coderFromArrayLen_85cad 2 (some .byte) :: gW)) := gIn_S ml_J0_47 wt_J2_coderFromArrayLen_85cad (gW_at 33 (by decide +kernel) (by decide +kernel)) wc_J2_coderFromArrayLen_85cad
theorem fl_J0_1053 : Cond.fieldLink RJ0 1053 "jdk/internal/util/Preconditions" "SIOOBE_FORMATTER" "Ljava/util/function/BiFunction;" ∈ gW := gW_at 1079 (by decide +kernel) (by decide +kernel)
theorem ml_J0_1059 : Cond.methodLink RJ0 1059 yJ3_checkIndex_8e157 ∈ gW := gW_at 1245 (by decide +kernel) (by decide +kernel)
theorem ss_J0_1059 : GoodIn gW (va_wsS RJ0 1059 yJ3_checkIndex_8e157 (Cond.code yJ3_checkIndex_8e157 cJ3_checkIndex_8e157 3 (some .int) :: gW)) := gIn_S ml_J0_1059 wt_J3_checkIndex_8e157 (gW_at 37 (by decide +kernel) (by decide +kernel)) wc_J3_checkIndex_8e157
theorem ml_J0_1065 : Cond.methodLink RJ0 1065 yJ3_checkFromIndexSize_8c36e ∈ gW := gW_at 1127 (by decide +kernel) (by decide +kernel)
theorem ss_J0_1065 : GoodIn gW (va_wsS RJ0 1065 yJ3_checkFromIndexSize_8c36e (Cond.code yJ3_checkFromIndexSize_8c36e cJ3_checkFromIndexSize_8c36e 4 (some .int) :: gW)) := gIn_S ml_J0_1065 wt_J3_checkFromIndexSize_8c36e (gW_at 37 (by decide +kernel) (by decide +kernel)) wc_J3_checkFromIndexSize_8c36e
theorem ml_J0_1062 : Cond.methodLink RJ0 1062 yJ3_checkFromToIndex_8c36e ∈ gW := gW_at 1081 (by decide +kernel) (by decide +kernel)
theorem ss_J0_1062 : GoodIn gW (va_wsS RJ0 1062 yJ3_checkFromToIndex_8c36e (Cond.code yJ3_checkFromToIndex_8c36e cJ3_checkFromToIndex_8c36e 4 (some .int) :: gW)) := gIn_S ml_J0_1062 wt_J3_checkFromToIndex_8c36e (gW_at 37 (by decide +kernel) (by decide +kernel)) wc_J3_checkFromToIndex_8c36e
theorem ml_J4_1 : Cond.methodLink RJ4 1 yJ5_init_d00df ∈ gW := gW_at 992 (by decide +kernel) (by decide +kernel)
theorem ml_J4_29 : Cond.methodLink RJ4 29 yJ5_append_cf1ce ∈ gW := gW_at 1024 (by decide +kernel) (by decide +kernel)
theorem ml_J4_53 : Cond.methodLink RJ4 53 yJ5_append_c97b9 ∈ gW := gW_at 1140 (by decide +kernel) (by decide +kernel)
theorem cl_J4_18 : Cond.classLink RJ4 18 RJ0 ∈ gW := gW_at 1168 (by decide +kernel) (by decide +kernel)
theorem ml_J4_137 : Cond.methodLink RJ4 137 yJ0_init_81219 ∈ gW := gW_at 1169 (by decide +kernel) (by decide +kernel)
theorem ml_J4_343 : Cond.methodLink RJ4 343 yJ5_length_8abf5 ∈ gW := gW_at 1187 (by decide +kernel) (by decide +kernel)
theorem ml_J1_9 : Cond.methodLink RJ1 9 yJ0_checkIndex_df160 ∈ gW := gW_at 1242 (by decide +kernel) (by decide +kernel)
theorem ss_J1_9 : GoodIn gW (va_wsS RJ1 9 yJ0_checkIndex_df160 (Cond.code yJ0_checkIndex_df160 cJ0_checkIndex_df160 2 none :: gW)) := gIn_S ml_J1_9 wt_J0_checkIndex_df160 ini_J0 wc_J0_checkIndex_df160
theorem cl_J7_43 : Cond.classLink RJ7 43 "java/lang/IllegalArgumentException" ∈ gW := gW_at 1199 (by decide +kernel) (by decide +kernel)
theorem cl_J7_45 : Cond.classLink RJ7 45 RJ4 ∈ gW := gW_at 1200 (by decide +kernel) (by decide +kernel)
theorem ml_J7_47 : Cond.methodLink RJ7 47 yJ4_init_da8c8 ∈ gW := gW_at 1201 (by decide +kernel) (by decide +kernel)
theorem ml_J7_54 : Cond.methodLink RJ7 54 yJ4_append_bf812 ∈ gW := gW_at 1202 (by decide +kernel) (by decide +kernel)
theorem sv_J7_54 : GoodIn gW (wsV RJ7 54 RJ4 yJ4_append_bf812 (Cond.code yJ4_append_bf812 cJ4_append_bf812 2 (some (.object "java/lang/StringBuilder")) :: gW)) := gIn_V ml_J7_54 wi_J4_append_bf812 we_J4_append_bf812 ini_J4 wc_J4_append_bf812
theorem ml_J7_50 : Cond.methodLink RJ7 50 yJ4_append_15ec4 ∈ gW := gW_at 1204 (by decide +kernel) (by decide +kernel)
theorem sv_J7_50 : GoodIn gW (wsV RJ7 50 RJ4 yJ4_append_15ec4 (Cond.code yJ4_append_15ec4 cJ4_append_15ec4 2 (some (.object "java/lang/StringBuilder")) :: gW)) := gIn_V ml_J7_50 wi_J4_append_15ec4 we_J4_append_15ec4 ini_J4 wc_J4_append_15ec4
theorem ml_J7_61 : Cond.methodLink RJ7 61 yJ4_toString_0e30d ∈ gW := gW_at 1205 (by decide +kernel) (by decide +kernel)
theorem sv_J7_61 : GoodIn gW (wsV RJ7 61 RJ4 yJ4_toString_0e30d (Cond.code yJ4_toString_0e30d cJ4_toString_0e30d 1 (some (.object "java/lang/String")) :: gW)) := gIn_V ml_J7_61 wi_J4_toString_0e30d we_J4_toString_0e30d ini_J4 wc_J4_toString_0e30d
theorem ml_J7_65 : Cond.methodLink RJ7 65 ⟨"java/lang/IllegalArgumentException", "<init>", "(Ljava/lang/String;)V"⟩ ∈ gW := gW_at 1206 (by decide +kernel) (by decide +kernel)
theorem ml_J7_339 : Cond.methodLink RJ7 339 yJ7_copyOfRangeByte_39247 ∈ gW := gW_at 1193 (by decide +kernel) (by decide +kernel)
theorem ss_J7_339 : GoodIn gW (va_wsS RJ7 339 yJ7_copyOfRangeByte_39247 (Cond.code yJ7_copyOfRangeByte_39247 cJ7_copyOfRangeByte_39247 5 (some (.array .byte)) :: gW)) := gIn_S ml_J7_339 wt_J7_copyOfRangeByte_39247 (gW_at 35 (by decide +kernel) (by decide +kernel)) wc_J7_copyOfRangeByte_39247
theorem ml_J7_310 : Cond.methodLink RJ7 310 ⟨"[B", "clone", "()Ljava/lang/Object;"⟩ ∈ gW := gW_at 1051 (by decide +kernel) (by decide +kernel)
theorem ml_J7_343 : Cond.methodLink RJ7 343 yJ7_checkLength_df160 ∈ gW := gW_at 1196 (by decide +kernel) (by decide +kernel)
theorem ss_J7_343 : GoodIn gW (va_wsS RJ7 343 yJ7_checkLength_df160 (Cond.code yJ7_checkLength_df160 cJ7_checkLength_df160 2 none :: gW)) := gIn_S ml_J7_343 wt_J7_checkLength_df160 (gW_at 35 (by decide +kernel) (by decide +kernel)) wc_J7_checkLength_df160
theorem ml_J7_304 : Cond.methodLink RJ7 304 yJ9_min_7cf53 ∈ gW := gW_at 1058 (by decide +kernel) (by decide +kernel)
theorem ss_J7_304 : GoodIn gW (va_wsS RJ7 304 yJ9_min_7cf53 (Cond.code yJ9_min_7cf53 cJ9_min_7cf53 2 (some .int) :: gW)) := gIn_S ml_J7_304 wt_J9_min_7cf53 (gW_at 19 (by decide +kernel) (by decide +kernel)) wc_J9_min_7cf53
theorem ml_J7_150 : Cond.methodLink RJ7 150 ⟨"java/lang/System", "arraycopy", "(Ljava/lang/Object;ILjava/lang/Object;II)V"⟩ ∈ gW := gW_at 1059 (by decide +kernel) (by decide +kernel)
-- no word: J3_checkIndex_8e157 12 .invokestatic 95
theorem kc_L_7 : Cond.constant RL 7 (40503) ∈ gW := gW_at 248 (by decide +kernel) (by decide +kernel)
theorem ml_L_8 : Cond.methodLink RL 8 yX6_set ∈ gW := gW_at 253 (by decide +kernel) (by decide +kernel)
theorem sv_L_8 : GoodIn gW (wsV RL 8 RX6 yX6_set (Cond.code yX6_set cX6_set 4 (some .int) :: gW)) := gIn_V ml_L_8 wi_X6_set we_X6_set ini_X6 wc_X6_set
theorem ml_L_16 : Cond.methodLink RL 16 yX6_drill ∈ gW := gW_at 548 (by decide +kernel) (by decide +kernel)
theorem sv_L_16 : GoodIn gW (wsV RL 16 RX6 yX6_drill (Cond.code yX6_drill cX6_drill 2 (some .int) :: gW)) := gIn_V ml_L_16 wi_X6_drill we_X6_drill ini_X6 wc_X6_drill
theorem ml_L_22 : Cond.methodLink RL 22 yX6_drilled ∈ gW := gW_at 731 (by decide +kernel) (by decide +kernel)
theorem sv_L_22 : GoodIn gW (wsV RL 22 RX6 yX6_drilled (Cond.code yX6_drilled cX6_drilled 2 (some .int) :: gW)) := gIn_V ml_L_22 wi_X6_drilled we_X6_drilled ini_X6 wc_X6_drilled
theorem ml_L_27 : Cond.methodLink RL 27 yX6_mileOf ∈ gW := gW_at 686 (by decide +kernel) (by decide +kernel)
theorem sv_L_27 : GoodIn gW (wsV RL 27 RX6 yX6_mileOf (Cond.code yX6_mileOf cX6_mileOf 4 (some .int) :: gW)) := gIn_V ml_L_27 wi_X6_mileOf we_X6_mileOf ini_X6 wc_X6_mileOf
theorem ml_L_30 : Cond.methodLink RL 30 yX6_truck ∈ gW := gW_at 450 (by decide +kernel) (by decide +kernel)
theorem sv_L_30 : GoodIn gW (wsV RL 30 RX6 yX6_truck (Cond.code yX6_truck cX6_truck 6 (some .int) :: gW)) := gIn_V ml_L_30 wi_X6_truck we_X6_truck ini_X6 wc_X6_truck
theorem ml_L_36 : Cond.methodLink RL 36 yX6_inRow ∈ gW := gW_at 799 (by decide +kernel) (by decide +kernel)
theorem sv_L_36 : GoodIn gW (wsV RL 36 RX6 yX6_inRow (Cond.code yX6_inRow cX6_inRow 5 (some .int) :: gW)) := gIn_V ml_L_36 wi_X6_inRow we_X6_inRow ini_X6 wc_X6_inRow
theorem ml_L_40 : Cond.methodLink RL 40 yX6_convoy ∈ gW := gW_at 399 (by decide +kernel) (by decide +kernel)
theorem sv_L_40 : GoodIn gW (wsV RL 40 RX6 yX6_convoy (Cond.code yX6_convoy cX6_convoy 3 (some .int) :: gW)) := gIn_V ml_L_40 wi_X6_convoy we_X6_convoy ini_X6 wc_X6_convoy
theorem ml_L_43 : Cond.methodLink RL 43 yX6_join ∈ gW := gW_at 502 (by decide +kernel) (by decide +kernel)
theorem sv_L_43 : GoodIn gW (wsV RL 43 RX6 yX6_join (Cond.code yX6_join cX6_join 5 (some .int) :: gW)) := gIn_V ml_L_43 wi_X6_join we_X6_join ini_X6 wc_X6_join
theorem ml_L_46 : Cond.methodLink RL 46 yX6_start ∈ gW := gW_at 581 (by decide +kernel) (by decide +kernel)
theorem sv_L_46 : GoodIn gW (wsV RL 46 RX6 yX6_start (Cond.code yX6_start cX6_start 3 (some .int) :: gW)) := gIn_V ml_L_46 wi_X6_start we_X6_start ini_X6 wc_X6_start
theorem ml_L_49 : Cond.methodLink RL 49 yX6_roll ∈ gW := gW_at 649 (by decide +kernel) (by decide +kernel)
theorem sv_L_49 : GoodIn gW (wsV RL 49 RX6 yX6_roll (Cond.code yX6_roll cX6_roll 3 (some .int) :: gW)) := gIn_V ml_L_49 wi_X6_roll we_X6_roll ini_X6 wc_X6_roll
theorem ml_L_52 : Cond.methodLink RL 52 yX6_why ∈ gW := gW_at 891 (by decide +kernel) (by decide +kernel)
theorem sv_L_52 : GoodIn gW (wsV RL 52 RX6 yX6_why (Cond.code yX6_why cX6_why 4 (some .int) :: gW)) := gIn_V ml_L_52 wi_X6_why we_X6_why ini_X6 wc_X6_why
theorem ml_L_56 : Cond.methodLink RL 56 yX6_convoyOf ∈ gW := gW_at 810 (by decide +kernel) (by decide +kernel)
theorem sv_L_56 : GoodIn gW (wsV RL 56 RX6 yX6_convoyOf (Cond.code yX6_convoyOf cX6_convoyOf 4 (some .int) :: gW)) := gIn_V ml_L_56 wi_X6_convoyOf we_X6_convoyOf ini_X6 wc_X6_convoyOf
theorem ml_L_59 : Cond.methodLink RL 59 yX6_truckOf ∈ gW := gW_at 821 (by decide +kernel) (by decide +kernel)
theorem sv_L_59 : GoodIn gW (wsV RL 59 RX6 yX6_truckOf (Cond.code yX6_truckOf cX6_truckOf 5 (some .int) :: gW)) := gIn_V ml_L_59 wi_X6_truckOf we_X6_truckOf ini_X6 wc_X6_truckOf
theorem ml_L_62 : Cond.methodLink RL 62 yX6_at ∈ gW := gW_at 745 (by decide +kernel) (by decide +kernel)
theorem sv_L_62 : GoodIn gW (wsV RL 62 RX6 yX6_at (Cond.code yX6_at cX6_at 3 (some .int) :: gW)) := gIn_V ml_L_62 wi_X6_at we_X6_at ini_X6 wc_X6_at
theorem ml_L_65 : Cond.methodLink RL 65 yX6_rollsAgain ∈ gW := gW_at 929 (by decide +kernel) (by decide +kernel)
theorem sv_L_65 : GoodIn gW (wsV RL 65 RX6 yX6_rollsAgain (Cond.code yX6_rollsAgain cX6_rollsAgain 3 (some .int) :: gW)) := gIn_V ml_L_65 wi_X6_rollsAgain we_X6_rollsAgain ini_X6 wc_X6_rollsAgain
theorem ml_L_68 : Cond.methodLink RL 68 yX6_rolls ∈ gW := gW_at 934 (by decide +kernel) (by decide +kernel)
theorem sv_L_68 : GoodIn gW (wsV RL 68 RX6 yX6_rolls (Cond.code yX6_rolls cX6_rolls 2 (some .int) :: gW)) := gIn_V ml_L_68 wi_X6_rolls we_X6_rolls ini_X6 wc_X6_rolls
theorem ml_L_71 : Cond.methodLink RL 71 yX6_iceIn ∈ gW := gW_at 969 (by decide +kernel) (by decide +kernel)
theorem sv_L_71 : GoodIn gW (wsV RL 71 RX6 yX6_iceIn (Cond.code yX6_iceIn cX6_iceIn 5 (some .int) :: gW)) := gIn_V ml_L_71 wi_X6_iceIn we_X6_iceIn ini_X6 wc_X6_iceIn
theorem ml_L_74 : Cond.methodLink RL 74 yX6_bearsIn ∈ gW := gW_at 959 (by decide +kernel) (by decide +kernel)
theorem sv_L_74 : GoodIn gW (wsV RL 74 RX6 yX6_bearsIn (Cond.code yX6_bearsIn cX6_bearsIn 5 (some .int) :: gW)) := gIn_V ml_L_74 wi_X6_bearsIn we_X6_bearsIn ini_X6 wc_X6_bearsIn
theorem ml_L_77 : Cond.methodLink RL 77 yX6_pass ∈ gW := gW_at 361 (by decide +kernel) (by decide +kernel)
theorem sv_L_77 : GoodIn gW (wsV RL 77 RX6 yX6_pass (Cond.code yX6_pass cX6_pass 3 (some .int) :: gW)) := gIn_V ml_L_77 wi_X6_pass we_X6_pass ini_X6 wc_X6_pass
theorem ml_L_80 : Cond.methodLink RL 80 yX6_refusal ∈ gW := gW_at 675 (by decide +kernel) (by decide +kernel)
theorem sv_L_80 : GoodIn gW (wsV RL 80 RX6 yX6_refusal (Cond.code yX6_refusal cX6_refusal 2 (some .int) :: gW)) := gIn_V ml_L_80 wi_X6_refusal we_X6_refusal ini_X6 wc_X6_refusal
theorem ml_L_84 : Cond.methodLink RL 84 yX6_append ∈ gW := gW_at 1258 (by decide +kernel) (by decide +kernel)
theorem sv_L_84 : GoodIn gW (wsV RL 84 RX6 yX6_append (Cond.code yX6_append cX6_append 2 (some .int) :: gW)) := gIn_V ml_L_84 wi_X6_append we_X6_append ini_X6 wc_X6_append
theorem ml_L_90 : Cond.methodLink RL 90 yX6_read ∈ gW := gW_at 1266 (by decide +kernel) (by decide +kernel)
theorem sv_L_90 : GoodIn gW (wsV RL 90 RX6 yX6_read (Cond.code yX6_read cX6_read 3 (some .int) :: gW)) := gIn_V ml_L_90 wi_X6_read we_X6_read ini_X6 wc_X6_read
theorem ml_L_94 : Cond.methodLink RL 94 yJ0_length_8abf5 ∈ gW := gW_at 1230 (by decide +kernel) (by decide +kernel)
theorem sv_L_94 : GoodIn gW (wsV RL 94 RJ0 yJ0_length_8abf5 (Cond.code yJ0_length_8abf5 cJ0_length_8abf5 1 (some .int) :: gW)) := gIn_V ml_L_94 wi_J0_length_8abf5 we_J0_length_8abf5 ini_J0 wc_J0_length_8abf5
theorem ml_L_99 : Cond.methodLink RL 99 yJ0_charAt_5068e ∈ gW := gW_at 1231 (by decide +kernel) (by decide +kernel)
theorem sv_L_99 : GoodIn gW (wsV RL 99 RJ0 yJ0_charAt_5068e (Cond.code yJ0_charAt_5068e cJ0_charAt_5068e 2 (some .char) :: gW)) := gIn_V ml_L_99 wi_J0_charAt_5068e we_J0_charAt_5068e ini_J0 wc_J0_charAt_5068e
theorem ml_L_103 : Cond.methodLink RL 103 yL_append ∈ gW := gW_at 1255 (by decide +kernel) (by decide +kernel)
theorem ml_L_108 : Cond.methodLink RL 108 yL_does ∈ gW := gW_at 1263 (by decide +kernel) (by decide +kernel)
theorem ml_L_112 : Cond.methodLink RL 112 yX6_undo ∈ gW := gW_at 899 (by decide +kernel) (by decide +kernel)
theorem sv_L_112 : GoodIn gW (wsV RL 112 RX6 yX6_undo (Cond.code yX6_undo cX6_undo 1 (some .int) :: gW)) := gIn_V ml_L_112 wi_X6_undo we_X6_undo ini_X6 wc_X6_undo
theorem ml_L_115 : Cond.methodLink RL 115 yX6_bears ∈ gW := gW_at 758 (by decide +kernel) (by decide +kernel)
theorem sv_L_115 : GoodIn gW (wsV RL 115 RX6 yX6_bears (Cond.code yX6_bears cX6_bears 2 (some .int) :: gW)) := gIn_V ml_L_115 wi_X6_bears we_X6_bears ini_X6 wc_X6_bears
theorem ml_L_118 : Cond.methodLink RL 118 ⟨"java/lang/Float", "intBitsToFloat", "(I)F"⟩ ∈ gW := gW_at 736 (by decide +kernel) (by decide +kernel)
theorem cl_L_9 : Cond.classLink RL 9 RX6 ∈ gW := gW_at 43 (by decide +kernel) (by decide +kernel)
theorem ml_L_124 : Cond.methodLink RL 124 yX6_init ∈ gW := gW_at 45 (by decide +kernel) (by decide +kernel)
theorem ml_L_125 : Cond.methodLink RL 125 yL_cell ∈ gW := gW_at 245 (by decide +kernel) (by decide +kernel)
theorem ss_L_125 : GoodIn gW (va_wsS RL 125 yL_cell (Cond.code yL_cell cL_cell 2 (some .int) :: gW)) := gIn_S ml_L_125 wt_L_cell (gW_at 8 (by decide +kernel) (by decide +kernel)) wc_L_cell
theorem ml_L_129 : Cond.methodLink RL 129 yL_set ∈ gW := gW_at 249 (by decide +kernel) (by decide +kernel)
theorem ml_L_132 : Cond.methodLink RL 132 yL_pass ∈ gW := gW_at 358 (by decide +kernel) (by decide +kernel)
theorem ml_L_135 : Cond.methodLink RL 135 yL_convoy ∈ gW := gW_at 395 (by decide +kernel) (by decide +kernel)
theorem ml_L_137 : Cond.methodLink RL 137 yL_truck ∈ gW := gW_at 423 (by decide +kernel) (by decide +kernel)
theorem ml_L_140 : Cond.methodLink RL 140 yL_join ∈ gW := gW_at 498 (by decide +kernel) (by decide +kernel)
theorem ml_L_143 : Cond.methodLink RL 143 yL_drill ∈ gW := gW_at 545 (by decide +kernel) (by decide +kernel)
theorem ml_L_145 : Cond.methodLink RL 145 yX6_ice ∈ gW := gW_at 564 (by decide +kernel) (by decide +kernel)
theorem sv_L_145 : GoodIn gW (wsV RL 145 RX6 yX6_ice (Cond.code yX6_ice cX6_ice 2 (some .float) :: gW)) := gIn_V ml_L_145 wi_X6_ice we_X6_ice ini_X6 wc_X6_ice
theorem ml_L_148 : Cond.methodLink RL 148 yJxf58ca_floatToIntBits_5c35a ∈ gW := gW_at 568 (by decide +kernel) (by decide +kernel)
theorem ss_L_148 : GoodIn gW (va_wsS RL 148 yJxf58ca_floatToIntBits_5c35a (Cond.code yJxf58ca_floatToIntBits_5c35a cJxf58ca_floatToIntBits_5c35a 1 (some .int) :: gW)) := gIn_S ml_L_148 wt_Jxf58ca_floatToIntBits_5c35a (gW_at 27 (by decide +kernel) (by decide +kernel)) wc_Jxf58ca_floatToIntBits_5c35a
theorem ml_L_152 : Cond.methodLink RL 152 yL_start ∈ gW := gW_at 578 (by decide +kernel) (by decide +kernel)
theorem ml_L_154 : Cond.methodLink RL 154 yL_roll ∈ gW := gW_at 646 (by decide +kernel) (by decide +kernel)
theorem ml_L_156 : Cond.methodLink RL 156 yL_refusal ∈ gW := gW_at 672 (by decide +kernel) (by decide +kernel)
theorem ml_L_159 : Cond.methodLink RL 159 yL_drawn ∈ gW := gW_at 40 (by decide +kernel) (by decide +kernel)
theorem ss_L_159 : GoodIn gW (va_wsS RL 159 yL_drawn (Cond.code yL_drawn cL_drawn 10 (some (.object "IceConvoys")) :: gW)) := gIn_S ml_L_159 wt_L_drawn (gW_at 8 (by decide +kernel) (by decide +kernel)) wc_L_drawn
theorem ml_L_163 : Cond.methodLink RL 163 yL_miles ∈ gW := gW_at 680 (by decide +kernel) (by decide +kernel)
theorem ss_L_163 : GoodIn gW (va_wsS RL 163 yL_miles (Cond.code yL_miles cL_miles 12 (some .boolean) :: gW)) := gIn_S ml_L_163 wt_L_miles (gW_at 8 (by decide +kernel) (by decide +kernel)) wc_L_miles
theorem ml_L_167 : Cond.methodLink RL 167 yL_sums ∈ gW := gW_at 793 (by decide +kernel) (by decide +kernel)
theorem ss_L_167 : GoodIn gW (va_wsS RL 167 yL_sums (Cond.code yL_sums cL_sums 16 (some .boolean) :: gW)) := gIn_S ml_L_167 wt_L_sums (gW_at 8 (by decide +kernel) (by decide +kernel)) wc_L_sums
theorem ml_L_170 : Cond.methodLink RL 170 yL_reasons ∈ gW := gW_at 882 (by decide +kernel) (by decide +kernel)
theorem ss_L_170 : GoodIn gW (va_wsS RL 170 yL_reasons (Cond.code yL_reasons cL_reasons 8 (some .boolean) :: gW)) := gIn_S ml_L_170 wt_L_reasons (gW_at 8 (by decide +kernel) (by decide +kernel)) wc_L_reasons
theorem ml_L_173 : Cond.methodLink RL 173 yL_ahead ∈ gW := gW_at 923 (by decide +kernel) (by decide +kernel)
theorem ss_L_173 : GoodIn gW (va_wsS RL 173 yL_ahead (Cond.code yL_ahead cL_ahead 12 (some .boolean) :: gW)) := gIn_S ml_L_173 wt_L_ahead (gW_at 8 (by decide +kernel) (by decide +kernel)) wc_L_ahead
theorem ml_L_177 : Cond.methodLink RL 177 yL_undone ∈ gW := gW_at 973 (by decide +kernel) (by decide +kernel)
theorem ss_L_177 : GoodIn gW (va_wsS RL 177 yL_undone (Cond.code yL_undone cL_undone 7 (some .boolean) :: gW)) := gIn_S ml_L_177 wt_L_undone (gW_at 8 (by decide +kernel) (by decide +kernel)) wc_L_undone
theorem ml_L_180 : Cond.methodLink RL 180 yL_mileOf ∈ gW := gW_at 683 (by decide +kernel) (by decide +kernel)
theorem ml_L_182 : Cond.methodLink RL 182 yX6_account ∈ gW := gW_at 692 (by decide +kernel) (by decide +kernel)
theorem sv_L_182 : GoodIn gW (wsV RL 182 RX6 yX6_account (Cond.code yX6_account cX6_account 2 (some .int) :: gW)) := gIn_V ml_L_182 wi_X6_account we_X6_account ini_X6 wc_X6_account
theorem ml_L_185 : Cond.methodLink RL 185 yX6_setting ∈ gW := gW_at 723 (by decide +kernel) (by decide +kernel)
theorem sv_L_185 : GoodIn gW (wsV RL 185 RX6 yX6_setting (Cond.code yX6_setting cX6_setting 2 (some .int) :: gW)) := gIn_V ml_L_185 wi_X6_setting we_X6_setting ini_X6 wc_X6_setting
theorem ml_L_188 : Cond.methodLink RL 188 yL_drilled ∈ gW := gW_at 728 (by decide +kernel) (by decide +kernel)
theorem kc_L_190 : Cond.constantFloat RL 190 (1025758986) ∈ gW := gW_at 739 (by decide +kernel) (by decide +kernel)
theorem kc_L_191 : Cond.constantFloat RL 191 (1036831949) ∈ gW := gW_at 740 (by decide +kernel) (by decide +kernel)
theorem kc_L_192 : Cond.constantFloat RL 192 (1120403456) ∈ gW := gW_at 741 (by decide +kernel) (by decide +kernel)
theorem ml_L_193 : Cond.methodLink RL 193 yL_at ∈ gW := gW_at 742 (by decide +kernel) (by decide +kernel)
theorem ml_L_195 : Cond.methodLink RL 195 yL_bears ∈ gW := gW_at 755 (by decide +kernel) (by decide +kernel)
theorem ss_L_195 : GoodIn gW (va_wsS RL 195 yL_bears (Cond.code yL_bears cL_bears 2 (some .float) :: gW)) := gIn_S ml_L_195 wt_L_bears (gW_at 8 (by decide +kernel) (by decide +kernel)) wc_L_bears
theorem ml_L_198 : Cond.methodLink RL 198 yX6_sign ∈ gW := gW_at 763 (by decide +kernel) (by decide +kernel)
theorem sv_L_198 : GoodIn gW (wsV RL 198 RX6 yX6_sign (Cond.code yX6_sign cX6_sign 3 (some .char) :: gW)) := gIn_V ml_L_198 wi_X6_sign we_X6_sign ini_X6 wc_X6_sign
theorem kc_L_201 : Cond.constantFloat RL 201 (1128792064) ∈ gW := gW_at 767 (by decide +kernel) (by decide +kernel)
theorem ml_L_202 : Cond.methodLink RL 202 yX6_weakest ∈ gW := gW_at 768 (by decide +kernel) (by decide +kernel)
theorem sv_L_202 : GoodIn gW (wsV RL 202 RX6 yX6_weakest (Cond.code yX6_weakest cX6_weakest 5 (some .int) :: gW)) := gIn_V ml_L_202 wi_X6_weakest we_X6_weakest ini_X6 wc_X6_weakest
theorem ml_L_205 : Cond.methodLink RL 205 yX6_meanBits ∈ gW := gW_at 772 (by decide +kernel) (by decide +kernel)
theorem sv_L_205 : GoodIn gW (wsV RL 205 RX6 yX6_meanBits (Cond.code yX6_meanBits cX6_meanBits 4 (some .long) :: gW)) := gIn_V ml_L_205 wi_X6_meanBits we_X6_meanBits ini_X6 wc_X6_meanBits
theorem kc_L_209 : Cond.constantDouble RL 209 (4622945017495814144) ∈ gW := gW_at 782 (by decide +kernel) (by decide +kernel)
theorem ml_L_211 : Cond.methodLink RL 211 yJxe99ae_doubleToLongBits_ccdee ∈ gW := gW_at 783 (by decide +kernel) (by decide +kernel)
theorem ss_L_211 : GoodIn gW (va_wsS RL 211 yJxe99ae_doubleToLongBits_ccdee (Cond.code yJxe99ae_doubleToLongBits_ccdee cJxe99ae_doubleToLongBits_ccdee 2 (some .long) :: gW)) := gIn_S ml_L_211 wt_Jxe99ae_doubleToLongBits_ccdee (gW_at 28 (by decide +kernel) (by decide +kernel)) wc_Jxe99ae_doubleToLongBits_ccdee
theorem ml_L_217 : Cond.methodLink RL 217 yL_inRow ∈ gW := gW_at 796 (by decide +kernel) (by decide +kernel)
theorem ml_L_219 : Cond.methodLink RL 219 yJ9_max_7cf53 ∈ gW := gW_at 806 (by decide +kernel) (by decide +kernel)
theorem ss_L_219 : GoodIn gW (va_wsS RL 219 yJ9_max_7cf53 (Cond.code yJ9_max_7cf53 cJ9_max_7cf53 2 (some .int) :: gW)) := gIn_S ml_L_219 wt_J9_max_7cf53 (gW_at 19 (by decide +kernel) (by decide +kernel)) wc_J9_max_7cf53
theorem ml_L_224 : Cond.methodLink RL 224 yL_convoyOf ∈ gW := gW_at 807 (by decide +kernel) (by decide +kernel)
theorem ml_L_226 : Cond.methodLink RL 226 yL_truckOf ∈ gW := gW_at 818 (by decide +kernel) (by decide +kernel)
theorem kc_L_228 : Cond.constantFloat RL 228 (1056964608) ∈ gW := gW_at 831 (by decide +kernel) (by decide +kernel)
theorem ml_L_229 : Cond.methodLink RL 229 yX6_load ∈ gW := gW_at 832 (by decide +kernel) (by decide +kernel)
theorem sv_L_229 : GoodIn gW (wsV RL 229 RX6 yX6_load (Cond.code yX6_load cX6_load 4 (some .float) :: gW)) := gIn_V ml_L_229 wi_X6_load we_X6_load ini_X6 wc_X6_load
theorem ml_L_233 : Cond.methodLink RL 233 yX6_share ∈ gW := gW_at 837 (by decide +kernel) (by decide +kernel)
theorem sv_L_233 : GoodIn gW (wsV RL 233 RX6 yX6_share (Cond.code yX6_share cX6_share 1 (some .float) :: gW)) := gIn_V ml_L_233 wi_X6_share we_X6_share ini_X6 wc_X6_share
theorem ml_L_237 : Cond.methodLink RL 237 yX6_isWell ∈ gW := gW_at 857 (by decide +kernel) (by decide +kernel)
theorem sv_L_237 : GoodIn gW (wsV RL 237 RX6 yX6_isWell (Cond.code yX6_isWell cX6_isWell 1 (some .boolean) :: gW)) := gIn_V ml_L_237 wi_X6_isWell we_X6_isWell ini_X6 wc_X6_isWell
theorem ml_L_241 : Cond.methodLink RL 241 yL_expected ∈ gW := gW_at 885 (by decide +kernel) (by decide +kernel)
theorem ss_L_241 : GoodIn gW (va_wsS RL 241 yL_expected (Cond.code yL_expected cL_expected 7 (some .int) :: gW)) := gIn_S ml_L_241 wt_L_expected (gW_at 8 (by decide +kernel) (by decide +kernel)) wc_L_expected
theorem ml_L_244 : Cond.methodLink RL 244 yL_why ∈ gW := gW_at 888 (by decide +kernel) (by decide +kernel)
theorem ml_L_247 : Cond.methodLink RL 247 yL_undo ∈ gW := gW_at 895 (by decide +kernel) (by decide +kernel)
theorem ml_L_249 : Cond.methodLink RL 249 yL_rolls ∈ gW := gW_at 926 (by decide +kernel) (by decide +kernel)
theorem ml_L_251 : Cond.methodLink RL 251 yJ9_min_7cf53 ∈ gW := gW_at 955 (by decide +kernel) (by decide +kernel)
theorem ss_L_251 : GoodIn gW (va_wsS RL 251 yJ9_min_7cf53 (Cond.code yJ9_min_7cf53 cJ9_min_7cf53 2 (some .int) :: gW)) := gIn_S ml_L_251 wt_J9_min_7cf53 (gW_at 19 (by decide +kernel) (by decide +kernel)) wc_J9_min_7cf53
theorem ml_L_254 : Cond.methodLink RL 254 yL_bearsIn ∈ gW := gW_at 956 (by decide +kernel) (by decide +kernel)
theorem ml_L_256 : Cond.methodLink RL 256 yL_iceIn ∈ gW := gW_at 966 (by decide +kernel) (by decide +kernel)
theorem kc_L_258 : Cond.constantLong RL 258 (7) ∈ gW := gW_at 979 (by decide +kernel) (by decide +kernel)
theorem kc_L_260 : Cond.constantLong RL 260 (31) ∈ gW := gW_at 980 (by decide +kernel) (by decide +kernel)
theorem kc_L_262 : Cond.constantLong RL 262 (37) ∈ gW := gW_at 981 (by decide +kernel) (by decide +kernel)
theorem kc_L_264 : Cond.constantLong RL 264 (41) ∈ gW := gW_at 982 (by decide +kernel) (by decide +kernel)
theorem kc_L_266 : Cond.constantLong RL 266 (43) ∈ gW := gW_at 983 (by decide +kernel) (by decide +kernel)
theorem kc_L_268 : Cond.constantLong RL 268 (47) ∈ gW := gW_at 984 (by decide +kernel) (by decide +kernel)
theorem kc_L_270 : Cond.constantLong RL 270 (53) ∈ gW := gW_at 985 (by decide +kernel) (by decide +kernel)
theorem kc_L_272 : Cond.constantLong RL 272 (59) ∈ gW := gW_at 986 (by decide +kernel) (by decide +kernel)
theorem ml_L_274 : Cond.methodLink RL 274 yL_sum ∈ gW := gW_at 976 (by decide +kernel) (by decide +kernel)
theorem ss_L_274 : GoodIn gW (va_wsS RL 274 yL_sum (Cond.code yL_sum cL_sum 5 (some .long) :: gW)) := gIn_S ml_L_274 wt_L_sum (gW_at 8 (by decide +kernel) (by decide +kernel)) wc_L_sum
theorem cl_L_278 : Cond.classLink RL 278 RJ4 ∈ gW := gW_at 987 (by decide +kernel) (by decide +kernel)
theorem ml_L_280 : Cond.methodLink RL 280 yJ4_init_da8c8 ∈ gW := gW_at 989 (by decide +kernel) (by decide +kernel)
theorem ml_L_283 : Cond.methodLink RL 283 yJ4_append_15ec4 ∈ gW := gW_at 1020 (by decide +kernel) (by decide +kernel)
theorem sv_L_283 : GoodIn gW (wsV RL 283 RJ4 yJ4_append_15ec4 (Cond.code yJ4_append_15ec4 cJ4_append_15ec4 2 (some (.object "java/lang/StringBuilder")) :: gW)) := gIn_V ml_L_283 wi_J4_append_15ec4 we_J4_append_15ec4 ini_J4 wc_J4_append_15ec4
theorem ml_L_286 : Cond.methodLink RL 286 yJ4_append_bf812 ∈ gW := gW_at 1136 (by decide +kernel) (by decide +kernel)
theorem sv_L_286 : GoodIn gW (wsV RL 286 RJ4 yJ4_append_bf812 (Cond.code yJ4_append_bf812 cJ4_append_bf812 2 (some (.object "java/lang/StringBuilder")) :: gW)) := gIn_V ml_L_286 wi_J4_append_bf812 we_J4_append_bf812 ini_J4 wc_J4_append_bf812
theorem ml_L_295 : Cond.methodLink RL 295 yJ4_toString_0e30d ∈ gW := gW_at 1164 (by decide +kernel) (by decide +kernel)
theorem sv_L_295 : GoodIn gW (wsV RL 295 RJ4 yJ4_toString_0e30d (Cond.code yJ4_toString_0e30d cJ4_toString_0e30d 1 (some (.object "java/lang/String")) :: gW)) := gIn_V ml_L_295 wi_J4_toString_0e30d we_J4_toString_0e30d ini_J4 wc_J4_toString_0e30d
theorem ml_L_299 : Cond.methodLink RL 299 yL_read ∈ gW := gW_at 1227 (by decide +kernel) (by decide +kernel)
theorem ss_L_299 : GoodIn gW (va_wsS RL 299 yL_read (Cond.code yL_read cL_read 3 (some .int) :: gW)) := gIn_S ml_L_299 wt_L_read (gW_at 8 (by decide +kernel) (by decide +kernel)) wc_L_read
