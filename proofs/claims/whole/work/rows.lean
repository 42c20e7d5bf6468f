section
-- ===== PART A: goes FIRST, ahead of the names: the tables' words, and 'selects' of the private methods out of them =====
/-- a private method of a class that the tables say can be made, by its rows of tables_1 -/
def lw_okq (q : MethodName × Nat) : Prop := (q.1.cls ≠ "java/lang/invoke/MethodHandle" ∧ q.1.cls ≠ "java/lang/invoke/VarHandle") ∧ Cond.instantiable q.1.cls q.2 ∈ tables_1 ∧ Cond.privateMethod q.1 ∈ tables_1 ∧ Cond.instanceMethod q.1 ∈ tables_1
theorem lw_p0 : lw_okq (⟨"java/lang/Throwable", "fillInStackTrace", "(I)Ljava/lang/Throwable;"⟩, 6) := ⟨⟨by decide +kernel, by decide +kernel⟩, List.mem_of_getElem? (i := 385) (by decide +kernel), List.mem_of_getElem? (i := 383) (by decide +kernel), List.mem_of_getElem? (i := 384) (by decide +kernel)⟩
theorem lw_p1 : lw_okq (⟨"IceConvoys$Orders", "parseOrder", "()Z"⟩, 8) := ⟨⟨by decide +kernel, by decide +kernel⟩, List.mem_of_getElem? (i := 172) (by decide +kernel), List.mem_of_getElem? (i := 881) (by decide +kernel), List.mem_of_getElem? (i := 882) (by decide +kernel)⟩
theorem lw_p2 : lw_okq (⟨"IceConvoys$Orders", "parseNumber", "()I"⟩, 8) := ⟨⟨by decide +kernel, by decide +kernel⟩, List.mem_of_getElem? (i := 172) (by decide +kernel), List.mem_of_getElem? (i := 885) (by decide +kernel), List.mem_of_getElem? (i := 886) (by decide +kernel)⟩
theorem lw_p3 : lw_okq (⟨"IceConvoys$Orders", "parseDigit", "()I"⟩, 8) := ⟨⟨by decide +kernel, by decide +kernel⟩, List.mem_of_getElem? (i := 172) (by decide +kernel), List.mem_of_getElem? (i := 889) (by decide +kernel), List.mem_of_getElem? (i := 890) (by decide +kernel)⟩
theorem lw_p4 : lw_okq (⟨"IceConvoys$Orders", "parseTemperature", "()Z"⟩, 8) := ⟨⟨by decide +kernel, by decide +kernel⟩, List.mem_of_getElem? (i := 172) (by decide +kernel), List.mem_of_getElem? (i := 893) (by decide +kernel), List.mem_of_getElem? (i := 894) (by decide +kernel)⟩
theorem lw_p5 : lw_okq (⟨"IceConvoys$Orders", "skip", "(C)Z"⟩, 8) := ⟨⟨by decide +kernel, by decide +kernel⟩, List.mem_of_getElem? (i := 172) (by decide +kernel), List.mem_of_getElem? (i := 897) (by decide +kernel), List.mem_of_getElem? (i := 898) (by decide +kernel)⟩
theorem lw_p6 : lw_okq (⟨"IceConvoys$Orders", "parseJoin", "()Z"⟩, 8) := ⟨⟨by decide +kernel, by decide +kernel⟩, List.mem_of_getElem? (i := 172) (by decide +kernel), List.mem_of_getElem? (i := 901) (by decide +kernel), List.mem_of_getElem? (i := 902) (by decide +kernel)⟩
theorem lw_p7 : lw_okq (⟨"IceConvoys$Orders", "carryOutJoin", "(ILIceConvoys$Road;)I"⟩, 8) := ⟨⟨by decide +kernel, by decide +kernel⟩, List.mem_of_getElem? (i := 172) (by decide +kernel), List.mem_of_getElem? (i := 925) (by decide +kernel), List.mem_of_getElem? (i := 926) (by decide +kernel)⟩
theorem lw_p8 : lw_okq (⟨"IceConvoysModel", "setIce", "(IF)V"⟩, 18) := ⟨⟨by decide +kernel, by decide +kernel⟩, List.mem_of_getElem? (i := 1024) (by decide +kernel), List.mem_of_getElem? (i := 1031) (by decide +kernel), List.mem_of_getElem? (i := 1032) (by decide +kernel)⟩
theorem lw_p9 : lw_okq (⟨"IceConvoysModel", "set", "(III)V"⟩, 18) := ⟨⟨by decide +kernel, by decide +kernel⟩, List.mem_of_getElem? (i := 1024) (by decide +kernel), List.mem_of_getElem? (i := 1045) (by decide +kernel), List.mem_of_getElem? (i := 1046) (by decide +kernel)⟩
theorem lw_p10 : lw_okq (⟨"IceConvoysModel", "keep", "()V"⟩, 18) := ⟨⟨by decide +kernel, by decide +kernel⟩, List.mem_of_getElem? (i := 1024) (by decide +kernel), List.mem_of_getElem? (i := 1116) (by decide +kernel), List.mem_of_getElem? (i := 1117) (by decide +kernel)⟩
theorem lw_p11 : lw_okq (⟨"IceConvoysModel", "doSet", "(II)I"⟩, 18) := ⟨⟨by decide +kernel, by decide +kernel⟩, List.mem_of_getElem? (i := 1024) (by decide +kernel), List.mem_of_getElem? (i := 1123) (by decide +kernel), List.mem_of_getElem? (i := 1124) (by decide +kernel)⟩
theorem lw_p12 : lw_okq (⟨"IceConvoysModel", "fails", "(I)I"⟩, 18) := ⟨⟨by decide +kernel, by decide +kernel⟩, List.mem_of_getElem? (i := 1024) (by decide +kernel), List.mem_of_getElem? (i := 1130) (by decide +kernel), List.mem_of_getElem? (i := 1131) (by decide +kernel)⟩
theorem lw_p13 : lw_okq (⟨"IceConvoysModel", "ends", "(I)I"⟩, 18) := ⟨⟨by decide +kernel, by decide +kernel⟩, List.mem_of_getElem? (i := 1024) (by decide +kernel), List.mem_of_getElem? (i := 1134) (by decide +kernel), List.mem_of_getElem? (i := 1135) (by decide +kernel)⟩
theorem lw_p14 : lw_okq (⟨"IceConvoysModel", "doDrill", "(I)I"⟩, 18) := ⟨⟨by decide +kernel, by decide +kernel⟩, List.mem_of_getElem? (i := 1024) (by decide +kernel), List.mem_of_getElem? (i := 1146) (by decide +kernel), List.mem_of_getElem? (i := 1147) (by decide +kernel)⟩
theorem lw_p15 : lw_okq (⟨"IceConvoysModel", "get", "(II)I"⟩, 18) := ⟨⟨by decide +kernel, by decide +kernel⟩, List.mem_of_getElem? (i := 1024) (by decide +kernel), List.mem_of_getElem? (i := 1153) (by decide +kernel), List.mem_of_getElem? (i := 1154) (by decide +kernel)⟩
def lw_privs_1 : List (MethodName × Nat) := [(⟨"java/lang/Throwable", "fillInStackTrace", "(I)Ljava/lang/Throwable;"⟩, 6), (⟨"IceConvoys$Orders", "parseOrder", "()Z"⟩, 8), (⟨"IceConvoys$Orders", "parseNumber", "()I"⟩, 8), (⟨"IceConvoys$Orders", "parseDigit", "()I"⟩, 8), (⟨"IceConvoys$Orders", "parseTemperature", "()Z"⟩, 8), (⟨"IceConvoys$Orders", "skip", "(C)Z"⟩, 8), (⟨"IceConvoys$Orders", "parseJoin", "()Z"⟩, 8), (⟨"IceConvoys$Orders", "carryOutJoin", "(ILIceConvoys$Road;)I"⟩, 8), (⟨"IceConvoysModel", "setIce", "(IF)V"⟩, 18), (⟨"IceConvoysModel", "set", "(III)V"⟩, 18), (⟨"IceConvoysModel", "keep", "()V"⟩, 18), (⟨"IceConvoysModel", "doSet", "(II)I"⟩, 18), (⟨"IceConvoysModel", "fails", "(I)I"⟩, 18), (⟨"IceConvoysModel", "ends", "(I)I"⟩, 18), (⟨"IceConvoysModel", "doDrill", "(I)I"⟩, 18), (⟨"IceConvoysModel", "get", "(II)I"⟩, 18)]
theorem lw_r1 : ∀ q ∈ lw_privs_1, lw_okq q := List.forall_mem_cons.mpr ⟨lw_p0, List.forall_mem_cons.mpr ⟨lw_p1, List.forall_mem_cons.mpr ⟨lw_p2, List.forall_mem_cons.mpr ⟨lw_p3, List.forall_mem_cons.mpr ⟨lw_p4, List.forall_mem_cons.mpr ⟨lw_p5, List.forall_mem_cons.mpr ⟨lw_p6, List.forall_mem_cons.mpr ⟨lw_p7, List.forall_mem_cons.mpr ⟨lw_p8, List.forall_mem_cons.mpr ⟨lw_p9, List.forall_mem_cons.mpr ⟨lw_p10, List.forall_mem_cons.mpr ⟨lw_p11, List.forall_mem_cons.mpr ⟨lw_p12, List.forall_mem_cons.mpr ⟨lw_p13, List.forall_mem_cons.mpr ⟨lw_p14, List.forall_mem_cons.mpr ⟨lw_p15, fun _ h => absurd h List.not_mem_nil⟩⟩⟩⟩⟩⟩⟩⟩⟩⟩⟩⟩⟩⟩⟩⟩
theorem lw_p16 : lw_okq (⟨"IceConvoysModel", "isGood", "(I)Z"⟩, 18) := ⟨⟨by decide +kernel, by decide +kernel⟩, List.mem_of_getElem? (i := 1024) (by decide +kernel), List.mem_of_getElem? (i := 1165) (by decide +kernel), List.mem_of_getElem? (i := 1166) (by decide +kernel)⟩
theorem lw_p17 : lw_okq (⟨"IceConvoysModel", "iceOf", "(I)F"⟩, 18) := ⟨⟨by decide +kernel, by decide +kernel⟩, List.mem_of_getElem? (i := 1024) (by decide +kernel), List.mem_of_getElem? (i := 1173) (by decide +kernel), List.mem_of_getElem? (i := 1174) (by decide +kernel)⟩
theorem lw_p18 : lw_okq (⟨"IceConvoysModel", "bearsOf", "(I)F"⟩, 18) := ⟨⟨by decide +kernel, by decide +kernel⟩, List.mem_of_getElem? (i := 1024) (by decide +kernel), List.mem_of_getElem? (i := 1184) (by decide +kernel), List.mem_of_getElem? (i := 1185) (by decide +kernel)⟩
theorem lw_p19 : lw_okq (⟨"IceConvoysModel", "whoIsAt", "(II)I"⟩, 18) := ⟨⟨by decide +kernel, by decide +kernel⟩, List.mem_of_getElem? (i := 1024) (by decide +kernel), List.mem_of_getElem? (i := 1195) (by decide +kernel), List.mem_of_getElem? (i := 1196) (by decide +kernel)⟩
theorem lw_p20 : lw_okq (⟨"IceConvoysModel", "convoy1", "(II)I"⟩, 18) := ⟨⟨by decide +kernel, by decide +kernel⟩, List.mem_of_getElem? (i := 1024) (by decide +kernel), List.mem_of_getElem? (i := 1199) (by decide +kernel), List.mem_of_getElem? (i := 1200) (by decide +kernel)⟩
theorem lw_p21 : lw_okq (⟨"IceConvoysModel", "isStarted", "(I)Z"⟩, 18) := ⟨⟨by decide +kernel, by decide +kernel⟩, List.mem_of_getElem? (i := 1024) (by decide +kernel), List.mem_of_getElem? (i := 1203) (by decide +kernel), List.mem_of_getElem? (i := 1204) (by decide +kernel)⟩
theorem lw_p22 : lw_okq (⟨"IceConvoysModel", "mileBy", "(III)I"⟩, 18) := ⟨⟨by decide +kernel, by decide +kernel⟩, List.mem_of_getElem? (i := 1024) (by decide +kernel), List.mem_of_getElem? (i := 1207) (by decide +kernel), List.mem_of_getElem? (i := 1208) (by decide +kernel)⟩
theorem lw_p23 : lw_okq (⟨"IceConvoysModel", "refuse", "(III)I"⟩, 18) := ⟨⟨by decide +kernel, by decide +kernel⟩, List.mem_of_getElem? (i := 1024) (by decide +kernel), List.mem_of_getElem? (i := 1222) (by decide +kernel), List.mem_of_getElem? (i := 1223) (by decide +kernel)⟩
theorem lw_p24 : lw_okq (⟨"IceConvoysModel", "doJoin", "(III)I"⟩, 18) := ⟨⟨by decide +kernel, by decide +kernel⟩, List.mem_of_getElem? (i := 1024) (by decide +kernel), List.mem_of_getElem? (i := 1241) (by decide +kernel), List.mem_of_getElem? (i := 1242) (by decide +kernel)⟩
theorem lw_p25 : lw_okq (⟨"IceConvoysModel", "isConvoy", "(I)Z"⟩, 18) := ⟨⟨by decide +kernel, by decide +kernel⟩, List.mem_of_getElem? (i := 1024) (by decide +kernel), List.mem_of_getElem? (i := 1245) (by decide +kernel), List.mem_of_getElem? (i := 1246) (by decide +kernel)⟩
theorem lw_p26 : lw_okq (⟨"IceConvoysModel", "doStart", "(I)I"⟩, 18) := ⟨⟨by decide +kernel, by decide +kernel⟩, List.mem_of_getElem? (i := 1024) (by decide +kernel), List.mem_of_getElem? (i := 1253) (by decide +kernel), List.mem_of_getElem? (i := 1254) (by decide +kernel)⟩
theorem lw_p27 : lw_okq (⟨"IceConvoysModel", "barred", "(II)I"⟩, 18) := ⟨⟨by decide +kernel, by decide +kernel⟩, List.mem_of_getElem? (i := 1024) (by decide +kernel), List.mem_of_getElem? (i := 1257) (by decide +kernel), List.mem_of_getElem? (i := 1258) (by decide +kernel)⟩
theorem lw_p28 : lw_okq (⟨"IceConvoysModel", "loadOf", "(II)F"⟩, 18) := ⟨⟨by decide +kernel, by decide +kernel⟩, List.mem_of_getElem? (i := 1024) (by decide +kernel), List.mem_of_getElem? (i := 1261) (by decide +kernel), List.mem_of_getElem? (i := 1262) (by decide +kernel)⟩
theorem lw_p29 : lw_okq (⟨"IceConvoysModel", "truck1", "(III)I"⟩, 18) := ⟨⟨by decide +kernel, by decide +kernel⟩, List.mem_of_getElem? (i := 1024) (by decide +kernel), List.mem_of_getElem? (i := 1265) (by decide +kernel), List.mem_of_getElem? (i := 1266) (by decide +kernel)⟩
theorem lw_p30 : lw_okq (⟨"IceConvoysModel", "comesTo", "(II)I"⟩, 18) := ⟨⟨by decide +kernel, by decide +kernel⟩, List.mem_of_getElem? (i := 1024) (by decide +kernel), List.mem_of_getElem? (i := 1270) (by decide +kernel), List.mem_of_getElem? (i := 1271) (by decide +kernel)⟩
theorem lw_p31 : lw_okq (⟨"IceConvoysModel", "doRoll", "(I)I"⟩, 18) := ⟨⟨by decide +kernel, by decide +kernel⟩, List.mem_of_getElem? (i := 1024) (by decide +kernel), List.mem_of_getElem? (i := 1279) (by decide +kernel), List.mem_of_getElem? (i := 1280) (by decide +kernel)⟩
def lw_privs_2 : List (MethodName × Nat) := [(⟨"IceConvoysModel", "isGood", "(I)Z"⟩, 18), (⟨"IceConvoysModel", "iceOf", "(I)F"⟩, 18), (⟨"IceConvoysModel", "bearsOf", "(I)F"⟩, 18), (⟨"IceConvoysModel", "whoIsAt", "(II)I"⟩, 18), (⟨"IceConvoysModel", "convoy1", "(II)I"⟩, 18), (⟨"IceConvoysModel", "isStarted", "(I)Z"⟩, 18), (⟨"IceConvoysModel", "mileBy", "(III)I"⟩, 18), (⟨"IceConvoysModel", "refuse", "(III)I"⟩, 18), (⟨"IceConvoysModel", "doJoin", "(III)I"⟩, 18), (⟨"IceConvoysModel", "isConvoy", "(I)Z"⟩, 18), (⟨"IceConvoysModel", "doStart", "(I)I"⟩, 18), (⟨"IceConvoysModel", "barred", "(II)I"⟩, 18), (⟨"IceConvoysModel", "loadOf", "(II)F"⟩, 18), (⟨"IceConvoysModel", "truck1", "(III)I"⟩, 18), (⟨"IceConvoysModel", "comesTo", "(II)I"⟩, 18), (⟨"IceConvoysModel", "doRoll", "(I)I"⟩, 18)]
theorem lw_r2 : ∀ q ∈ lw_privs_2, lw_okq q := List.forall_mem_cons.mpr ⟨lw_p16, List.forall_mem_cons.mpr ⟨lw_p17, List.forall_mem_cons.mpr ⟨lw_p18, List.forall_mem_cons.mpr ⟨lw_p19, List.forall_mem_cons.mpr ⟨lw_p20, List.forall_mem_cons.mpr ⟨lw_p21, List.forall_mem_cons.mpr ⟨lw_p22, List.forall_mem_cons.mpr ⟨lw_p23, List.forall_mem_cons.mpr ⟨lw_p24, List.forall_mem_cons.mpr ⟨lw_p25, List.forall_mem_cons.mpr ⟨lw_p26, List.forall_mem_cons.mpr ⟨lw_p27, List.forall_mem_cons.mpr ⟨lw_p28, List.forall_mem_cons.mpr ⟨lw_p29, List.forall_mem_cons.mpr ⟨lw_p30, List.forall_mem_cons.mpr ⟨lw_p31, fun _ h => absurd h List.not_mem_nil⟩⟩⟩⟩⟩⟩⟩⟩⟩⟩⟩⟩⟩⟩⟩⟩
theorem lw_p32 : lw_okq (⟨"IceConvoysModel", "whyNot", "(I)I"⟩, 18) := ⟨⟨by decide +kernel, by decide +kernel⟩, List.mem_of_getElem? (i := 1024) (by decide +kernel), List.mem_of_getElem? (i := 1283) (by decide +kernel), List.mem_of_getElem? (i := 1284) (by decide +kernel)⟩
theorem lw_p33 : lw_okq (⟨"IceConvoysModel", "isDone", "(I)Z"⟩, 18) := ⟨⟨by decide +kernel, by decide +kernel⟩, List.mem_of_getElem? (i := 1024) (by decide +kernel), List.mem_of_getElem? (i := 1287) (by decide +kernel), List.mem_of_getElem? (i := 1288) (by decide +kernel)⟩
theorem lw_p34 : lw_okq (⟨"IceConvoysModel", "trucksOf", "(IZ)I"⟩, 18) := ⟨⟨by decide +kernel, by decide +kernel⟩, List.mem_of_getElem? (i := 1024) (by decide +kernel), List.mem_of_getElem? (i := 1299) (by decide +kernel), List.mem_of_getElem? (i := 1300) (by decide +kernel)⟩
theorem lw_p35 : lw_okq (⟨"IceConvoysModel", "isTruck", "(II)Z"⟩, 18) := ⟨⟨by decide +kernel, by decide +kernel⟩, List.mem_of_getElem? (i := 1024) (by decide +kernel), List.mem_of_getElem? (i := 1307) (by decide +kernel), List.mem_of_getElem? (i := 1308) (by decide +kernel)⟩
theorem lw_p36 : lw_okq (⟨"IceConvoysModel", "iceBehind", "(F)F"⟩, 18) := ⟨⟨by decide +kernel, by decide +kernel⟩, List.mem_of_getElem? (i := 1024) (by decide +kernel), List.mem_of_getElem? (i := 1332) (by decide +kernel), List.mem_of_getElem? (i := 1333) (by decide +kernel)⟩
theorem lw_p37 : lw_okq (⟨"IceConvoysModel", "doPass", "(I)I"⟩, 18) := ⟨⟨by decide +kernel, by decide +kernel⟩, List.mem_of_getElem? (i := 1024) (by decide +kernel), List.mem_of_getElem? (i := 1351) (by decide +kernel), List.mem_of_getElem? (i := 1352) (by decide +kernel)⟩
theorem lw_p38 : lw_okq (⟨"IceConvoysModel", "goodMany", "()I"⟩, 18) := ⟨⟨by decide +kernel, by decide +kernel⟩, List.mem_of_getElem? (i := 1024) (by decide +kernel), List.mem_of_getElem? (i := 1355) (by decide +kernel), List.mem_of_getElem? (i := 1356) (by decide +kernel)⟩
theorem lw_p39 : lw_okq (⟨"IceConvoysModel", "goDay", "()V"⟩, 18) := ⟨⟨by decide +kernel, by decide +kernel⟩, List.mem_of_getElem? (i := 1024) (by decide +kernel), List.mem_of_getElem? (i := 1359) (by decide +kernel), List.mem_of_getElem? (i := 1360) (by decide +kernel)⟩
theorem lw_p40 : lw_okq (⟨"IceConvoysModel", "readOrder", "()V"⟩, 18) := ⟨⟨by decide +kernel, by decide +kernel⟩, List.mem_of_getElem? (i := 1024) (by decide +kernel), List.mem_of_getElem? (i := 1372) (by decide +kernel), List.mem_of_getElem? (i := 1373) (by decide +kernel)⟩
theorem lw_p41 : lw_okq (⟨"IceConvoysModel", "signed", "()I"⟩, 18) := ⟨⟨by decide +kernel, by decide +kernel⟩, List.mem_of_getElem? (i := 1024) (by decide +kernel), List.mem_of_getElem? (i := 1459) (by decide +kernel), List.mem_of_getElem? (i := 1460) (by decide +kernel)⟩
theorem lw_p42 : lw_okq (⟨"IceConvoysModel", "isHere", "(CC)Z"⟩, 18) := ⟨⟨by decide +kernel, by decide +kernel⟩, List.mem_of_getElem? (i := 1024) (by decide +kernel), List.mem_of_getElem? (i := 1463) (by decide +kernel), List.mem_of_getElem? (i := 1464) (by decide +kernel)⟩
theorem lw_p43 : lw_okq (⟨"IceConvoysModel", "number", "()I"⟩, 18) := ⟨⟨by decide +kernel, by decide +kernel⟩, List.mem_of_getElem? (i := 1024) (by decide +kernel), List.mem_of_getElem? (i := 1467) (by decide +kernel), List.mem_of_getElem? (i := 1468) (by decide +kernel)⟩
theorem lw_p44 : lw_okq (⟨"IceConvoysModel", "digit", "()I"⟩, 18) := ⟨⟨by decide +kernel, by decide +kernel⟩, List.mem_of_getElem? (i := 1024) (by decide +kernel), List.mem_of_getElem? (i := 1471) (by decide +kernel), List.mem_of_getElem? (i := 1472) (by decide +kernel)⟩
theorem lw_p45 : lw_okq (⟨"IceConvoysModel", "sign1", "(CC)I"⟩, 18) := ⟨⟨by decide +kernel, by decide +kernel⟩, List.mem_of_getElem? (i := 1024) (by decide +kernel), List.mem_of_getElem? (i := 1475) (by decide +kernel), List.mem_of_getElem? (i := 1476) (by decide +kernel)⟩
theorem lw_p46 : lw_okq (⟨"IceConvoysModel", "digitBehind", "(C)I"⟩, 18) := ⟨⟨by decide +kernel, by decide +kernel⟩, List.mem_of_getElem? (i := 1024) (by decide +kernel), List.mem_of_getElem? (i := 1479) (by decide +kernel), List.mem_of_getElem? (i := 1480) (by decide +kernel)⟩
theorem lw_p47 : lw_okq (⟨"IceConvoysModel", "does", "(I)V"⟩, 18) := ⟨⟨by decide +kernel, by decide +kernel⟩, List.mem_of_getElem? (i := 1024) (by decide +kernel), List.mem_of_getElem? (i := 1483) (by decide +kernel), List.mem_of_getElem? (i := 1484) (by decide +kernel)⟩
def lw_privs_3 : List (MethodName × Nat) := [(⟨"IceConvoysModel", "whyNot", "(I)I"⟩, 18), (⟨"IceConvoysModel", "isDone", "(I)Z"⟩, 18), (⟨"IceConvoysModel", "trucksOf", "(IZ)I"⟩, 18), (⟨"IceConvoysModel", "isTruck", "(II)Z"⟩, 18), (⟨"IceConvoysModel", "iceBehind", "(F)F"⟩, 18), (⟨"IceConvoysModel", "doPass", "(I)I"⟩, 18), (⟨"IceConvoysModel", "goodMany", "()I"⟩, 18), (⟨"IceConvoysModel", "goDay", "()V"⟩, 18), (⟨"IceConvoysModel", "readOrder", "()V"⟩, 18), (⟨"IceConvoysModel", "signed", "()I"⟩, 18), (⟨"IceConvoysModel", "isHere", "(CC)Z"⟩, 18), (⟨"IceConvoysModel", "number", "()I"⟩, 18), (⟨"IceConvoysModel", "digit", "()I"⟩, 18), (⟨"IceConvoysModel", "sign1", "(CC)I"⟩, 18), (⟨"IceConvoysModel", "digitBehind", "(C)I"⟩, 18), (⟨"IceConvoysModel", "does", "(I)V"⟩, 18)]
theorem lw_r3 : ∀ q ∈ lw_privs_3, lw_okq q := List.forall_mem_cons.mpr ⟨lw_p32, List.forall_mem_cons.mpr ⟨lw_p33, List.forall_mem_cons.mpr ⟨lw_p34, List.forall_mem_cons.mpr ⟨lw_p35, List.forall_mem_cons.mpr ⟨lw_p36, List.forall_mem_cons.mpr ⟨lw_p37, List.forall_mem_cons.mpr ⟨lw_p38, List.forall_mem_cons.mpr ⟨lw_p39, List.forall_mem_cons.mpr ⟨lw_p40, List.forall_mem_cons.mpr ⟨lw_p41, List.forall_mem_cons.mpr ⟨lw_p42, List.forall_mem_cons.mpr ⟨lw_p43, List.forall_mem_cons.mpr ⟨lw_p44, List.forall_mem_cons.mpr ⟨lw_p45, List.forall_mem_cons.mpr ⟨lw_p46, List.forall_mem_cons.mpr ⟨lw_p47, fun _ h => absurd h List.not_mem_nil⟩⟩⟩⟩⟩⟩⟩⟩⟩⟩⟩⟩⟩⟩⟩⟩
theorem lw_p48 : lw_okq (⟨"IceConvoysModel", "inRows", "()I"⟩, 18) := ⟨⟨by decide +kernel, by decide +kernel⟩, List.mem_of_getElem? (i := 1024) (by decide +kernel), List.mem_of_getElem? (i := 1495) (by decide +kernel), List.mem_of_getElem? (i := 1496) (by decide +kernel)⟩
theorem lw_p49 : lw_okq (⟨"IceConvoysModel", "overConvoys", "(I)I"⟩, 18) := ⟨⟨by decide +kernel, by decide +kernel⟩, List.mem_of_getElem? (i := 1024) (by decide +kernel), List.mem_of_getElem? (i := 1499) (by decide +kernel), List.mem_of_getElem? (i := 1500) (by decide +kernel)⟩
theorem lw_p50 : lw_okq (⟨"IceConvoysModel", "waitingTonnes", "()I"⟩, 18) := ⟨⟨by decide +kernel, by decide +kernel⟩, List.mem_of_getElem? (i := 1024) (by decide +kernel), List.mem_of_getElem? (i := 1503) (by decide +kernel), List.mem_of_getElem? (i := 1504) (by decide +kernel)⟩
theorem lw_p51 : lw_okq (⟨"IceConvoysModel", "allCracks", "()I"⟩, 18) := ⟨⟨by decide +kernel, by decide +kernel⟩, List.mem_of_getElem? (i := 1024) (by decide +kernel), List.mem_of_getElem? (i := 1507) (by decide +kernel), List.mem_of_getElem? (i := 1508) (by decide +kernel)⟩
def lw_privs_4 : List (MethodName × Nat) := [(⟨"IceConvoysModel", "inRows", "()I"⟩, 18), (⟨"IceConvoysModel", "overConvoys", "(I)I"⟩, 18), (⟨"IceConvoysModel", "waitingTonnes", "()I"⟩, 18), (⟨"IceConvoysModel", "allCracks", "()I"⟩, 18)]
theorem lw_r4 : ∀ q ∈ lw_privs_4, lw_okq q := List.forall_mem_cons.mpr ⟨lw_p48, List.forall_mem_cons.mpr ⟨lw_p49, List.forall_mem_cons.mpr ⟨lw_p50, List.forall_mem_cons.mpr ⟨lw_p51, fun _ h => absurd h List.not_mem_nil⟩⟩⟩⟩
def lw_privs : List (MethodName × Nat) := lw_privs_1 ++ (lw_privs_2 ++ (lw_privs_3 ++ (lw_privs_4)))
def lw_tbl : List Cond := k2_sels lw_privs ++ tables_1
theorem lw_privs_ok : ∀ q ∈ lw_privs, lw_okq q := by
  show ∀ q ∈ lw_privs_1 ++ (lw_privs_2 ++ (lw_privs_3 ++ (lw_privs_4))), lw_okq q
  exact List.forall_mem_append.mpr ⟨lw_r1, List.forall_mem_append.mpr ⟨lw_r2, List.forall_mem_append.mpr ⟨lw_r3, lw_r4⟩⟩⟩
/-- the streams that the claim lets the run draw from -/
abbrev lw_cs : List Choice := [Jvm.Choice.named "NaN.bits", Jvm.Choice.named "NaN.copy"]
theorem lw_bits : nanBits ∈ lw_cs := by first | decide | exact List.mem_cons_self | simp [lw_cs, nanBits]
-- ===== end of PART A; then your names; then what follows =====
end
section
/-! ===== BEGIN words of one list among another's, by their places ===== -/
theorem goodIn_r {big : List Cond} (ws : List Cond) (ps : List Nat) (hp : ws = ps.filterMap (fun i => big[i]?)) (h : ws.all goodWord = true) : GoodIn big ws := by
  intro w hw
  have h1 := List.all_eq_true.mp h w hw
  rw [hp] at hw
  obtain ⟨i, -, hi⟩ := List.mem_filterMap.mp hw
  have hm : w ∈ big := by first | exact List.mem_of_getElem? hi | exact List.getElem?_mem hi
  exact ⟨hm, good_of_word h1⟩
theorem goodIn_app {big a b : List Cond} (ha : GoodIn big a) (hb : GoodIn big b) : GoodIn big (a ++ b) := fun w h => (List.mem_append.mp h).elim (ha w) (hb w)
theorem goodIn_ca {big a b : List Cond} {c : Cond} (ha : GoodIn big (c :: a)) (hb : GoodIn big b) : GoodIn big (c :: (a ++ b)) := fun w h => (List.mem_cons.mp h).elim (fun e => ha w (List.mem_cons.mpr (Or.inl e))) (fun h => (List.mem_append.mp h).elim (fun h => ha w (List.mem_cons.mpr (Or.inr h))) (hb w))
theorem goodIn_sub {big ws : List Cond} (hm : ∀ w ∈ ws, w ∈ big) (h : ws.all goodWord = true) : GoodIn big ws := fun w hw => ⟨hm w hw, good_of_word (List.all_eq_true.mp h w hw)⟩
/-! ===== END ===== -/

/-! ===== BEGIN exceptions that leave a method, and their catching by the caller (launches without stack traces) ===== -/
section VXA
/-! The laws vx_back, vx_callV, vx_callS, vx_callSW, vx_throw0, vx_throwS follow proofs of the library, with one case more: JvmDerived/Free/Laws.lean (Back.of_free), Shelf42/LK1.lean (callV, callS), Shelf/KitTraced.lean (throwNew0V, throwNewS). -/
/-- where a method has thrown q: the class by its name, the cell, what was written, the world -/
def vx_T (XC : String → State → State → Prop) (st : State) (q : Addr) (t : State) (mc ms : Nat) (free : Addr → Prop) : Prop :=
  ∃ (E : String) (ce : Cell) (L : List Loc), XC E st t ∧ t.heap[q]? = some ce ∧ ce.vm = .none ∧ st.vm.findClass E = some ce.cls ∧ st.WarmedH t.vm ∧ st.sameButNew ({ t with vm := st.vm } : State) L mc ms ∧ ∀ z ∈ L, free z.base
def vx_Q (Qc : Array Value → State → Outcome → State → Prop) (XC : String → State → State → Prop) (mc ms : Nat) (free : Addr → Prop) : Array Value → State → Outcome → State → Prop := fun a st o t =>
  (Qc a st o t ∧ ∃ L, FrameEnd st o t L mc ms ∧ ∀ q ∈ L, free q.base) ∨ ∃ q, o = .threw q ∧ vx_T XC st q t mc ms free
/-- a callee that returns or throws -/
def vx_Met (l : Launch) (y : MethodName) (ws : List Cond) (rm : Room) (Pc : Array Value → State → Prop) (Qc : Array Value → State → Outcome → State → Prop) (XC : String → State → State → Prop) (mc ms : Nat) (free : Addr → Prop) : Prop :=
  MetFree l y (headSpec ws rm) Pc (fun _ _ _ _ _ => True) (vx_Q Qc XC mc ms free)
def vx_Post (XC : String → State → State → Prop) (mc ms : Nat) (free : Addr → Prop) : Pt → Array Value → Addr → Pt → Prop := fun A a q B =>
  ∃ (g : JFrame) (mk : MethodId) (t : State) (L : List Loc) (E : String) (ce : Cell), B.U.heap = t.heap ∧ B.U.vm = t.vm ∧ XC E (A.U.calling g mk a) t ∧ t.heap[q]? = some ce ∧ ce.vm = .none ∧ A.U.vm.findClass E = some ce.cls ∧ B.locs = A.locs ++ L ∧ (∀ z ∈ L, free z.base) ∧ B.cells = A.cells + mc ∧ B.slots = A.slots + ms
def vx_Back (l : Launch) (R : Room) (p : Program) (e : Env) (below : List Frame) (s : State) (sargs : Array Value) (y : MethodName) (len W9 : Nat)
    (Pre : Pt → Array Value → Prop) (Post : Pt → Array Value → Option Value → Pt → Prop) (PostX : Pt → Array Value → Addr → Pt → Prop) : Prop :=
  ∀ (m : MethodId) (meth : Method) (c : Code) (A : Pt) (g : JFrame) (ig : Instr) (mk : MethodId) (a : Array Value),
    Stand p l e R s m sargs below meth c A.U A.locs A.cells A.slots → g.method = m → g.locals.size = c.maxLocals → decode c.code g.pc = .ok (ig, len) →
    2 * g.monitorRoom + (g.stack.map fun v => v.category).sum ≤ W9 → A.U.methodNamed? y = some mk → Pre A a →
    (∃ (v : Option Value) (B : Pt), Stand p l e R s m sargs below meth c B.U B.locs B.cells B.slots ∧ Post A a v B ∧
      Steps p.tables e below (doInvoke e (A.U.setTop g) [] mk a).1 (B.U.setTop { g with pc := g.pc + len, stack := v.toList ++ g.stack })) ∨
    (∃ (q : Addr) (B : Pt), Stand p l e R s m sargs below meth c B.U B.locs B.cells B.slots ∧ PostX A a q B ∧
      Steps p.tables e below (doInvoke e (A.U.setTop g) [] mk a).1 ((B.U.setTop g).pushFrame (.throwing q)))
section Payer
variable {l : Launch} {R : Room} {p : Program} {e : Env} {below : List Frame} {s : State} {sargs : Array Value} {y : MethodName} {len W9 : Nat}
theorem vx_back {ws : List Cond} {rm : Room} {Pc : Array Value → State → Prop} {Qc : Array Value → State → Outcome → State → Prop} {XC : String → State → State → Prop} {mc ms : Nat} {free : Addr → Prop} {bytes : ByteArray} {maxL : Nat} {ret : Option FieldType}
    (hM : vx_Met l y ws rm Pc Qc XC mc ms free) (hblind : FrameBlind Pc) (hrc : rm.cells = mc) (hrs : rm.slots = ms)
    (hframes : rm.frames + 1 ≤ R.frames) (hlocals : W9 + (maxL + 11) + rm.locals ≤ R.locals)
    (hws : ∀ w ∈ ws, ∀ a' U, s.WarmedH U.vm → w.before a' U = true) (hcode : Cond.code y bytes maxL ret ∈ ws) (hinit : ∀ a' U, s.WarmedH U.vm → (Cond.initialized y.cls).before a' U = true) :
    vx_Back l R p e below s sargs y len W9 (PreOf R mc ms Pc) (PostOf Qc mc ms free) (vx_Post XC mc ms free) := by
  intro m meth c A g ig mk a X hg hsize hdg hW hn hp
  have h1 : (headSpec ws rm).pre.before a A.U = true := atoms_intro fun w hw => hws w hw _ _ X.warmed
  have h2 : (Cond.code y bytes maxL ret).before a A.U = true := hws _ hcode _ _ X.warmed
  have h3 : (Cond.initialized y.cls).before a A.U = true := hinit _ _ X.warmed
  have h4 : A.cells + (headSpec ws rm).room.cells ≤ R.cells := by rw [show (headSpec ws rm).room.cells = mc from hrc]; exact hp.1
  have h5 : A.slots + (headSpec ws rm).room.slots ≤ R.slots := by rw [show (headSpec ws rm).room.slots = ms from hrs]; exact hp.2.1
  have hPc : Pc a (A.U.calling g mk a) := hblind _ _ _ _ hp.2.2
  obtain ⟨U, Ls, c0, s0⟩ := A
  dsimp only [Pt.U, Pt.locs, Pt.cells, Pt.slots] at h1 h2 h3 h4 h5 X hn hPc ⊢
  obtain ⟨methY, cY, hmY, hcY, -, hlY, -, -, -, -⟩ := Cond.code_spec hn h2
  obtain ⟨kY, hkY, -⟩ := className_of_methodNamed hn
  have hinitY : kY.init = .initialized := Cond.initialized_spec (findClass_of_methodNamed hn) hkY h3
  have h : At U g.method c below := by rw [hg]; exact X.here
  have hlocals9 : W9 + (maxL + 11) + (headSpec ws rm).room.locals ≤ R.locals := hlocals
  have happ : (headSpec ws rm).appliesLoose y e.platform (U.calling g mk a) = true :=
    Spec.appliesLoose_calling (g := g) h hdg hn hkY hinitY
      (X.room_calling (g := g) (R' := (headSpec ws rm).room) hsize hmY hcY hframes (by rw [hlY]; omega) h4 h5) h1
  obtain ⟨mid, hmid⟩ := h.above
  have hfr : (U.setTop g).frames = (.java g :: mid) ++ below := by rw [State.frames_setTop' g h.top, hmid]; rfl
  obtain ⟨o, s₂, hsteps, -, hend, hq⟩ := Steps.callFree hM p X.admits X.cas X.clock (acts := []) hfr happ hPc trivial
  have hq' : vx_Q Qc XC mc ms free a (U.calling g mk a) o s₂ := hq
  rw [State.frames_setTop' g h.top] at hend
  obtain ⟨g₀, hg0⟩ := Option.isSome_iff_exists.mp h.top
  obtain ⟨r, hr⟩ := State.topJava?_eq_some.mp hg0
  have hr' : (({ U with heap := s₂.heap, slotsUsed := s₂.slotsUsed } : State).setVm s₂.vm).frames = .java g₀ :: r := hr
  rcases hq' with ⟨hqc, L, hfe, hL⟩ | ⟨q, rfl, E, ce, L, hx, hce, hcv, hcl, hW₂, hsm, hL⟩
  · obtain ⟨⟨v, rfl⟩, hW₂, e2, q2, q3, q4, q5, q6⟩ := id hfe
    have e3 : s₂ = ({ (U.calling g mk a).setFrames s₂.frames with heap := s₂.heap, slotsUsed := s₂.slotsUsed } : State).setVm s₂.vm := by
      have : s₂ = ({ s₂ with vm := (U.calling g mk a).vm } : State).setVm s₂.vm := rfl
      rw [e2] at this
      exact this
    obtain ⟨c₂, i₂, len₂, hc₂, hd₂, hf₂⟩ := hend
    have hW' : U.WarmedH s₂.vm := hW₂
    have hcc : c₂ = c := by
      have h1 : s₂.code? g.method = U.code? g.method := by
        rw [State.code?_eq, State.code?_eq, hW'.alike.method?]
      exact Option.some.inj (hc₂.symm.trans (h1.trans h.code))
    subst hcc
    have hlen : len₂ = len := by rw [hdg] at hd₂; cases hd₂; rfl
    subst hlen
    have hs₂ : s₂ = (({ U with heap := s₂.heap, slotsUsed := s₂.slotsUsed } : State).setVm s₂.vm).setTop { g with pc := g.pc + len₂, stack := v.toList ++ g.stack } := by
      refine e3.trans ?_
      rw [hf₂, State.calling_eq h.top, State.setFrames_setFrames, State.setTop_of_frames _ hr', hr]
      rfl
    have hsame : U.sameButNew ({ U with heap := s₂.heap, slotsUsed := s₂.slotsUsed } : State) L mc ms := by
      refine ⟨?_, q2, q3, q4, q5, q6⟩
      obtain ⟨t, ht, -⟩ := State.frames_cons hr
      show ({ U with heap := s₂.heap, slotsUsed := s₂.slotsUsed } : State) = { U.setFrames U.frames with heap := s₂.heap, slotsUsed := s₂.slotsUsed }
      rw [State.setFrames_self ht]
    subst hg
    refine Or.inl ⟨v, ⟨(({ U with heap := s₂.heap, slotsUsed := s₂.slotsUsed } : State).setVm s₂.vm), Ls ++ L, c0 + mc, s0 + ms⟩,
      ⟨X.admits, X.cas, X.clock, X.frames, X.room, X.hears, X.method, X.code, (X.here.setHeapUsed s₂.heap s₂.slotsUsed).setVm hW'.alike, X.tail, State.WarmedH.trans X.warmed hW', X.limits, X.bytes, X.same.trans (hsame.setVm s.vm)⟩,
      ⟨g, mk, s₂, L, rfl, rfl, hqc, rfl, hL, rfl, rfl⟩, ?_⟩
    show Steps p.tables e below _ ((({ U with heap := s₂.heap, slotsUsed := s₂.slotsUsed } : State).setVm s₂.vm).setTop { g with pc := g.pc + len₂, stack := v.toList ++ g.stack })
    rw [← hs₂]
    exact hsteps
  · obtain ⟨e2, q2, q3, q4, q5, q6⟩ := id hsm
    have e3 : s₂ = ({ (U.calling g mk a).setFrames s₂.frames with heap := s₂.heap, slotsUsed := s₂.slotsUsed } : State).setVm s₂.vm := by
      have : s₂ = ({ s₂ with vm := (U.calling g mk a).vm } : State).setVm s₂.vm := rfl
      rw [e2] at this
      exact this
    have hf₂ : s₂.frames = .throwing q :: .java g :: U.frames.tail := hend
    have hW' : U.WarmedH s₂.vm := hW₂
    have hs₂ : s₂ = ((({ U with heap := s₂.heap, slotsUsed := s₂.slotsUsed } : State).setVm s₂.vm).setTop g).pushFrame (.throwing q) := by
      refine e3.trans ?_
      rw [hf₂, State.calling_eq h.top, State.setFrames_setFrames, State.pushFrame, State.frames_setTop _ hr', State.setTop_of_frames _ hr', State.setFrames_setFrames, hr]
      rfl
    have hsame : U.sameButNew ({ U with heap := s₂.heap, slotsUsed := s₂.slotsUsed } : State) L mc ms := by
      refine ⟨?_, q2, q3, q4, q5, q6⟩
      obtain ⟨t, ht, -⟩ := State.frames_cons hr
      show ({ U with heap := s₂.heap, slotsUsed := s₂.slotsUsed } : State) = { U.setFrames U.frames with heap := s₂.heap, slotsUsed := s₂.slotsUsed }
      rw [State.setFrames_self ht]
    subst hg
    refine Or.inr ⟨q, ⟨(({ U with heap := s₂.heap, slotsUsed := s₂.slotsUsed } : State).setVm s₂.vm), Ls ++ L, c0 + mc, s0 + ms⟩,
      ⟨X.admits, X.cas, X.clock, X.frames, X.room, X.hears, X.method, X.code, (X.here.setHeapUsed s₂.heap s₂.slotsUsed).setVm hW'.alike, X.tail, State.WarmedH.trans X.warmed hW', X.limits, X.bytes, X.same.trans (hsame.setVm s.vm)⟩,
      ⟨g, mk, s₂, L, E, ce, rfl, rfl, hx, hce, hcv, hcl, rfl, hL, rfl, rfl⟩, ?_⟩
    show Steps p.tables e below _ (((({ U with heap := s₂.heap, slotsUsed := s₂.slotsUsed } : State).setVm s₂.vm).setTop g).pushFrame (.throwing q))
    rw [← hs₂]
    exact hsteps
end Payer
section Calls
variable {p : Program} {l : Launch} {e : Env} {R : Room} {s : State} {m : MethodId} {args : Array Value} {below : List Frame} {meth : Method} {c : Code} {T : State} {locs : List Loc} {cells slots : Nat}
theorem vx_callV (X : Stand p l e R s m args below meth c T locs cells slots) (hexec : p.tables.exec = Jvm.exec) {own C : String} {index : Nat} {y : MethodName} {bytes : ByteArray} {maxL : Nat} {ret : Option FieldType}
    (hown : s.vm.findClass own = some m.cls) (hlink : (Cond.methodLink own index y).before args s = true) (hinst : (Cond.instanceMethod y).before args s = true) (hsel : (Cond.selects C y y).before args s = true)
    (hcode : (Cond.code y bytes maxL ret).before args s = true) (hy : y.cls ≠ "java/lang/invoke/MethodHandle" ∧ y.cls ≠ "java/lang/invoke/VarHandle")
    {W9 : Nat} {Pre : Pt → Array Value → Prop} {Post : Pt → Array Value → Option Value → Pt → Prop} {PostX : Pt → Array Value → Addr → Pt → Prop} (hK : vx_Back l R p e below s args y 3 W9 Pre Post PostX)
    {b : Addr} {cellB : Cell} (hcell : T.heap[b]? = some cellB) (hobj : cellB.vm.isStatics = false) (hcls : s.vm.findClass C = some cellB.cls)
    {g : JFrame} (hg : g.method = m) (hsize : g.locals.size = c.maxLocals) {argsL rest : List Value} (hlen : ∀ sig, parseMethodDescriptor y.desc = some sig → argsL.length = sig.parameters.length)
    (hstack : g.stack = argsL.reverse ++ .ref b :: rest) (hW : 2 * g.monitorRoom + (rest.map fun v => v.category).sum ≤ W9) (hdg : decode c.code g.pc = .ok (.invokevirtual index, 3))
    (hpre : ∀ vm₁, s.WarmedH vm₁ → Pre ⟨T.setVm vm₁, locs, cells, slots⟩ (Value.ref b :: argsL).toArray) :
    (∃ (v : Option Value) (vm₁ : Vm) (B : Pt), s.WarmedH vm₁ ∧ Stand p l e R s m args below meth c B.U B.locs B.cells B.slots ∧ Post ⟨T.setVm vm₁, locs, cells, slots⟩ (Value.ref b :: argsL).toArray v B ∧
      ∀ target, Steps p.tables e below (B.U.setTop { g with pc := g.pc + 3, stack := v.toList ++ rest }) target → Steps p.tables e below (T.setTop g) target) ∨
    (∃ (q : Addr) (vm₁ : Vm) (B : Pt), s.WarmedH vm₁ ∧ Stand p l e R s m args below meth c B.U B.locs B.cells B.slots ∧ PostX ⟨T.setVm vm₁, locs, cells, slots⟩ (Value.ref b :: argsL).toArray q B ∧
      Steps p.tables e below (T.setTop g) ((B.U.setTop { g with stack := rest }).pushFrame (.throwing q))) := by
  obtain ⟨mk, methM, hnamed, hmethM, hstM, habM⟩ := Cond.instanceMethod_spec hinst
  obtain ⟨methM', cM, hmethM', -, -, -, -, -, -, hsigM⟩ := Cond.code_spec hnamed hcode
  cases hmethM.symm.trans hmethM'
  obtain ⟨c2, r2, m2, q1, q2, q3, q4, kP, hkP, hkPi⟩ := Cond.selects_spec hsel
  cases hcls.symm.trans q1
  cases (State.methodFound?_of_named hnamed hy).symm.trans q2
  cases hnamed.symm.trans q3
  have hselP : selectMethod e.platform s.vm cellB.cls mk = .method mk := by rw [Launch.admits_selectMethod X.admits]; exact q4
  obtain ⟨vm₁, X₁, hstep₁⟩ := X.invokevirtual hexec hown hlink hnamed hmethM hstM hkP hkPi hy (a := b) (cell := cellB) hcell
    (fun z h => by rw [h] at hobj; cases hobj) hselP hmethM habM hkP hkPi (g := g) hg (argsL := argsL) (rest := rest) (hlen _ hsigM) hstack hdg
  rcases hK m meth c ⟨T.setVm vm₁, locs, cells, slots⟩ { g with stack := rest } (.invokevirtual index) mk (Value.ref b :: argsL).toArray X₁ hg hsize hdg hW (X₁.named hnamed) (hpre vm₁ X₁.warmed) with ⟨v, B, X', hpost, hsteps⟩ | ⟨q, B, X', hpost, hsteps⟩
  · exact Or.inl ⟨v, vm₁, B, X₁.warmed, X', hpost, fun target h => hstep₁ _ fun acts => by rw [doInvoke_state]; exact hsteps.trans h⟩
  · exact Or.inr ⟨q, vm₁, B, X₁.warmed, X', hpost, hstep₁ _ fun acts => by rw [doInvoke_state]; exact hsteps⟩
theorem vx_callS (X : Stand p l e R s m args below meth c T locs cells slots) (hexec : p.tables.exec = Jvm.exec) {own : String} {index : Nat} {y : MethodName} {bytes : ByteArray} {maxL : Nat} {ret : Option FieldType}
    (hown : s.vm.findClass own = some m.cls) (hlink : (Cond.methodLink own index y).before args s = true) (hstat : (Cond.static y).before args s = true) (hinit : (Cond.initialized y.cls).before args s = true)
    (hcode : (Cond.code y bytes maxL ret).before args s = true) (hy : y.cls ≠ "java/lang/invoke/MethodHandle" ∧ y.cls ≠ "java/lang/invoke/VarHandle")
    {W9 : Nat} {Pre : Pt → Array Value → Prop} {Post : Pt → Array Value → Option Value → Pt → Prop} {PostX : Pt → Array Value → Addr → Pt → Prop} (hK : vx_Back l R p e below s args y 3 W9 Pre Post PostX)
    {g : JFrame} (hg : g.method = m) (hsize : g.locals.size = c.maxLocals) {argsL rest : List Value} (hlen : ∀ sig, parseMethodDescriptor y.desc = some sig → argsL.length = sig.parameters.length)
    (hstack : g.stack = argsL.reverse ++ rest) (hW : 2 * g.monitorRoom + (rest.map fun v => v.category).sum ≤ W9) (hdg : decode c.code g.pc = .ok (.invokestatic index, 3))
    (hpre : ∀ vm₁, s.WarmedH vm₁ → Pre ⟨T.setVm vm₁, locs, cells, slots⟩ argsL.toArray) :
    (∃ (v : Option Value) (vm₁ : Vm) (B : Pt), s.WarmedH vm₁ ∧ Stand p l e R s m args below meth c B.U B.locs B.cells B.slots ∧ Post ⟨T.setVm vm₁, locs, cells, slots⟩ argsL.toArray v B ∧
      ∀ target, Steps p.tables e below (B.U.setTop { g with pc := g.pc + 3, stack := v.toList ++ rest }) target → Steps p.tables e below (T.setTop g) target) ∨
    (∃ (q : Addr) (vm₁ : Vm) (B : Pt), s.WarmedH vm₁ ∧ Stand p l e R s m args below meth c B.U B.locs B.cells B.slots ∧ PostX ⟨T.setVm vm₁, locs, cells, slots⟩ argsL.toArray q B ∧
      Steps p.tables e below (T.setTop g) ((B.U.setTop { g with stack := rest }).pushFrame (.throwing q))) := by
  obtain ⟨mk, hnamed⟩ := Cond.code_named hcode
  obtain ⟨methM, cM, hmethM, -, -, -, -, -, -, hsigM⟩ := Cond.code_spec hnamed hcode
  have hstatic : methM.isStatic = true := Cond.static_spec hnamed hmethM hstat
  obtain ⟨kP, hkP, -⟩ := className_of_methodNamed hnamed
  have hinitP : kP.init = .initialized := Cond.initialized_spec (findClass_of_methodNamed hnamed) hkP hinit
  obtain ⟨vm₁, X₁, hstep₁⟩ := X.invokestatic hexec hown hlink hnamed hmethM hstatic hkP hinitP hy (g := g) hg (argsL := argsL) (rest := rest) (hlen _ hsigM) hstack hdg
  rcases hK m meth c ⟨T.setVm vm₁, locs, cells, slots⟩ { g with stack := rest } (.invokestatic index) mk argsL.toArray X₁ hg hsize hdg hW (X₁.named hnamed) (hpre vm₁ X₁.warmed) with ⟨v, B, X', hpost, hsteps⟩ | ⟨q, B, X', hpost, hsteps⟩
  · exact Or.inl ⟨v, vm₁, B, X₁.warmed, X', hpost, fun target h => hstep₁ _ fun acts => by rw [doInvoke_state]; exact hsteps.trans h⟩
  · exact Or.inr ⟨q, vm₁, B, X₁.warmed, X', hpost, hstep₁ _ fun acts => by rw [doInvoke_state]; exact hsteps⟩
end Calls
theorem vx_cls {s : State} {T : State} {vm₁ : Vm} {E : String} {k : ClassId} (hW : s.WarmedH vm₁) (h : (T.setVm vm₁).vm.findClass E = some k) : s.vm.findClass E = some k := by
  have h1 : vm₁.findClass E = some k := h
  rw [hW.alike.findClass] at h1
  exact h1
/-- the method's frame g, with q thrown over it -/
def vx_W (p : Program) (l : Launch) (e : Env) (R : Room) (s : State) (m : MethodId) (args : Array Value) (below : List Frame) (meth : Method) (c : Code) (H : Heap) (locs : List Loc) (cells slots : Nat) (Q : State → Prop) (g : JFrame) (q : Addr) : Prop :=
  ∀ T : State, T.heap = H → Stand p l e R s m args below meth c T locs cells slots → ∃ t, Steps p.tables e below ((T.setTop g).pushFrame (.throwing q)) t ∧ Q t
def vx_Run (p : Program) (l : Launch) (e : Env) (R : Room) (s : State) (m : MethodId) (args : Array Value) (below : List Frame) (meth : Method) (c : Code) (H : Heap) (locs : List Loc) (cells slots mc ms : Nat) (g : JFrame) (rest : List Value) (Qa : State → Outcome → State → Prop) (XC : String → State → State → Prop) (free : Addr → Prop) : Prop :=
  ∀ T : State, T.heap = H → Stand p l e R s m args below meth c T locs cells slots →
    (∃ (v : Option Value) (st₀ t T' : State) (L : List Loc), st₀.heap = H ∧ Stand p l e R s m args below meth c T' (locs ++ L) (cells + mc) (slots + ms) ∧ (∀ q ∈ L, free q.base) ∧ T'.heap = t.heap ∧ T'.vm = t.vm ∧ Qa st₀ (.returned v) t ∧
      Goes p e below T g T' { g with pc := g.pc + 3, stack := v.toList ++ rest }) ∨
    (∃ (q : Addr) (st₀ t T' : State) (L : List Loc) (E : String) (ce : Cell), st₀.heap = H ∧ Stand p l e R s m args below meth c T' (locs ++ L) (cells + mc) (slots + ms) ∧ (∀ z ∈ L, free z.base) ∧ T'.heap = t.heap ∧ T'.vm = t.vm ∧ XC E st₀ t ∧ t.heap[q]? = some ce ∧ ce.vm = .none ∧ s.vm.findClass E = some ce.cls ∧
      Steps p.tables e below (T.setTop g) ((T'.setTop { g with stack := rest }).pushFrame (.throwing q)))
def vx_X {S : Type} (px : S → Prop) (B : String → S → State → Prop) (A : Nat → Prop) : String → State → State → Prop := fun E st t => ∃ u : S, px u ∧ B E u t ∧ va_F A st t
section Runs
variable {p : Program} {l : Launch} {e : Env} {R : Room} {s : State} {m : MethodId} {args : Array Value} {below : List Frame} {meth : Method} {c : Code} {H : Heap} {locs : List Loc} {cells slots : Nat}
variable {y : MethodName} {bytes cc : ByteArray} {maxL nL mc ms n index : Nat} {ret : Option FieldType} {ws : List Cond} {rm : Room} {Pc : Array Value → State → Prop} {Qc : Array Value → State → Outcome → State → Prop} {XC : String → State → State → Prop} {free : Addr → Prop} {Ts : List Cond} {own C : String} {b : Addr} {As rest : List Value} {g : JFrame}
theorem vx_callBack (cb : CallB R s args own index y bytes maxL ret ws rm mc ms n) (hM : vx_Met l y ws rm Pc Qc XC mc ms free) (hbl : FrameBlind Pc) : vx_Back l R p e below s args y 3 8 (PreOf R mc ms Pc) (PostOf Qc mc ms free) (vx_Post XC mc ms free) := by
  obtain ⟨hrc, hrs, hfr, hlo, hws, hcw, -, hini, -⟩ := cb
  exact vx_back (bytes := bytes) (maxL := maxL) (ret := ret) hM hbl hrc hrs hfr hlo hws hcw (fun a' U hW => word_at hW (Or.inl (by first | rfl | simp [Cond.onTables, Cond.keeps, Cond.steady])) hini)
theorem vx_runV (S : CallFix p m c cc nL s args Ts own) (hM : vx_Met l y ws rm Pc Qc XC mc ms free) (cw : CallW R s args own C index y bytes maxL ret ws rm mc ms n) (hp : PreV s H C b Pc As)
    (hg : g.method = m) (hn : As.length = n) (hsize : g.locals.size = nL) (hstack : g.stack = As.reverse ++ .ref b :: rest) (hW : 2 * g.monitorRoom + (rest.map fun v => v.category).sum ≤ 8) (hdg : decode cc g.pc = .ok (.invokevirtual index, 3)) (hf : cells + mc ≤ R.cells ∧ slots + ms ≤ R.slots) :
    vx_Run p l e R s m args below meth c H locs cells slots mc ms g rest (Qc (Value.ref b :: As).toArray) XC free := by
  have hK : vx_Back l R p e below s args y 3 8 (PreOf R mc ms Pc) (PostOf Qc mc ms free) (vx_Post XC mc ms free) := vx_callBack cw.1 hM hp.1
  obtain ⟨⟨-, -, -, -, -, -, hcode, -, hy, hlen, hl⟩, hin, hse⟩ := cw
  obtain ⟨hx, hb, hml, ho, -⟩ := S
  obtain ⟨-, ⟨cellB, hcB, hoB, hclB⟩, hPc⟩ := hp
  intro T hT X
  rcases vx_callV X hx (C := C) (bytes := bytes) (maxL := maxL) (ret := ret) ho hl hin hse hcode hy hK (by rw [hT]; exact hcB) hoB hclB hg (hsize.trans hml.symm) (argsL := As) (rest := rest) (fun sig h => hn.trans (hlen sig h)) hstack hW (by rw [hb]; exact hdg)
    (fun vm₁ hW₁ => ⟨hf.1, hf.2, hPc (T.setVm vm₁) hT hW₁⟩) with ⟨v, vm₁, ⟨U', l2, c2, s2⟩, hW₁, X', ⟨g', mk, t, L, e1, e2, hq, h1, hL, h2, h3⟩, st⟩ | ⟨q, vm₁, ⟨U', l2, c2, s2⟩, hW₁, X', ⟨g', mk, t, L, E, ce, e1, e2, hq, hce, hcv, hcl, h1, hL, h2, h3⟩, st⟩
  · dsimp only [Pt.U, Pt.locs, Pt.cells, Pt.slots] at X' e1 e2 h1 h2 h3 st
    subst h1; subst h2; subst h3
    exact Or.inl ⟨v, (T.setVm vm₁).calling g' mk (Value.ref b :: As).toArray, t, U', L, hT, X', hL, e1, e2, hq, st⟩
  · dsimp only [Pt.U, Pt.locs, Pt.cells, Pt.slots] at X' e1 e2 h1 h2 h3 st hcl
    subst h1; subst h2; subst h3
    exact Or.inr ⟨q, (T.setVm vm₁).calling g' mk (Value.ref b :: As).toArray, t, U', L, E, ce, hT, X', hL, e1, e2, hq, hce, hcv, vx_cls hW₁ hcl, st⟩
theorem vx_runS (S : CallFix p m c cc nL s args Ts own) (hM : vx_Met l y ws rm Pc Qc XC mc ms free) (cw : CallB R s args own index y bytes maxL ret ws rm mc ms n ∧ (Cond.static y).before args s = true) (hp : PreS s H Pc As)
    (hg : g.method = m) (hn : As.length = n) (hsize : g.locals.size = nL) (hstack : g.stack = As.reverse ++ rest) (hW : 2 * g.monitorRoom + (rest.map fun v => v.category).sum ≤ 8) (hdg : decode cc g.pc = .ok (.invokestatic index, 3)) (hf : cells + mc ≤ R.cells ∧ slots + ms ≤ R.slots) :
    vx_Run p l e R s m args below meth c H locs cells slots mc ms g rest (Qc As.toArray) XC free := by
  have hK : vx_Back l R p e below s args y 3 8 (PreOf R mc ms Pc) (PostOf Qc mc ms free) (vx_Post XC mc ms free) := vx_callBack cw.1 hM hp.1
  obtain ⟨⟨-, -, -, -, -, -, hcode, hini, hy, hlen, hl⟩, hstt⟩ := cw
  obtain ⟨hx, hb, hml, ho, -⟩ := S
  intro T hT X
  rcases vx_callS X hx (bytes := bytes) (maxL := maxL) (ret := ret) ho hl hstt hini hcode hy hK hg (hsize.trans hml.symm) (argsL := As) (rest := rest) (fun sig h => hn.trans (hlen sig h)) hstack hW (by rw [hb]; exact hdg)
    (fun vm₁ hW₁ => ⟨hf.1, hf.2, hp.2 (T.setVm vm₁) hT hW₁⟩) with ⟨v, vm₁, ⟨U', l2, c2, s2⟩, hW₁, X', ⟨g', mk, t, L, e1, e2, hq, h1, hL, h2, h3⟩, st⟩ | ⟨q, vm₁, ⟨U', l2, c2, s2⟩, hW₁, X', ⟨g', mk, t, L, E, ce, e1, e2, hq, hce, hcv, hcl, h1, hL, h2, h3⟩, st⟩
  · dsimp only [Pt.U, Pt.locs, Pt.cells, Pt.slots] at X' e1 e2 h1 h2 h3 st
    subst h1; subst h2; subst h3
    exact Or.inl ⟨v, (T.setVm vm₁).calling g' mk As.toArray, t, U', L, hT, X', hL, e1, e2, hq, st⟩
  · dsimp only [Pt.U, Pt.locs, Pt.cells, Pt.slots] at X' e1 e2 h1 h2 h3 st hcl
    subst h1; subst h2; subst h3
    exact Or.inr ⟨q, (T.setVm vm₁).calling g' mk As.toArray, t, U', L, E, ce, hT, X', hL, e1, e2, hq, hce, hcv, vx_cls hW₁ hcl, st⟩
end Runs
section Rows
variable {p : Program} {l : Launch} {e : Env} {R : Room} {s : State} {m : MethodId} {args : Array Value} {below : List Frame} {meth : Method} {c : Code} {H : Heap} {locs : List Loc} {cells slots : Nat} {Q : State → Prop}
variable {mc ms : Nat} {free : Addr → Prop} {A0 A1 : Nat → Prop} {H0 : Heap} {a : Array Value} {pc : Nat} {ls : Array Slot} {st0 rest : List Value}
theorem vx_keep {st₀ t T' : State} {L : List Loc} (h0 : st₀.heap = H) (e1 : T'.heap = t.heap) (hS : va_S A0 H0 H locs) (hA : ∀ q, q < H.size → A1 q → A0 q) (hf : ∀ q, free q → A0 q) (hL : ∀ q ∈ L, free q.base) (hF : va_F A1 st₀ t) :
    H.size ≤ T'.heap.size ∧ (∀ q : Nat, q < H.size → ¬ A1 q → T'.heap[q]? = H[q]?) ∧ va_S A0 H0 T'.heap (locs ++ L) := by
  obtain ⟨hz, hk⟩ := hF
  rw [h0] at hz hk
  exact ⟨by rw [e1]; exact hz, fun q h1 h2 => by rw [e1]; exact hk q h1 h2,
    ⟨Nat.le_trans hS.1 (by rw [e1]; exact hz), fun q h1 h2 => by rw [e1, hk q (Nat.lt_of_lt_of_le h1 hS.1) (fun z => h2 (hA q (Nat.lt_of_lt_of_le h1 hS.1) z))]; exact hS.2.1 q h1 h2, fun q hq => by
      rcases List.mem_append.mp hq with h | h
      · exact hS.2.2 q h
      · exact hf _ (hL q h)⟩⟩
theorem vx_calli {S SX : Type} {post : Int32 → S → Prop} {px : SX → Prop} {B : S → State → Prop} {BX : String → SX → State → Prop} {AX : Nat → Prop} (hr : vx_Run p l e R s m args below meth c H locs cells slots mc ms (F0 m pc ls st0) rest (va_Qi post B A1 a) (vx_X px BX AX) free) (hS : va_S A0 H0 H locs) (hA : ∀ q, q < H.size → A1 q → A0 q) (hf : ∀ q, free q → A0 q) (hAX : ∀ q, q < H.size → AX q → A0 q)
    (kx : ∀ (E : String) (ce : Cell) (q9 : Addr) (u : SX) (t : State) (H1 : Heap) (locs1 : List Loc), t.heap = H1 → s.vm.Alike t.vm → px u → BX E u t → H.size ≤ H1.size → (∀ q : Nat, q < H.size → ¬ AX q → H1[q]? = H[q]?) → va_S A0 H0 H1 locs1 → H1[q9]? = some ce → ce.vm = .none → s.vm.findClass E = some ce.cls → vx_W p l e R s m args below meth c H1 locs1 (cells + mc) (slots + ms) Q (F0 m pc ls rest) q9)
    (kk : ∀ (r : Int32) (u : S) (t : State) (H1 : Heap) (locs1 : List Loc), t.heap = H1 → s.vm.Alike t.vm → post r u → B u t → H.size ≤ H1.size → (∀ q : Nat, q < H.size → ¬ A1 q → H1[q]? = H[q]?) → va_S A0 H0 H1 locs1 → W p l e R s m args below meth c H1 locs1 (cells + mc) (slots + ms) Q (F0 m (pc + 3) ls (.int r :: rest))) : W p l e R s m args below meth c H locs cells slots Q (F0 m pc ls st0) := by
  intro T hT X
  rcases hr T hT X with ⟨v, st₀, t, T', L, h0, X', hL, e1, e2, ⟨⟨r, u, hv, hp, hb⟩, hF⟩, st⟩ | ⟨q, st₀, t, T', L, E, ce, h0, X', hL, e1, e2, ⟨u, hp, hb, hF⟩, hce, hcv, hcl, st⟩
  · cases hv
    obtain ⟨k1, k2, k3⟩ := vx_keep h0 e1 hS hA hf hL hF
    obtain ⟨t2, a1, b1⟩ := kk r u t T'.heap (locs ++ L) e1.symm (by rw [← e2]; exact X'.warmed.alike) hp hb k1 k2 k3 T' rfl X'
    exact ⟨t2, st t2 a1, b1⟩
  · obtain ⟨k1, k2, k3⟩ := vx_keep h0 e1 hS hAX hf hL hF
    obtain ⟨t2, a1, b1⟩ := kx E ce q u t T'.heap (locs ++ L) e1.symm (by rw [← e2]; exact X'.warmed.alike) hp hb k1 k2 k3 (by rw [e1]; exact hce) hcv hcl T' rfl X'
    exact ⟨t2, st.trans a1, b1⟩
theorem vx_calll {S SX : Type} {post : Int64 → S → Prop} {px : SX → Prop} {B : S → State → Prop} {BX : String → SX → State → Prop} {AX : Nat → Prop} (hr : vx_Run p l e R s m args below meth c H locs cells slots mc ms (F0 m pc ls st0) rest (va_Ql post B A1 a) (vx_X px BX AX) free) (hS : va_S A0 H0 H locs) (hA : ∀ q, q < H.size → A1 q → A0 q) (hf : ∀ q, free q → A0 q) (hAX : ∀ q, q < H.size → AX q → A0 q)
    (kx : ∀ (E : String) (ce : Cell) (q9 : Addr) (u : SX) (t : State) (H1 : Heap) (locs1 : List Loc), t.heap = H1 → s.vm.Alike t.vm → px u → BX E u t → H.size ≤ H1.size → (∀ q : Nat, q < H.size → ¬ AX q → H1[q]? = H[q]?) → va_S A0 H0 H1 locs1 → H1[q9]? = some ce → ce.vm = .none → s.vm.findClass E = some ce.cls → vx_W p l e R s m args below meth c H1 locs1 (cells + mc) (slots + ms) Q (F0 m pc ls rest) q9)
    (kk : ∀ (r : Int64) (u : S) (t : State) (H1 : Heap) (locs1 : List Loc), t.heap = H1 → s.vm.Alike t.vm → post r u → B u t → H.size ≤ H1.size → (∀ q : Nat, q < H.size → ¬ A1 q → H1[q]? = H[q]?) → va_S A0 H0 H1 locs1 → W p l e R s m args below meth c H1 locs1 (cells + mc) (slots + ms) Q (F0 m (pc + 3) ls (.long r :: rest))) : W p l e R s m args below meth c H locs cells slots Q (F0 m pc ls st0) := by
  intro T hT X
  rcases hr T hT X with ⟨v, st₀, t, T', L, h0, X', hL, e1, e2, ⟨⟨r, u, hv, hp, hb⟩, hF⟩, st⟩ | ⟨q, st₀, t, T', L, E, ce, h0, X', hL, e1, e2, ⟨u, hp, hb, hF⟩, hce, hcv, hcl, st⟩
  · cases hv
    obtain ⟨k1, k2, k3⟩ := vx_keep h0 e1 hS hA hf hL hF
    obtain ⟨t2, a1, b1⟩ := kk r u t T'.heap (locs ++ L) e1.symm (by rw [← e2]; exact X'.warmed.alike) hp hb k1 k2 k3 T' rfl X'
    exact ⟨t2, st t2 a1, b1⟩
  · obtain ⟨k1, k2, k3⟩ := vx_keep h0 e1 hS hAX hf hL hF
    obtain ⟨t2, a1, b1⟩ := kx E ce q u t T'.heap (locs ++ L) e1.symm (by rw [← e2]; exact X'.warmed.alike) hp hb k1 k2 k3 (by rw [e1]; exact hce) hcv hcl T' rfl X'
    exact ⟨t2, st.trans a1, b1⟩
theorem vx_callf {S SX : Type} {post : UInt32 → S → Prop} {px : SX → Prop} {B : S → State → Prop} {BX : String → SX → State → Prop} {AX : Nat → Prop} (hr : vx_Run p l e R s m args below meth c H locs cells slots mc ms (F0 m pc ls st0) rest (va_Qf post B A1 a) (vx_X px BX AX) free) (hS : va_S A0 H0 H locs) (hA : ∀ q, q < H.size → A1 q → A0 q) (hf : ∀ q, free q → A0 q) (hAX : ∀ q, q < H.size → AX q → A0 q)
    (kx : ∀ (E : String) (ce : Cell) (q9 : Addr) (u : SX) (t : State) (H1 : Heap) (locs1 : List Loc), t.heap = H1 → s.vm.Alike t.vm → px u → BX E u t → H.size ≤ H1.size → (∀ q : Nat, q < H.size → ¬ AX q → H1[q]? = H[q]?) → va_S A0 H0 H1 locs1 → H1[q9]? = some ce → ce.vm = .none → s.vm.findClass E = some ce.cls → vx_W p l e R s m args below meth c H1 locs1 (cells + mc) (slots + ms) Q (F0 m pc ls rest) q9)
    (kk : ∀ (r : UInt32) (u : S) (t : State) (H1 : Heap) (locs1 : List Loc), t.heap = H1 → s.vm.Alike t.vm → post r u → B u t → H.size ≤ H1.size → (∀ q : Nat, q < H.size → ¬ A1 q → H1[q]? = H[q]?) → va_S A0 H0 H1 locs1 → W p l e R s m args below meth c H1 locs1 (cells + mc) (slots + ms) Q (F0 m (pc + 3) ls (.float r :: rest))) : W p l e R s m args below meth c H locs cells slots Q (F0 m pc ls st0) := by
  intro T hT X
  rcases hr T hT X with ⟨v, st₀, t, T', L, h0, X', hL, e1, e2, ⟨⟨r, u, hv, hp, hb⟩, hF⟩, st⟩ | ⟨q, st₀, t, T', L, E, ce, h0, X', hL, e1, e2, ⟨u, hp, hb, hF⟩, hce, hcv, hcl, st⟩
  · cases hv
    obtain ⟨k1, k2, k3⟩ := vx_keep h0 e1 hS hA hf hL hF
    obtain ⟨t2, a1, b1⟩ := kk r u t T'.heap (locs ++ L) e1.symm (by rw [← e2]; exact X'.warmed.alike) hp hb k1 k2 k3 T' rfl X'
    exact ⟨t2, st t2 a1, b1⟩
  · obtain ⟨k1, k2, k3⟩ := vx_keep h0 e1 hS hAX hf hL hF
    obtain ⟨t2, a1, b1⟩ := kx E ce q u t T'.heap (locs ++ L) e1.symm (by rw [← e2]; exact X'.warmed.alike) hp hb k1 k2 k3 (by rw [e1]; exact hce) hcv hcl T' rfl X'
    exact ⟨t2, st.trans a1, b1⟩
theorem vx_calld {S SX : Type} {post : UInt64 → S → Prop} {px : SX → Prop} {B : S → State → Prop} {BX : String → SX → State → Prop} {AX : Nat → Prop} (hr : vx_Run p l e R s m args below meth c H locs cells slots mc ms (F0 m pc ls st0) rest (va_Qd post B A1 a) (vx_X px BX AX) free) (hS : va_S A0 H0 H locs) (hA : ∀ q, q < H.size → A1 q → A0 q) (hf : ∀ q, free q → A0 q) (hAX : ∀ q, q < H.size → AX q → A0 q)
    (kx : ∀ (E : String) (ce : Cell) (q9 : Addr) (u : SX) (t : State) (H1 : Heap) (locs1 : List Loc), t.heap = H1 → s.vm.Alike t.vm → px u → BX E u t → H.size ≤ H1.size → (∀ q : Nat, q < H.size → ¬ AX q → H1[q]? = H[q]?) → va_S A0 H0 H1 locs1 → H1[q9]? = some ce → ce.vm = .none → s.vm.findClass E = some ce.cls → vx_W p l e R s m args below meth c H1 locs1 (cells + mc) (slots + ms) Q (F0 m pc ls rest) q9)
    (kk : ∀ (r : UInt64) (u : S) (t : State) (H1 : Heap) (locs1 : List Loc), t.heap = H1 → s.vm.Alike t.vm → post r u → B u t → H.size ≤ H1.size → (∀ q : Nat, q < H.size → ¬ A1 q → H1[q]? = H[q]?) → va_S A0 H0 H1 locs1 → W p l e R s m args below meth c H1 locs1 (cells + mc) (slots + ms) Q (F0 m (pc + 3) ls (.double r :: rest))) : W p l e R s m args below meth c H locs cells slots Q (F0 m pc ls st0) := by
  intro T hT X
  rcases hr T hT X with ⟨v, st₀, t, T', L, h0, X', hL, e1, e2, ⟨⟨r, u, hv, hp, hb⟩, hF⟩, st⟩ | ⟨q, st₀, t, T', L, E, ce, h0, X', hL, e1, e2, ⟨u, hp, hb, hF⟩, hce, hcv, hcl, st⟩
  · cases hv
    obtain ⟨k1, k2, k3⟩ := vx_keep h0 e1 hS hA hf hL hF
    obtain ⟨t2, a1, b1⟩ := kk r u t T'.heap (locs ++ L) e1.symm (by rw [← e2]; exact X'.warmed.alike) hp hb k1 k2 k3 T' rfl X'
    exact ⟨t2, st t2 a1, b1⟩
  · obtain ⟨k1, k2, k3⟩ := vx_keep h0 e1 hS hAX hf hL hF
    obtain ⟨t2, a1, b1⟩ := kx E ce q u t T'.heap (locs ++ L) e1.symm (by rw [← e2]; exact X'.warmed.alike) hp hb k1 k2 k3 (by rw [e1]; exact hce) hcv hcl T' rfl X'
    exact ⟨t2, st.trans a1, b1⟩
theorem vx_callv {S SX : Type} {post : S → Prop} {px : SX → Prop} {B : S → State → Prop} {BX : String → SX → State → Prop} {AX : Nat → Prop} (hr : vx_Run p l e R s m args below meth c H locs cells slots mc ms (F0 m pc ls st0) rest (va_Qv post B A1 a) (vx_X px BX AX) free) (hS : va_S A0 H0 H locs) (hA : ∀ q, q < H.size → A1 q → A0 q) (hf : ∀ q, free q → A0 q) (hAX : ∀ q, q < H.size → AX q → A0 q)
    (kx : ∀ (E : String) (ce : Cell) (q9 : Addr) (u : SX) (t : State) (H1 : Heap) (locs1 : List Loc), t.heap = H1 → s.vm.Alike t.vm → px u → BX E u t → H.size ≤ H1.size → (∀ q : Nat, q < H.size → ¬ AX q → H1[q]? = H[q]?) → va_S A0 H0 H1 locs1 → H1[q9]? = some ce → ce.vm = .none → s.vm.findClass E = some ce.cls → vx_W p l e R s m args below meth c H1 locs1 (cells + mc) (slots + ms) Q (F0 m pc ls rest) q9)
    (kk : ∀ (u : S) (t : State) (H1 : Heap) (locs1 : List Loc), t.heap = H1 → s.vm.Alike t.vm → post u → B u t → H.size ≤ H1.size → (∀ q : Nat, q < H.size → ¬ A1 q → H1[q]? = H[q]?) → va_S A0 H0 H1 locs1 → W p l e R s m args below meth c H1 locs1 (cells + mc) (slots + ms) Q (F0 m (pc + 3) ls (rest))) : W p l e R s m args below meth c H locs cells slots Q (F0 m pc ls st0) := by
  intro T hT X
  rcases hr T hT X with ⟨v, st₀, t, T', L, h0, X', hL, e1, e2, ⟨⟨u, hv, hp, hb⟩, hF⟩, st⟩ | ⟨q, st₀, t, T', L, E, ce, h0, X', hL, e1, e2, ⟨u, hp, hb, hF⟩, hce, hcv, hcl, st⟩
  · cases hv
    obtain ⟨k1, k2, k3⟩ := vx_keep h0 e1 hS hA hf hL hF
    obtain ⟨t2, a1, b1⟩ := kk u t T'.heap (locs ++ L) e1.symm (by rw [← e2]; exact X'.warmed.alike) hp hb k1 k2 k3 T' rfl X'
    exact ⟨t2, st t2 a1, b1⟩
  · obtain ⟨k1, k2, k3⟩ := vx_keep h0 e1 hS hAX hf hL hF
    obtain ⟨t2, a1, b1⟩ := kx E ce q u t T'.heap (locs ++ L) e1.symm (by rw [← e2]; exact X'.warmed.alike) hp hb k1 k2 k3 (by rw [e1]; exact hce) hcv hcl T' rfl X'
    exact ⟨t2, st.trans a1, b1⟩
/-- caught by the row x of this method's table; the rows ahead don't take it -/
theorem vx_catch {own name : String} {E : String} {ce : Cell} {q : Addr} (hown : s.vm.findClass own = some m.cls) (pre : List ExceptionTableEntry) (x : ExceptionTableEntry) (suf : List ExceptionTableEntry) (hsplit : c.exceptionTable.toList = pre ++ x :: suf)
    (hpass : ∀ z ∈ pre, covers z pc = false ∨ (z.catchType ≠ 0 ∧ ∃ nm : String, (Cond.classLink own z.catchType nm).before args s = true ∧ va_Nc E nm s)) (hx : covers x pc = true) (h0 : x.catchType ≠ 0)
    (hlink : (Cond.classLink own x.catchType name).before args s = true) (hcast : (Cond.castable E name).before args s = true) (hcell : H[q]? = some ce) (hv : ce.vm = .none) (hcl : s.vm.findClass E = some ce.cls)
    (kk : W p l e R s m args below meth c H locs cells slots Q (F0 m x.handlerPc ls [.ref q])) : vx_W p l e R s m args below meth c H locs cells slots Q (F0 m pc ls rest) q := by
  intro T hT X
  have hpl : e.platform.magicAccessors = ({} : Platform).magicAccessors := by rw [X.admits.platform]
  obtain ⟨c3, c4, hc3, hc4, hasg⟩ := Cond.castable_spec hcast
  cases Option.some.inj (hc3.symm.trans hcl)
  obtain ⟨c5, hc5, hcl5⟩ := Cond.classLink_spec hown hlink e.platform hpl
  cases Option.some.inj (hc4.symm.trans hc5)
  obtain ⟨vm', X', st⟩ := X.thenCaughtThrough q (g := F0 m pc ls rest) rfl (Steps.refl _) (by rw [hT]; exact hcell) (by rw [hv]; rfl) (by obtain ⟨k9, h9, -⟩ := Vm.findClass_spec hcl; exact ⟨k9, h9⟩) pre x suf hsplit
    (fun z hz => by
      rcases hpass z hz with h | ⟨hz0, nm, hl1, hn1⟩
      · exact Or.inl h
      · obtain ⟨c6, hc6, hcl6⟩ := Cond.classLink_spec hown hl1 e.platform hpl
        obtain ⟨a8, b8, h1, h2, h3⟩ := hn1
        cases Option.some.inj (h1.symm.trans hcl)
        cases Option.some.inj (h2.symm.trans hc6)
        exact Or.inr ⟨hz0, _, hcl6, h3⟩) hx (Or.inr ⟨h0, c4, hcl5, hasg⟩)
  obtain ⟨t, a1, b1⟩ := kk (T.setVm vm') hT X'
  exact ⟨t, st.trans a1, b1⟩
end Rows
section Ends
variable {p : Program} {l : Launch} {e : Env} {R : Room} {s : State} {m : MethodId} {args : Array Value} {below : List Frame} {meth : Method} {c : Code} {H : Heap} {locs : List Loc} {cells slots : Nat} {Q : State → Prop}
variable {mc ms : Nat} {free : Addr → Prop} {A0 A1 : Nat → Prop} {H0 : Heap} {a : Array Value} {ls : Array Slot} {st0 rest : List Value}
variable {Qc : Array Value → State → Outcome → State → Prop} {XC : String → State → State → Prop}
/-- what a body that may throw owes at its end -/
def vx_MQ (below : List Frame) (Qc : Array Value → State → Outcome → State → Prop) (XC : String → State → State → Prop) (a : Array Value) (s : State) (mc ms : Nat) (free : Addr → Prop) : State → Prop := fun t =>
  ∃ o, t.status = .running ∧ Ended t below o ∧ vx_Q Qc XC mc ms free a s o t
theorem vx_ret {g : JFrame} {mc ms : Nat} (k : W p l e R s m args below meth c H locs cells slots (MQ below Qc args s mc ms free) g) : W p l e R s m args below meth c H locs cells slots (vx_MQ below Qc XC args s mc ms free) g := by
  intro T hT X
  obtain ⟨t, a1, o, b1, b2, b3, b4⟩ := k T hT X
  exact ⟨t, a1, o, b1, b2, Or.inl ⟨b3, b4⟩⟩
/-- not caught here: it goes on to the caller -/
theorem vx_widen {g : JFrame} {q : Addr} {k n : Nat} (h1 : cells ≤ k) (h2 : slots ≤ n) (kk : vx_W p l e R s m args below meth c H locs k n Q g q) : vx_W p l e R s m args below meth c H locs cells slots Q g q := fun T hT X => kk T hT (stand_widen X h1 h2)
theorem vx_out {pc : Nat} {E : String} {ce : Cell} {q : Addr} {mc ms : Nat} (hout : ∀ x ∈ c.exceptionTable.toList, covers x pc = false) (hlocks : meth.locks = false) (hcell : H[q]? = some ce) (hv : ce.vm = .none) (hcl : s.vm.findClass E = some ce.cls)
    (hx : ∀ t : State, t.heap = H → s.vm.Alike t.vm → XC E s t) (hf : ∀ z ∈ locs, free z.base) (hc : cells ≤ mc) (hs : slots ≤ ms) :
    vx_W p l e R s m args below meth c H locs cells slots (vx_MQ below Qc XC args s mc ms free) (F0 m pc ls rest) q := by
  intro T hT X
  obtain ⟨st1, hrun, hend, hW, hsm⟩ := X.leaveThrown q (g := F0 m pc ls rest) rfl rfl rfl hout hlocks
  have hcell9 : (T.setFrames (.throwing q :: below)).heap[q]? = some ce := by
    show T.heap[q]? = some ce
    rw [hT]; exact hcell
  exact ⟨_, st1, .threw q, hrun, hend, Or.inr ⟨q, rfl, E, ce, locs, hx _ hT hW.alike, hcell9, hv, hcl, hW, hsm.mono hc hs, hf⟩⟩
theorem vx_frame {U : State} {k n : Nat} (h : s.sameButNew ({ U with vm := s.vm } : State) locs k n) : s.heap.size ≤ U.heap.size ∧ ∀ q : Nat, q < s.heap.size → (∀ z ∈ locs, z.base ≠ q) → U.heap[q]? = s.heap[q]? := by
  obtain ⟨-, h2, -, -, -, h6⟩ := h
  refine ⟨h2, fun q hq hz => ?_⟩
  obtain ⟨c9, e1, e2, e3, e4⟩ := h6 q _ (Array.getElem?_eq_getElem hq)
  have hs : c9.slots = (s.heap[q]).slots := Array.ext_getElem? fun i => e4 i fun hm => hz _ hm rfl
  have h9 : c9 = s.heap[q] := by
    rw [hs] at e2
    exact e2
  have e5 : U.heap[q]? = some c9 := e1
  rw [e5, h9, Array.getElem?_eq_getElem hq]
/-- the words of a throw but the four that speak of the heap -/
def vx_no (w : Cond) : Bool := decide (w ≠ .isRef (.static Bundle.tN "UNASSIGNED_STACK" Bundle.steD)) && decide (w ≠ .isRef (.static Bundle.tN "SUPPRESSED_SENTINEL" Bundle.listD)) && decide (w ≠ .laysStatic Bundle.tN "UNASSIGNED_STACK" Bundle.steD) && decide (w ≠ .laysStatic Bundle.tN "SUPPRESSED_SENTINEL" Bundle.listD)
def vx_at0 (own : String) (ic : Nat) (X : String) (names : List String) : List Cond := (Bundle.ownAtoms0 own ic X names).filter vx_no
def vx_atS (own : String) (ic : Nat) (X : String) (names : List String) : List Cond := (Bundle.ownAtoms own ic X names).filter vx_no
/-- a word that the tables alone decide, or a good one -/
def vx_ot (w : Cond) : Bool := w.onTables || goodWord w
theorem vx_ot_at {args a' : Array Value} {s U : State} {w : Cond} (hW : s.WarmedH U.vm) (hvm : s.vm = U.vm) (hg : vx_ot w = true) (h : w.before args s = true) : w.before a' U = true := by
  simp only [vx_ot, Bool.or_eq_true] at hg
  rcases hg with hg | hg
  · exact va_tabs hg hvm h
  · exact word_at hW (good_of_word hg) h
/-- a list's words: the good ones out of the method's own list, the others by premises of their own -/
theorem vx_hat {args : Array Value} {s : State} {L B : List Cond} (h1 : ∀ w ∈ L.filter goodWord, w.before args s = true) (h2 : ∀ w ∈ L.filter (fun w => !goodWord w), w ∈ B) (h3 : ∀ w ∈ B, w.before args s = true) : ∀ w ∈ L, w.before args s = true := by
  intro w hw
  by_cases g : goodWord w = true
  · exact h1 w (List.mem_filter.mpr ⟨hw, g⟩)
  · refine h3 w (h2 w (List.mem_filter.mpr ⟨hw, ?_⟩))
    show (!goodWord w) = true
    cases hgw : goodWord w
    · rfl
    · exact absurd hgw g
theorem vx_c {args : Array Value} {s : State} {w : Cond} {B : List Cond} (h : w.before args s = true) (t : ∀ w ∈ B, w.before args s = true) : ∀ w' ∈ w :: B, w'.before args s = true := fun w' h' => (List.mem_cons.mp h').elim (fun e => by rw [e]; exact h) (t w')
theorem vx_n {args : Array Value} {s : State} : ∀ w ∈ ([] : List Cond), w.before args s = true := fun _ h => nomatch h
theorem vx_own {args : Array Value} {s : State} {L : List Cond} (h1 : ∀ w ∈ L.filter vx_no, w.before args s = true)
    (hU : (Cond.isRef (.static Bundle.tN "UNASSIGNED_STACK" Bundle.steD)).before args s = true) (hN : (Cond.isRef (.static Bundle.tN "SUPPRESSED_SENTINEL" Bundle.listD)).before args s = true)
    (lU : (Cond.laysStatic Bundle.tN "UNASSIGNED_STACK" Bundle.steD).before args s = true) (lN : (Cond.laysStatic Bundle.tN "SUPPRESSED_SENTINEL" Bundle.listD).before args s = true) : ∀ w ∈ L, w.before args s = true := by
  intro w hw
  by_cases e1 : w = .isRef (.static Bundle.tN "UNASSIGNED_STACK" Bundle.steD)
  · rw [e1]; exact hU
  · by_cases e2 : w = .isRef (.static Bundle.tN "SUPPRESSED_SENTINEL" Bundle.listD)
    · rw [e2]; exact hN
    · by_cases e3 : w = .laysStatic Bundle.tN "UNASSIGNED_STACK" Bundle.steD
      · rw [e3]; exact lU
      · by_cases e4 : w = .laysStatic Bundle.tN "SUPPRESSED_SENTINEL" Bundle.listD
        · rw [e4]; exact lN
        · exact h1 w (List.mem_filter.mpr ⟨hw, by unfold vx_no; rw [decide_eq_true e1, decide_eq_true e2, decide_eq_true e3, decide_eq_true e4]; rfl⟩)
/-- where a static field lies, its class's statics cell in H -/
def vx_L (C n d : String) (A : Nat → Prop) (U : State) (H : Heap) : Prop := ∃ (c : ClassId) (k : Class) (i : Nat) (f : Field) (a : Nat) (cell : Cell), U.vm.findClass C = some c ∧ U.fieldFound? C n d = some (c, k, i, f) ∧ f.isStatic = true ∧ k.statics = some a ∧ H[a]? = some cell ∧ cell.vm.isStatics = true ∧ cell.cls = c ∧ f.slot < cell.slots.size ∧ k.staticTypes[f.slot]? = some f.type ∧ ¬ A a
theorem vx_L.moved {C n d : String} {A : Nat → Prop} {u U : State} {H : Heap} (hvm : u.vm.Alike U.vm) (h : vx_L C n d A u H) : vx_L C n d A U H := by
  obtain ⟨c, k, i, f, a, cell, h1, h2, h3, h4, h5, h6, h7, h8, h9, h10⟩ := h
  obtain ⟨k', hi', he⟩ := State.fieldFound?_setVm hvm h2
  exact ⟨c, k', i, f, a, cell, by rw [hvm.findClass]; exact h1, hi', h3, by rw [he]; exact h4, h5, h6, h7, h8, by rw [he]; exact h9, h10⟩
theorem vx_L.kept {C n d : String} {A : Nat → Prop} {U : State} {H H1 : Heap} (h : vx_L C n d A U H) (hq : ∀ a : Nat, a < H.size → ¬ A a → H1[a]? = H[a]?) : vx_L C n d A U H1 := by
  obtain ⟨c, k, i, f, a, cell, h1, h2, h3, h4, h5, h6, h7, h8, h9, h10⟩ := h
  exact ⟨c, k, i, f, a, cell, h1, h2, h3, h4, by rw [hq a (Array.getElem?_eq_some_iff.mp h5).1 h10]; exact h5, h6, h7, h8, h9, h10⟩
theorem vx_L.narrow {C n d : String} {A B : Nat → Prop} {U : State} {H : Heap} (h : vx_L C n d A U H) (hAB : ∀ q, B q → A q) : vx_L C n d B U H := by
  obtain ⟨c, k, i, f, a, cell, h1, h2, h3, h4, h5, h6, h7, h8, h9, h10⟩ := h
  exact ⟨c, k, i, f, a, cell, h1, h2, h3, h4, h5, h6, h7, h8, h9, fun z => h10 (hAB _ z)⟩
theorem vx_L.word {C n d : String} {A : Nat → Prop} {s : State} {args : Array Value} (h : vx_L C n d A s s.heap) : (Cond.laysStatic C n d).before args s = true := by
  obtain ⟨c, k, i, f, a, cell, h1, h2, h3, h4, h5, h6, h7, h8, h9, -⟩ := h
  show (Cond.laysStatic C n d).holds args s none s [] = true
  exact Cond.laysStatic_of h1 h2 h3 h4 h5 h6 h7 h8 h9
/-- .. and what it holds: null or some reference -/
def vx_Zq (C n d : String) (A : Nat → Prop) (U : State) (H : Heap) : Prop := va_Zq C n d A U H ∧ vx_L C n d A U H
theorem vx_Zq.moved {C n d : String} {A : Nat → Prop} {u U : State} {H : Heap} (hvm : u.vm.Alike U.vm) (h : vx_Zq C n d A u H) : vx_Zq C n d A U H := ⟨va_Zq.moved hvm h.1, vx_L.moved hvm h.2⟩
theorem vx_Zq.kept {C n d : String} {A : Nat → Prop} {U : State} {H H1 : Heap} (h : vx_Zq C n d A U H) (hq : ∀ a : Nat, a < H.size → ¬ A a → H1[a]? = H[a]?) : vx_Zq C n d A U H1 := ⟨va_Zq.kept h.1 hq, vx_L.kept h.2 hq⟩
theorem vx_Zq.narrow {C n d : String} {A B : Nat → Prop} {U : State} {H : Heap} (h : vx_Zq C n d A U H) (hAB : ∀ q, B q → A q) : vx_Zq C n d B U H := ⟨va_Zq.narrow h.1 hAB, vx_L.narrow h.2 hAB⟩
theorem vx_Zqof {args : Array Value} {s : State} {C n d : String} {A : Nat → Prop} (hl : (Cond.laysStatic C n d).before args s = true) (hini : (Cond.initialized C).before args s = true) (h : (Cond.isRef (.static C n d)).before args s = true) (hA : ∀ a : Nat, a < s.heap.size → ¬ A a) : vx_Zq C n d A s s.heap := by
  refine ⟨va_Zqof hl hini h hA, ?_⟩
  obtain ⟨c, k, i, f, a, cell, h1, h2, h3, h4, h5, h6, h7, h8, h9⟩ := Cond.laysStatic_spec hl
  exact ⟨c, k, i, f, a, cell, h1, h2, h3, h4, h5, h6, h7, h8, h9, hA a (Array.getElem?_eq_some_iff.mp h5).1⟩
theorem vx_isRef {C n d : String} {v : Value} {A : Nat → Prop} {s : State} {args : Array Value} (h : va_Z C n d v A s s.heap) (hv : v.isRef = true) : (Cond.isRef (.static C n d)).before args s = true := by
  obtain ⟨cf, kf, fi, f, a, cell, h1, h2, h3, h4, h5, h6, h7, -⟩ := h
  have he : (Term.static C n d).eval args s none [] s = some v := by
    simp [Term.eval, State.fieldNamed?, h1, h2, h4, h5, h6, h7]
  simp only [Cond.before, Cond.holds, Cond.value, he]
  cases v <;> simp_all [Value.isRef]
theorem vx_isRefq {C n d : String} {A : Nat → Prop} {s : State} {args : Array Value} (h : va_Zq C n d A s s.heap) : (Cond.isRef (.static C n d)).before args s = true := by
  rcases h with h | ⟨t, h⟩
  · exact vx_isRef h rfl
  · exact vx_isRef h rfl
/-- the same frame, seen from here: as if the method were called anew in this heap -/
theorem vx_rebase {T : State} (X : Stand p l e R s m args below meth c T locs cells slots) {R' : Room} (hf : R'.frames ≤ R.frames) (hl : R'.locals ≤ R.locals) (hc : cells + R'.cells ≤ R.cells) (hs : slots + R'.slots ≤ R.slots) :
    Stand p l e R' ((T.setVm s.vm).setFrames (.invoking m args :: below)) m args below meth c T [] 0 0 := by
  have htop : (T.setVm s.vm).topJava?.isSome := X.here.top
  have hF : ((T.setVm s.vm).setFrames (.invoking m args :: below)).frames = .invoking m args :: below := State.frames_setFrames _ (State.cur_lt_of_top htop)
  obtain ⟨g₀, hg0⟩ := Option.isSome_iff_exists.mp htop
  obtain ⟨r, hr⟩ := State.topJava?_eq_some.mp hg0
  have hl9 : e.platform.stackLimits (T.setVm s.vm).me = e.platform.stackLimits s.me := X.limits
  have hb9 : (T.setVm s.vm).me.stackBytes = s.me.stackBytes := X.bytes
  refine ⟨X.admits, X.cas, X.clock, hF, ?_, X.hears, X.method, X.code, X.here, X.tail, X.warmed, ?_, ?_, ?_⟩
  · have h := X.room
    have hU : ((T.setVm s.vm).setFrames (.invoking m args :: below)).localsInUse = s.localsInUse := by
      rw [State.localsInUse_invoking hF (meth := meth) (c := c) X.method X.code, State.localsInUse_invoking X.frames X.method X.code]
    simp only [State.hasRoom, Bool.and_eq_true, decide_eq_true_eq] at h ⊢
    obtain ⟨⟨⟨⟨h1, h2, h3, h4, h5, h6⟩, h7⟩, h8⟩, h9⟩ := h
    rw [X.frames, List.length_cons] at h2 h3
    have q1 := X.heapSize
    have q2 := X.used
    simp only [hF, hU, List.length_cons, State.stackLimits_setFrames, State.stackBytes_setFrames, hl9, hb9]
    refine ⟨⟨⟨⟨by omega, by omega, by omega, by omega, by omega, h6⟩, ?_⟩, ?_⟩, X.book⟩
    · show T.heap.size + R'.cells ≤ e.platform.maxCells
      omega
    · show T.slotsUsed + R'.slots ≤ e.platform.maxSlots
      omega
  · rw [State.stackLimits_setFrames]; rfl
  · rw [State.stackBytes_setFrames]; rfl
  · refine ⟨?_, Nat.le_refl _, Nat.le_refl _, ?_, ?_, fun a c9 h9 => ⟨c9, h9, rfl, rfl, fun _ _ => rfl⟩⟩
    · obtain ⟨t, ht, -⟩ := State.frames_cons hr
      show T.setVm s.vm = { ((T.setVm s.vm).setFrames (.invoking m args :: below)).setFrames (T.setVm s.vm).frames with heap := T.heap, slotsUsed := T.slotsUsed }
      rw [State.setFrames_setFrames, State.setFrames_self ht]
      rfl
    · show T.slotsUsed = T.slotsUsed + ((T.heap.toList.drop T.heap.size).map (·.slots.size)).sum
      rw [List.drop_eq_nil_of_le (Nat.le_of_eq Array.length_toList)]
      rfl
    · show ((T.heap.toList.drop T.heap.size).map (·.slots.size)).sum ≤ 0
      rw [List.drop_eq_nil_of_le (Nat.le_of_eq Array.length_toList)]
      exact Nat.le_refl _
/-- 'throw new E()': new; dup; invokespecial; athrow -/
theorem vx_throw0 {cc : ByteArray} {pc : Nat} (hexec : p.tables.exec = Jvm.exec) (hb : c.code = cc) (hl : l.stackTraces = false) {own cls : String} {names : List String} {ik ic mc ms : Nat} {A : Nat → Prop}
    (hown : s.vm.findClass own = some m.cls) (hcls : Bundle.fit cls = true) (hnames : ∀ n ∈ names, Bundle.fit n = true)
    (hk : (Cond.classLink own ik cls).before args s = true) (hini : (Cond.initialized cls).before args s = true) (hat : ∀ w ∈ vx_at0 own ic cls names, w.before args s = true)
    (hgood : ∀ w ∈ Cond.classLink own ik cls :: Cond.initialized cls :: vx_at0 own ic cls names, vx_ot w = true)
    (hU : vx_Zq Bundle.tN "UNASSIGNED_STACK" Bundle.steD A s s.heap) (hN : vx_Zq Bundle.tN "SUPPRESSED_SENTINEL" Bundle.listD A s s.heap) (hS : va_S A s.heap H locs) (hsize : ls.size = c.maxLocals)
    (d0 : decode cc pc = .ok (.new ik, 3)) (d3 : decode cc (pc + 3) = .ok (.dup, 1)) (d4 : decode cc (pc + 4) = .ok (.invokespecial ic, 3)) (d7 : decode cc (pc + 7) = .ok (.athrow, 1))
    (hout : ∀ x ∈ c.exceptionTable.toList, covers x (pc + 7) = false)
    (hRframes : names.length + 3 < R.frames) (hRlocals : (rest.map fun v => v.category).sum + (13 * (names.length + 1) + 42) ≤ R.locals) (hRcells : cells + 1 ≤ R.cells) (hRslots : slots + 6 ≤ R.slots) (hlocks : meth.locks = false)
    (hx : ∀ t : State, s.vm.Alike t.vm → H.size ≤ t.heap.size → (∀ q : Nat, q < H.size → t.heap[q]? = H[q]?) → XC cls s t)
    (hf : ∀ z ∈ locs, free z.base) (hc : cells + 1 ≤ mc) (hs : slots + 6 ≤ ms) :
    W p l e R s m args below meth c H locs cells slots (vx_MQ below Qc XC args s mc ms free) (F0 m pc ls rest) := by
  intro T hT X
  have htr : e.platform.stackTraces = false := (show e.platform.stackTraces = l.stackTraces by rw [X.admits.platform]).trans hl
  have Y := vx_rebase X (R' := { frames := R.frames, locals := R.locals, cells := 1, slots := 6 }) (Nat.le_refl _) (Nat.le_refl _) hRcells hRslots
  obtain ⟨s', hA⟩ : ∃ z, z = (T.setVm s.vm).setFrames (.invoking m args :: below) := ⟨_, rfl⟩
  rw [← hA] at Y
  have hvm : s'.vm = s.vm := by rw [hA]; rfl
  have hhp : s'.heap = H := by rw [hA]; exact hT
  have hW0 : s.WarmedH s'.vm := by rw [hvm]; exact State.WarmedH.refl s
  have hat' : ∀ w ∈ vx_at0 own ic cls names, w.before args s' = true := fun w hw => vx_ot_at hW0 hvm.symm (hgood w (List.mem_cons_of_mem _ (List.mem_cons_of_mem _ hw))) (hat w hw)
  have hk' : (Cond.classLink own ik cls).before args s' = true := vx_ot_at hW0 hvm.symm (hgood _ List.mem_cons_self) hk
  have hini' : (Cond.initialized cls).before args s' = true := vx_ot_at hW0 hvm.symm (hgood _ (List.mem_cons_of_mem _ List.mem_cons_self)) hini
  have hU' : vx_Zq Bundle.tN "UNASSIGNED_STACK" Bundle.steD A s' s'.heap := by rw [hhp]; exact vx_Zq.moved hW0.alike (hU.kept hS.2.1)
  have hN' : vx_Zq Bundle.tN "SUPPRESSED_SENTINEL" Bundle.listD A s' s'.heap := by rw [hhp]; exact vx_Zq.moved hW0.alike (hN.kept hS.2.1)
  have h : ∀ w ∈ Bundle.ownAtoms0 own ic cls names, w.before args s' = true := vx_own hat' (vx_isRefq hU'.1) (vx_isRefq hN'.1) hU'.2.word hN'.2.word
  have hown' : s'.vm.findClass own = some m.cls := by rw [hvm]; exact hown
  have hins : (Cond.instantiable cls 6).before args s' = true := h _ (by simp [Bundle.ownAtoms0])
  obtain ⟨vm₁, cX, kX, hfX, hkX, -, -, X₁, st1⟩ := Y.newCold hexec (own := own) (C := cls) (index := ik) (n := 6) hown' hk' hins hini'
    (g := F0 m pc ls rest) rfl (by rw [hb]; exact d0) (Nat.le_refl _) (Nat.le_refl _)
  generalize hT1 : (T.setVm vm₁).pushCell { cls := cX, slots := kX.instanceTypes.map defaultValue, vm := .none } = T1 at X₁ st1
  have hcat : (Value.ref T.heap.size).category = 1 := rfl
  have hcellA : T1.heap[T.heap.size]? = some (freshCell cX kX) := by rw [← hT1]; exact State.heap_pushCell_size _ _
  have d3' : decode c.code (pc + 3) = .ok (.dup, 1) := by rw [hb]; exact d3
  obtain ⟨U, hsteps, hrun, hend, hW, hsame, ce, hce, hO⟩ := X₁.ctorThrow0 hexec htr (own := own) (cls := cls) (names := names) (ic := ic) hown' hcls hnames h (fun x hx => nomatch hx) hfX hkX hcellA (by rw [hhp, hT]; exact Nat.le_refl _)
    (g := { method := m, pc := pc + 4, locals := ls, stack := .ref T.heap.size :: .ref T.heap.size :: rest, locked := none }) rfl hsize rfl rfl (rest := rest) rfl
    (by rw [hb]; exact d4) (by rw [hb]; exact d7) hout hRframes (by simp only [List.map_cons, List.sum_cons, hcat]; omega) hlocks
  obtain ⟨f1, f2⟩ := vx_frame hsame
  rw [hhp] at f1 f2
  have hWs : s.WarmedH U.vm := State.WarmedH.trans hW0 hW
  have hcl : s.vm.findClass cls = some ce.cls := by
    have h9 := hO.cls
    rw [hvm] at h9
    exact h9
  have hall : s.sameButNew ({ U with vm := s.vm } : State) locs mc ms := by
    subst hA
    obtain ⟨e1, e2⟩ := hsame
    rw [State.setFrames_setFrames] at e1
    have h2 : (T.setVm s.vm).sameButNew ({ U with vm := s.vm } : State) [] (0 + 1) (0 + 6) := ⟨e1, e2⟩
    have h3 := X.same.trans h2
    rw [List.append_nil] at h3
    exact h3.mono hc hs
  refine ⟨U, ?_, .threw T.heap.size, hrun, hend, Or.inr ⟨T.heap.size, rfl, cls, ce, locs, hx U hWs.alike f1 (fun q hq => f2 q hq (fun z hz => nomatch hz)), hce, hO.vm, hcl, hWs, hall, hf⟩⟩
  refine st1 _ ?_
  show Steps p.tables e below (T1.setTop { method := m, pc := pc + 3, locals := ls, stack := .ref T.heap.size :: rest, locked := none }) _
  jvm_step X₁.here [X₁.here.top, hexec, d3', Value.category]
  exact hsteps
/-- 'throw new E("text")': new; dup; ldc; invokespecial; athrow -/
theorem vx_throwS {cc : ByteArray} {pc : Nat} (hexec : p.tables.exec = Jvm.exec) (hb : c.code = cc) (hl : l.stackTraces = false) {own cls text : String} {names : List String} {ik is ic mc ms sa : Nat} {A : Nat → Prop}
    (hown : s.vm.findClass own = some m.cls) (hcls : Bundle.fit cls = true) (hnames : ∀ n ∈ names, Bundle.fit n = true)
    (hk : (Cond.classLink own ik cls).before args s = true) (hini : (Cond.initialized cls).before args s = true) (hstr : vk_R own is text sa s) (hat : ∀ w ∈ vx_atS own ic cls names, w.before args s = true)
    (hgood : ∀ w ∈ Cond.classLink own ik cls :: Cond.initialized cls :: vx_atS own ic cls names, vx_ot w = true)
    (hU : vx_Zq Bundle.tN "UNASSIGNED_STACK" Bundle.steD A s s.heap) (hN : vx_Zq Bundle.tN "SUPPRESSED_SENTINEL" Bundle.listD A s s.heap) (hS : va_S A s.heap H locs) (hsize : ls.size = c.maxLocals)
    (d0 : decode cc pc = .ok (.new ik, 3)) (d3 : decode cc (pc + 3) = .ok (.dup, 1)) (d4 : decode cc (pc + 4) = .ok (.ldc is, 2)) (d6 : decode cc (pc + 6) = .ok (.invokespecial ic, 3)) (d9 : decode cc (pc + 9) = .ok (.athrow, 1))
    (hout : ∀ x ∈ c.exceptionTable.toList, covers x (pc + 9) = false)
    (hRframes : names.length + 3 < R.frames) (hRlocals : (rest.map fun v => v.category).sum + (13 * (names.length + 1) + 43) ≤ R.locals) (hRcells : cells + 1 ≤ R.cells) (hRslots : slots + 6 ≤ R.slots) (hlocks : meth.locks = false)
    (hx : ∀ t : State, s.vm.Alike t.vm → H.size ≤ t.heap.size → (∀ q : Nat, q < H.size → t.heap[q]? = H[q]?) → XC cls s t)
    (hf : ∀ z ∈ locs, free z.base) (hc : cells + 1 ≤ mc) (hs : slots + 6 ≤ ms) :
    W p l e R s m args below meth c H locs cells slots (vx_MQ below Qc XC args s mc ms free) (F0 m pc ls rest) := by
  intro T hT X
  have htr : e.platform.stackTraces = false := (show e.platform.stackTraces = l.stackTraces by rw [X.admits.platform]).trans hl
  have Y := vx_rebase X (R' := { frames := R.frames, locals := R.locals, cells := 1, slots := 6 }) (Nat.le_refl _) (Nat.le_refl _) hRcells hRslots
  obtain ⟨s', hA⟩ : ∃ z, z = (T.setVm s.vm).setFrames (.invoking m args :: below) := ⟨_, rfl⟩
  rw [← hA] at Y
  have hvm : s'.vm = s.vm := by rw [hA]; rfl
  have hhp : s'.heap = H := by rw [hA]; exact hT
  have hW0 : s.WarmedH s'.vm := by rw [hvm]; exact State.WarmedH.refl s
  have hat' : ∀ w ∈ vx_atS own ic cls names, w.before args s' = true := fun w hw => vx_ot_at hW0 hvm.symm (hgood w (List.mem_cons_of_mem _ (List.mem_cons_of_mem _ hw))) (hat w hw)
  have hk' : (Cond.classLink own ik cls).before args s' = true := vx_ot_at hW0 hvm.symm (hgood _ List.mem_cons_self) hk
  have hini' : (Cond.initialized cls).before args s' = true := vx_ot_at hW0 hvm.symm (hgood _ (List.mem_cons_of_mem _ List.mem_cons_self)) hini
  have hU' : vx_Zq Bundle.tN "UNASSIGNED_STACK" Bundle.steD A s' s'.heap := by rw [hhp]; exact vx_Zq.moved hW0.alike (hU.kept hS.2.1)
  have hN' : vx_Zq Bundle.tN "SUPPRESSED_SENTINEL" Bundle.listD A s' s'.heap := by rw [hhp]; exact vx_Zq.moved hW0.alike (hN.kept hS.2.1)
  have h : ∀ w ∈ Bundle.ownAtoms own ic cls names, w.before args s' = true := vx_own hat' (vx_isRefq hU'.1) (vx_isRefq hN'.1) hU'.2.word hN'.2.word
  have hown' : s'.vm.findClass own = some m.cls := by rw [hvm]; exact hown
  have hins : (Cond.instantiable cls 6).before args s' = true := h _ (by simp [Bundle.ownAtoms])
  obtain ⟨vm₁, cX, kX, hfX, hkX, -, -, X₁, st1⟩ := Y.newCold hexec (own := own) (C := cls) (index := ik) (n := 6) hown' hk' hins hini'
    (g := F0 m pc ls rest) rfl (by rw [hb]; exact d0) (Nat.le_refl _) (Nat.le_refl _)
  generalize hT1 : (T.setVm vm₁).pushCell { cls := cX, slots := kX.instanceTypes.map defaultValue, vm := .none } = T1 at X₁ st1
  have hcat : (Value.ref T.heap.size).category = 1 := rfl
  have hcellA : T1.heap[T.heap.size]? = some (freshCell cX kX) := by rw [← hT1]; exact State.heap_pushCell_size _ _
  have d3' : decode c.code (pc + 3) = .ok (.dup, 1) := by rw [hb]; exact d3
  have d4' : decode c.code (pc + 4) = .ok (.ldc is, 2) := by rw [hb]; exact d4
  have hstr' : vk_R own is text sa s' := vk_R.warm hW0 hstr
  obtain ⟨U, hsteps, hrun, hend, hW, hsame, ce, hce, hO⟩ := X₁.ctorThrowS hexec htr (own := own) (cls := cls) (names := names) (ic := ic) hown' hcls hnames h (fun x hx => nomatch hx) hfX hkX hcellA (by rw [hhp, hT]; exact Nat.le_refl _) (msg := .ref sa) rfl
    (g := { method := m, pc := pc + 6, locals := ls, stack := .ref sa :: .ref T.heap.size :: .ref T.heap.size :: rest, locked := none }) rfl hsize rfl rfl (rest := rest) rfl
    (by rw [hb]; exact d6) (by rw [hb]; exact d9) hout hRframes (by simp only [List.map_cons, List.sum_cons, hcat]; omega) hlocks
  obtain ⟨f1, f2⟩ := vx_frame hsame
  rw [hhp] at f1 f2
  have hWs : s.WarmedH U.vm := State.WarmedH.trans hW0 hW
  have hcl : s.vm.findClass cls = some ce.cls := by
    have h9 := hO.cls
    rw [hvm] at h9
    exact h9
  have hall : s.sameButNew ({ U with vm := s.vm } : State) locs mc ms := by
    subst hA
    obtain ⟨e1, e2⟩ := hsame
    rw [State.setFrames_setFrames] at e1
    have h2 : (T.setVm s.vm).sameButNew ({ U with vm := s.vm } : State) [] (0 + 1) (0 + 6) := ⟨e1, e2⟩
    have h3 := X.same.trans h2
    rw [List.append_nil] at h3
    exact h3.mono hc hs
  refine ⟨U, ?_, .threw T.heap.size, hrun, hend, Or.inr ⟨T.heap.size, rfl, cls, ce, locs, hx U hWs.alike f1 (fun q hq => f2 q hq (fun z hz => nomatch hz)), hce, hO.vm, hcl, hWs, hall, hf⟩⟩
  refine st1 _ ?_
  show Steps p.tables e below (T1.setTop { method := m, pc := pc + 3, locals := ls, stack := .ref T.heap.size :: rest, locked := none }) _
  jvm_step X₁.here [X₁.here.top, hexec, d3', Value.category]
  exact X₁.ldcString hexec (own := own) (text := text) (index := is) (a := sa) hown' hstr'.1 hstr'.2
    (g := { method := m, pc := pc + 4, locals := ls, stack := .ref T.heap.size :: .ref T.heap.size :: rest, locked := none }) rfl d4' _ hsteps
/-- 'throw new E("text")', the text by a wide index -/
theorem vx_throwSW {cc : ByteArray} {pc : Nat} (hexec : p.tables.exec = Jvm.exec) (hb : c.code = cc) (hl : l.stackTraces = false) {own cls text : String} {names : List String} {ik is ic mc ms sa : Nat} {A : Nat → Prop}
    (hown : s.vm.findClass own = some m.cls) (hcls : Bundle.fit cls = true) (hnames : ∀ n ∈ names, Bundle.fit n = true)
    (hk : (Cond.classLink own ik cls).before args s = true) (hini : (Cond.initialized cls).before args s = true) (hstr : vk_R own is text sa s) (hat : ∀ w ∈ vx_atS own ic cls names, w.before args s = true)
    (hgood : ∀ w ∈ Cond.classLink own ik cls :: Cond.initialized cls :: vx_atS own ic cls names, vx_ot w = true)
    (hU : vx_Zq Bundle.tN "UNASSIGNED_STACK" Bundle.steD A s s.heap) (hN : vx_Zq Bundle.tN "SUPPRESSED_SENTINEL" Bundle.listD A s s.heap) (hS : va_S A s.heap H locs) (hsize : ls.size = c.maxLocals)
    (d0 : decode cc pc = .ok (.new ik, 3)) (d3 : decode cc (pc + 3) = .ok (.dup, 1)) (d4 : decode cc (pc + 4) = .ok (.ldc_w is, 3)) (d7 : decode cc (pc + 7) = .ok (.invokespecial ic, 3)) (d10 : decode cc (pc + 10) = .ok (.athrow, 1))
    (hout : ∀ x ∈ c.exceptionTable.toList, covers x (pc + 10) = false)
    (hRframes : names.length + 3 < R.frames) (hRlocals : (rest.map fun v => v.category).sum + (13 * (names.length + 1) + 43) ≤ R.locals) (hRcells : cells + 1 ≤ R.cells) (hRslots : slots + 6 ≤ R.slots) (hlocks : meth.locks = false)
    (hx : ∀ t : State, s.vm.Alike t.vm → H.size ≤ t.heap.size → (∀ q : Nat, q < H.size → t.heap[q]? = H[q]?) → XC cls s t)
    (hf : ∀ z ∈ locs, free z.base) (hc : cells + 1 ≤ mc) (hs : slots + 6 ≤ ms) :
    W p l e R s m args below meth c H locs cells slots (vx_MQ below Qc XC args s mc ms free) (F0 m pc ls rest) := by
  intro T hT X
  have htr : e.platform.stackTraces = false := (show e.platform.stackTraces = l.stackTraces by rw [X.admits.platform]).trans hl
  have Y := vx_rebase X (R' := { frames := R.frames, locals := R.locals, cells := 1, slots := 6 }) (Nat.le_refl _) (Nat.le_refl _) hRcells hRslots
  obtain ⟨s', hA⟩ : ∃ z, z = (T.setVm s.vm).setFrames (.invoking m args :: below) := ⟨_, rfl⟩
  rw [← hA] at Y
  have hvm : s'.vm = s.vm := by rw [hA]; rfl
  have hhp : s'.heap = H := by rw [hA]; exact hT
  have hW0 : s.WarmedH s'.vm := by rw [hvm]; exact State.WarmedH.refl s
  have hat' : ∀ w ∈ vx_atS own ic cls names, w.before args s' = true := fun w hw => vx_ot_at hW0 hvm.symm (hgood w (List.mem_cons_of_mem _ (List.mem_cons_of_mem _ hw))) (hat w hw)
  have hk' : (Cond.classLink own ik cls).before args s' = true := vx_ot_at hW0 hvm.symm (hgood _ List.mem_cons_self) hk
  have hini' : (Cond.initialized cls).before args s' = true := vx_ot_at hW0 hvm.symm (hgood _ (List.mem_cons_of_mem _ List.mem_cons_self)) hini
  have hU' : vx_Zq Bundle.tN "UNASSIGNED_STACK" Bundle.steD A s' s'.heap := by rw [hhp]; exact vx_Zq.moved hW0.alike (hU.kept hS.2.1)
  have hN' : vx_Zq Bundle.tN "SUPPRESSED_SENTINEL" Bundle.listD A s' s'.heap := by rw [hhp]; exact vx_Zq.moved hW0.alike (hN.kept hS.2.1)
  have h : ∀ w ∈ Bundle.ownAtoms own ic cls names, w.before args s' = true := vx_own hat' (vx_isRefq hU'.1) (vx_isRefq hN'.1) hU'.2.word hN'.2.word
  have hown' : s'.vm.findClass own = some m.cls := by rw [hvm]; exact hown
  have hins : (Cond.instantiable cls 6).before args s' = true := h _ (by simp [Bundle.ownAtoms])
  obtain ⟨vm₁, cX, kX, hfX, hkX, -, -, X₁, st1⟩ := Y.newCold hexec (own := own) (C := cls) (index := ik) (n := 6) hown' hk' hins hini'
    (g := F0 m pc ls rest) rfl (by rw [hb]; exact d0) (Nat.le_refl _) (Nat.le_refl _)
  generalize hT1 : (T.setVm vm₁).pushCell { cls := cX, slots := kX.instanceTypes.map defaultValue, vm := .none } = T1 at X₁ st1
  have hcat : (Value.ref T.heap.size).category = 1 := rfl
  have hcellA : T1.heap[T.heap.size]? = some (freshCell cX kX) := by rw [← hT1]; exact State.heap_pushCell_size _ _
  have d3' : decode c.code (pc + 3) = .ok (.dup, 1) := by rw [hb]; exact d3
  have d4' : decode c.code (pc + 4) = .ok (.ldc_w is, 3) := by rw [hb]; exact d4
  have hstr' : vk_R own is text sa s' := vk_R.warm hW0 hstr
  obtain ⟨U, hsteps, hrun, hend, hW, hsame, ce, hce, hO⟩ := X₁.ctorThrowS hexec htr (own := own) (cls := cls) (names := names) (ic := ic) hown' hcls hnames h (fun x hx => nomatch hx) hfX hkX hcellA (by rw [hhp, hT]; exact Nat.le_refl _) (msg := .ref sa) rfl
    (g := { method := m, pc := pc + 7, locals := ls, stack := .ref sa :: .ref T.heap.size :: .ref T.heap.size :: rest, locked := none }) rfl hsize rfl rfl (rest := rest) rfl
    (by rw [hb]; exact d7) (by rw [hb]; exact d10) hout hRframes (by simp only [List.map_cons, List.sum_cons, hcat]; omega) hlocks
  obtain ⟨f1, f2⟩ := vx_frame hsame
  rw [hhp] at f1 f2
  have hWs : s.WarmedH U.vm := State.WarmedH.trans hW0 hW
  have hcl : s.vm.findClass cls = some ce.cls := by
    have h9 := hO.cls
    rw [hvm] at h9
    exact h9
  have hall : s.sameButNew ({ U with vm := s.vm } : State) locs mc ms := by
    subst hA
    obtain ⟨e1, e2⟩ := hsame
    rw [State.setFrames_setFrames] at e1
    have h2 : (T.setVm s.vm).sameButNew ({ U with vm := s.vm } : State) [] (0 + 1) (0 + 6) := ⟨e1, e2⟩
    have h3 := X.same.trans h2
    rw [List.append_nil] at h3
    exact h3.mono hc hs
  refine ⟨U, ?_, .threw T.heap.size, hrun, hend, Or.inr ⟨T.heap.size, rfl, cls, ce, locs, hx U hWs.alike f1 (fun q hq => f2 q hq (fun z hz => nomatch hz)), hce, hO.vm, hcl, hWs, hall, hf⟩⟩
  refine st1 _ ?_
  show Steps p.tables e below (T1.setTop { method := m, pc := pc + 3, locals := ls, stack := .ref T.heap.size :: rest, locked := none }) _
  jvm_step X₁.here [X₁.here.top, hexec, d3', Value.category]
  exact X₁.ldcStringW hexec (own := own) (text := text) (index := is) (a := sa) hown' hstr'.1 hstr'.2
    (g := { method := m, pc := pc + 4, locals := ls, stack := .ref T.heap.size :: .ref T.heap.size :: rest, locked := none }) rfl d4' _ hsteps
end Ends
section Bodies
variable {l : Launch}
theorem vx_ofW {y : MethodName} {ws ws' : List Cond} {rm : Room} {Pc : Array Value → State → Prop} {Qc : Array Value → State → Outcome → State → Prop} {XC : String → State → State → Prop} {mc ms : Nat} {free : Addr → Prop} {cc : ByteArray} {maxL : Nat} {ret : Option FieldType}
    (hy : plainName y.cls = true) (hw : ws = Cond.code y cc maxL ret :: ws')
    (body : ∀ p e s m args below meth c s₁, BodyLoose p l y (headSpec ws rm) cc maxL ret e s m args below meth c s₁ → c.maxLocals = maxL → (∀ x ∈ c.exceptionTable.toList, False) → Pc args s →
      W p l e (headSpec ws rm).room s m args below meth c s.heap [] 0 0 (vx_MQ below Qc XC args s mc ms free) (entryFrame m args maxL)) : vx_Met l y ws rm Pc Qc XC mc ms free := by
  refine MetFree.of_bodyS (code := cc) (maxLocals := maxL) (ret := ret) hy ?_ ?_
  · intro args s m h hn
    obtain ⟨meth, c, h1, h2, h3, h4, h5, h6, -, -⟩ := Cond.code_spec hn (atoms_spec (ws := ws) h _ (by rw [hw]; exact List.mem_cons_self))
    exact ⟨meth, c, h1, h2, h3, h4, h5, h6⟩
  · intro p e s m args below meth c s₁ B hml hP _
    have hh0 : s₁.heap = s.heap := by rw [B.state]; rfl
    have ht : ∀ x ∈ c.exceptionTable.toList, False := by
      obtain ⟨meth9, c9, h1, h2, -, -, -, -, h7, -⟩ := Cond.code_spec B.named (atoms_spec (ws := ws) B.pre _ (by rw [hw]; exact List.mem_cons_self))
      cases Option.some.inj (h1.symm.trans B.method)
      cases Option.some.inj (h2.symm.trans (Stand.of_body B).code)
      intro x hx
      rw [Array.isEmpty_iff.mp h7] at hx
      cases hx
    obtain ⟨t, a1, o, b1, b2, b3⟩ := body p e s m args below meth c s₁ B hml ht hP s₁ hh0 (Stand.of_body B)
    exact ⟨t, o, a1, b1, b2, b3⟩
/-- the table of a body with handlers -/
theorem vx_table {p : Program} {x y : MethodName} {S : Spec} {cc bytes : ByteArray} {maxL maxL' : Nat} {ret ret' : Option FieldType} {e : Env} {s s₁ : State} {m : MethodId} {args : Array Value} {below : List Frame} {meth : Method} {c : Code} {hh : List (Nat × Nat × Nat × Nat)}
    (B : BodyLoose p l y S cc maxL ret e s m args below meth c s₁) (h : (Cond.codeWith y bytes maxL' ret' hh).before args s = true) : c.exceptionTable.toList = tableOf hh := by
  obtain ⟨m9, meth9, c9, hn9, h1, h2, -, -, h6, -⟩ := Cond.codeWith_spec h
  cases Option.some.inj (hn9.symm.trans B.named)
  cases Option.some.inj (h1.symm.trans B.method)
  cases Option.some.inj (h2.symm.trans (Stand.of_body B).code)
  rw [← h6, table_eq]
end Bodies
end VXA
/-! ===== END ===== -/
/-! ===== BEGIN a static call of a method with an exception table ===== -/
section VXS
variable {p : Program} {l : Launch} {e : Env} {R : Room} {s : State} {m : MethodId} {args : Array Value} {below : List Frame} {meth : Method} {c : Code} {T : State} {H : Heap} {locs : List Loc} {cells slots : Nat}
abbrev vx_CSW (R : Room) (s : State) (args : Array Value) (own : String) (index : Nat) (y : MethodName) (bytes : ByteArray) (maxL : Nat) (ret : Option FieldType) (hh : List (Nat × Nat × Nat × Nat)) (ws : List Cond) (rm : Room) (mc ms n : Nat) : Prop :=
  (rm.cells = mc ∧ rm.slots = ms ∧ rm.frames + 1 ≤ R.frames ∧ 8 + (maxL + 11) + rm.locals ≤ R.locals ∧ (∀ w ∈ ws, ∀ (a' : Array Value) (U : State), s.WarmedH U.vm → w.before a' U = true) ∧ Cond.codeWith y bytes maxL ret hh ∈ ws) ∧
  (Cond.codeWith y bytes maxL ret hh).before args s = true ∧ (Cond.initialized y.cls).before args s = true ∧ (y.cls ≠ "java/lang/invoke/MethodHandle" ∧ y.cls ≠ "java/lang/invoke/VarHandle") ∧
  (∀ sig, parseMethodDescriptor y.desc = some sig → n = sig.parameters.length) ∧ (Cond.methodLink own index y).before args s = true ∧ (Cond.static y).before args s = true
theorem vx_cwSW {own : String} {index maxL mc ms : Nat} {y : MethodName} {bytes : ByteArray} {ret : Option FieldType} {hh : List (Nat × Nat × Nat × Nat)} {Ts ws ws' : List Cond} {rm : Room} (n : Nat) (ht : ∀ w ∈ Ts, w.before args s = true) (hT : GoodIn Ts (va_wsS own index y ws)) (hw : ws = Cond.codeWith y bytes maxL ret hh :: ws') (hrc : rm.cells = mc) (hrs : rm.slots = ms)
    (hd : y.cls ≠ "java/lang/invoke/MethodHandle" ∧ y.cls ≠ "java/lang/invoke/VarHandle" ∧ (parseMethodDescriptor y.desc).map (fun d => d.parameters.length) = some n) (hR : rm.frames + 1 ≤ R.frames ∧ 8 + (maxL + 11) + rm.locals ≤ R.locals) :
    vx_CSW R s args own index y bytes maxL ret hh ws rm mc ms n := by
  have ok : ∀ w ∈ va_wsS own index y ws, w.before args s = true := fun w h => ht w (hT w h).1
  have hG : GoodIn Ts ws := fun w h => hT w (by unfold va_wsS; exact List.mem_append_right _ h)
  have hc : Cond.codeWith y bytes maxL ret hh ∈ ws := by rw [hw]; exact List.mem_cons_self
  refine ⟨⟨hrc, hrs, hR.1, hR.2, pay_in ht hG, hc⟩, ht _ (hG _ hc).1, ok _ (by simp [va_wsS]), ⟨hd.1, hd.2.1⟩, fun sig h => ?_, ok _ (by simp [va_wsS]), ok _ (by simp [va_wsS])⟩
  have h2 := hd.2.2
  rw [h] at h2
  exact (Option.some.inj h2).symm
theorem vx_callSW (X : Stand p l e R s m args below meth c T locs cells slots) (hexec : p.tables.exec = Jvm.exec) {own : String} {index : Nat} {y : MethodName} {bytes : ByteArray} {maxL : Nat} {ret : Option FieldType} {hh : List (Nat × Nat × Nat × Nat)}
    (hown : s.vm.findClass own = some m.cls) (hlink : (Cond.methodLink own index y).before args s = true) (hstat : (Cond.static y).before args s = true) (hinit : (Cond.initialized y.cls).before args s = true)
    (hcode : (Cond.codeWith y bytes maxL ret hh).before args s = true) (hy : y.cls ≠ "java/lang/invoke/MethodHandle" ∧ y.cls ≠ "java/lang/invoke/VarHandle")
    {W9 : Nat} {Pre : Pt → Array Value → Prop} {Post : Pt → Array Value → Option Value → Pt → Prop} (hK : Back l R p e below s args y 3 W9 Pre Post)
    {g : JFrame} (hg : g.method = m) (hsize : g.locals.size = c.maxLocals) {argsL rest : List Value} (hlen : ∀ sig, parseMethodDescriptor y.desc = some sig → argsL.length = sig.parameters.length)
    (hstack : g.stack = argsL.reverse ++ rest) (hW : 2 * g.monitorRoom + (rest.map fun v => v.category).sum ≤ W9) (hdg : decode c.code g.pc = .ok (.invokestatic index, 3))
    (hpre : ∀ vm₁, s.WarmedH vm₁ → Pre ⟨T.setVm vm₁, locs, cells, slots⟩ argsL.toArray) :
    ∃ (v : Option Value) (vm₁ : Vm) (B : Pt), s.WarmedH vm₁ ∧ Stand p l e R s m args below meth c B.U B.locs B.cells B.slots ∧ Post ⟨T.setVm vm₁, locs, cells, slots⟩ argsL.toArray v B ∧
      ∀ target, Steps p.tables e below (B.U.setTop { g with pc := g.pc + 3, stack := v.toList ++ rest }) target → Steps p.tables e below (T.setTop g) target := by
  obtain ⟨mk, methM, cM, hnamed, hmethM, -, -, -, -, -, -, hsigM⟩ := Cond.codeWith_spec hcode
  have hstatic : methM.isStatic = true := Cond.static_spec hnamed hmethM hstat
  obtain ⟨kP, hkP, -⟩ := className_of_methodNamed hnamed
  have hinitP : kP.init = .initialized := Cond.initialized_spec (findClass_of_methodNamed hnamed) hkP hinit
  obtain ⟨vm₁, X₁, hstep₁⟩ := X.invokestatic hexec hown hlink hnamed hmethM hstatic hkP hinitP hy (g := g) hg (argsL := argsL) (rest := rest) (hlen _ hsigM) hstack hdg
  obtain ⟨v, B, X', hpost, hsteps⟩ := hK m meth c ⟨T.setVm vm₁, locs, cells, slots⟩ { g with stack := rest } (.invokestatic index) mk argsL.toArray X₁ hg hsize hdg hW (X₁.named hnamed) (hpre vm₁ X₁.warmed)
  exact ⟨v, vm₁, B, X₁.warmed, X', hpost, fun target h => hstep₁ _ fun acts => by rw [doInvoke_state]; exact hsteps.trans h⟩
theorem vx_runSW {y : MethodName} {bytes cc : ByteArray} {maxL nL mc ms n index : Nat} {ret : Option FieldType} {hh : List (Nat × Nat × Nat × Nat)} {ws : List Cond} {rm : Room} {Pc : Array Value → State → Prop} {Qc : Array Value → State → Outcome → State → Prop} {free : Addr → Prop} {Ts : List Cond} {own : String} {As rest : List Value} {g : JFrame}
    (S : CallFix p m c cc nL s args Ts own) (hM : Met l y ws rm Pc Qc mc ms free) (cw : vx_CSW R s args own index y bytes maxL ret hh ws rm mc ms n) (hp : PreS s H Pc As)
    (hg : g.method = m) (hn : As.length = n) (hsize : g.locals.size = nL) (hstack : g.stack = As.reverse ++ rest) (hW : 2 * g.monitorRoom + (rest.map fun v => v.category).sum ≤ 8) (hdg : decode cc g.pc = .ok (.invokestatic index, 3)) (hf : cells + mc ≤ R.cells ∧ slots + ms ≤ R.slots) :
    va_Run p l e R s m args below meth c H locs cells slots mc ms g rest (Qc As.toArray) (free) := by
  obtain ⟨⟨hrc, hrs, hfr, hlo, hws, hcw⟩, hcode, hini, hy, hlen, hl, hstt⟩ := cw
  have hK : Back l R p e below s args y 3 8 (PreOf R mc ms Pc) (PostOf Qc mc ms free) := va_backW (hh := hh) (bytes := bytes) (maxL := maxL) (ret := ret) hM hp.1 hrc hrs hfr hlo hws hcw (fun a' U hW => word_at hW (Or.inl (by first | rfl | simp [Cond.onTables, Cond.keeps, Cond.steady])) hini)
  obtain ⟨hx, hb, hml, ho, -⟩ := S
  intro T hT X
  obtain ⟨v, vm₁, ⟨U', l2, c2, s2⟩, hW₁, X', ⟨g', mk, t, L, e1, e2, hq, h1, hL, h2, h3⟩, st⟩ := vx_callSW X hx (hh := hh) (bytes := bytes) (maxL := maxL) (ret := ret) ho hl hstt hini hcode hy hK hg (hsize.trans hml.symm) (argsL := As) (rest := rest) (fun sig h => hn.trans (hlen sig h)) hstack hW (by rw [hb]; exact hdg)
    (fun vm₁ hW₁ => ⟨hf.1, hf.2, hp.2 (T.setVm vm₁) hT hW₁⟩)
  dsimp only [Pt.U, Pt.locs, Pt.cells, Pt.slots] at X' e1 e2 h1 h2 h3 st
  subst h1; subst h2; subst h3
  exact ⟨v, (T.setVm vm₁).calling g' mk As.toArray, t, U', L, hT, X', hL, e1, e2, hq, st⟩
/-- not caught here, past rows that name other classes: it goes on to the caller -/
theorem vx_outP {p : Program} {l : Launch} {e : Env} {R : Room} {s : State} {m : MethodId} {args : Array Value} {below : List Frame} {meth : Method} {c : Code} {H : Heap} {locs : List Loc} {cells slots : Nat} {free : Addr → Prop} {ls : Array Slot} {rest : List Value} {Qc : Array Value → State → Outcome → State → Prop} {XC : String → State → State → Prop}
    {pc : Nat} {own E : String} {ce : Cell} {q : Addr} {mc ms : Nat} (hown : s.vm.findClass own = some m.cls) (hlocks : meth.locks = false)
    (hpass : ∀ z ∈ c.exceptionTable.toList, covers z pc = false ∨ (z.catchType ≠ 0 ∧ ∃ nm : String, (Cond.classLink own z.catchType nm).before args s = true ∧ va_Nc E nm s)) (hcell : H[q]? = some ce) (hv : ce.vm = .none) (hcl : s.vm.findClass E = some ce.cls)
    (hx : ∀ t : State, t.heap = H → s.vm.Alike t.vm → XC E s t) (hf : ∀ z ∈ locs, free z.base) (hc : cells ≤ mc) (hs : slots ≤ ms) :
    vx_W p l e R s m args below meth c H locs cells slots (vx_MQ below Qc XC args s mc ms free) (F0 m pc ls rest) q := by
  intro T hT X
  have hpl : e.platform.magicAccessors = ({} : Platform).magicAccessors := by rw [X.admits.platform]
  obtain ⟨vm', hW', X', st⟩ := X.outThrough hlocks q (g := F0 m pc ls rest) rfl rfl rfl (cell := ce) (by rw [hT]; exact hcell) (by rw [hv]; rfl)
    (by obtain ⟨k9, h9, -⟩ := Vm.findClass_spec hcl; exact ⟨k9, h9⟩) (fun z hz => by
      rcases hpass z hz with h | ⟨hz0, nm, hl1, hn1⟩
      · exact Or.inl h
      · obtain ⟨c6, hc6, hcl6⟩ := Cond.classLink_spec hown hl1 e.platform hpl
        obtain ⟨a8, b8, h1, h2, h3⟩ := hn1
        cases Option.some.inj (h1.symm.trans hcl)
        cases Option.some.inj (h2.symm.trans hc6)
        exact Or.inr ⟨hz0, _, hcl6, h3⟩)
  obtain ⟨g₀, hfr⟩ := X'.frames_eq
  have hcell9 : ((T.setVm vm').setFrames (.throwing q :: below)).heap[q]? = some ce := by
    show T.heap[q]? = some ce
    rw [hT]; exact hcell
  have hend : Ended ((T.setVm vm').setFrames (.throwing q :: below)) below (.threw q) := State.frames_setFrames _ (State.cur_lt_of_frames hfr)
  refine ⟨(T.setVm vm').setFrames (.throwing q :: below), ?_, .threw q, X'.here.running, hend, Or.inr ⟨q, rfl, E, ce, locs, hx _ hT (X'.ends _).1.alike, hcell9, hv, hcl, (X'.ends _).1, (X'.ends _).2.mono hc hs, hf⟩⟩
  rw [X.pushThrowing_eq]
  exact st
/-- a thing of a world lies in the heap -/
theorem vx_lt {D : va_G} {cl : List vw_C} {ws : va_W} {H1 : Heap} (h : va_P D cl ws H1) {k : Nat} {q : Nat × va_E} (hk : ws[k]? = some q) : q.1 < H1.size := (h k q hk).lt
end VXS
/-! ===== END ===== -/
/-! ===== BEGIN methods with a table of their own: called by a name, returning or throwing ===== -/
section VXH
/-! vx_backW, vx_callVX, vx_callSX, vx_callVW, vx_runVW, vx_runVX, vx_runSX, vx_ofWH follow the same proofs as their sisters above (Free/Laws.lean, Shelf42/LK1.lean); vx_outP calls Shelf42/NT130.lean (outThrough). -/
section
variable {l : Launch} {R : Room} {p : Program} {e : Env} {below : List Frame} {s : State} {sargs : Array Value} {y : MethodName} {len W9 : Nat}
theorem vx_backW {ws : List Cond} {rm : Room} {Pc : Array Value → State → Prop} {Qc : Array Value → State → Outcome → State → Prop} {XC : String → State → State → Prop} {mc ms : Nat} {free : Addr → Prop} {bytes : ByteArray} {maxL : Nat} {ret : Option FieldType} {hh : List (Nat × Nat × Nat × Nat)}
    (hM : vx_Met l y ws rm Pc Qc XC mc ms free) (hblind : FrameBlind Pc) (hrc : rm.cells = mc) (hrs : rm.slots = ms)
    (hframes : rm.frames + 1 ≤ R.frames) (hlocals : W9 + (maxL + 11) + rm.locals ≤ R.locals)
    (hws : ∀ w ∈ ws, ∀ a' U, s.WarmedH U.vm → w.before a' U = true) (hcode : Cond.codeWith y bytes maxL ret hh ∈ ws) (hinit : ∀ a' U, s.WarmedH U.vm → (Cond.initialized y.cls).before a' U = true) :
    vx_Back l R p e below s sargs y len W9 (PreOf R mc ms Pc) (PostOf Qc mc ms free) (vx_Post XC mc ms free) := by
  intro m meth c A g ig mk a X hg hsize hdg hW hn hp
  have h1 : (headSpec ws rm).pre.before a A.U = true := atoms_intro fun w hw => hws w hw _ _ X.warmed
  have h2 : (Cond.codeWith y bytes maxL ret hh).before a A.U = true := hws _ hcode _ _ X.warmed
  have h3 : (Cond.initialized y.cls).before a A.U = true := hinit _ _ X.warmed
  have h4 : A.cells + (headSpec ws rm).room.cells ≤ R.cells := by rw [show (headSpec ws rm).room.cells = mc from hrc]; exact hp.1
  have h5 : A.slots + (headSpec ws rm).room.slots ≤ R.slots := by rw [show (headSpec ws rm).room.slots = ms from hrs]; exact hp.2.1
  have hPc : Pc a (A.U.calling g mk a) := hblind _ _ _ _ hp.2.2
  obtain ⟨U, Ls, c0, s0⟩ := A
  dsimp only [Pt.U, Pt.locs, Pt.cells, Pt.slots] at h1 h2 h3 h4 h5 X hn hPc ⊢
  obtain ⟨m9, methY, cY, hn9, hmY, hcY, -, hlY, -⟩ := Cond.codeWith_spec h2
  cases Option.some.inj (hn9.symm.trans hn)
  obtain ⟨kY, hkY, -⟩ := className_of_methodNamed hn
  have hinitY : kY.init = .initialized := Cond.initialized_spec (findClass_of_methodNamed hn) hkY h3
  have h : At U g.method c below := by rw [hg]; exact X.here
  have hlocals9 : W9 + (maxL + 11) + (headSpec ws rm).room.locals ≤ R.locals := hlocals
  have happ : (headSpec ws rm).appliesLoose y e.platform (U.calling g mk a) = true :=
    Spec.appliesLoose_calling (g := g) h hdg hn hkY hinitY
      (X.room_calling (g := g) (R' := (headSpec ws rm).room) hsize hmY hcY hframes (by rw [hlY]; omega) h4 h5) h1
  obtain ⟨mid, hmid⟩ := h.above
  have hfr : (U.setTop g).frames = (.java g :: mid) ++ below := by rw [State.frames_setTop' g h.top, hmid]; rfl
  obtain ⟨o, s₂, hsteps, -, hend, hq⟩ := Steps.callFree hM p X.admits X.cas X.clock (acts := []) hfr happ hPc trivial
  have hq' : vx_Q Qc XC mc ms free a (U.calling g mk a) o s₂ := hq
  rw [State.frames_setTop' g h.top] at hend
  obtain ⟨g₀, hg0⟩ := Option.isSome_iff_exists.mp h.top
  obtain ⟨r, hr⟩ := State.topJava?_eq_some.mp hg0
  have hr' : (({ U with heap := s₂.heap, slotsUsed := s₂.slotsUsed } : State).setVm s₂.vm).frames = .java g₀ :: r := hr
  rcases hq' with ⟨hqc, L, hfe, hL⟩ | ⟨q, rfl, E, ce, L, hx, hce, hcv, hcl, hW₂, hsm, hL⟩
  · obtain ⟨⟨v, rfl⟩, hW₂, e2, q2, q3, q4, q5, q6⟩ := id hfe
    have e3 : s₂ = ({ (U.calling g mk a).setFrames s₂.frames with heap := s₂.heap, slotsUsed := s₂.slotsUsed } : State).setVm s₂.vm := by
      have : s₂ = ({ s₂ with vm := (U.calling g mk a).vm } : State).setVm s₂.vm := rfl
      rw [e2] at this
      exact this
    obtain ⟨c₂, i₂, len₂, hc₂, hd₂, hf₂⟩ := hend
    have hW' : U.WarmedH s₂.vm := hW₂
    have hcc : c₂ = c := by
      have h1 : s₂.code? g.method = U.code? g.method := by
        rw [State.code?_eq, State.code?_eq, hW'.alike.method?]
      exact Option.some.inj (hc₂.symm.trans (h1.trans h.code))
    subst hcc
    have hlen : len₂ = len := by rw [hdg] at hd₂; cases hd₂; rfl
    subst hlen
    have hs₂ : s₂ = (({ U with heap := s₂.heap, slotsUsed := s₂.slotsUsed } : State).setVm s₂.vm).setTop { g with pc := g.pc + len₂, stack := v.toList ++ g.stack } := by
      refine e3.trans ?_
      rw [hf₂, State.calling_eq h.top, State.setFrames_setFrames, State.setTop_of_frames _ hr', hr]
      rfl
    have hsame : U.sameButNew ({ U with heap := s₂.heap, slotsUsed := s₂.slotsUsed } : State) L mc ms := by
      refine ⟨?_, q2, q3, q4, q5, q6⟩
      obtain ⟨t, ht, -⟩ := State.frames_cons hr
      show ({ U with heap := s₂.heap, slotsUsed := s₂.slotsUsed } : State) = { U.setFrames U.frames with heap := s₂.heap, slotsUsed := s₂.slotsUsed }
      rw [State.setFrames_self ht]
    subst hg
    refine Or.inl ⟨v, ⟨(({ U with heap := s₂.heap, slotsUsed := s₂.slotsUsed } : State).setVm s₂.vm), Ls ++ L, c0 + mc, s0 + ms⟩,
      ⟨X.admits, X.cas, X.clock, X.frames, X.room, X.hears, X.method, X.code, (X.here.setHeapUsed s₂.heap s₂.slotsUsed).setVm hW'.alike, X.tail, State.WarmedH.trans X.warmed hW', X.limits, X.bytes, X.same.trans (hsame.setVm s.vm)⟩,
      ⟨g, mk, s₂, L, rfl, rfl, hqc, rfl, hL, rfl, rfl⟩, ?_⟩
    show Steps p.tables e below _ ((({ U with heap := s₂.heap, slotsUsed := s₂.slotsUsed } : State).setVm s₂.vm).setTop { g with pc := g.pc + len₂, stack := v.toList ++ g.stack })
    rw [← hs₂]
    exact hsteps
  · obtain ⟨e2, q2, q3, q4, q5, q6⟩ := id hsm
    have e3 : s₂ = ({ (U.calling g mk a).setFrames s₂.frames with heap := s₂.heap, slotsUsed := s₂.slotsUsed } : State).setVm s₂.vm := by
      have : s₂ = ({ s₂ with vm := (U.calling g mk a).vm } : State).setVm s₂.vm := rfl
      rw [e2] at this
      exact this
    have hf₂ : s₂.frames = .throwing q :: .java g :: U.frames.tail := hend
    have hW' : U.WarmedH s₂.vm := hW₂
    have hs₂ : s₂ = ((({ U with heap := s₂.heap, slotsUsed := s₂.slotsUsed } : State).setVm s₂.vm).setTop g).pushFrame (.throwing q) := by
      refine e3.trans ?_
      rw [hf₂, State.calling_eq h.top, State.setFrames_setFrames, State.pushFrame, State.frames_setTop _ hr', State.setTop_of_frames _ hr', State.setFrames_setFrames, hr]
      rfl
    have hsame : U.sameButNew ({ U with heap := s₂.heap, slotsUsed := s₂.slotsUsed } : State) L mc ms := by
      refine ⟨?_, q2, q3, q4, q5, q6⟩
      obtain ⟨t, ht, -⟩ := State.frames_cons hr
      show ({ U with heap := s₂.heap, slotsUsed := s₂.slotsUsed } : State) = { U.setFrames U.frames with heap := s₂.heap, slotsUsed := s₂.slotsUsed }
      rw [State.setFrames_self ht]
    subst hg
    refine Or.inr ⟨q, ⟨(({ U with heap := s₂.heap, slotsUsed := s₂.slotsUsed } : State).setVm s₂.vm), Ls ++ L, c0 + mc, s0 + ms⟩,
      ⟨X.admits, X.cas, X.clock, X.frames, X.room, X.hears, X.method, X.code, (X.here.setHeapUsed s₂.heap s₂.slotsUsed).setVm hW'.alike, X.tail, State.WarmedH.trans X.warmed hW', X.limits, X.bytes, X.same.trans (hsame.setVm s.vm)⟩,
      ⟨g, mk, s₂, L, E, ce, rfl, rfl, hx, hce, hcv, hcl, rfl, hL, rfl, rfl⟩, ?_⟩
    show Steps p.tables e below _ (((({ U with heap := s₂.heap, slotsUsed := s₂.slotsUsed } : State).setVm s₂.vm).setTop g).pushFrame (.throwing q))
    rw [← hs₂]
    exact hsteps
end
variable {p : Program} {l : Launch} {e : Env} {R : Room} {s : State} {m : MethodId} {args : Array Value} {below : List Frame} {meth : Method} {c : Code} {T : State} {H : Heap} {locs : List Loc} {cells slots : Nat}
theorem vx_callVX (X : Stand p l e R s m args below meth c T locs cells slots) (hexec : p.tables.exec = Jvm.exec) {own C : String} {index : Nat} {y : MethodName} {bytes : ByteArray} {maxL : Nat} {ret : Option FieldType} {hh : List (Nat × Nat × Nat × Nat)}
    (hown : s.vm.findClass own = some m.cls) (hlink : (Cond.methodLink own index y).before args s = true) (hinst : (Cond.instanceMethod y).before args s = true) (hsel : (Cond.selects C y y).before args s = true)
    (hcode : (Cond.codeWith y bytes maxL ret hh).before args s = true) (hy : y.cls ≠ "java/lang/invoke/MethodHandle" ∧ y.cls ≠ "java/lang/invoke/VarHandle")
    {W9 : Nat} {Pre : Pt → Array Value → Prop} {Post : Pt → Array Value → Option Value → Pt → Prop} {PostX : Pt → Array Value → Addr → Pt → Prop} (hK : vx_Back l R p e below s args y 3 W9 Pre Post PostX)
    {b : Addr} {cellB : Cell} (hcell : T.heap[b]? = some cellB) (hobj : cellB.vm.isStatics = false) (hcls : s.vm.findClass C = some cellB.cls)
    {g : JFrame} (hg : g.method = m) (hsize : g.locals.size = c.maxLocals) {argsL rest : List Value} (hlen : ∀ sig, parseMethodDescriptor y.desc = some sig → argsL.length = sig.parameters.length)
    (hstack : g.stack = argsL.reverse ++ .ref b :: rest) (hW : 2 * g.monitorRoom + (rest.map fun v => v.category).sum ≤ W9) (hdg : decode c.code g.pc = .ok (.invokevirtual index, 3))
    (hpre : ∀ vm₁, s.WarmedH vm₁ → Pre ⟨T.setVm vm₁, locs, cells, slots⟩ (Value.ref b :: argsL).toArray) :
    (∃ (v : Option Value) (vm₁ : Vm) (B : Pt), s.WarmedH vm₁ ∧ Stand p l e R s m args below meth c B.U B.locs B.cells B.slots ∧ Post ⟨T.setVm vm₁, locs, cells, slots⟩ (Value.ref b :: argsL).toArray v B ∧
      ∀ target, Steps p.tables e below (B.U.setTop { g with pc := g.pc + 3, stack := v.toList ++ rest }) target → Steps p.tables e below (T.setTop g) target) ∨
    (∃ (q : Addr) (vm₁ : Vm) (B : Pt), s.WarmedH vm₁ ∧ Stand p l e R s m args below meth c B.U B.locs B.cells B.slots ∧ PostX ⟨T.setVm vm₁, locs, cells, slots⟩ (Value.ref b :: argsL).toArray q B ∧
      Steps p.tables e below (T.setTop g) ((B.U.setTop { g with stack := rest }).pushFrame (.throwing q))) := by
  obtain ⟨mk, methM, hnamed, hmethM, hstM, habM⟩ := Cond.instanceMethod_spec hinst
  obtain ⟨m8, methM', cM, hn8, hmethM', -, -, -, -, -, -, hsigM⟩ := Cond.codeWith_spec hcode
  cases Option.some.inj (hn8.symm.trans hnamed)
  cases hmethM.symm.trans hmethM'
  obtain ⟨c2, r2, m2, q1, q2, q3, q4, kP, hkP, hkPi⟩ := Cond.selects_spec hsel
  cases hcls.symm.trans q1
  cases (State.methodFound?_of_named hnamed hy).symm.trans q2
  cases hnamed.symm.trans q3
  have hselP : selectMethod e.platform s.vm cellB.cls mk = .method mk := by rw [Launch.admits_selectMethod X.admits]; exact q4
  obtain ⟨vm₁, X₁, hstep₁⟩ := X.invokevirtual hexec hown hlink hnamed hmethM hstM hkP hkPi hy (a := b) (cell := cellB) hcell
    (fun z h => by rw [h] at hobj; cases hobj) hselP hmethM habM hkP hkPi (g := g) hg (argsL := argsL) (rest := rest) (hlen _ hsigM) hstack hdg
  rcases hK m meth c ⟨T.setVm vm₁, locs, cells, slots⟩ { g with stack := rest } (.invokevirtual index) mk (Value.ref b :: argsL).toArray X₁ hg hsize hdg hW (X₁.named hnamed) (hpre vm₁ X₁.warmed) with ⟨v, B, X', hpost, hsteps⟩ | ⟨q, B, X', hpost, hsteps⟩
  · exact Or.inl ⟨v, vm₁, B, X₁.warmed, X', hpost, fun target h => hstep₁ _ fun acts => by rw [doInvoke_state]; exact hsteps.trans h⟩
  · exact Or.inr ⟨q, vm₁, B, X₁.warmed, X', hpost, hstep₁ _ fun acts => by rw [doInvoke_state]; exact hsteps⟩
theorem vx_callSX (X : Stand p l e R s m args below meth c T locs cells slots) (hexec : p.tables.exec = Jvm.exec) {own : String} {index : Nat} {y : MethodName} {bytes : ByteArray} {maxL : Nat} {ret : Option FieldType} {hh : List (Nat × Nat × Nat × Nat)}
    (hown : s.vm.findClass own = some m.cls) (hlink : (Cond.methodLink own index y).before args s = true) (hstat : (Cond.static y).before args s = true) (hinit : (Cond.initialized y.cls).before args s = true)
    (hcode : (Cond.codeWith y bytes maxL ret hh).before args s = true) (hy : y.cls ≠ "java/lang/invoke/MethodHandle" ∧ y.cls ≠ "java/lang/invoke/VarHandle")
    {W9 : Nat} {Pre : Pt → Array Value → Prop} {Post : Pt → Array Value → Option Value → Pt → Prop} {PostX : Pt → Array Value → Addr → Pt → Prop} (hK : vx_Back l R p e below s args y 3 W9 Pre Post PostX)
    {g : JFrame} (hg : g.method = m) (hsize : g.locals.size = c.maxLocals) {argsL rest : List Value} (hlen : ∀ sig, parseMethodDescriptor y.desc = some sig → argsL.length = sig.parameters.length)
    (hstack : g.stack = argsL.reverse ++ rest) (hW : 2 * g.monitorRoom + (rest.map fun v => v.category).sum ≤ W9) (hdg : decode c.code g.pc = .ok (.invokestatic index, 3))
    (hpre : ∀ vm₁, s.WarmedH vm₁ → Pre ⟨T.setVm vm₁, locs, cells, slots⟩ argsL.toArray) :
    (∃ (v : Option Value) (vm₁ : Vm) (B : Pt), s.WarmedH vm₁ ∧ Stand p l e R s m args below meth c B.U B.locs B.cells B.slots ∧ Post ⟨T.setVm vm₁, locs, cells, slots⟩ argsL.toArray v B ∧
      ∀ target, Steps p.tables e below (B.U.setTop { g with pc := g.pc + 3, stack := v.toList ++ rest }) target → Steps p.tables e below (T.setTop g) target) ∨
    (∃ (q : Addr) (vm₁ : Vm) (B : Pt), s.WarmedH vm₁ ∧ Stand p l e R s m args below meth c B.U B.locs B.cells B.slots ∧ PostX ⟨T.setVm vm₁, locs, cells, slots⟩ argsL.toArray q B ∧
      Steps p.tables e below (T.setTop g) ((B.U.setTop { g with stack := rest }).pushFrame (.throwing q))) := by
  obtain ⟨mk, methM, cM, hnamed, hmethM, -, -, -, -, -, -, hsigM⟩ := Cond.codeWith_spec hcode
  have hstatic : methM.isStatic = true := Cond.static_spec hnamed hmethM hstat
  obtain ⟨kP, hkP, -⟩ := className_of_methodNamed hnamed
  have hinitP : kP.init = .initialized := Cond.initialized_spec (findClass_of_methodNamed hnamed) hkP hinit
  obtain ⟨vm₁, X₁, hstep₁⟩ := X.invokestatic hexec hown hlink hnamed hmethM hstatic hkP hinitP hy (g := g) hg (argsL := argsL) (rest := rest) (hlen _ hsigM) hstack hdg
  rcases hK m meth c ⟨T.setVm vm₁, locs, cells, slots⟩ { g with stack := rest } (.invokestatic index) mk argsL.toArray X₁ hg hsize hdg hW (X₁.named hnamed) (hpre vm₁ X₁.warmed) with ⟨v, B, X', hpost, hsteps⟩ | ⟨q, B, X', hpost, hsteps⟩
  · exact Or.inl ⟨v, vm₁, B, X₁.warmed, X', hpost, fun target h => hstep₁ _ fun acts => by rw [doInvoke_state]; exact hsteps.trans h⟩
  · exact Or.inr ⟨q, vm₁, B, X₁.warmed, X', hpost, hstep₁ _ fun acts => by rw [doInvoke_state]; exact hsteps⟩
theorem vx_callVW (X : Stand p l e R s m args below meth c T locs cells slots) (hexec : p.tables.exec = Jvm.exec) {own C : String} {index : Nat} {y : MethodName} {bytes : ByteArray} {maxL : Nat} {ret : Option FieldType} {hh : List (Nat × Nat × Nat × Nat)}
    (hown : s.vm.findClass own = some m.cls) (hlink : (Cond.methodLink own index y).before args s = true) (hinst : (Cond.instanceMethod y).before args s = true) (hsel : (Cond.selects C y y).before args s = true)
    (hcode : (Cond.codeWith y bytes maxL ret hh).before args s = true) (hy : y.cls ≠ "java/lang/invoke/MethodHandle" ∧ y.cls ≠ "java/lang/invoke/VarHandle")
    {W9 : Nat} {Pre : Pt → Array Value → Prop} {Post : Pt → Array Value → Option Value → Pt → Prop} (hK : Back l R p e below s args y 3 W9 Pre Post)
    {b : Addr} {cellB : Cell} (hcell : T.heap[b]? = some cellB) (hobj : cellB.vm.isStatics = false) (hcls : s.vm.findClass C = some cellB.cls)
    {g : JFrame} (hg : g.method = m) (hsize : g.locals.size = c.maxLocals) {argsL rest : List Value} (hlen : ∀ sig, parseMethodDescriptor y.desc = some sig → argsL.length = sig.parameters.length)
    (hstack : g.stack = argsL.reverse ++ .ref b :: rest) (hW : 2 * g.monitorRoom + (rest.map fun v => v.category).sum ≤ W9) (hdg : decode c.code g.pc = .ok (.invokevirtual index, 3))
    (hpre : ∀ vm₁, s.WarmedH vm₁ → Pre ⟨T.setVm vm₁, locs, cells, slots⟩ (Value.ref b :: argsL).toArray) :
    ∃ (v : Option Value) (vm₁ : Vm) (B : Pt), s.WarmedH vm₁ ∧ Stand p l e R s m args below meth c B.U B.locs B.cells B.slots ∧ Post ⟨T.setVm vm₁, locs, cells, slots⟩ (Value.ref b :: argsL).toArray v B ∧
      ∀ target, Steps p.tables e below (B.U.setTop { g with pc := g.pc + 3, stack := v.toList ++ rest }) target → Steps p.tables e below (T.setTop g) target := by
  obtain ⟨mk, methM, hnamed, hmethM, hstM, habM⟩ := Cond.instanceMethod_spec hinst
  obtain ⟨m8, methM', cM, hn8, hmethM', -, -, -, -, -, -, hsigM⟩ := Cond.codeWith_spec hcode
  cases Option.some.inj (hn8.symm.trans hnamed)
  cases hmethM.symm.trans hmethM'
  obtain ⟨c2, r2, m2, q1, q2, q3, q4, kP, hkP, hkPi⟩ := Cond.selects_spec hsel
  cases hcls.symm.trans q1
  cases (State.methodFound?_of_named hnamed hy).symm.trans q2
  cases hnamed.symm.trans q3
  have hselP : selectMethod e.platform s.vm cellB.cls mk = .method mk := by rw [Launch.admits_selectMethod X.admits]; exact q4
  obtain ⟨vm₁, X₁, hstep₁⟩ := X.invokevirtual hexec hown hlink hnamed hmethM hstM hkP hkPi hy (a := b) (cell := cellB) hcell
    (fun z h => by rw [h] at hobj; cases hobj) hselP hmethM habM hkP hkPi (g := g) hg (argsL := argsL) (rest := rest) (hlen _ hsigM) hstack hdg
  obtain ⟨v, B, X', hpost, hsteps⟩ := hK m meth c ⟨T.setVm vm₁, locs, cells, slots⟩ { g with stack := rest } (.invokevirtual index) mk (Value.ref b :: argsL).toArray X₁ hg hsize hdg hW (X₁.named hnamed) (hpre vm₁ X₁.warmed)
  exact ⟨v, vm₁, B, X₁.warmed, X', hpost, fun target h => hstep₁ _ fun acts => by rw [doInvoke_state]; exact hsteps.trans h⟩
abbrev vx_CVW (R : Room) (s : State) (args : Array Value) (own C : String) (index : Nat) (y : MethodName) (bytes : ByteArray) (maxL : Nat) (ret : Option FieldType) (hh : List (Nat × Nat × Nat × Nat)) (ws : List Cond) (rm : Room) (mc ms n : Nat) : Prop :=
  (rm.cells = mc ∧ rm.slots = ms ∧ rm.frames + 1 ≤ R.frames ∧ 8 + (maxL + 11) + rm.locals ≤ R.locals ∧ (∀ w ∈ ws, ∀ (a' : Array Value) (U : State), s.WarmedH U.vm → w.before a' U = true) ∧ Cond.codeWith y bytes maxL ret hh ∈ ws) ∧
  (Cond.codeWith y bytes maxL ret hh).before args s = true ∧ (Cond.initialized y.cls).before args s = true ∧ (y.cls ≠ "java/lang/invoke/MethodHandle" ∧ y.cls ≠ "java/lang/invoke/VarHandle") ∧
  (∀ sig, parseMethodDescriptor y.desc = some sig → n = sig.parameters.length) ∧ (Cond.methodLink own index y).before args s = true ∧ (Cond.instanceMethod y).before args s = true ∧ (Cond.selects C y y).before args s = true
theorem vx_cwVW {own C : String} {index maxL mc ms : Nat} {y : MethodName} {bytes : ByteArray} {ret : Option FieldType} {hh : List (Nat × Nat × Nat × Nat)} {Ts ws ws' : List Cond} {rm : Room} (n : Nat) (ht : ∀ w ∈ Ts, w.before args s = true) (hT : GoodIn Ts (wsV own index C y ws)) (hw : ws = Cond.codeWith y bytes maxL ret hh :: ws') (hrc : rm.cells = mc) (hrs : rm.slots = ms)
    (hd : y.cls = C ∧ y.cls ≠ "java/lang/invoke/MethodHandle" ∧ y.cls ≠ "java/lang/invoke/VarHandle" ∧ (parseMethodDescriptor y.desc).map (fun d => d.parameters.length) = some n) (hR : rm.frames + 1 ≤ R.frames ∧ 8 + (maxL + 11) + rm.locals ≤ R.locals) :
    vx_CVW R s args own C index y bytes maxL ret hh ws rm mc ms n := by
  obtain ⟨hC, hd⟩ := hd
  subst hC
  have ok : ∀ w ∈ wsV own index y.cls y ws, w.before args s = true := fun w h => ht w (hT w h).1
  have hG : GoodIn Ts ws := fun w h => hT w (by unfold wsV; exact List.mem_append_right _ h)
  have hc : Cond.codeWith y bytes maxL ret hh ∈ ws := by rw [hw]; exact List.mem_cons_self
  refine ⟨⟨hrc, hrs, hR.1, hR.2, pay_in ht hG, hc⟩, ht _ (hG _ hc).1, ok _ (by simp [wsV]), ⟨hd.1, hd.2.1⟩, fun sig h => ?_, ok _ (by simp [wsV]), ok _ (by simp [wsV]), ok _ (by simp [wsV])⟩
  have h2 := hd.2.2
  rw [h] at h2
  exact (Option.some.inj h2).symm
theorem vx_runVW {y : MethodName} {bytes cc : ByteArray} {maxL nL mc ms n index : Nat} {ret : Option FieldType} {hh : List (Nat × Nat × Nat × Nat)} {ws : List Cond} {rm : Room} {Pc : Array Value → State → Prop} {Qc : Array Value → State → Outcome → State → Prop} {free : Addr → Prop} {Ts : List Cond} {own C : String} {b : Addr} {As rest : List Value} {g : JFrame}
    (S : CallFix p m c cc nL s args Ts own) (hM : Met l y ws rm Pc Qc mc ms free) (cw : vx_CVW R s args own C index y bytes maxL ret hh ws rm mc ms n) (hp : PreV s H C b Pc As)
    (hg : g.method = m) (hn : As.length = n) (hsize : g.locals.size = nL) (hstack : g.stack = As.reverse ++ .ref b :: rest) (hW : 2 * g.monitorRoom + (rest.map fun v => v.category).sum ≤ 8) (hdg : decode cc g.pc = .ok (.invokevirtual index, 3)) (hf : cells + mc ≤ R.cells ∧ slots + ms ≤ R.slots) :
    va_Run p l e R s m args below meth c H locs cells slots mc ms g rest (Qc (Value.ref b :: As).toArray) free := by
  obtain ⟨⟨hrc, hrs, hfr, hlo, hws, hcw⟩, hcode, hini, hy, hlen, hl, hin, hse⟩ := cw
  have hK : Back l R p e below s args y 3 8 (PreOf R mc ms Pc) (PostOf Qc mc ms free) := va_backW (hh := hh) (bytes := bytes) (maxL := maxL) (ret := ret) hM hp.1 hrc hrs hfr hlo hws hcw (fun a' U hW => word_at hW (Or.inl (by first | rfl | simp [Cond.onTables, Cond.keeps, Cond.steady])) hini)
  obtain ⟨hx, hb, hml, ho, -⟩ := S
  obtain ⟨-, ⟨cellB, hcB, hoB, hclB⟩, hPc⟩ := hp
  intro T hT X
  obtain ⟨v, vm₁, ⟨U', l2, c2, s2⟩, hW₁, X', ⟨g', mk, t, L, e1, e2, hq, h1, hL, h2, h3⟩, st⟩ := vx_callVW X hx (C := C) (hh := hh) (bytes := bytes) (maxL := maxL) (ret := ret) ho hl hin hse hcode hy hK (by rw [hT]; exact hcB) hoB hclB hg (hsize.trans hml.symm) (argsL := As) (rest := rest) (fun sig h => hn.trans (hlen sig h)) hstack hW (by rw [hb]; exact hdg)
    (fun vm₁ hW₁ => ⟨hf.1, hf.2, hPc (T.setVm vm₁) hT hW₁⟩)
  dsimp only [Pt.U, Pt.locs, Pt.cells, Pt.slots] at X' e1 e2 h1 h2 h3 st
  subst h1; subst h2; subst h3
  exact ⟨v, (T.setVm vm₁).calling g' mk (Value.ref b :: As).toArray, t, U', L, hT, X', hL, e1, e2, hq, st⟩
section
variable {y : MethodName} {bytes cc : ByteArray} {maxL nL mc ms n index : Nat} {ret : Option FieldType} {ws : List Cond} {rm : Room} {Pc : Array Value → State → Prop} {Qc : Array Value → State → Outcome → State → Prop} {XC : String → State → State → Prop} {free : Addr → Prop} {Ts : List Cond} {own C : String} {b : Addr} {As rest : List Value} {g : JFrame}
theorem vx_runVX {hh : List (Nat × Nat × Nat × Nat)} (S : CallFix p m c cc nL s args Ts own) (hM : vx_Met l y ws rm Pc Qc XC mc ms free) (cw : vx_CVW R s args own C index y bytes maxL ret hh ws rm mc ms n) (hp : PreV s H C b Pc As)
    (hg : g.method = m) (hn : As.length = n) (hsize : g.locals.size = nL) (hstack : g.stack = As.reverse ++ .ref b :: rest) (hW : 2 * g.monitorRoom + (rest.map fun v => v.category).sum ≤ 8) (hdg : decode cc g.pc = .ok (.invokevirtual index, 3)) (hf : cells + mc ≤ R.cells ∧ slots + ms ≤ R.slots) :
    vx_Run p l e R s m args below meth c H locs cells slots mc ms g rest (Qc (Value.ref b :: As).toArray) XC free := by
  obtain ⟨⟨hrc, hrs, hfr, hlo, hws, hcw⟩, hcode, hini, hy, hlen, hl, hin, hse⟩ := cw
  have hK : vx_Back l R p e below s args y 3 8 (PreOf R mc ms Pc) (PostOf Qc mc ms free) (vx_Post XC mc ms free) := vx_backW (hh := hh) (bytes := bytes) (maxL := maxL) (ret := ret) hM hp.1 hrc hrs hfr hlo hws hcw (fun a' U hW => word_at hW (Or.inl (by first | rfl | simp [Cond.onTables, Cond.keeps, Cond.steady])) hini)
  obtain ⟨hx, hb, hml, ho, -⟩ := S
  obtain ⟨-, ⟨cellB, hcB, hoB, hclB⟩, hPc⟩ := hp
  intro T hT X
  rcases vx_callVX X hx (C := C) (hh := hh) (bytes := bytes) (maxL := maxL) (ret := ret) ho hl hin hse hcode hy hK (by rw [hT]; exact hcB) hoB hclB hg (hsize.trans hml.symm) (argsL := As) (rest := rest) (fun sig h => hn.trans (hlen sig h)) hstack hW (by rw [hb]; exact hdg)
    (fun vm₁ hW₁ => ⟨hf.1, hf.2, hPc (T.setVm vm₁) hT hW₁⟩) with ⟨v, vm₁, ⟨U', l2, c2, s2⟩, hW₁, X', ⟨g', mk, t, L, e1, e2, hq, h1, hL, h2, h3⟩, st⟩ | ⟨q, vm₁, ⟨U', l2, c2, s2⟩, hW₁, X', ⟨g', mk, t, L, E, ce, e1, e2, hq, hce, hcv, hcl, h1, hL, h2, h3⟩, st⟩
  · dsimp only [Pt.U, Pt.locs, Pt.cells, Pt.slots] at X' e1 e2 h1 h2 h3 st
    subst h1; subst h2; subst h3
    exact Or.inl ⟨v, (T.setVm vm₁).calling g' mk (Value.ref b :: As).toArray, t, U', L, hT, X', hL, e1, e2, hq, st⟩
  · dsimp only [Pt.U, Pt.locs, Pt.cells, Pt.slots] at X' e1 e2 h1 h2 h3 st hcl
    subst h1; subst h2; subst h3
    exact Or.inr ⟨q, (T.setVm vm₁).calling g' mk (Value.ref b :: As).toArray, t, U', L, E, ce, hT, X', hL, e1, e2, hq, hce, hcv, vx_cls hW₁ hcl, st⟩
theorem vx_runSX {hh : List (Nat × Nat × Nat × Nat)} (S : CallFix p m c cc nL s args Ts own) (hM : vx_Met l y ws rm Pc Qc XC mc ms free) (cw : vx_CSW R s args own index y bytes maxL ret hh ws rm mc ms n) (hp : PreS s H Pc As)
    (hg : g.method = m) (hn : As.length = n) (hsize : g.locals.size = nL) (hstack : g.stack = As.reverse ++ rest) (hW : 2 * g.monitorRoom + (rest.map fun v => v.category).sum ≤ 8) (hdg : decode cc g.pc = .ok (.invokestatic index, 3)) (hf : cells + mc ≤ R.cells ∧ slots + ms ≤ R.slots) :
    vx_Run p l e R s m args below meth c H locs cells slots mc ms g rest (Qc As.toArray) XC free := by
  obtain ⟨⟨hrc, hrs, hfr, hlo, hws, hcw⟩, hcode, hini, hy, hlen, hl, hstt⟩ := cw
  have hK : vx_Back l R p e below s args y 3 8 (PreOf R mc ms Pc) (PostOf Qc mc ms free) (vx_Post XC mc ms free) := vx_backW (hh := hh) (bytes := bytes) (maxL := maxL) (ret := ret) hM hp.1 hrc hrs hfr hlo hws hcw (fun a' U hW => word_at hW (Or.inl (by first | rfl | simp [Cond.onTables, Cond.keeps, Cond.steady])) hini)
  obtain ⟨hx, hb, hml, ho, -⟩ := S
  intro T hT X
  rcases vx_callSX X hx (hh := hh) (bytes := bytes) (maxL := maxL) (ret := ret) ho hl hstt hini hcode hy hK hg (hsize.trans hml.symm) (argsL := As) (rest := rest) (fun sig h => hn.trans (hlen sig h)) hstack hW (by rw [hb]; exact hdg)
    (fun vm₁ hW₁ => ⟨hf.1, hf.2, hp.2 (T.setVm vm₁) hT hW₁⟩) with ⟨v, vm₁, ⟨U', l2, c2, s2⟩, hW₁, X', ⟨g', mk, t, L, e1, e2, hq, h1, hL, h2, h3⟩, st⟩ | ⟨q, vm₁, ⟨U', l2, c2, s2⟩, hW₁, X', ⟨g', mk, t, L, E, ce, e1, e2, hq, hce, hcv, hcl, h1, hL, h2, h3⟩, st⟩
  · dsimp only [Pt.U, Pt.locs, Pt.cells, Pt.slots] at X' e1 e2 h1 h2 h3 st
    subst h1; subst h2; subst h3
    exact Or.inl ⟨v, (T.setVm vm₁).calling g' mk As.toArray, t, U', L, hT, X', hL, e1, e2, hq, st⟩
  · dsimp only [Pt.U, Pt.locs, Pt.cells, Pt.slots] at X' e1 e2 h1 h2 h3 st hcl
    subst h1; subst h2; subst h3
    exact Or.inr ⟨q, (T.setVm vm₁).calling g' mk As.toArray, t, U', L, E, ce, hT, X', hL, e1, e2, hq, hce, hcv, vx_cls hW₁ hcl, st⟩
end
end VXH
theorem vx_ofWH {l : Launch} {y : MethodName} {ws ws' : List Cond} {rm : Room} {Pc : Array Value → State → Prop} {Qc : Array Value → State → Outcome → State → Prop} {XC : String → State → State → Prop} {mc ms : Nat} {free : Addr → Prop} {cc : ByteArray} {maxL : Nat} {ret : Option FieldType} {hh : List (Nat × Nat × Nat × Nat)}
    (hy : plainName y.cls = true) (hw : ws = Cond.codeWith y cc maxL ret hh :: ws')
    (body : ∀ p e s m args below meth c s₁, BodyLoose p l y (headSpec ws rm) cc maxL ret e s m args below meth c s₁ → c.maxLocals = maxL → Pc args s →
      W p l e (headSpec ws rm).room s m args below meth c s.heap [] 0 0 (vx_MQ below Qc XC args s mc ms free) (entryFrame m args maxL)) : vx_Met l y ws rm Pc Qc XC mc ms free := by
  refine MetFree.of_bodyS (code := cc) (maxLocals := maxL) (ret := ret) hy ?_ ?_
  · intro args s m h hn
    obtain ⟨m9, meth, c, hn9, h1, h2, h3, h4, -, h5, h6, -⟩ := Cond.codeWith_spec (atoms_spec (ws := ws) h _ (by rw [hw]; exact List.mem_cons_self))
    cases hn.symm.trans hn9
    exact ⟨meth, c, h1, h2, h3, h4, h5, h6⟩
  · intro p e s m args below meth c s₁ B hml hP _
    have hh0 : s₁.heap = s.heap := by rw [B.state]; rfl
    obtain ⟨t, a1, o, b1, b2, b3⟩ := body p e s m args below meth c s₁ B hml hP s₁ hh0 (Stand.of_body B)
    exact ⟨t, o, a1, b1, b2, b3⟩
/-! ===== END ===== -/

/-! ===== BEGIN what the machine throws by itself, no traces kept ===== -/
section VXM
set_option maxHeartbeats 1000000 in
/-- the machine throws cls with the message text, no traces kept: from its note over the frame g to 'throwing' over the same frame (follows the proofs of Stand.vmThrowsMessage, Shelf/KitTracedVmS.lean, and Stand.throwsMessageColdBareV, StandMessageColdV.lean, without the step out of the frame) -/
theorem vx_vmAt {p : Program} {l : Launch} {e : Env} {R : Room} {s : State} {m₀ : MethodId} {args : Array Value} {below : List Frame} {meth : Method} {c : Code} {W : State} {locs : List Loc} {cells slots : Nat}
    (X : Stand p l e R s m₀ args below meth c W locs cells slots) (hexec : p.tables.exec = Jvm.exec) (htr : e.platform.stackTraces = false) {cls : String} {names : List String} {text : String}
    (hcls : Bundle.fit cls = true) (hnames : ∀ n ∈ names, Bundle.fit n = true) (hsoe : (cls == "java/lang/StackOverflowError") = false) (hoom : (cls == "java/lang/OutOfMemoryError") = false)
    (h : ∀ a ∈ Bundle.messageArmAtoms cls names, a.before args s = true)
    (hlocs : ∀ x ∈ locs, ∀ cell, s.heap[x.base]? = some cell → cell.vm.isStatics = false)
    (htext : (text == notModelled) = false) (hlimit : ¬ (stringBytes (stringToUtf16 text)).size > e.platform.arrayLengthLimit) (hheap : ¬ (stringBytes (stringToUtf16 text)).size * componentBytes .byte > e.platform.maxHeapBytes)
    {g : JFrame} (hg : g.method = m₀) (hsize : g.locals.size = c.maxLocals)
    (hRframes : names.length + 4 < R.frames) (hRlocals : 2 * g.monitorRoom + (g.stack.map fun v => v.category).sum + 10240 ≤ R.locals) (hshort : 13 * names.length + 55 ≤ 10240)
    (hRcells : cells + 3 ≤ R.cells) (hRslots : slots + ((stringBytes (stringToUtf16 text)).size + 4 + 6) ≤ R.slots) (hlocks : meth.locks = false) :
    ∃ (S : State) (q : Addr) (ce : Cell), (∀ target, Steps p.tables e below ((S.setTop g).pushFrame (.throwing q)) target → Steps p.tables e below ((W.setTop g).pushFrame (.throwNew cls (some text) none)) target) ∧
      Stand p l e R s m₀ args below meth c S locs (cells + 3) (slots + ((stringBytes (stringToUtf16 text)).size + 4 + 6)) ∧ S.heap[q]? = some ce ∧ s.vm.findClass cls = some ce.cls ∧ ce.vm = .none := by
  have howns : e.platform.frameOwnsMonitors = true := by rw [X.admits.platform]
  have hfin : e.platform.finalization = false := by rw [X.admits.platform]
  have hpl : e.platform.magicAccessors = ({} : Platform).magicAccessors := by rw [X.admits.platform]
  have a : ∀ x, x ∈ Bundle.messageArmAtoms cls names → x.holds args s none s [] = true := fun x hx => h x hx
  obtain ⟨T, Z0, L, -, Y⟩ := ThrowableC.of_atoms (args := args) howns hfin hpl (fun x hx => h x (by simp [Bundle.messageArmAtoms, hx]))
  obtain ⟨Z, M, LZ, LM, hnZ⟩ := Init0T.ofS_atoms (args := args) hpl L Y (fun x hx => h x (by simp [Bundle.messageArmAtoms, hx]))
  obtain ⟨P1, Ps, hlen, L1, hL, hP1m, hlink1, hlink⟩ := Bundle.chainS (args := args) hpl hnZ names cls hcls hnames (fun x hx => h x (by simp [Bundle.messageArmAtoms, hx]))
  obtain ⟨Zs, LZs, hn4, hfitv, hfitc⟩ := StringT.of_atoms (args := args) (fun x hx => h x (by simp [Bundle.messageArmAtoms, hx]))
  have hfound : s.vm.findClass cls = some P1.m.cls := findClass_of_methodNamed hP1m
  obtain ⟨c1, kX, hc1, hk, hord, -, -, hn6⟩ := Cond.instantiable_spec (a (.instantiable cls 6) (by simp [Bundle.messageArmAtoms]))
  cases Option.some.inj (hc1.symm.trans hfound)
  have hinit := Cond.initialized_spec hfound hk (a (.initialized cls) (by simp [Bundle.messageArmAtoms]))
  have hctor : kX.findMethod "<init>" "(Ljava/lang/String;)V" = some P1.m.idx := findMethod_of_methodNamed hP1m hk
  have hsel0 : selectMethod e.platform s.vm P1.m.cls T.fill0 = .method T.fill0 := by
    obtain ⟨c2, r2, m2, q1, q2, q3, q4, -⟩ := Cond.selects_spec (a (.selects cls Bundle.tFill0 Bundle.tFill0) (by simp [Bundle.messageArmAtoms]))
    cases Option.some.inj (q1.symm.trans hfound)
    cases Option.some.inj (q2.symm.trans (State.methodFound?_of_named Y.fill0 (by decide)))
    cases Option.some.inj (q3.symm.trans Y.fill0)
    rw [Launch.admits_selectMethod X.admits]; exact q4
  have hselF : selectMethod e.platform s.vm P1.m.cls T.fill = .method T.fill := by
    obtain ⟨c2, r2, m2, q1, q2, q3, q4, -⟩ := Cond.selects_spec (a (.selects cls Bundle.tFill Bundle.tFill) (by simp [Bundle.messageArmAtoms]))
    cases Option.some.inj (q1.symm.trans hfound)
    cases Option.some.inj (q2.symm.trans (State.methodFound?_of_named Y.fill (by decide)))
    cases Option.some.inj (q3.symm.trans Y.fill)
    rw [Launch.admits_selectMethod X.admits]; exact q4
  obtain ⟨cellS0, hcS0, hiss⟩ := Y.statics
  obtain ⟨u0, hu0⟩ := Cond.staticRefV Y.unassigned L.unassignedStatic L.statics hcS0 hiss (a (.isRef (.static Bundle.tN "UNASSIGNED_STACK" Bundle.steD)) (by simp [Bundle.messageArmAtoms]))
  obtain ⟨sen, hsen⟩ := Cond.staticRefV Y.sentinel L.sentinelStatic L.statics hcS0 hiss (a (.isRef (.static Bundle.tN "SUPPRESSED_SENTINEL" Bundle.listD)) (by simp [Bundle.messageArmAtoms]))
  obtain ⟨ci198, i198, fB, hk198, hg198, ha198, hsB, -, hnB, htB, hffB⟩ := Cond.ownField (t := .object "java/lang/Object") Y.found L.cls (by decide +kernel) (a (.fieldLink Bundle.tN 198 Bundle.tN "backtrace" "Ljava/lang/Object;") (by simp [Bundle.messageArmAtoms])) (a (.lays Bundle.tN Bundle.tN "backtrace" "Ljava/lang/Object;") (by simp [Bundle.messageArmAtoms])) e.platform hpl
  obtain ⟨cellS, hcS', heS, -, hkeep⟩ := X.same.2.2.2.2.2 T.aS cellS0 hcS0
  have hcellS : W.heap[T.aS]? = some cellS := hcS'
  have hout' : ∀ i, (⟨T.aS, i⟩ : Loc) ∉ locs := fun i hmem => by
    have := hlocs _ hmem cellS0 hcS0
    rw [hiss] at this; cases this
  have hknownS : cellS.vm ≠ .unknown := by
    rw [heS]; intro hu
    rw [show cellS0.vm = .unknown from hu] at hiss
    cases hiss
  have hvU : cellS.slots[T.fUnassigned.slot]? = some u0.v := by rw [hkeep _ (hout' _)]; exact hu0
  have hvSen : cellS.slots[T.fSentinel.slot]? = some sen.v := by rw [hkeep _ (hout' _)]; exact hsen
  obtain ⟨iM, hffM⟩ := Y.msg
  obtain ⟨tyC, dC, hdC, hdnC⟩ := Cond.laysAt hfound hk Y.cause (a (.lays cls Bundle.tN "cause" "Ljava/lang/Throwable;") (by simp [Bundle.messageArmAtoms]))
  obtain ⟨tyS, dS, hdS, hdnS⟩ := Cond.laysAt hfound hk Y.stack (a (.lays cls Bundle.tN "stackTrace" Bundle.steD) (by simp [Bundle.messageArmAtoms]))
  obtain ⟨tyP, dP, hdP, hdnP⟩ := Cond.laysAt hfound hk Y.supp (a (.lays cls Bundle.tN "suppressedExceptions" Bundle.listD) (by simp [Bundle.messageArmAtoms]))
  obtain ⟨tyM, dM, hdM, hdnM⟩ := Cond.laysAt hfound hk hffM (a (.lays cls Bundle.tN "detailMessage" "Ljava/lang/String;") (by simp [Bundle.messageArmAtoms]))
  obtain ⟨tyB, dB, hdB, hdnB⟩ := Cond.laysAt hfound hk hffB (a (.lays cls Bundle.tN "backtrace" "Ljava/lang/Object;") (by simp [Bundle.messageArmAtoms]))
  have bC := Cond.laysApart hdB hdC hdnB hdnC (by rw [hnB, Y.causeName]; decide)
  have bS := Cond.laysApart hdB hdS hdnB hdnS (by rw [hnB, Y.stackName]; decide)
  have bP := Cond.laysApart hdB hdP hdnB hdnP (by rw [hnB, Y.suppName]; decide)
  have hbk : ((preparedCellV T.toThrowableT (freshCell P1.m.cls kX) (W.heap.size + 2) u0 sen).withEntry W.cur).slots[fB.slot]? = some .null := by
    have := fresh_default (c := P1.m.cls) tyB
    rw [htB] at this
    simpa [preparedCellV, Cell.setSlot, Cell.withEntry, Array.getElem?_setIfInBounds, bC, bS, bP, bC.symm, bS.symm, bP.symm, defaultValue] using this
  have tkC := Takes.of_laid (v := .ref (W.heap.size + 2)) hk hord tyC (by rw [Y.causeType]; rfl)
  have tkS := Takes.of_laid (v := u0.v) hk hord tyS (by rw [Y.stackType]; exact fits_refV_array _ u0)
  have tkP := Takes.of_laid (v := sen.v) hk hord tyP (by rw [Y.suppType]; exact fits_refV_object _ sen)
  have tkM := Takes.of_laid (v := .ref (W.heap.size + 1)) hk hord tyM (by rw [Y.msgType]; rfl)
  have hskip : SkipFacts T e.platform s (fun u => u) u0 ((preparedCellV T.toThrowableT (freshCell P1.m.cls kX) (W.heap.size + 2) u0 sen).withEntry W.cur) := ⟨{ ci198 := ci198, i198 := i198, fBack := fB }, ⟨hk198, hg198, ha198, hsB⟩, hbk, fun _ _ => rfl⟩
  have h0 : At W g.method c below := by rw [hg]; exact X.here
  obtain ⟨hbeyond, hfreeW⟩ := X.vmMayThrow hsize (.throwNew cls (some text) none) (fun f hf => by cases hf) rfl hRlocals
  have hfr' : W.frames.length + Ps.length + 4 < (e.platform.stackLimits W.me).1 := by have := X.framesAbove hRframes; omega
  have hwd' : (stackUse (.java g :: W.frames.tail)).2 + 13 * Ps.length + 55 ≤ (e.platform.stackLimits W.me).2 := by have := X.stackAbove hsize (K := 13 * Ps.length + 55) (by omega); omega
  have hslots : W.slotsUsed + (stringBytes (stringToUtf16 text)).size + Zs.kS.instanceTypes.size + kX.instanceTypes.size ≤ e.platform.maxSlots := by
    have := X.slotsAbove hRslots
    rw [hn4, hn6]
    omega
  obtain ⟨vm', hW', st⟩ := Steps.vmThrowsMessageColdByV p (s₀ := s) (S := W) (g := g) h0 hexec T L Z LZ M LM X.warmed (t := W.cur) rfl Zs LZs P1 L1 Ps hL hlink1 hlink hsoe hoom hfound hk hinit hord hctor
    (Launch.admits_hotImplicitExceptions X.admits) hbeyond hfreeW htext hlimit hheap (X.cellsAbove hRcells) hslots (hfitv _) (hfitc _)
    (Nn := fun u => u) heapOnly_id (fun _ _ => rfl) (fun _ => rfl) (fun u x y => setCell_twice _ _ _ _) (fun _ => Nat.le_refl _) (cN := ((preparedCellV T.toThrowableT (freshCell P1.m.cls kX) (W.heap.size + 2) u0 sen).withEntry W.cur))
    hsel0 hcellS hknownS hvU tkS (fun _ hu => hu) (fun _ hu => hu) rfl rfl rfl (by simp [preparedCellV, Cell.setSlot, Cell.withEntry]) hskip (fun _ _ hA hW _ hroom _ hrest => L.nativeOff p htr hA hW hroom hrest) hselF hvSen tkC tkP tkM Y.objLocals rfl hfr' hwd'
  rw [plainBareV_eq T.toThrowableT (W.heap.size + 2) u0 sen (.ref (W.heap.size + 1)) W.cur rfl rfl] at st
  obtain ⟨-, -, w3, w4, -, -, -⟩ := withThrown_facts e.platform W Zs text P1.m.cls kX
  have X3 := ((X.pushed (bytesOf Zs.cB (stringToUtf16 text))).pushed (stringAt Zs.cS Zs.kS Zs.fv Zs.fc (stringToUtf16 text) W.heap.size)).pushed (freshCell P1.m.cls kX)
  rw [← withString_eq] at X3
  have X4 := X3.noted hW'
  have ha : (W.heap.size + 2) < ((withThrown W Zs text P1.m.cls kX).setVm vm').heap.size := by show _ < (withThrown W Zs text P1.m.cls kX).heap.size; rw [w3]; omega
  have hcell : ((withThrown W Zs text P1.m.cls kX).setVm vm').heap[(W.heap.size + 2)]? = some (freshCell P1.m.cls kX) := w4
  have X5 := ((((X4.stored hcell T.fCause.slot (.ref (W.heap.size + 2))).storedAgain ha T.fStack.slot u0.v).storedAgain ha T.fSupp.slot sen.v).storedAgain ha T.fStack.slot u0.v).storedAgain ha T.fMsg.slot (.ref (W.heap.size + 1))
  obtain ⟨g₁, hfrM⟩ := X5.frames_eq
  have hU : ((((withThrown W Zs text P1.m.cls kX).setVm vm').setCell (W.heap.size + 2) (plainBareV T.toThrowableT (freshCell P1.m.cls kX) (W.heap.size + 2) u0 sen (.ref (W.heap.size + 1)))).setTop g).pushFrame (.throwing (W.heap.size + 2)) = (((withThrown W Zs text P1.m.cls kX).setVm vm').setCell (W.heap.size + 2) (plainBareV T.toThrowableT (freshCell P1.m.cls kX) (W.heap.size + 2) u0 sen (.ref (W.heap.size + 1)))).setFrames (.throwing (W.heap.size + 2) :: .java g :: below) := by
    rw [State.pushFrame, State.frames_setTop _ hfrM, State.setTop_of_frames _ hfrM, State.setFrames_setFrames]
  have b1 : (bytesOf Zs.cB (stringToUtf16 text)).slots.size = (stringBytes (stringToUtf16 text)).size := by
    rw [(Cell.writeAll_facts _ _).2.2]; simp [bytes0]
  have b2 : (stringAt Zs.cS Zs.kS Zs.fv Zs.fc (stringToUtf16 text) W.heap.size).slots.size = 4 := by simp [string0, Cell.setSlot, hn4]
  have b3 : (freshCell P1.m.cls kX).slots.size = 6 := by simp [hn6]
  rw [b1, b2, b3] at X5
  have e9 : slots + (stringBytes (stringToUtf16 text)).size + 4 + 6 = slots + ((stringBytes (stringToUtf16 text)).size + 4 + 6) := by omega
  rw [e9] at X5
  simp only [List.append_assoc, List.cons_append, List.nil_append] at X5
  refine ⟨((withThrown W Zs text P1.m.cls kX).setVm vm').setCell (W.heap.size + 2) (plainBareV T.toThrowableT (freshCell P1.m.cls kX) (W.heap.size + 2) u0 sen (.ref (W.heap.size + 1))), W.heap.size + 2, _, fun target ht => st _ (by rw [X.tail, ← hU]; exact ht),
    X5.forget (fun y hy => ?_), heapAt_setCell_self _ ha, hfound, rfl⟩
  simp only [List.mem_cons, List.not_mem_nil, or_false] at hy
  have hge : s.heap.size ≤ W.heap.size := X.same.2.1
  rcases hy with rfl | rfl | rfl | rfl | rfl <;> exact Nat.le_trans hge (Nat.le_add_right _ 2)
set_option maxHeartbeats 1000000 in
/-- the machine throws NullPointerException, no traces kept: from its note over the frame g to 'throwing' over the same frame (follows the proof of Stand.vmThrowsNpe, Shelf42/KT2.lean; throwsNpeColdBareVAt, Shelf42/NT91.lean, called) -/
theorem vx_npeAt {p : Program} {l : Launch} {e : Env} {R : Room} {s : State} {m₀ : MethodId} {args : Array Value} {below : List Frame} {meth : Method} {c : Code} {W : State} {locs : List Loc} {cells slots : Nat}
    (X : Stand p l e R s m₀ args below meth c W locs cells slots) (hexec : p.tables.exec = Jvm.exec) (htr : e.platform.stackTraces = false) {n : Nat}
    (h : ∀ a ∈ Bundle.npeArmAtoms n, a.before args s = true)
    (hlocs : ∀ x ∈ locs, ∀ cell, s.heap[x.base]? = some cell → cell.vm.isStatics = false)
    {g : JFrame} (hg : g.method = m₀) (hsize : g.locals.size = c.maxLocals)
    (hRframes : 7 < R.frames) (hRlocals : 2 * g.monitorRoom + (g.stack.map fun v => v.category).sum + 10240 ≤ R.locals)
    (hRcells : cells + 1 ≤ R.cells) (hRslots : slots + n ≤ R.slots) (hlocks : meth.locks = false) :
    ∃ (S : State) (q : Addr) (ce : Cell), (∀ target, Steps p.tables e below ((S.setTop g).pushFrame (.throwing q)) target → Steps p.tables e below ((W.setTop g).pushFrame (.throwNew "java/lang/NullPointerException" none none)) target) ∧
      Stand p l e R s m₀ args below meth c S locs (cells + 1) (slots + n) ∧ S.heap[q]? = some ce ∧ s.vm.findClass "java/lang/NullPointerException" = some ce.cls ∧ ce.vm = .none := by
  have howns : e.platform.frameOwnsMonitors = true := by rw [X.admits.platform]
  have hfin : e.platform.finalization = false := by rw [X.admits.platform]
  have hpl : e.platform.magicAccessors = ({} : Platform).magicAccessors := by rw [X.admits.platform]
  have hpl2 : e.platform.arrayCloneIsPublic = true := by rw [X.admits.platform]
  have a' : ∀ x, x ∈ Bundle.npeArmAtoms n → x.holds args s none s [] = true := fun x hx => h x hx
  obtain ⟨T, Z, L, LZ, Y⟩ := ThrowableC.of_atoms (args := args) howns hfin hpl (fun x hx => h x (by simp [Bundle.npeArmAtoms, hx]))
  obtain ⟨N, LN, hcN, hnNF, hordN, hffS⟩ := NpeC.of_atoms (args := args) hpl hpl2 L Y (fun x hx => h x (by simp [Bundle.npeArmAtoms, hx]))
  obtain ⟨P1, L1, hP1m, hP1s⟩ := PassC.of_atoms (args := args) (s := s) hpl (X := Bundle.nN) (Y := Bundle.rN) (by decide) (by decide) LibCode.NullPointerException.Init0.at_0 LibCode.NullPointerException.Init0.at_1 LibCode.NullPointerException.Init0.at_4 (fun x hx => h x (by simp [Bundle.npeArmAtoms, hx]))
  obtain ⟨PR, LR, hPRm, hPRs⟩ := PassC.of_atoms (args := args) (s := s) hpl (X := Bundle.rN) (Y := Bundle.eN) (by decide) (by decide) LibCode.RuntimeException.Init0.at_0 LibCode.RuntimeException.Init0.at_1 LibCode.RuntimeException.Init0.at_4 (fun x hx => h x (by simp [Bundle.npeArmAtoms, hx]))
  obtain ⟨PE, LEx, hPEm, hPEs⟩ := PassC.of_atoms (args := args) (s := s) hpl (X := Bundle.eN) (Y := Bundle.tN) (by decide) (by decide) LibCode.Exception.Init0.at_0 LibCode.Exception.Init0.at_1 LibCode.Exception.Init0.at_4 (fun x hx => h x (by simp [Bundle.npeArmAtoms, hx]))
  have hfound : s.vm.findClass Bundle.nN = some P1.m.cls := findClass_of_methodNamed hP1m
  have ecls : N.cN = P1.m.cls := Option.some.inj (hcN.symm.trans hfound)
  have hk : s.vm.classes[P1.m.cls]? = some N.kN := by rw [← ecls]; exact LN.cls
  have hinit := Cond.initialized_spec hfound hk (a' (.initialized Bundle.nN) (by simp [Bundle.npeArmAtoms]))
  have hctor : N.kN.findMethod "<init>" "()V" = some P1.m.idx := findMethod_of_methodNamed hP1m hk
  obtain ⟨c1, k1, hc1, hk1, -, -, -, hn⟩ := Cond.instantiable_spec (a' (.instantiable Bundle.nN n) (by simp [Bundle.npeArmAtoms]))
  cases Option.some.inj (hc1.symm.trans hfound)
  cases Option.some.inj (hk1.symm.trans hk)
  have hfsz : (freshCell P1.m.cls N.kN).slots.size = n := by simp [hn]
  have hlink1 : P1.sup = PR.m := Option.some.inj (hP1s.symm.trans hPRm)
  have hlinkR : PR.sup = PE.m := Option.some.inj (hPRs.symm.trans hPEm)
  have hlinkE : PE.sup = Z.m T.toThrowableT := Option.some.inj (hPEs.symm.trans Y.init0)
  have hLs : ∀ P, P ∈ [PR, PE] → P.Links0 e.platform s := fun P hP => by
    simp only [List.mem_cons, List.not_mem_nil, or_false] at hP
    rcases hP with rfl | rfl
    · exact LR
    · exact LEx
  have hsel0 : selectMethod e.platform s.vm P1.m.cls T.fill0 = .method T.fill0 := by
    obtain ⟨c2, r2, m2, q1, q2, q3, q4, -⟩ := Cond.selects_spec (a' (.selects Bundle.nN Bundle.tFill0 Bundle.tFill0) (by simp [Bundle.npeArmAtoms]))
    cases Option.some.inj (q1.symm.trans hfound)
    cases Option.some.inj (q2.symm.trans (State.methodFound?_of_named Y.fill0 (by decide)))
    cases Option.some.inj (q3.symm.trans Y.fill0)
    rw [Launch.admits_selectMethod X.admits]; exact q4
  have hselF : selectMethod e.platform s.vm P1.m.cls T.fill = .method N.fill := by
    obtain ⟨c2, r2, m2, q1, q2, q3, q4, -⟩ := Cond.selects_spec (a' (.selects Bundle.nN Bundle.tFill Bundle.nFill) (by simp [Bundle.npeArmAtoms]))
    cases Option.some.inj (q1.symm.trans hfound)
    cases Option.some.inj (q2.symm.trans (State.methodFound?_of_named Y.fill (by decide)))
    cases Option.some.inj (q3.symm.trans hnNF)
    rw [Launch.admits_selectMethod X.admits]; exact q4
  obtain ⟨cellS0, hcS0, hiss⟩ := Y.statics
  obtain ⟨u0, hu0⟩ := Cond.staticRefV Y.unassigned L.unassignedStatic L.statics hcS0 hiss (a' (.isRef (.static Bundle.tN "UNASSIGNED_STACK" Bundle.steD)) (by simp [Bundle.npeArmAtoms]))
  obtain ⟨sen, hsen⟩ := Cond.staticRefV Y.sentinel L.sentinelStatic L.statics hcS0 hiss (a' (.isRef (.static Bundle.tN "SUPPRESSED_SENTINEL" Bundle.listD)) (by simp [Bundle.npeArmAtoms]))
  obtain ⟨ci198, i198, fB, hk198, hg198, ha198, hsB, -, hnB, htB, hffB⟩ := Cond.ownField (t := .object "java/lang/Object") Y.found L.cls (by decide +kernel) (a' (.fieldLink Bundle.tN 198 Bundle.tN "backtrace" Bundle.objD) (by simp [Bundle.npeArmAtoms])) (a' (.lays Bundle.tN Bundle.tN "backtrace" Bundle.objD) (by simp [Bundle.npeArmAtoms])) e.platform hpl
  obtain ⟨cellS, hcS', heS, -, hkeep⟩ := X.same.2.2.2.2.2 T.aS cellS0 hcS0
  have hcellS : W.heap[T.aS]? = some cellS := hcS'
  have hout' : ∀ i, (⟨T.aS, i⟩ : Loc) ∉ locs := fun i hmem => by
    have := hlocs _ hmem cellS0 hcS0
    rw [hiss] at this; cases this
  have hknownS : cellS.vm ≠ .unknown := by
    rw [heS]; intro hu
    rw [show cellS0.vm = .unknown from hu] at hiss
    cases hiss
  have hvU : cellS.slots[T.fUnassigned.slot]? = some u0.v := by rw [hkeep _ (hout' _)]; exact hu0
  have hvSen : cellS.slots[T.fSentinel.slot]? = some sen.v := by rw [hkeep _ (hout' _)]; exact hsen
  obtain ⟨tyC, dC, hdC, hdnC⟩ := Cond.laysAt hfound hk Y.cause (a' (.lays Bundle.nN Bundle.tN "cause" "Ljava/lang/Throwable;") (by simp [Bundle.npeArmAtoms]))
  obtain ⟨tyS, dS, hdS, hdnS⟩ := Cond.laysAt hfound hk Y.stack (a' (.lays Bundle.nN Bundle.tN "stackTrace" Bundle.steD) (by simp [Bundle.npeArmAtoms]))
  obtain ⟨tyP, dP, hdP, hdnP⟩ := Cond.laysAt hfound hk Y.supp (a' (.lays Bundle.nN Bundle.tN "suppressedExceptions" Bundle.listD) (by simp [Bundle.npeArmAtoms]))
  obtain ⟨tyX, dX, hdX, hdnX⟩ := Cond.laysAt hfound hk hffS (a' (.lays Bundle.nN Bundle.nN "extendedMessageState" "I") (by simp [Bundle.npeArmAtoms, Bundle.npeAtoms]))
  obtain ⟨hnX, htX⟩ := State.fieldFound?_type hffS (t := .int) (by decide +kernel)
  have xC := Cond.laysApart hdC hdX hdnC hdnX (by rw [hnX, Y.causeName]; decide)
  have xS := Cond.laysApart hdS hdX hdnS hdnX (by rw [hnX, Y.stackName]; decide)
  have xP := Cond.laysApart hdP hdX hdnP hdnX (by rw [hnX, Y.suppName]; decide)
  have hv0 : (freshCell P1.m.cls N.kN).slots[N.fState.slot]? = some (.int 0) := by
    have := fresh_default (c := P1.m.cls) tyX
    rw [htX] at this; exact this
  obtain ⟨tyB, dB, hdB, hdnB⟩ := Cond.laysAt hfound hk hffB (a' (.lays Bundle.nN Bundle.tN "backtrace" Bundle.objD) (by simp [Bundle.npeArmAtoms]))
  have bC := Cond.laysApart hdB hdC hdnB hdnC (by rw [hnB, Y.causeName]; decide)
  have bS := Cond.laysApart hdB hdS hdnB hdnS (by rw [hnB, Y.stackName]; decide)
  have bP := Cond.laysApart hdB hdP hdnB hdnP (by rw [hnB, Y.suppName]; decide)
  have bX := Cond.laysApart hdB hdX hdnB hdnX (by rw [hnB, hnX]; decide)
  have hbk : ((npeCell N.toNpeT (preparedCellV T.toThrowableT (freshCell P1.m.cls N.kN) W.heap.size u0 sen) W.cur).withEntry W.cur).slots[fB.slot]? = some .null := by
    have := fresh_default (c := P1.m.cls) tyB
    rw [htB] at this
    simpa [npeCell, preparedCellV, Cell.setSlot, Cell.withEntry, Array.getElem?_setIfInBounds, bC, bS, bP, bX, bC.symm, bS.symm, bP.symm, bX.symm, defaultValue] using this
  have tkC := Takes.of_laid (v := .ref W.heap.size) hk hordN tyC (by rw [Y.causeType]; rfl)
  have tkS := Takes.of_laid (v := u0.v) hk hordN tyS (by rw [Y.stackType]; exact fits_refV_array _ u0)
  have tkP := Takes.of_laid (v := sen.v) hk hordN tyP (by rw [Y.suppType]; exact fits_refV_object _ sen)
  have tkX := Takes.of_laid (v := .int 1) hk hordN tyX (by rw [htX]; rfl)
  have hskip : SkipFacts T e.platform s (fun u => u) u0 ((npeCell N.toNpeT (preparedCellV T.toThrowableT (freshCell P1.m.cls N.kN) W.heap.size u0 sen) W.cur).withEntry W.cur) := ⟨{ ci198 := ci198, i198 := i198, fBack := fB }, ⟨hk198, hg198, ha198, hsB⟩, hbk, fun _ _ => rfl⟩
  obtain ⟨vm', X3, st, -⟩ := X.throwsNpeColdBareVAt hexec hg hsize T L Z LZ N LN P1 L1 [PR, PE] hLs hlink1 ⟨hlinkR, hlinkE, trivial⟩ hfound hk hinit hordN hctor hsel0 hselF hcellS hknownS hvU hvSen
    hv0 xC xS xP tkC tkS tkP tkX Y.objLocals hskip (fun _ _ hA hW _ hroom _ hrest => L.nativeOff p htr hA hW hroom hrest) (by simpa using hRframes) hRlocals (by simp) hRcells (by rw [hn]; exact hRslots)
  have hlt : W.heap.size < ((W.pushCell (freshCell P1.m.cls N.kN)).setVm vm').heap.size := by
    show W.heap.size < (W.pushCell (freshCell P1.m.cls N.kN)).heap.size
    rw [State.heap_size_pushCell]; omega
  rw [hfsz] at X3
  obtain ⟨g₁, hfrM⟩ := X3.frames_eq
  have hU : ((((W.pushCell (freshCell P1.m.cls N.kN)).setVm vm').setCell W.heap.size (npeBareV T.toThrowableT N.toNpeT (freshCell P1.m.cls N.kN) W.heap.size u0 sen)).setTop g).pushFrame (.throwing W.heap.size) = (((W.pushCell (freshCell P1.m.cls N.kN)).setVm vm').setCell W.heap.size (npeBareV T.toThrowableT N.toNpeT (freshCell P1.m.cls N.kN) W.heap.size u0 sen)).setFrames (.throwing W.heap.size :: .java g :: below) := by
    rw [State.pushFrame, State.frames_setTop _ hfrM, State.setTop_of_frames _ hfrM, State.setFrames_setFrames]
  refine ⟨_, W.heap.size, _, fun target ht => st.trans (by rw [← hU]; exact ht), X3.forget (fun y hy => ?_), heapAt_setCell_self _ hlt, hfound, rfl⟩
  simp only [List.mem_cons, List.not_mem_nil, or_false] at hy
  have hge : s.heap.size ≤ W.heap.size := X.same.2.1
  rcases hy with rfl | rfl | rfl | rfl | rfl <;> exact hge
/-- the words of a machine's NullPointerException, but the four that speak of the heap -/
def vx_atN (n : Nat) : List Cond := (Bundle.npeArmAtoms n).filter vx_no
/-- the words of a machine's throw with a message, but the four that speak of the heap -/
def vx_atM (X : String) (names : List String) : List Cond := (Bundle.messageArmAtoms X names).filter vx_no
section
variable {p : Program} {l : Launch} {e : Env} {R : Room} {s : State} {m : MethodId} {args : Array Value} {below : List Frame} {meth : Method} {c : Code} {H : Heap} {locs : List Loc} {cells slots : Nat}
/-- a frame seen from a rebased start, seen from the first start again -/
theorem vx_back9 {T S : State} {R' : Room} {k n : Nat} (X : Stand p l e R s m args below meth c T locs cells slots) (Y : Stand p l e R' ((T.setVm s.vm).setFrames (.invoking m args :: below)) m args below meth c T [] 0 0) (Z : Stand p l e R' ((T.setVm s.vm).setFrames (.invoking m args :: below)) m args below meth c S [] k n) :
    Stand p l e R s m args below meth c S locs (cells + k) (slots + n) := by
  have hW0 : s.WarmedH ((T.setVm s.vm).setFrames (.invoking m args :: below)).vm := State.WarmedH.refl s
  refine { admits := X.admits, cas := X.cas, clock := X.clock, frames := X.frames, room := X.room, hears := X.hears, method := X.method, code := X.code, here := Z.here, tail := Z.tail, warmed := State.WarmedH.trans hW0 Z.warmed, limits := Z.limits.trans (Y.limits.symm.trans X.limits), bytes := Z.bytes.trans (Y.bytes.symm.trans X.bytes), same := ?_ }
  obtain ⟨e1, e2⟩ := Z.same
  rw [State.setFrames_setFrames] at e1
  have h2 : (T.setVm s.vm).sameButNew (S.setVm s.vm) [] k n := ⟨e1, e2⟩
  have h3 := X.same.trans h2
  rw [List.append_nil] at h3
  exact h3
/-- from the machine's note that E is thrown here with this text -/
def vx_Note (p : Program) (l : Launch) (e : Env) (R : Room) (s : State) (m : MethodId) (args : Array Value) (below : List Frame) (meth : Method) (c : Code) (H : Heap) (locs : List Loc) (cells slots : Nat) (Q : State → Prop) (g : JFrame) (E text : String) : Prop :=
  ∀ T : State, T.heap = H → Stand p l e R s m args below meth c T locs cells slots → ∃ t, Steps p.tables e below ((T.setTop g).pushFrame (.throwNew E (some text) none)) t ∧ Q t
theorem vx_vm {pc : Nat} {ls : Array Slot} {rest : List Value} {Q : State → Prop} (hexec : p.tables.exec = Jvm.exec) (hl : l.stackTraces = false) {cls text : String} {names : List String} {nb : Nat} {A : Nat → Prop}
    (hcls : Bundle.fit cls = true) (hnames : ∀ n ∈ names, Bundle.fit n = true) (hsoe : (cls == "java/lang/StackOverflowError") = false) (hoom : (cls == "java/lang/OutOfMemoryError") = false)
    (hat : ∀ w ∈ vx_atM cls names, w.before args s = true) (hgood : ∀ w ∈ vx_atM cls names, vx_ot w = true)
    (hU : vx_Zq Bundle.tN "UNASSIGNED_STACK" Bundle.steD A s s.heap) (hN : vx_Zq Bundle.tN "SUPPRESSED_SENTINEL" Bundle.listD A s s.heap) (hS : va_S A s.heap H locs) (hsize : ls.size = c.maxLocals)
    (htext : (text == notModelled) = false) (hnb : (stringBytes (stringToUtf16 text)).size ≤ nb) (hnb1 : nb ≤ 1000)
    (hRframes : names.length + 4 < R.frames) (hRlocals : (rest.map fun v => v.category).sum + 10240 ≤ R.locals) (hshort : 13 * names.length + 55 ≤ 10240) (hRcells : cells + 3 ≤ R.cells) (hRslots : slots + (nb + 10) ≤ R.slots) (hlocks : meth.locks = false)
    (k : ∀ (H1 : Heap) (q9 : Addr) (ce : Cell), H.size ≤ H1.size → (∀ q : Nat, q < H.size → H1[q]? = H[q]?) → va_S A s.heap H1 locs → H1[q9]? = some ce → ce.vm = .none → s.vm.findClass cls = some ce.cls → vx_W p l e R s m args below meth c H1 locs (cells + 3) (slots + (nb + 10)) Q (F0 m pc ls rest) q9) :
    vx_Note p l e R s m args below meth c H locs cells slots Q (F0 m pc ls rest) cls text := by
  intro T hT X
  have htr : e.platform.stackTraces = false := (show e.platform.stackTraces = l.stackTraces by rw [X.admits.platform]).trans hl
  have Y := vx_rebase X (R' := { frames := R.frames, locals := R.locals, cells := 3, slots := nb + 10 }) (Nat.le_refl _) (Nat.le_refl _) hRcells hRslots
  have hhp : ((T.setVm s.vm).setFrames (.invoking m args :: below)).heap = H := hT
  have hW0 : s.WarmedH ((T.setVm s.vm).setFrames (.invoking m args :: below)).vm := State.WarmedH.refl s
  have hat' : ∀ w ∈ vx_atM cls names, w.before args ((T.setVm s.vm).setFrames (.invoking m args :: below)) = true := fun w hw => vx_ot_at hW0 rfl (hgood w hw) (hat w hw)
  have hU' : vx_Zq Bundle.tN "UNASSIGNED_STACK" Bundle.steD A ((T.setVm s.vm).setFrames (.invoking m args :: below)) ((T.setVm s.vm).setFrames (.invoking m args :: below)).heap := by rw [hhp]; exact vx_Zq.moved hW0.alike (hU.kept hS.2.1)
  have hN' : vx_Zq Bundle.tN "SUPPRESSED_SENTINEL" Bundle.listD A ((T.setVm s.vm).setFrames (.invoking m args :: below)) ((T.setVm s.vm).setFrames (.invoking m args :: below)).heap := by rw [hhp]; exact vx_Zq.moved hW0.alike (hN.kept hS.2.1)
  obtain ⟨S, q, ce, st, Z, hce, hcl', hv⟩ := vx_vmAt Y hexec htr (cls := cls) (names := names) (text := text) hcls hnames hsoe hoom (vx_own hat' (vx_isRefq hU'.1) (vx_isRefq hN'.1) hU'.2.word hN'.2.word) (fun x hx => nomatch hx) htext
    (by rw [Launch.admits_arrayLengthLimit X.admits]; omega) (by rw [Launch.admits_maxHeapBytes X.admits]; simp only [componentBytes]; omega)
    (g := F0 m pc ls rest) rfl hsize hRframes (by show 2 * 0 + (rest.map fun v => v.category).sum + 10240 ≤ R.locals; omega) hshort (by show 0 + 3 ≤ 3; omega) (by show 0 + (_ + 4 + 6) ≤ nb + 10; omega) hlocks
  obtain ⟨f1, f2⟩ := vx_frame Z.same
  have f1' : H.size ≤ S.heap.size := by rw [← hT]; exact f1
  have f2' : ∀ q : Nat, q < H.size → S.heap[q]? = H[q]? := fun q hq => by
    rw [← hT]
    exact f2 q (by rw [← hT] at hq; exact hq) (fun z hz => nomatch hz)
  have X5 := vx_back9 X Y Z
  have X6 : Stand p l e R s m args below meth c S locs (cells + 3) (slots + (nb + 10)) := { X5 with same := X5.same.mono (by omega) (by omega) }
  obtain ⟨t, a1, b1⟩ := k S.heap q ce f1' f2' ⟨Nat.le_trans hS.1 f1', fun q h1 h2 => (f2' q (Nat.lt_of_lt_of_le h1 hS.1)).trans (hS.2.1 q h1 h2), hS.2.2⟩ hce hv hcl' S rfl X6
  exact ⟨t, st t a1, b1⟩
/-- from the machine's note that NullPointerException is thrown here -/
def vx_NoteN (p : Program) (l : Launch) (e : Env) (R : Room) (s : State) (m : MethodId) (args : Array Value) (below : List Frame) (meth : Method) (c : Code) (H : Heap) (locs : List Loc) (cells slots : Nat) (Q : State → Prop) (g : JFrame) : Prop :=
  ∀ T : State, T.heap = H → Stand p l e R s m args below meth c T locs cells slots → ∃ t, Steps p.tables e below ((T.setTop g).pushFrame (.throwNew "java/lang/NullPointerException" none none)) t ∧ Q t
theorem vx_npe {pc : Nat} {ls : Array Slot} {rest : List Value} {Q : State → Prop} (hexec : p.tables.exec = Jvm.exec) (hl : l.stackTraces = false) {nb : Nat} {A : Nat → Prop}
    (hat : ∀ w ∈ vx_atN nb, w.before args s = true) (hgood : ∀ w ∈ vx_atN nb, vx_ot w = true)
    (hU : vx_Zq Bundle.tN "UNASSIGNED_STACK" Bundle.steD A s s.heap) (hN : vx_Zq Bundle.tN "SUPPRESSED_SENTINEL" Bundle.listD A s s.heap) (hS : va_S A s.heap H locs) (hsize : ls.size = c.maxLocals)
    (hRframes : 7 < R.frames) (hRlocals : (rest.map fun v => v.category).sum + 10240 ≤ R.locals) (hRcells : cells + 1 ≤ R.cells) (hRslots : slots + nb ≤ R.slots) (hlocks : meth.locks = false)
    (k : ∀ (H1 : Heap) (q9 : Addr) (ce : Cell), H.size ≤ H1.size → (∀ q : Nat, q < H.size → H1[q]? = H[q]?) → va_S A s.heap H1 locs → H1[q9]? = some ce → ce.vm = .none → s.vm.findClass "java/lang/NullPointerException" = some ce.cls → vx_W p l e R s m args below meth c H1 locs (cells + 1) (slots + nb) Q (F0 m pc ls rest) q9) :
    vx_NoteN p l e R s m args below meth c H locs cells slots Q (F0 m pc ls rest) := by
  intro T hT X
  have htr : e.platform.stackTraces = false := (show e.platform.stackTraces = l.stackTraces by rw [X.admits.platform]).trans hl
  have Y := vx_rebase X (R' := { frames := R.frames, locals := R.locals, cells := 1, slots := nb }) (Nat.le_refl _) (Nat.le_refl _) hRcells hRslots
  have hhp : ((T.setVm s.vm).setFrames (.invoking m args :: below)).heap = H := hT
  have hW0 : s.WarmedH ((T.setVm s.vm).setFrames (.invoking m args :: below)).vm := State.WarmedH.refl s
  have hat' : ∀ w ∈ vx_atN nb, w.before args ((T.setVm s.vm).setFrames (.invoking m args :: below)) = true := fun w hw => vx_ot_at hW0 rfl (hgood w hw) (hat w hw)
  have hU' : vx_Zq Bundle.tN "UNASSIGNED_STACK" Bundle.steD A ((T.setVm s.vm).setFrames (.invoking m args :: below)) ((T.setVm s.vm).setFrames (.invoking m args :: below)).heap := by rw [hhp]; exact vx_Zq.moved hW0.alike (hU.kept hS.2.1)
  have hN' : vx_Zq Bundle.tN "SUPPRESSED_SENTINEL" Bundle.listD A ((T.setVm s.vm).setFrames (.invoking m args :: below)) ((T.setVm s.vm).setFrames (.invoking m args :: below)).heap := by rw [hhp]; exact vx_Zq.moved hW0.alike (hN.kept hS.2.1)
  obtain ⟨S, q, ce, st, Z, hce, hcl', hv⟩ := vx_npeAt Y hexec htr (n := nb) (vx_own hat' (vx_isRefq hU'.1) (vx_isRefq hN'.1) hU'.2.word hN'.2.word) (fun x hx => nomatch hx)
    (g := F0 m pc ls rest) rfl hsize hRframes (by show 2 * 0 + (rest.map fun v => v.category).sum + 10240 ≤ R.locals; omega) (by show 0 + 1 ≤ 1; omega) (by show 0 + nb ≤ nb; omega) hlocks
  obtain ⟨f1, f2⟩ := vx_frame Z.same
  have f1' : H.size ≤ S.heap.size := by rw [← hT]; exact f1
  have f2' : ∀ q : Nat, q < H.size → S.heap[q]? = H[q]? := fun q hq => by
    rw [← hT]
    exact f2 q (by rw [← hT] at hq; exact hq) (fun z hz => nomatch hz)
  have X5 := vx_back9 X Y Z
  have X6 : Stand p l e R s m args below meth c S locs (cells + 1) (slots + nb) := { X5 with same := X5.same.mono (by omega) (by omega) }
  obtain ⟨t, a1, b1⟩ := k S.heap q ce f1' f2' ⟨Nat.le_trans hS.1 f1', fun q h1 h2 => (f2' q (Nat.lt_of_lt_of_le h1 hS.1)).trans (hS.2.1 q h1 h2), hS.2.2⟩ hce hv hcl' S rfl X6
  exact ⟨t, st t a1, b1⟩
variable {Q : State → Prop} {cc : ByteArray} {pc : Nat} {ls : Array Slot} {rest : List Value}
theorem vx_idivZ (hexec : p.tables.exec = Jvm.exec) (hb : c.code = cc) {a b : Int32} (h0 : b = 0) (d : decode cc pc = .ok (.idiv, 1)) (k : vx_Note p l e R s m args below meth c H locs cells slots Q (F0 m pc ls rest) "java/lang/ArithmeticException" "/ by zero") :
    W p l e R s m args below meth c H locs cells slots Q (F0 m pc ls (.int b :: .int a :: rest)) := by
  intro T hT X
  obtain ⟨t, st, q⟩ := k T hT X
  exact ⟨t, X.idivZero hexec (g := F0 m pc ls (.int b :: .int a :: rest)) rfl (a := a) (rest := rest) (by rw [h0]) (by rw [hb]; exact d) t st, q⟩
theorem vx_iremZ (hexec : p.tables.exec = Jvm.exec) (hb : c.code = cc) {a b : Int32} (h0 : b = 0) (d : decode cc pc = .ok (.irem, 1)) (k : vx_Note p l e R s m args below meth c H locs cells slots Q (F0 m pc ls rest) "java/lang/ArithmeticException" "/ by zero") :
    W p l e R s m args below meth c H locs cells slots Q (F0 m pc ls (.int b :: .int a :: rest)) := by
  intro T hT X
  obtain ⟨t, st, q⟩ := k T hT X
  exact ⟨t, X.iremZero hexec (g := F0 m pc ls (.int b :: .int a :: rest)) rfl (a := a) (rest := rest) (by rw [h0]) (by rw [hb]; exact d) t st, q⟩
theorem vx_ldivZ (hexec : p.tables.exec = Jvm.exec) (hb : c.code = cc) {a b : Int64} (h0 : b = 0) (d : decode cc pc = .ok (.ldiv, 1)) (k : vx_Note p l e R s m args below meth c H locs cells slots Q (F0 m pc ls rest) "java/lang/ArithmeticException" "/ by zero") :
    W p l e R s m args below meth c H locs cells slots Q (F0 m pc ls (.long b :: .long a :: rest)) := by
  intro T hT X
  obtain ⟨t, st, q⟩ := k T hT X
  exact ⟨t, X.ldivZero hexec (g := F0 m pc ls (.long b :: .long a :: rest)) rfl (a := a) (rest := rest) (by rw [h0]) (by rw [hb]; exact d) t st, q⟩
theorem vx_lremZ (hexec : p.tables.exec = Jvm.exec) (hb : c.code = cc) {a b : Int64} (h0 : b = 0) (d : decode cc pc = .ok (.lrem, 1)) (k : vx_Note p l e R s m args below meth c H locs cells slots Q (F0 m pc ls rest) "java/lang/ArithmeticException" "/ by zero") :
    W p l e R s m args below meth c H locs cells slots Q (F0 m pc ls (.long b :: .long a :: rest)) := by
  intro T hT X
  obtain ⟨t, st, q⟩ := k T hT X
  exact ⟨t, X.lremZero hexec (g := F0 m pc ls (.long b :: .long a :: rest)) rfl (a := a) (rest := rest) (by rw [h0]) (by rw [hb]; exact d) t st, q⟩
theorem vx_ialdZ {D : va_G} {cl : List vw_C} {ws : va_W} {tys : List (ClassId × FieldType)} {a : Nat} (hexec : p.tables.exec = Jvm.exec) (hb : c.code = cc) (hK : va_K D cl tys s) (hP : va_P D cl ws H) (q0 t0 : Nat) {cA : ClassId} {n : Nat} {f : Nat → Int32} (ha : ws[q0]? = some (a, .inl (cA, n, .inl f))) (ht : tys[t0]? = some (cA, .int)) {i : Int32} (hout : ¬ vp_in i n) (hdg : decode cc pc = .ok (.iaload, 1))
    (k : ∀ tx : String, tx = (toString "Index " ++ toString i ++ toString " out of bounds for length " ++ toString n : String) → vx_Note p l e R s m args below meth c H locs cells slots Q (F0 m pc ls rest) "java/lang/ArrayIndexOutOfBoundsException" tx) : W p l e R s m args below meth c H locs cells slots Q (F0 m pc ls (.int i :: .ref a :: rest)) := by
  intro T hT X
  obtain ⟨t, st, q⟩ := k _ rfl T hT X
  refine ⟨t, ?_, q⟩
  have h1 := X.ialoadOut hexec (by rw [hT]; exact hP q0 _ ha) ((hK.2 t0 _ ht).1 n (fun j => .int (f j))) (j := i) (by show (i < 0 ∨ (arrV _ _ _).slots.size ≤ _); rw [arrV_size]; exact Classical.byContradiction hout) (g := F0 m pc ls (.int i :: .ref a :: rest)) rfl (rest := rest) rfl (by rw [hb]; exact hdg) t
  simp only [arrV_size] at h1
  exact h1 st
theorem vx_iastZ {D : va_G} {cl : List vw_C} {ws : va_W} {tys : List (ClassId × FieldType)} {a : Nat} (hexec : p.tables.exec = Jvm.exec) (hb : c.code = cc) (hK : va_K D cl tys s) (hP : va_P D cl ws H) (q0 t0 : Nat) {cA : ClassId} {n : Nat} {f : Nat → Int32} (ha : ws[q0]? = some (a, .inl (cA, n, .inl f))) (ht : tys[t0]? = some (cA, .int)) {i : Int32} {x : Int32} (hout : ¬ vp_in i n) (hdg : decode cc pc = .ok (.iastore, 1))
    (k : ∀ tx : String, tx = (toString "Index " ++ toString i ++ toString " out of bounds for length " ++ toString n : String) → vx_Note p l e R s m args below meth c H locs cells slots Q (F0 m pc ls rest) "java/lang/ArrayIndexOutOfBoundsException" tx) : W p l e R s m args below meth c H locs cells slots Q (F0 m pc ls (.int x :: .int i :: .ref a :: rest)) := by
  intro T hT X
  obtain ⟨t, st, q⟩ := k _ rfl T hT X
  refine ⟨t, ?_, q⟩
  have h1 := X.iastoreOut hexec (by rw [hT]; exact hP q0 _ ha) ((hK.2 t0 _ ht).1 n (fun j => .int (f j))) (j := i) (by show (i < 0 ∨ (arrV _ _ _).slots.size ≤ _); rw [arrV_size]; exact Classical.byContradiction hout) (g := F0 m pc ls (.int x :: .int i :: .ref a :: rest)) rfl (rest := rest) rfl (by rw [hb]; exact hdg) t
  simp only [arrV_size] at h1
  exact h1 st
theorem vx_baldZ {D : va_G} {cl : List vw_C} {ws : va_W} {tys : List (ClassId × FieldType)} {a : Nat} (hexec : p.tables.exec = Jvm.exec) (hb : c.code = cc) (hK : va_K D cl tys s) (hP : va_P D cl ws H) (q0 t0 : Nat) {cA : ClassId} {n : Nat} {f : Nat → Int32} (ha : ws[q0]? = some (a, .inl (cA, n, .inl f))) (ht : tys[t0]? = some (cA, .byte)) {i : Int32} (hout : ¬ vp_in i n) (hdg : decode cc pc = .ok (.baload, 1))
    (k : ∀ tx : String, tx = (toString "Index " ++ toString i ++ toString " out of bounds for length " ++ toString n : String) → vx_Note p l e R s m args below meth c H locs cells slots Q (F0 m pc ls rest) "java/lang/ArrayIndexOutOfBoundsException" tx) : W p l e R s m args below meth c H locs cells slots Q (F0 m pc ls (.int i :: .ref a :: rest)) := by
  intro T hT X
  obtain ⟨t, st, q⟩ := k _ rfl T hT X
  refine ⟨t, ?_, q⟩
  have h1 := X.baloadOut hexec (by rw [hT]; exact hP q0 _ ha) ((hK.2 t0 _ ht).1 n (fun j => .int (f j))) (j := i) (by show (i < 0 ∨ (arrV _ _ _).slots.size ≤ _); rw [arrV_size]; exact Classical.byContradiction hout) (g := F0 m pc ls (.int i :: .ref a :: rest)) rfl (rest := rest) rfl (by rw [hb]; exact hdg) t
  simp only [arrV_size] at h1
  exact h1 st
theorem vx_bastZ {D : va_G} {cl : List vw_C} {ws : va_W} {tys : List (ClassId × FieldType)} {a : Nat} (hexec : p.tables.exec = Jvm.exec) (hb : c.code = cc) (hK : va_K D cl tys s) (hP : va_P D cl ws H) (q0 t0 : Nat) {cA : ClassId} {n : Nat} {f : Nat → Int32} (ha : ws[q0]? = some (a, .inl (cA, n, .inl f))) (ht : tys[t0]? = some (cA, .byte)) {i : Int32} {x : Int32} (hout : ¬ vp_in i n) (hdg : decode cc pc = .ok (.bastore, 1))
    (k : ∀ tx : String, tx = (toString "Index " ++ toString i ++ toString " out of bounds for length " ++ toString n : String) → vx_Note p l e R s m args below meth c H locs cells slots Q (F0 m pc ls rest) "java/lang/ArrayIndexOutOfBoundsException" tx) : W p l e R s m args below meth c H locs cells slots Q (F0 m pc ls (.int x :: .int i :: .ref a :: rest)) := by
  intro T hT X
  obtain ⟨t, st, q⟩ := k _ rfl T hT X
  refine ⟨t, ?_, q⟩
  have h1 := X.bastoreOut hexec (by rw [hT]; exact hP q0 _ ha) ((hK.2 t0 _ ht).1 n (fun j => .int (f j))) (j := i) (by show (i < 0 ∨ (arrV _ _ _).slots.size ≤ _); rw [arrV_size]; exact Classical.byContradiction hout) (g := F0 m pc ls (.int x :: .int i :: .ref a :: rest)) rfl (rest := rest) rfl (by rw [hb]; exact hdg) t
  simp only [arrV_size] at h1
  exact h1 st
theorem vx_zaldZ {D : va_G} {cl : List vw_C} {ws : va_W} {tys : List (ClassId × FieldType)} {a : Nat} (hexec : p.tables.exec = Jvm.exec) (hb : c.code = cc) (hK : va_K D cl tys s) (hP : va_P D cl ws H) (q0 t0 : Nat) {cA : ClassId} {n : Nat} {f : Nat → Int32} (ha : ws[q0]? = some (a, .inl (cA, n, .inl f))) (ht : tys[t0]? = some (cA, .boolean)) {i : Int32} (hout : ¬ vp_in i n) (hdg : decode cc pc = .ok (.baload, 1))
    (k : ∀ tx : String, tx = (toString "Index " ++ toString i ++ toString " out of bounds for length " ++ toString n : String) → vx_Note p l e R s m args below meth c H locs cells slots Q (F0 m pc ls rest) "java/lang/ArrayIndexOutOfBoundsException" tx) : W p l e R s m args below meth c H locs cells slots Q (F0 m pc ls (.int i :: .ref a :: rest)) := by
  intro T hT X
  obtain ⟨t, st, q⟩ := k _ rfl T hT X
  refine ⟨t, ?_, q⟩
  have h1 := X.baloadOut hexec (by rw [hT]; exact hP q0 _ ha) ((hK.2 t0 _ ht).1 n (fun j => .int (f j))) (j := i) (by show (i < 0 ∨ (arrV _ _ _).slots.size ≤ _); rw [arrV_size]; exact Classical.byContradiction hout) (g := F0 m pc ls (.int i :: .ref a :: rest)) rfl (rest := rest) rfl (by rw [hb]; exact hdg) t
  simp only [arrV_size] at h1
  exact h1 st
theorem vx_zastZ {D : va_G} {cl : List vw_C} {ws : va_W} {tys : List (ClassId × FieldType)} {a : Nat} (hexec : p.tables.exec = Jvm.exec) (hb : c.code = cc) (hK : va_K D cl tys s) (hP : va_P D cl ws H) (q0 t0 : Nat) {cA : ClassId} {n : Nat} {f : Nat → Int32} (ha : ws[q0]? = some (a, .inl (cA, n, .inl f))) (ht : tys[t0]? = some (cA, .boolean)) {i : Int32} {x : Int32} (hout : ¬ vp_in i n) (hdg : decode cc pc = .ok (.bastore, 1))
    (k : ∀ tx : String, tx = (toString "Index " ++ toString i ++ toString " out of bounds for length " ++ toString n : String) → vx_Note p l e R s m args below meth c H locs cells slots Q (F0 m pc ls rest) "java/lang/ArrayIndexOutOfBoundsException" tx) : W p l e R s m args below meth c H locs cells slots Q (F0 m pc ls (.int x :: .int i :: .ref a :: rest)) := by
  intro T hT X
  obtain ⟨t, st, q⟩ := k _ rfl T hT X
  refine ⟨t, ?_, q⟩
  have h1 := X.bastoreOut hexec (by rw [hT]; exact hP q0 _ ha) ((hK.2 t0 _ ht).1 n (fun j => .int (f j))) (j := i) (by show (i < 0 ∨ (arrV _ _ _).slots.size ≤ _); rw [arrV_size]; exact Classical.byContradiction hout) (g := F0 m pc ls (.int x :: .int i :: .ref a :: rest)) rfl (rest := rest) rfl (by rw [hb]; exact hdg) t
  simp only [arrV_size] at h1
  exact h1 st
theorem vx_caldZ {D : va_G} {cl : List vw_C} {ws : va_W} {tys : List (ClassId × FieldType)} {a : Nat} (hexec : p.tables.exec = Jvm.exec) (hb : c.code = cc) (hK : va_K D cl tys s) (hP : va_P D cl ws H) (q0 t0 : Nat) {cA : ClassId} {n : Nat} {f : Nat → Int32} (ha : ws[q0]? = some (a, .inl (cA, n, .inl f))) (ht : tys[t0]? = some (cA, .char)) {i : Int32} (hout : ¬ vp_in i n) (hdg : decode cc pc = .ok (.caload, 1))
    (k : ∀ tx : String, tx = (toString "Index " ++ toString i ++ toString " out of bounds for length " ++ toString n : String) → vx_Note p l e R s m args below meth c H locs cells slots Q (F0 m pc ls rest) "java/lang/ArrayIndexOutOfBoundsException" tx) : W p l e R s m args below meth c H locs cells slots Q (F0 m pc ls (.int i :: .ref a :: rest)) := by
  intro T hT X
  obtain ⟨t, st, q⟩ := k _ rfl T hT X
  refine ⟨t, ?_, q⟩
  have h1 := X.caloadOut hexec (by rw [hT]; exact hP q0 _ ha) ((hK.2 t0 _ ht).1 n (fun j => .int (f j))) (j := i) (by show (i < 0 ∨ (arrV _ _ _).slots.size ≤ _); rw [arrV_size]; exact Classical.byContradiction hout) (g := F0 m pc ls (.int i :: .ref a :: rest)) rfl (rest := rest) rfl (by rw [hb]; exact hdg) t
  simp only [arrV_size] at h1
  exact h1 st
theorem vx_castZ {D : va_G} {cl : List vw_C} {ws : va_W} {tys : List (ClassId × FieldType)} {a : Nat} (hexec : p.tables.exec = Jvm.exec) (hb : c.code = cc) (hK : va_K D cl tys s) (hP : va_P D cl ws H) (q0 t0 : Nat) {cA : ClassId} {n : Nat} {f : Nat → Int32} (ha : ws[q0]? = some (a, .inl (cA, n, .inl f))) (ht : tys[t0]? = some (cA, .char)) {i : Int32} {x : Int32} (hout : ¬ vp_in i n) (hdg : decode cc pc = .ok (.castore, 1))
    (k : ∀ tx : String, tx = (toString "Index " ++ toString i ++ toString " out of bounds for length " ++ toString n : String) → vx_Note p l e R s m args below meth c H locs cells slots Q (F0 m pc ls rest) "java/lang/ArrayIndexOutOfBoundsException" tx) : W p l e R s m args below meth c H locs cells slots Q (F0 m pc ls (.int x :: .int i :: .ref a :: rest)) := by
  intro T hT X
  obtain ⟨t, st, q⟩ := k _ rfl T hT X
  refine ⟨t, ?_, q⟩
  have h1 := X.castoreOut hexec (by rw [hT]; exact hP q0 _ ha) ((hK.2 t0 _ ht).1 n (fun j => .int (f j))) (j := i) (by show (i < 0 ∨ (arrV _ _ _).slots.size ≤ _); rw [arrV_size]; exact Classical.byContradiction hout) (g := F0 m pc ls (.int x :: .int i :: .ref a :: rest)) rfl (rest := rest) rfl (by rw [hb]; exact hdg) t
  simp only [arrV_size] at h1
  exact h1 st
theorem vx_saldZ {D : va_G} {cl : List vw_C} {ws : va_W} {tys : List (ClassId × FieldType)} {a : Nat} (hexec : p.tables.exec = Jvm.exec) (hb : c.code = cc) (hK : va_K D cl tys s) (hP : va_P D cl ws H) (q0 t0 : Nat) {cA : ClassId} {n : Nat} {f : Nat → Int32} (ha : ws[q0]? = some (a, .inl (cA, n, .inl f))) (ht : tys[t0]? = some (cA, .short)) {i : Int32} (hout : ¬ vp_in i n) (hdg : decode cc pc = .ok (.saload, 1))
    (k : ∀ tx : String, tx = (toString "Index " ++ toString i ++ toString " out of bounds for length " ++ toString n : String) → vx_Note p l e R s m args below meth c H locs cells slots Q (F0 m pc ls rest) "java/lang/ArrayIndexOutOfBoundsException" tx) : W p l e R s m args below meth c H locs cells slots Q (F0 m pc ls (.int i :: .ref a :: rest)) := by
  intro T hT X
  obtain ⟨t, st, q⟩ := k _ rfl T hT X
  refine ⟨t, ?_, q⟩
  have h1 := X.saloadOut hexec (by rw [hT]; exact hP q0 _ ha) ((hK.2 t0 _ ht).1 n (fun j => .int (f j))) (j := i) (by show (i < 0 ∨ (arrV _ _ _).slots.size ≤ _); rw [arrV_size]; exact Classical.byContradiction hout) (g := F0 m pc ls (.int i :: .ref a :: rest)) rfl (rest := rest) rfl (by rw [hb]; exact hdg) t
  simp only [arrV_size] at h1
  exact h1 st
theorem vx_sastZ {D : va_G} {cl : List vw_C} {ws : va_W} {tys : List (ClassId × FieldType)} {a : Nat} (hexec : p.tables.exec = Jvm.exec) (hb : c.code = cc) (hK : va_K D cl tys s) (hP : va_P D cl ws H) (q0 t0 : Nat) {cA : ClassId} {n : Nat} {f : Nat → Int32} (ha : ws[q0]? = some (a, .inl (cA, n, .inl f))) (ht : tys[t0]? = some (cA, .short)) {i : Int32} {x : Int32} (hout : ¬ vp_in i n) (hdg : decode cc pc = .ok (.sastore, 1))
    (k : ∀ tx : String, tx = (toString "Index " ++ toString i ++ toString " out of bounds for length " ++ toString n : String) → vx_Note p l e R s m args below meth c H locs cells slots Q (F0 m pc ls rest) "java/lang/ArrayIndexOutOfBoundsException" tx) : W p l e R s m args below meth c H locs cells slots Q (F0 m pc ls (.int x :: .int i :: .ref a :: rest)) := by
  intro T hT X
  obtain ⟨t, st, q⟩ := k _ rfl T hT X
  refine ⟨t, ?_, q⟩
  have h1 := X.sastoreOut hexec (by rw [hT]; exact hP q0 _ ha) ((hK.2 t0 _ ht).1 n (fun j => .int (f j))) (j := i) (by show (i < 0 ∨ (arrV _ _ _).slots.size ≤ _); rw [arrV_size]; exact Classical.byContradiction hout) (g := F0 m pc ls (.int x :: .int i :: .ref a :: rest)) rfl (rest := rest) rfl (by rw [hb]; exact hdg) t
  simp only [arrV_size] at h1
  exact h1 st
theorem vx_laldZ {D : va_G} {cl : List vw_C} {ws : va_W} {tys : List (ClassId × FieldType)} {a : Nat} (hexec : p.tables.exec = Jvm.exec) (hb : c.code = cc) (hK : va_K D cl tys s) (hP : va_P D cl ws H) (q0 t0 : Nat) {cA : ClassId} {n : Nat} {f : Nat → Int64} (ha : ws[q0]? = some (a, .inl (cA, n, .inr (.inl f)))) (ht : tys[t0]? = some (cA, .long)) {i : Int32} (hout : ¬ vp_in i n) (hdg : decode cc pc = .ok (.laload, 1))
    (k : ∀ tx : String, tx = (toString "Index " ++ toString i ++ toString " out of bounds for length " ++ toString n : String) → vx_Note p l e R s m args below meth c H locs cells slots Q (F0 m pc ls rest) "java/lang/ArrayIndexOutOfBoundsException" tx) : W p l e R s m args below meth c H locs cells slots Q (F0 m pc ls (.int i :: .ref a :: rest)) := by
  intro T hT X
  obtain ⟨t, st, q⟩ := k _ rfl T hT X
  refine ⟨t, ?_, q⟩
  have h1 := X.laloadOut hexec (by rw [hT]; exact hP q0 _ ha) ((hK.2 t0 _ ht).1 n (fun j => .long (f j))) (j := i) (by show (i < 0 ∨ (arrV _ _ _).slots.size ≤ _); rw [arrV_size]; exact Classical.byContradiction hout) (g := F0 m pc ls (.int i :: .ref a :: rest)) rfl (rest := rest) rfl (by rw [hb]; exact hdg) t
  simp only [arrV_size] at h1
  exact h1 st
theorem vx_lastZ {D : va_G} {cl : List vw_C} {ws : va_W} {tys : List (ClassId × FieldType)} {a : Nat} (hexec : p.tables.exec = Jvm.exec) (hb : c.code = cc) (hK : va_K D cl tys s) (hP : va_P D cl ws H) (q0 t0 : Nat) {cA : ClassId} {n : Nat} {f : Nat → Int64} (ha : ws[q0]? = some (a, .inl (cA, n, .inr (.inl f)))) (ht : tys[t0]? = some (cA, .long)) {i : Int32} {x : Int64} (hout : ¬ vp_in i n) (hdg : decode cc pc = .ok (.lastore, 1))
    (k : ∀ tx : String, tx = (toString "Index " ++ toString i ++ toString " out of bounds for length " ++ toString n : String) → vx_Note p l e R s m args below meth c H locs cells slots Q (F0 m pc ls rest) "java/lang/ArrayIndexOutOfBoundsException" tx) : W p l e R s m args below meth c H locs cells slots Q (F0 m pc ls (.long x :: .int i :: .ref a :: rest)) := by
  intro T hT X
  obtain ⟨t, st, q⟩ := k _ rfl T hT X
  refine ⟨t, ?_, q⟩
  have h1 := X.lastoreOut hexec (by rw [hT]; exact hP q0 _ ha) ((hK.2 t0 _ ht).1 n (fun j => .long (f j))) (j := i) (by show (i < 0 ∨ (arrV _ _ _).slots.size ≤ _); rw [arrV_size]; exact Classical.byContradiction hout) (g := F0 m pc ls (.long x :: .int i :: .ref a :: rest)) rfl (rest := rest) rfl (by rw [hb]; exact hdg) t
  simp only [arrV_size] at h1
  exact h1 st
theorem vx_faldZ {D : va_G} {cl : List vw_C} {ws : va_W} {tys : List (ClassId × FieldType)} {a : Nat} (hexec : p.tables.exec = Jvm.exec) (hb : c.code = cc) (hK : va_K D cl tys s) (hP : va_P D cl ws H) (q0 t0 : Nat) {cA : ClassId} {n : Nat} {f : Nat → UInt32} (ha : ws[q0]? = some (a, .inl (cA, n, .inr (.inr (.inl f))))) (ht : tys[t0]? = some (cA, .float)) {i : Int32} (hout : ¬ vp_in i n) (hdg : decode cc pc = .ok (.faload, 1))
    (k : ∀ tx : String, tx = (toString "Index " ++ toString i ++ toString " out of bounds for length " ++ toString n : String) → vx_Note p l e R s m args below meth c H locs cells slots Q (F0 m pc ls rest) "java/lang/ArrayIndexOutOfBoundsException" tx) : W p l e R s m args below meth c H locs cells slots Q (F0 m pc ls (.int i :: .ref a :: rest)) := by
  intro T hT X
  obtain ⟨t, st, q⟩ := k _ rfl T hT X
  refine ⟨t, ?_, q⟩
  have h1 := X.faloadOut hexec (by rw [hT]; exact hP q0 _ ha) ((hK.2 t0 _ ht).1 n (fun j => .float (f j))) (j := i) (by show (i < 0 ∨ (arrV _ _ _).slots.size ≤ _); rw [arrV_size]; exact Classical.byContradiction hout) (g := F0 m pc ls (.int i :: .ref a :: rest)) rfl (rest := rest) rfl (by rw [hb]; exact hdg) t
  simp only [arrV_size] at h1
  exact h1 st
theorem vx_fastZ {D : va_G} {cl : List vw_C} {ws : va_W} {tys : List (ClassId × FieldType)} {a : Nat} (hexec : p.tables.exec = Jvm.exec) (hb : c.code = cc) (hK : va_K D cl tys s) (hP : va_P D cl ws H) (q0 t0 : Nat) {cA : ClassId} {n : Nat} {f : Nat → UInt32} (ha : ws[q0]? = some (a, .inl (cA, n, .inr (.inr (.inl f))))) (ht : tys[t0]? = some (cA, .float)) {i : Int32} {x : UInt32} (hout : ¬ vp_in i n) (hdg : decode cc pc = .ok (.fastore, 1))
    (k : ∀ tx : String, tx = (toString "Index " ++ toString i ++ toString " out of bounds for length " ++ toString n : String) → vx_Note p l e R s m args below meth c H locs cells slots Q (F0 m pc ls rest) "java/lang/ArrayIndexOutOfBoundsException" tx) : W p l e R s m args below meth c H locs cells slots Q (F0 m pc ls (.float x :: .int i :: .ref a :: rest)) := by
  intro T hT X
  obtain ⟨t, st, q⟩ := k _ rfl T hT X
  refine ⟨t, ?_, q⟩
  have h1 := X.fastoreOut hexec (by rw [hT]; exact hP q0 _ ha) ((hK.2 t0 _ ht).1 n (fun j => .float (f j))) (j := i) (by show (i < 0 ∨ (arrV _ _ _).slots.size ≤ _); rw [arrV_size]; exact Classical.byContradiction hout) (g := F0 m pc ls (.float x :: .int i :: .ref a :: rest)) rfl (rest := rest) rfl (by rw [hb]; exact hdg) t
  simp only [arrV_size] at h1
  exact h1 st
theorem vx_daldZ {D : va_G} {cl : List vw_C} {ws : va_W} {tys : List (ClassId × FieldType)} {a : Nat} (hexec : p.tables.exec = Jvm.exec) (hb : c.code = cc) (hK : va_K D cl tys s) (hP : va_P D cl ws H) (q0 t0 : Nat) {cA : ClassId} {n : Nat} {f : Nat → UInt64} (ha : ws[q0]? = some (a, .inl (cA, n, .inr (.inr (.inr (.inl f)))))) (ht : tys[t0]? = some (cA, .double)) {i : Int32} (hout : ¬ vp_in i n) (hdg : decode cc pc = .ok (.daload, 1))
    (k : ∀ tx : String, tx = (toString "Index " ++ toString i ++ toString " out of bounds for length " ++ toString n : String) → vx_Note p l e R s m args below meth c H locs cells slots Q (F0 m pc ls rest) "java/lang/ArrayIndexOutOfBoundsException" tx) : W p l e R s m args below meth c H locs cells slots Q (F0 m pc ls (.int i :: .ref a :: rest)) := by
  intro T hT X
  obtain ⟨t, st, q⟩ := k _ rfl T hT X
  refine ⟨t, ?_, q⟩
  have h1 := X.daloadOut hexec (by rw [hT]; exact hP q0 _ ha) ((hK.2 t0 _ ht).1 n (fun j => .double (f j))) (j := i) (by show (i < 0 ∨ (arrV _ _ _).slots.size ≤ _); rw [arrV_size]; exact Classical.byContradiction hout) (g := F0 m pc ls (.int i :: .ref a :: rest)) rfl (rest := rest) rfl (by rw [hb]; exact hdg) t
  simp only [arrV_size] at h1
  exact h1 st
theorem vx_dastZ {D : va_G} {cl : List vw_C} {ws : va_W} {tys : List (ClassId × FieldType)} {a : Nat} (hexec : p.tables.exec = Jvm.exec) (hb : c.code = cc) (hK : va_K D cl tys s) (hP : va_P D cl ws H) (q0 t0 : Nat) {cA : ClassId} {n : Nat} {f : Nat → UInt64} (ha : ws[q0]? = some (a, .inl (cA, n, .inr (.inr (.inr (.inl f)))))) (ht : tys[t0]? = some (cA, .double)) {i : Int32} {x : UInt64} (hout : ¬ vp_in i n) (hdg : decode cc pc = .ok (.dastore, 1))
    (k : ∀ tx : String, tx = (toString "Index " ++ toString i ++ toString " out of bounds for length " ++ toString n : String) → vx_Note p l e R s m args below meth c H locs cells slots Q (F0 m pc ls rest) "java/lang/ArrayIndexOutOfBoundsException" tx) : W p l e R s m args below meth c H locs cells slots Q (F0 m pc ls (.double x :: .int i :: .ref a :: rest)) := by
  intro T hT X
  obtain ⟨t, st, q⟩ := k _ rfl T hT X
  refine ⟨t, ?_, q⟩
  have h1 := X.dastoreOut hexec (by rw [hT]; exact hP q0 _ ha) ((hK.2 t0 _ ht).1 n (fun j => .double (f j))) (j := i) (by show (i < 0 ∨ (arrV _ _ _).slots.size ≤ _); rw [arrV_size]; exact Classical.byContradiction hout) (g := F0 m pc ls (.double x :: .int i :: .ref a :: rest)) rfl (rest := rest) rfl (by rw [hb]; exact hdg) t
  simp only [arrV_size] at h1
  exact h1 st
theorem vx_arraylengthN (hexec : p.tables.exec = Jvm.exec) (hb : c.code = cc) (hdg : decode cc pc = .ok (.arraylength, 1)) (k : vx_NoteN p l e R s m args below meth c H locs cells slots Q (F0 m pc ls rest)) : W p l e R s m args below meth c H locs cells slots Q (F0 m pc ls (.null :: rest)) := by
  intro T hT X
  obtain ⟨t, st, q⟩ := k T hT X
  exact ⟨t, X.arraylengthNull hexec (g := F0 m pc ls (.null :: rest)) rfl (rest := rest) rfl (by rw [hb]; exact hdg) t st, q⟩
theorem vx_ialoadN (hexec : p.tables.exec = Jvm.exec) (hb : c.code = cc) {i : Int32} (hdg : decode cc pc = .ok (.iaload, 1)) (k : vx_NoteN p l e R s m args below meth c H locs cells slots Q (F0 m pc ls rest)) : W p l e R s m args below meth c H locs cells slots Q (F0 m pc ls (.int i :: .null :: rest)) := by
  intro T hT X
  obtain ⟨t, st, q⟩ := k T hT X
  exact ⟨t, X.ialoadNull hexec (g := F0 m pc ls (.int i :: .null :: rest)) rfl (rest := rest) rfl (by rw [hb]; exact hdg) t st, q⟩
theorem vx_laloadN (hexec : p.tables.exec = Jvm.exec) (hb : c.code = cc) {i : Int32} (hdg : decode cc pc = .ok (.laload, 1)) (k : vx_NoteN p l e R s m args below meth c H locs cells slots Q (F0 m pc ls rest)) : W p l e R s m args below meth c H locs cells slots Q (F0 m pc ls (.int i :: .null :: rest)) := by
  intro T hT X
  obtain ⟨t, st, q⟩ := k T hT X
  exact ⟨t, X.laloadNull hexec (g := F0 m pc ls (.int i :: .null :: rest)) rfl (rest := rest) rfl (by rw [hb]; exact hdg) t st, q⟩
theorem vx_faloadN (hexec : p.tables.exec = Jvm.exec) (hb : c.code = cc) {i : Int32} (hdg : decode cc pc = .ok (.faload, 1)) (k : vx_NoteN p l e R s m args below meth c H locs cells slots Q (F0 m pc ls rest)) : W p l e R s m args below meth c H locs cells slots Q (F0 m pc ls (.int i :: .null :: rest)) := by
  intro T hT X
  obtain ⟨t, st, q⟩ := k T hT X
  exact ⟨t, X.faloadNull hexec (g := F0 m pc ls (.int i :: .null :: rest)) rfl (rest := rest) rfl (by rw [hb]; exact hdg) t st, q⟩
theorem vx_daloadN (hexec : p.tables.exec = Jvm.exec) (hb : c.code = cc) {i : Int32} (hdg : decode cc pc = .ok (.daload, 1)) (k : vx_NoteN p l e R s m args below meth c H locs cells slots Q (F0 m pc ls rest)) : W p l e R s m args below meth c H locs cells slots Q (F0 m pc ls (.int i :: .null :: rest)) := by
  intro T hT X
  obtain ⟨t, st, q⟩ := k T hT X
  exact ⟨t, X.daloadNull hexec (g := F0 m pc ls (.int i :: .null :: rest)) rfl (rest := rest) rfl (by rw [hb]; exact hdg) t st, q⟩
theorem vx_aaloadN (hexec : p.tables.exec = Jvm.exec) (hb : c.code = cc) {i : Int32} (hdg : decode cc pc = .ok (.aaload, 1)) (k : vx_NoteN p l e R s m args below meth c H locs cells slots Q (F0 m pc ls rest)) : W p l e R s m args below meth c H locs cells slots Q (F0 m pc ls (.int i :: .null :: rest)) := by
  intro T hT X
  obtain ⟨t, st, q⟩ := k T hT X
  exact ⟨t, X.aaloadNull hexec (g := F0 m pc ls (.int i :: .null :: rest)) rfl (rest := rest) rfl (by rw [hb]; exact hdg) t st, q⟩
theorem vx_baloadN (hexec : p.tables.exec = Jvm.exec) (hb : c.code = cc) {i : Int32} (hdg : decode cc pc = .ok (.baload, 1)) (k : vx_NoteN p l e R s m args below meth c H locs cells slots Q (F0 m pc ls rest)) : W p l e R s m args below meth c H locs cells slots Q (F0 m pc ls (.int i :: .null :: rest)) := by
  intro T hT X
  obtain ⟨t, st, q⟩ := k T hT X
  exact ⟨t, X.baloadNull hexec (g := F0 m pc ls (.int i :: .null :: rest)) rfl (rest := rest) rfl (by rw [hb]; exact hdg) t st, q⟩
theorem vx_caloadN (hexec : p.tables.exec = Jvm.exec) (hb : c.code = cc) {i : Int32} (hdg : decode cc pc = .ok (.caload, 1)) (k : vx_NoteN p l e R s m args below meth c H locs cells slots Q (F0 m pc ls rest)) : W p l e R s m args below meth c H locs cells slots Q (F0 m pc ls (.int i :: .null :: rest)) := by
  intro T hT X
  obtain ⟨t, st, q⟩ := k T hT X
  exact ⟨t, X.caloadNull hexec (g := F0 m pc ls (.int i :: .null :: rest)) rfl (rest := rest) rfl (by rw [hb]; exact hdg) t st, q⟩
theorem vx_saloadN (hexec : p.tables.exec = Jvm.exec) (hb : c.code = cc) {i : Int32} (hdg : decode cc pc = .ok (.saload, 1)) (k : vx_NoteN p l e R s m args below meth c H locs cells slots Q (F0 m pc ls rest)) : W p l e R s m args below meth c H locs cells slots Q (F0 m pc ls (.int i :: .null :: rest)) := by
  intro T hT X
  obtain ⟨t, st, q⟩ := k T hT X
  exact ⟨t, X.saloadNull hexec (g := F0 m pc ls (.int i :: .null :: rest)) rfl (rest := rest) rfl (by rw [hb]; exact hdg) t st, q⟩
theorem vx_iastoreN (hexec : p.tables.exec = Jvm.exec) (hb : c.code = cc) {x : Int32} {i : Int32} (hdg : decode cc pc = .ok (.iastore, 1)) (k : vx_NoteN p l e R s m args below meth c H locs cells slots Q (F0 m pc ls rest)) : W p l e R s m args below meth c H locs cells slots Q (F0 m pc ls (.int x :: .int i :: .null :: rest)) := by
  intro T hT X
  obtain ⟨t, st, q⟩ := k T hT X
  exact ⟨t, X.iastoreNull hexec (g := F0 m pc ls (.int x :: .int i :: .null :: rest)) rfl (rest := rest) rfl (by rw [hb]; exact hdg) t st, q⟩
theorem vx_lastoreN (hexec : p.tables.exec = Jvm.exec) (hb : c.code = cc) {x : Int64} {i : Int32} (hdg : decode cc pc = .ok (.lastore, 1)) (k : vx_NoteN p l e R s m args below meth c H locs cells slots Q (F0 m pc ls rest)) : W p l e R s m args below meth c H locs cells slots Q (F0 m pc ls (.long x :: .int i :: .null :: rest)) := by
  intro T hT X
  obtain ⟨t, st, q⟩ := k T hT X
  exact ⟨t, X.lastoreNull hexec (g := F0 m pc ls (.long x :: .int i :: .null :: rest)) rfl (rest := rest) rfl (by rw [hb]; exact hdg) t st, q⟩
theorem vx_fastoreN (hexec : p.tables.exec = Jvm.exec) (hb : c.code = cc) {x : UInt32} {i : Int32} (hdg : decode cc pc = .ok (.fastore, 1)) (k : vx_NoteN p l e R s m args below meth c H locs cells slots Q (F0 m pc ls rest)) : W p l e R s m args below meth c H locs cells slots Q (F0 m pc ls (.float x :: .int i :: .null :: rest)) := by
  intro T hT X
  obtain ⟨t, st, q⟩ := k T hT X
  exact ⟨t, X.fastoreNull hexec (g := F0 m pc ls (.float x :: .int i :: .null :: rest)) rfl (rest := rest) rfl (by rw [hb]; exact hdg) t st, q⟩
theorem vx_dastoreN (hexec : p.tables.exec = Jvm.exec) (hb : c.code = cc) {x : UInt64} {i : Int32} (hdg : decode cc pc = .ok (.dastore, 1)) (k : vx_NoteN p l e R s m args below meth c H locs cells slots Q (F0 m pc ls rest)) : W p l e R s m args below meth c H locs cells slots Q (F0 m pc ls (.double x :: .int i :: .null :: rest)) := by
  intro T hT X
  obtain ⟨t, st, q⟩ := k T hT X
  exact ⟨t, X.dastoreNull hexec (g := F0 m pc ls (.double x :: .int i :: .null :: rest)) rfl (rest := rest) rfl (by rw [hb]; exact hdg) t st, q⟩
theorem vx_bastoreN (hexec : p.tables.exec = Jvm.exec) (hb : c.code = cc) {x : Int32} {i : Int32} (hdg : decode cc pc = .ok (.bastore, 1)) (k : vx_NoteN p l e R s m args below meth c H locs cells slots Q (F0 m pc ls rest)) : W p l e R s m args below meth c H locs cells slots Q (F0 m pc ls (.int x :: .int i :: .null :: rest)) := by
  intro T hT X
  obtain ⟨t, st, q⟩ := k T hT X
  exact ⟨t, X.bastoreNull hexec (g := F0 m pc ls (.int x :: .int i :: .null :: rest)) rfl (rest := rest) rfl (by rw [hb]; exact hdg) t st, q⟩
theorem vx_castoreN (hexec : p.tables.exec = Jvm.exec) (hb : c.code = cc) {x : Int32} {i : Int32} (hdg : decode cc pc = .ok (.castore, 1)) (k : vx_NoteN p l e R s m args below meth c H locs cells slots Q (F0 m pc ls rest)) : W p l e R s m args below meth c H locs cells slots Q (F0 m pc ls (.int x :: .int i :: .null :: rest)) := by
  intro T hT X
  obtain ⟨t, st, q⟩ := k T hT X
  exact ⟨t, X.castoreNull hexec (g := F0 m pc ls (.int x :: .int i :: .null :: rest)) rfl (rest := rest) rfl (by rw [hb]; exact hdg) t st, q⟩
theorem vx_sastoreN (hexec : p.tables.exec = Jvm.exec) (hb : c.code = cc) {x : Int32} {i : Int32} (hdg : decode cc pc = .ok (.sastore, 1)) (k : vx_NoteN p l e R s m args below meth c H locs cells slots Q (F0 m pc ls rest)) : W p l e R s m args below meth c H locs cells slots Q (F0 m pc ls (.int x :: .int i :: .null :: rest)) := by
  intro T hT X
  obtain ⟨t, st, q⟩ := k T hT X
  exact ⟨t, X.sastoreNull hexec (g := F0 m pc ls (.int x :: .int i :: .null :: rest)) rfl (rest := rest) rfl (by rw [hb]; exact hdg) t st, q⟩
theorem vx_invokeN {own C : String} {index maxL : Nat} {y : MethodName} {bytes : ByteArray} {ret : Option FieldType} (hexec : p.tables.exec = Jvm.exec) (hb : c.code = cc) (hown : s.vm.findClass own = some m.cls) (hlink : (Cond.methodLink own index y).before args s = true) (hinst : (Cond.instanceMethod y).before args s = true) (hcode : (Cond.code y bytes maxL ret).before args s = true) (hsel : (Cond.selects C y y).before args s = true)
    (hx : y.cls ≠ "java/lang/invoke/MethodHandle" ∧ y.cls ≠ "java/lang/invoke/VarHandle") {As : List Value} (hlen : (parseMethodDescriptor y.desc).map (fun d => d.parameters.length) = some As.length) (hdg : decode cc pc = .ok (.invokevirtual index, 3))
    (k : vx_NoteN p l e R s m args below meth c H locs cells slots Q (F0 m pc ls rest)) {st0 : List Value} (hst : st0 = As.reverse ++ .null :: rest) : W p l e R s m args below meth c H locs cells slots Q (F0 m pc ls st0) := by
  intro T hT X
  obtain ⟨r0, r, hn, hrm, hstR, hsigR⟩ := va_Decl.of hinst hcode
  obtain ⟨c2, r2, m2, q1, q2, q3, q4, kP, hkP, hkPi⟩ := Cond.selects_spec hsel
  cases hn.symm.trans q3
  have hl9 : As.length = r.sig.parameters.length := by
    rw [hsigR] at hlen
    exact (Option.some.inj hlen).symm
  obtain ⟨vm', X1, st1⟩ := X.invokevirtualNull hexec hown hlink hn hrm hstR hkP hkPi hx (g := F0 m pc ls st0) rfl (argsL := As) (rest := rest) hl9 hst (by rw [hb]; exact hdg)
  obtain ⟨t, st, q⟩ := k (T.setVm vm') hT X1
  exact ⟨t, st1 t st, q⟩
theorem vx_newarrayZ {atype : ArrayType} (hexec : p.tables.exec = Jvm.exec) (hb : c.code = cc) {n : Int32} (h0 : n < 0) (hdg : decode cc pc = .ok (.newarray atype, 2)) (k : ∀ tx : String, tx = toString n → vx_Note p l e R s m args below meth c H locs cells slots Q (F0 m pc ls rest) "java/lang/NegativeArraySizeException" tx) : W p l e R s m args below meth c H locs cells slots Q (F0 m pc ls (.int n :: rest)) := by
  intro T hT X
  obtain ⟨t, st, q⟩ := k _ rfl T hT X
  exact ⟨t, X.newarrayNegative hexec (g := F0 m pc ls (.int n :: rest)) rfl h0 (rest := rest) rfl (by rw [hb]; exact hdg) t st, q⟩
end
end VXM
/-! ===== END ===== -/
end
section

/-! ===== BEGIN printed: names, fields, word lists, decode rows ===== -/
def RX0 : String := "IceConvoys$Convoy"
def TX0 : u_T := fun k => match k with
  | 0 => ("IceConvoys$Convoy", "gap", "I", false)
  | 1 => ("IceConvoys$Convoy", "lead", "I", false)
  | 2 => ("IceConvoys$Convoy", "size", "I", false)
  | _ => ("IceConvoys$Convoy", "trucks", "[LIceConvoys$Truck;", true)
def tyX0 : Nat → FieldType := fun k => match k with
  | 0 => .int
  | 1 => .int
  | 2 => .int
  | _ => .array (.object "IceConvoys$Truck")
theorem nmX0 : ∀ a, a < 4 → ∀ b, b < 4 → a ≠ b → (TX0 a).2.1 ≠ (TX0 b).2.1 := by decide +kernel
theorem tyX0_ok : ∀ k, k < 4 → parseFieldDescriptor (TX0 k).2.2.1 = some (tyX0 k) := by decide +kernel
abbrev cX0_init : ByteArray := prog_2_method_1_code
def yX0_init : MethodName := ⟨RX0, "<init>", "()V"⟩
abbrev cX0_copyFrom : ByteArray := prog_2_method_2_code
def yX0_copyFrom : MethodName := ⟨RX0, "copyFrom", "(LIceConvoys$Convoy;)V"⟩
abbrev cX0_hasStarted : ByteArray := prog_2_method_3_code
def yX0_hasStarted : MethodName := ⟨RX0, "hasStarted", "()Z"⟩
abbrev cX0_isDone : ByteArray := prog_2_method_4_code
def yX0_isDone : MethodName := ⟨RX0, "isDone", "()Z"⟩
abbrev cX0_mileWithLead : ByteArray := prog_2_method_5_code
def yX0_mileWithLead : MethodName := ⟨RX0, "mileWithLead", "(II)I"⟩
abbrev cX0_mileOfTruck : ByteArray := prog_2_method_6_code
def yX0_mileOfTruck : MethodName := ⟨RX0, "mileOfTruck", "(I)I"⟩
abbrev cX0_countOnRoad : ByteArray := prog_2_method_7_code
def yX0_countOnRoad : MethodName := ⟨RX0, "countOnRoad", "()I"⟩
abbrev cX0_countArrived : ByteArray := prog_2_method_8_code
def yX0_countArrived : MethodName := ⟨RX0, "countArrived", "()I"⟩
abbrev cX0_placeAt : ByteArray := prog_2_method_9_code
def yX0_placeAt : MethodName := ⟨RX0, "placeAt", "(I)I"⟩
abbrev cX0_tonnesNotArrived : ByteArray := prog_2_method_10_code
def yX0_tonnesNotArrived : MethodName := ⟨RX0, "tonnesNotArrived", "()I"⟩
abbrev cX0_strainAheadOf : ByteArray := prog_2_method_11_code
def yX0_strainAheadOf : MethodName := ⟨RX0, "strainAheadOf", "(II)I"⟩
def RX1 : String := "IceConvoys$History"
def TX1 : u_T := fun k => match k with
  | 0 => ("IceConvoys$History", "kept", "[LIceConvoys$Road;", true)
  | 1 => ("IceConvoys$History", "next", "I", false)
  | _ => ("IceConvoys$History", "count", "I", false)
def tyX1 : Nat → FieldType := fun k => match k with
  | 0 => .array (.object "IceConvoys$Road")
  | 1 => .int
  | _ => .int
theorem nmX1 : ∀ a, a < 3 → ∀ b, b < 3 → a ≠ b → (TX1 a).2.1 ≠ (TX1 b).2.1 := by decide +kernel
theorem tyX1_ok : ∀ k, k < 3 → parseFieldDescriptor (TX1 k).2.2.1 = some (tyX1 k) := by decide +kernel
abbrev cX1_init : ByteArray := prog_3_method_1_code
def yX1_init : MethodName := ⟨RX1, "<init>", "()V"⟩
abbrev cX1_keep : ByteArray := prog_3_method_2_code
def yX1_keep : MethodName := ⟨RX1, "keep", "(LIceConvoys$Road;)V"⟩
abbrev cX1_takeBack : ByteArray := prog_3_method_3_code
def yX1_takeBack : MethodName := ⟨RX1, "takeBack", "(LIceConvoys$Road;)V"⟩
def RX2 : String := "IceConvoys$Mile"
def TX2 : u_T := fun k => match k with
  | 0 => ("IceConvoys$Mile", "thickness", "F", false)
  | 1 => ("IceConvoys$Mile", "noted", "F", false)
  | 2 => ("IceConvoys$Mile", "drillDay", "I", false)
  | 3 => ("IceConvoys$Mile", "cracks", "I", false)
  | 4 => ("IceConvoys$Mile", "strain", "I", false)
  | _ => ("IceConvoys$Mile", "visits", "I", false)
def tyX2 : Nat → FieldType := fun k => match k with
  | 0 => .float
  | 1 => .float
  | 2 => .int
  | 3 => .int
  | 4 => .int
  | _ => .int
theorem nmX2 : ∀ a, a < 6 → ∀ b, b < 6 → a ≠ b → (TX2 a).2.1 ≠ (TX2 b).2.1 := by decide +kernel
theorem tyX2_ok : ∀ k, k < 6 → parseFieldDescriptor (TX2 k).2.2.1 = some (tyX2 k) := by decide +kernel
abbrev cX2_init : ByteArray := prog_4_method_1_code
def yX2_init : MethodName := ⟨RX2, "<init>", "()V"⟩
abbrev cX2_copyFrom : ByteArray := prog_4_method_2_code
def yX2_copyFrom : MethodName := ⟨RX2, "copyFrom", "(LIceConvoys$Mile;)V"⟩
abbrev cX2_carry : ByteArray := prog_4_method_3_code
def yX2_carry : MethodName := ⟨RX2, "carry", "(LIceConvoys$Truck;)V"⟩
abbrev cX2_cracksAfter : ByteArray := prog_4_method_4_code
def yX2_cracksAfter : MethodName := ⟨RX2, "cracksAfter", "(I)I"⟩
abbrev cX2_liveThroughDay : ByteArray := prog_4_method_5_code
def yX2_liveThroughDay : MethodName := ⟨RX2, "liveThroughDay", "(I)V"⟩
def RX3 : String := "IceConvoys$Orders"
def TX3 : u_T := fun k => match k with
  | 0 => ("IceConvoys$Orders", "text", "[C", true)
  | 1 => ("IceConvoys$Orders", "length", "I", false)
  | 2 => ("IceConvoys$Orders", "offset", "I", false)
  | 3 => ("IceConvoys$Orders", "count", "I", false)
  | 4 => ("IceConvoys$Orders", "letters", "[I", true)
  | 5 => ("IceConvoys$Orders", "firsts", "[I", true)
  | 6 => ("IceConvoys$Orders", "seconds", "[I", true)
  | _ => ("IceConvoys$Orders", "thirds", "[I", true)
def tyX3 : Nat → FieldType := fun k => match k with
  | 0 => .array .char
  | 1 => .int
  | 2 => .int
  | 3 => .int
  | 4 => .array .int
  | 5 => .array .int
  | 6 => .array .int
  | _ => .array .int
theorem nmX3 : ∀ a, a < 8 → ∀ b, b < 8 → a ≠ b → (TX3 a).2.1 ≠ (TX3 b).2.1 := by decide +kernel
theorem tyX3_ok : ∀ k, k < 8 → parseFieldDescriptor (TX3 k).2.2.1 = some (tyX3 k) := by decide +kernel
abbrev cX3_init : ByteArray := prog_5_method_1_code
def yX3_init : MethodName := ⟨RX3, "<init>", "()V"⟩
abbrev cX3_parse : ByteArray := prog_5_method_2_code
def yX3_parse : MethodName := ⟨RX3, "parse", "()I"⟩
abbrev cX3_parseOrder : ByteArray := prog_5_method_3_code
def yX3_parseOrder : MethodName := ⟨RX3, "parseOrder", "()Z"⟩
abbrev cX3_parseTemperature : ByteArray := prog_5_method_4_code
def yX3_parseTemperature : MethodName := ⟨RX3, "parseTemperature", "()Z"⟩
abbrev cX3_parseJoin : ByteArray := prog_5_method_5_code
def yX3_parseJoin : MethodName := ⟨RX3, "parseJoin", "()Z"⟩
abbrev cX3_skip : ByteArray := prog_5_method_6_code
def yX3_skip : MethodName := ⟨RX3, "skip", "(C)Z"⟩
abbrev cX3_parseNumber : ByteArray := prog_5_method_7_code
def yX3_parseNumber : MethodName := ⟨RX3, "parseNumber", "()I"⟩
abbrev cX3_parseDigit : ByteArray := prog_5_method_8_code
def yX3_parseDigit : MethodName := ⟨RX3, "parseDigit", "()I"⟩
abbrev cX3_carryOut : ByteArray := prog_5_method_9_code
def yX3_carryOut : MethodName := ⟨RX3, "carryOut", "(ILIceConvoys$Road;)I"⟩
abbrev cX3_carryOutDrill : ByteArray := prog_5_method_10_code
def yX3_carryOutDrill : MethodName := ⟨RX3, "carryOutDrill", "(ILIceConvoys$Road;)I"⟩
abbrev cX3_carryOutMove : ByteArray := prog_5_method_11_code
def yX3_carryOutMove : MethodName := ⟨RX3, "carryOutMove", "(IILIceConvoys$Road;)I"⟩
abbrev cX3_carryOutTemperature : ByteArray := prog_5_method_12_code
def yX3_carryOutTemperature : MethodName := ⟨RX3, "carryOutTemperature", "(ILIceConvoys$Road;)I"⟩
abbrev cX3_carryOutJoin : ByteArray := prog_5_method_13_code
def yX3_carryOutJoin : MethodName := ⟨RX3, "carryOutJoin", "(ILIceConvoys$Road;)I"⟩
abbrev cX3_carryOutDays : ByteArray := prog_5_method_14_code
def yX3_carryOutDays : MethodName := ⟨RX3, "carryOutDays", "(ILIceConvoys$Road;)I"⟩
def RX4 : String := "IceConvoys$Road"
def TX4 : u_T := fun k => match k with
  | 0 => ("IceConvoys$Road", "settings", "[I", true)
  | 1 => ("IceConvoys$Road", "day", "I", false)
  | 2 => ("IceConvoys$Road", "miles", "[LIceConvoys$Mile;", true)
  | 3 => ("IceConvoys$Road", "rows", "[LIceConvoys$Truck;", true)
  | 4 => ("IceConvoys$Road", "convoys", "[LIceConvoys$Convoy;", true)
  | 5 => ("IceConvoys$Road", "convoyCount", "I", false)
  | 6 => ("IceConvoys$Road", "drills", "I", false)
  | 7 => ("IceConvoys$Road", "tonnesCame", "I", false)
  | _ => ("IceConvoys$Road", "tonnesDelivered", "I", false)
def tyX4 : Nat → FieldType := fun k => match k with
  | 0 => .array .int
  | 1 => .int
  | 2 => .array (.object "IceConvoys$Mile")
  | 3 => .array (.object "IceConvoys$Truck")
  | 4 => .array (.object "IceConvoys$Convoy")
  | 5 => .int
  | 6 => .int
  | 7 => .int
  | _ => .int
theorem nmX4 : ∀ a, a < 9 → ∀ b, b < 9 → a ≠ b → (TX4 a).2.1 ≠ (TX4 b).2.1 := by decide +kernel
theorem tyX4_ok : ∀ k, k < 9 → parseFieldDescriptor (TX4 k).2.2.1 = some (tyX4 k) := by decide +kernel
abbrev cX4_init : ByteArray := prog_6_method_1_code
def yX4_init : MethodName := ⟨RX4, "<init>", "()V"⟩
abbrev cX4_copyFrom : ByteArray := prog_6_method_2_code
def yX4_copyFrom : MethodName := ⟨RX4, "copyFrom", "(LIceConvoys$Road;)V"⟩
abbrev cX4_isConvoy : ByteArray := prog_6_method_3_code
def yX4_isConvoy : MethodName := ⟨RX4, "isConvoy", "(I)Z"⟩
abbrev cX4_truckIn : ByteArray := prog_6_method_4_code
def yX4_truckIn : MethodName := ⟨RX4, "truckIn", "(II)LIceConvoys$Truck;"⟩
abbrev cX4_noteIce : ByteArray := prog_6_method_5_code
def yX4_noteIce : MethodName := ⟨RX4, "noteIce", "(LIceConvoys$Mile;)V"⟩
abbrev cX4_isDrillGood : ByteArray := prog_6_method_6_code
def yX4_isDrillGood : MethodName := ⟨RX4, "isDrillGood", "(LIceConvoys$Mile;)Z"⟩
abbrev cX4_borneByDrill : ByteArray := prog_6_method_7_code
def yX4_borneByDrill : MethodName := ⟨RX4, "borneByDrill", "(LIceConvoys$Mile;)F"⟩
abbrev cX4_borneWithCracks : ByteArray := prog_6_method_8_code
def yX4_borneWithCracks : MethodName := ⟨RX4, "borneWithCracks", "(LIceConvoys$Mile;I)F"⟩
abbrev cX4_freePlace : ByteArray := prog_6_method_9_code
def yX4_freePlace : MethodName := ⟨RX4, "freePlace", "(I)I"⟩
abbrev cX4_convoyAt : ByteArray := prog_6_method_10_code
def yX4_convoyAt : MethodName := ⟨RX4, "convoyAt", "(I)I"⟩
abbrev cX4_isTakenByOther : ByteArray := prog_6_method_11_code
def yX4_isTakenByOther : MethodName := ⟨RX4, "isTakenByOther", "(II)Z"⟩
abbrev cX4_joinObstacle : ByteArray := prog_6_method_12_code
def yX4_joinObstacle : MethodName := ⟨RX4, "joinObstacle", "(III)I"⟩
abbrev cX4_startObstacle : ByteArray := prog_6_method_13_code
def yX4_startObstacle : MethodName := ⟨RX4, "startObstacle", "(I)I"⟩
abbrev cX4_rollObstacle : ByteArray := prog_6_method_14_code
def yX4_rollObstacle : MethodName := ⟨RX4, "rollObstacle", "(I)I"⟩
abbrev cX4_wayObstacle : ByteArray := prog_6_method_15_code
def yX4_wayObstacle : MethodName := ⟨RX4, "wayObstacle", "(I)I"⟩
abbrev cX4_letJoin : ByteArray := prog_6_method_16_code
def yX4_letJoin : MethodName := ⟨RX4, "letJoin", "(LIceConvoys$Convoy;I)V"⟩
abbrev cX4_advance : ByteArray := prog_6_method_17_code
def yX4_advance : MethodName := ⟨RX4, "advance", "(LIceConvoys$Convoy;)V"⟩
abbrev cX4_countRollsAhead : ByteArray := prog_6_method_18_code
def yX4_countRollsAhead : MethodName := ⟨RX4, "countRollsAhead", "(I)I"⟩
abbrev cX4_couldLeadBe : ByteArray := prog_6_method_19_code
def yX4_couldLeadBe : MethodName := ⟨RX4, "couldLeadBe", "(II)Z"⟩
abbrev cX4_letDaysGoBy : ByteArray := prog_6_method_20_code
def yX4_letDaysGoBy : MethodName := ⟨RX4, "letDaysGoBy", "(I)V"⟩
abbrev cX4_countGoodDrills : ByteArray := prog_6_method_21_code
def yX4_countGoodDrills : MethodName := ⟨RX4, "countGoodDrills", "()I"⟩
abbrev cX4_countCracks : ByteArray := prog_6_method_22_code
def yX4_countCracks : MethodName := ⟨RX4, "countCracks", "()I"⟩
abbrev cX4_countInRows : ByteArray := prog_6_method_23_code
def yX4_countInRows : MethodName := ⟨RX4, "countInRows", "()I"⟩
abbrev cX4_countStarted : ByteArray := prog_6_method_24_code
def yX4_countStarted : MethodName := ⟨RX4, "countStarted", "()I"⟩
abbrev cX4_countDone : ByteArray := prog_6_method_25_code
def yX4_countDone : MethodName := ⟨RX4, "countDone", "()I"⟩
abbrev cX4_countOnRoad : ByteArray := prog_6_method_26_code
def yX4_countOnRoad : MethodName := ⟨RX4, "countOnRoad", "()I"⟩
abbrev cX4_countArrived : ByteArray := prog_6_method_27_code
def yX4_countArrived : MethodName := ⟨RX4, "countArrived", "()I"⟩
abbrev cX4_tonnesInRows : ByteArray := prog_6_method_28_code
def yX4_tonnesInRows : MethodName := ⟨RX4, "tonnesInRows", "()I"⟩
abbrev cX4_tonnesUnderWay : ByteArray := prog_6_method_29_code
def yX4_tonnesUnderWay : MethodName := ⟨RX4, "tonnesUnderWay", "()I"⟩
abbrev cX4_hasOneTruckAMile : ByteArray := prog_6_method_30_code
def yX4_hasOneTruckAMile : MethodName := ⟨RX4, "hasOneTruckAMile", "()Z"⟩
abbrev cX4_isIceInRange : ByteArray := prog_6_method_31_code
def yX4_isIceInRange : MethodName := ⟨RX4, "isIceInRange", "()Z"⟩
def RX5 : String := "IceConvoys$Truck"
def TX5 : u_T := fun k => match k with
  | 0 => ("IceConvoys$Truck", "kind", "I", true)
  | 1 => ("IceConvoys$Truck", "weight", "I", true)
  | _ => ("IceConvoys$Truck", "axles", "I", true)
def tyX5 : Nat → FieldType := fun k => match k with
  | 0 => .int
  | 1 => .int
  | _ => .int
theorem nmX5 : ∀ a, a < 3 → ∀ b, b < 3 → a ≠ b → (TX5 a).2.1 ≠ (TX5 b).2.1 := by decide +kernel
theorem tyX5_ok : ∀ k, k < 3 → parseFieldDescriptor (TX5 k).2.2.1 = some (tyX5 k) := by decide +kernel
abbrev cX5_init : ByteArray := prog_7_method_1_code
def yX5_init : MethodName := ⟨RX5, "<init>", "(III)V"⟩
abbrev cX5_burden : ByteArray := prog_7_method_2_code
def yX5_burden : MethodName := ⟨RX5, "burden", "()F"⟩
abbrev cX5_strainOnIce : ByteArray := prog_7_method_3_code
def yX5_strainOnIce : MethodName := ⟨RX5, "strainOnIce", "()I"⟩
def RX6 : String := "IceConvoys"
def TX6 : u_T := fun k => match k with
  | 0 => ("IceConvoys", "now", "LIceConvoys$Road;", true)
  | 1 => ("IceConvoys", "trial", "LIceConvoys$Road;", true)
  | 2 => ("IceConvoys", "snapshot", "LIceConvoys$Road;", true)
  | 3 => ("IceConvoys", "hasSnapshot", "Z", false)
  | 4 => ("IceConvoys", "history", "LIceConvoys$History;", true)
  | 5 => ("IceConvoys", "orders", "LIceConvoys$Orders;", true)
  | 6 => ("IceConvoys", "errorOffset", "I", false)
  | _ => ("IceConvoys", "lastRefusal", "I", false)
def tyX6 : Nat → FieldType := fun k => match k with
  | 0 => .object "IceConvoys$Road"
  | 1 => .object "IceConvoys$Road"
  | 2 => .object "IceConvoys$Road"
  | 3 => .boolean
  | 4 => .object "IceConvoys$History"
  | 5 => .object "IceConvoys$Orders"
  | 6 => .int
  | _ => .int
theorem nmX6 : ∀ a, a < 8 → ∀ b, b < 8 → a ≠ b → (TX6 a).2.1 ≠ (TX6 b).2.1 := by decide +kernel
theorem tyX6_ok : ∀ k, k < 8 → parseFieldDescriptor (TX6 k).2.2.1 = some (tyX6 k) := by decide +kernel
abbrev cX6_init : ByteArray := prog_1_method_1_code
def yX6_init : MethodName := ⟨RX6, "<init>", "()V"⟩
abbrev cX6_set : ByteArray := prog_1_method_2_code
def yX6_set : MethodName := ⟨RX6, "set", "(II)I"⟩
abbrev cX6_setting : ByteArray := prog_1_method_3_code
def yX6_setting : MethodName := ⟨RX6, "setting", "(I)I"⟩
abbrev cX6_drill : ByteArray := prog_1_method_4_code
def yX6_drill : MethodName := ⟨RX6, "drill", "(I)I"⟩
abbrev cX6_drilled : ByteArray := prog_1_method_5_code
def yX6_drilled : MethodName := ⟨RX6, "drilled", "(I)I"⟩
abbrev cX6_mileOf : ByteArray := prog_1_method_6_code
def yX6_mileOf : MethodName := ⟨RX6, "mileOf", "(II)I"⟩
abbrev cX6_ice : ByteArray := prog_1_method_7_code
def yX6_ice : MethodName := ⟨RX6, "ice", "(I)F"⟩
abbrev cX6_bears : ByteArray := prog_1_method_8_code
def yX6_bears : MethodName := ⟨RX6, "bears", "(I)I"⟩
abbrev cX6_sign : ByteArray := prog_1_method_9_code
def yX6_sign : MethodName := ⟨RX6, "sign", "(I)C"⟩
abbrev cX6_weakest : ByteArray := prog_1_method_10_code
def yX6_weakest : MethodName := ⟨RX6, "weakest", "()I"⟩
abbrev cX6_truck : ByteArray := prog_1_method_11_code
def yX6_truck : MethodName := ⟨RX6, "truck", "(IIII)I"⟩
abbrev cX6_inRow : ByteArray := prog_1_method_12_code
def yX6_inRow : MethodName := ⟨RX6, "inRow", "(III)I"⟩
abbrev cX6_convoy : ByteArray := prog_1_method_13_code
def yX6_convoy : MethodName := ⟨RX6, "convoy", "(I)I"⟩
abbrev cX6_join : ByteArray := prog_1_method_14_code
def yX6_join : MethodName := ⟨RX6, "join", "(III)I"⟩
abbrev cX6_start : ByteArray := prog_1_method_15_code
def yX6_start : MethodName := ⟨RX6, "start", "(I)I"⟩
abbrev cX6_roll : ByteArray := prog_1_method_16_code
def yX6_roll : MethodName := ⟨RX6, "roll", "(I)I"⟩
abbrev cX6_why : ByteArray := prog_1_method_17_code
def yX6_why : MethodName := ⟨RX6, "why", "(IZ)I"⟩
abbrev cX6_convoyOf : ByteArray := prog_1_method_18_code
def yX6_convoyOf : MethodName := ⟨RX6, "convoyOf", "(II)I"⟩
abbrev cX6_truckOf : ByteArray := prog_1_method_19_code
def yX6_truckOf : MethodName := ⟨RX6, "truckOf", "(III)I"⟩
abbrev cX6_load : ByteArray := prog_1_method_20_code
def yX6_load : MethodName := ⟨RX6, "load", "(II)F"⟩
abbrev cX6_at : ByteArray := prog_1_method_21_code
def yX6_at : MethodName := ⟨RX6, "at", "(I)I"⟩
abbrev cX6_rolls : ByteArray := prog_1_method_22_code
def yX6_rolls : MethodName := ⟨RX6, "rolls", "(I)I"⟩
abbrev cX6_rollsAgain : ByteArray := prog_1_method_23_code
def yX6_rollsAgain : MethodName := ⟨RX6, "rollsAgain", "(I)I"⟩
abbrev cX6_iceIn : ByteArray := prog_1_method_24_code
def yX6_iceIn : MethodName := ⟨RX6, "iceIn", "(II)I"⟩
abbrev cX6_bearsIn : ByteArray := prog_1_method_25_code
def yX6_bearsIn : MethodName := ⟨RX6, "bearsIn", "(II)I"⟩
abbrev cX6_pass : ByteArray := prog_1_method_26_code
def yX6_pass : MethodName := ⟨RX6, "pass", "(I)I"⟩
abbrev cX6_append : ByteArray := prog_1_method_27_code
def yX6_append : MethodName := ⟨RX6, "append", "(C)I"⟩
abbrev cX6_read : ByteArray := prog_1_method_28_code
def yX6_read : MethodName := ⟨RX6, "read", "()I"⟩
abbrev cX6_errorPosition : ByteArray := prog_1_method_29_code
def yX6_errorPosition : MethodName := ⟨RX6, "errorPosition", "()I"⟩
abbrev cX6_refusal : ByteArray := prog_1_method_30_code
def yX6_refusal : MethodName := ⟨RX6, "refusal", "(Z)I"⟩
abbrev cX6_account : ByteArray := prog_1_method_31_code
def yX6_account : MethodName := ⟨RX6, "account", "(I)I"⟩
abbrev cX6_isWell : ByteArray := prog_1_method_32_code
def yX6_isWell : MethodName := ⟨RX6, "isWell", "()Z"⟩
abbrev cX6_meanBits : ByteArray := prog_1_method_33_code
def yX6_meanBits : MethodName := ⟨RX6, "meanBits", "()J"⟩
abbrev cX6_share : ByteArray := prog_1_method_34_code
def yX6_share : MethodName := ⟨RX6, "share", "()F"⟩
abbrev cX6_undo : ByteArray := prog_1_method_35_code
def yX6_undo : MethodName := ⟨RX6, "undo", "()I"⟩
abbrev cX6_save : ByteArray := prog_1_method_36_code
def yX6_save : MethodName := ⟨RX6, "save", "()I"⟩
abbrev cX6_restore : ByteArray := prog_1_method_37_code
def yX6_restore : MethodName := ⟨RX6, "restore", "()I"⟩
abbrev cX6_isSetting : ByteArray := prog_1_method_38_code
def yX6_isSetting : MethodName := ⟨RX6, "isSetting", "(I)Z"⟩
abbrev cX6_isSettingValue : ByteArray := prog_1_method_39_code
def yX6_isSettingValue : MethodName := ⟨RX6, "isSettingValue", "(II)Z"⟩
abbrev cX6_isMile : ByteArray := prog_1_method_40_code
def yX6_isMile : MethodName := ⟨RX6, "isMile", "(I)Z"⟩
abbrev cX6_isRow : ByteArray := prog_1_method_41_code
def yX6_isRow : MethodName := ⟨RX6, "isRow", "(I)Z"⟩
abbrev cX6_isPlace : ByteArray := prog_1_method_42_code
def yX6_isPlace : MethodName := ⟨RX6, "isPlace", "(I)Z"⟩
abbrev cX6_isDaysToPass : ByteArray := prog_1_method_43_code
def yX6_isDaysToPass : MethodName := ⟨RX6, "isDaysToPass", "(I)Z"⟩
abbrev cX6_refusalFor : ByteArray := prog_1_method_44_code
def yX6_refusalFor : MethodName := ⟨RX6, "refusalFor", "(II)I"⟩
abbrev cX6_nextIce : ByteArray := prog_1_method_45_code
def yX6_nextIce : MethodName := ⟨RX6, "nextIce", "(FI)F"⟩
abbrev cX6_borneBy : ByteArray := prog_1_method_46_code
def yX6_borneBy : MethodName := ⟨RX6, "borneBy", "(FII)F"⟩
abbrev cX6_floatBits : ByteArray := prog_1_method_47_code
def yX6_floatBits : MethodName := ⟨RX6, "floatBits", "(F)I"⟩
abbrev cX6_doubleBits : ByteArray := prog_1_method_48_code
def yX6_doubleBits : MethodName := ⟨RX6, "doubleBits", "(D)J"⟩
def RX7 : String := "IceConvoysModel"
def TX7 : u_T := fun k => match k with
  | 0 => ("IceConvoysModel", "s", "[I", true)
  | 1 => ("IceConvoysModel", "before", "[I", true)
  | 2 => ("IceConvoysModel", "aside", "[I", true)
  | 3 => ("IceConvoysModel", "saved", "[I", true)
  | 4 => ("IceConvoysModel", "isSaved", "Z", false)
  | 5 => ("IceConvoysModel", "past", "[I", true)
  | 6 => ("IceConvoysModel", "pastMany", "I", false)
  | 7 => ("IceConvoysModel", "thrown", "I", false)
  | 8 => ("IceConvoysModel", "reason", "I", false)
  | 9 => ("IceConvoysModel", "detail", "I", false)
  | 10 => ("IceConvoysModel", "isRefused", "Z", false)
  | 11 => ("IceConvoysModel", "text", "[C", true)
  | 12 => ("IceConvoysModel", "length", "I", false)
  | 13 => ("IceConvoysModel", "place", "I", false)
  | 14 => ("IceConvoysModel", "isWrong", "Z", false)
  | 15 => ("IceConvoysModel", "error", "I", false)
  | 16 => ("IceConvoysModel", "orders", "[I", true)
  | _ => ("IceConvoysModel", "orderMany", "I", false)
def tyX7 : Nat → FieldType := fun k => match k with
  | 0 => .array .int
  | 1 => .array .int
  | 2 => .array .int
  | 3 => .array .int
  | 4 => .boolean
  | 5 => .array .int
  | 6 => .int
  | 7 => .int
  | 8 => .int
  | 9 => .int
  | 10 => .boolean
  | 11 => .array .char
  | 12 => .int
  | 13 => .int
  | 14 => .boolean
  | 15 => .int
  | 16 => .array .int
  | _ => .int
theorem nmX7 : ∀ a, a < 18 → ∀ b, b < 18 → a ≠ b → (TX7 a).2.1 ≠ (TX7 b).2.1 := by decide +kernel
theorem tyX7_ok : ∀ k, k < 18 → parseFieldDescriptor (TX7 k).2.2.1 = some (tyX7 k) := by decide +kernel
abbrev cX7_init : ByteArray := prog_9_method_1_code
def yX7_init : MethodName := ⟨RX7, "<init>", "()V"⟩
abbrev cX7_thrown : ByteArray := prog_9_method_2_code
def yX7_thrown : MethodName := ⟨RX7, "thrown", "()I"⟩
abbrev cX7_in : ByteArray := prog_9_method_3_code
def yX7_in : MethodName := ⟨RX7, "in", "(III)Z"⟩
abbrev cX7_keep : ByteArray := prog_9_method_4_code
def yX7_keep : MethodName := ⟨RX7, "keep", "()V"⟩
abbrev cX7_ends : ByteArray := prog_9_method_5_code
def yX7_ends : MethodName := ⟨RX7, "ends", "(I)I"⟩
abbrev cX7_fails : ByteArray := prog_9_method_6_code
def yX7_fails : MethodName := ⟨RX7, "fails", "(I)I"⟩
abbrev cX7_refuse : ByteArray := prog_9_method_7_code
def yX7_refuse : MethodName := ⟨RX7, "refuse", "(III)I"⟩
abbrev cX7_refusal : ByteArray := prog_9_method_8_code
def yX7_refusal : MethodName := ⟨RX7, "refusal", "(Z)I"⟩
abbrev cX7_get : ByteArray := prog_9_method_9_code
def yX7_get : MethodName := ⟨RX7, "get", "(II)I"⟩
abbrev cX7_set : ByteArray := prog_9_method_10_code
def yX7_set : MethodName := ⟨RX7, "set", "(III)V"⟩
abbrev cX7_iceOf : ByteArray := prog_9_method_11_code
def yX7_iceOf : MethodName := ⟨RX7, "iceOf", "(I)F"⟩
abbrev cX7_setIce : ByteArray := prog_9_method_12_code
def yX7_setIce : MethodName := ⟨RX7, "setIce", "(IF)V"⟩
abbrev cX7_convoy1 : ByteArray := prog_9_method_13_code
def yX7_convoy1 : MethodName := ⟨RX7, "convoy1", "(II)I"⟩
abbrev cX7_truck1 : ByteArray := prog_9_method_14_code
def yX7_truck1 : MethodName := ⟨RX7, "truck1", "(III)I"⟩
abbrev cX7_isMile : ByteArray := prog_9_method_15_code
def yX7_isMile : MethodName := ⟨RX7, "isMile", "(I)Z"⟩
abbrev cX7_isConvoy : ByteArray := prog_9_method_16_code
def yX7_isConvoy : MethodName := ⟨RX7, "isConvoy", "(I)Z"⟩
abbrev cX7_doSet : ByteArray := prog_9_method_17_code
def yX7_doSet : MethodName := ⟨RX7, "doSet", "(II)I"⟩
abbrev cX7_set_ : ByteArray := prog_9_method_18_code
def yX7_set_ : MethodName := ⟨RX7, "set", "(II)I"⟩
abbrev cX7_setting : ByteArray := prog_9_method_19_code
def yX7_setting : MethodName := ⟨RX7, "setting", "(I)I"⟩
abbrev cX7_doDrill : ByteArray := prog_9_method_20_code
def yX7_doDrill : MethodName := ⟨RX7, "doDrill", "(I)I"⟩
abbrev cX7_drill : ByteArray := prog_9_method_21_code
def yX7_drill : MethodName := ⟨RX7, "drill", "(I)I"⟩
abbrev cX7_drilled : ByteArray := prog_9_method_22_code
def yX7_drilled : MethodName := ⟨RX7, "drilled", "(I)I"⟩
abbrev cX7_isGood : ByteArray := prog_9_method_23_code
def yX7_isGood : MethodName := ⟨RX7, "isGood", "(I)Z"⟩
abbrev cX7_bearsOf : ByteArray := prog_9_method_24_code
def yX7_bearsOf : MethodName := ⟨RX7, "bearsOf", "(I)F"⟩
abbrev cX7_mileOf : ByteArray := prog_9_method_25_code
def yX7_mileOf : MethodName := ⟨RX7, "mileOf", "(II)I"⟩
abbrev cX7_ice : ByteArray := prog_9_method_26_code
def yX7_ice : MethodName := ⟨RX7, "ice", "(I)F"⟩
abbrev cX7_bears : ByteArray := prog_9_method_27_code
def yX7_bears : MethodName := ⟨RX7, "bears", "(I)I"⟩
abbrev cX7_sign : ByteArray := prog_9_method_28_code
def yX7_sign : MethodName := ⟨RX7, "sign", "(I)C"⟩
abbrev cX7_weakest : ByteArray := prog_9_method_29_code
def yX7_weakest : MethodName := ⟨RX7, "weakest", "()I"⟩
abbrev cX7_placeIn : ByteArray := prog_9_method_30_code
def yX7_placeIn : MethodName := ⟨RX7, "placeIn", "(II)I"⟩
abbrev cX7_isPlace : ByteArray := prog_9_method_31_code
def yX7_isPlace : MethodName := ⟨RX7, "isPlace", "(II)Z"⟩
abbrev cX7_truck : ByteArray := prog_9_method_32_code
def yX7_truck : MethodName := ⟨RX7, "truck", "(IIII)I"⟩
abbrev cX7_inRow : ByteArray := prog_9_method_33_code
def yX7_inRow : MethodName := ⟨RX7, "inRow", "(III)I"⟩
abbrev cX7_convoy : ByteArray := prog_9_method_34_code
def yX7_convoy : MethodName := ⟨RX7, "convoy", "(I)I"⟩
abbrev cX7_doJoin : ByteArray := prog_9_method_35_code
def yX7_doJoin : MethodName := ⟨RX7, "doJoin", "(III)I"⟩
abbrev cX7_join : ByteArray := prog_9_method_36_code
def yX7_join : MethodName := ⟨RX7, "join", "(III)I"⟩
abbrev cX7_loadOf : ByteArray := prog_9_method_37_code
def yX7_loadOf : MethodName := ⟨RX7, "loadOf", "(II)F"⟩
abbrev cX7_mileBy : ByteArray := prog_9_method_38_code
def yX7_mileBy : MethodName := ⟨RX7, "mileBy", "(III)I"⟩
abbrev cX7_isStarted : ByteArray := prog_9_method_39_code
def yX7_isStarted : MethodName := ⟨RX7, "isStarted", "(I)Z"⟩
abbrev cX7_whoIsAt : ByteArray := prog_9_method_40_code
def yX7_whoIsAt : MethodName := ⟨RX7, "whoIsAt", "(II)I"⟩
abbrev cX7_barred : ByteArray := prog_9_method_41_code
def yX7_barred : MethodName := ⟨RX7, "barred", "(II)I"⟩
abbrev cX7_isDone : ByteArray := prog_9_method_42_code
def yX7_isDone : MethodName := ⟨RX7, "isDone", "(I)Z"⟩
abbrev cX7_comesTo : ByteArray := prog_9_method_43_code
def yX7_comesTo : MethodName := ⟨RX7, "comesTo", "(II)I"⟩
abbrev cX7_doStart : ByteArray := prog_9_method_44_code
def yX7_doStart : MethodName := ⟨RX7, "doStart", "(I)I"⟩
abbrev cX7_start : ByteArray := prog_9_method_45_code
def yX7_start : MethodName := ⟨RX7, "start", "(I)I"⟩
abbrev cX7_whyNot : ByteArray := prog_9_method_46_code
def yX7_whyNot : MethodName := ⟨RX7, "whyNot", "(I)I"⟩
abbrev cX7_doRoll : ByteArray := prog_9_method_47_code
def yX7_doRoll : MethodName := ⟨RX7, "doRoll", "(I)I"⟩
abbrev cX7_roll : ByteArray := prog_9_method_48_code
def yX7_roll : MethodName := ⟨RX7, "roll", "(I)I"⟩
abbrev cX7_why : ByteArray := prog_9_method_49_code
def yX7_why : MethodName := ⟨RX7, "why", "(IZ)I"⟩
abbrev cX7_trucksOf : ByteArray := prog_9_method_50_code
def yX7_trucksOf : MethodName := ⟨RX7, "trucksOf", "(IZ)I"⟩
abbrev cX7_convoyOf : ByteArray := prog_9_method_51_code
def yX7_convoyOf : MethodName := ⟨RX7, "convoyOf", "(II)I"⟩
abbrev cX7_isTruck : ByteArray := prog_9_method_52_code
def yX7_isTruck : MethodName := ⟨RX7, "isTruck", "(II)Z"⟩
abbrev cX7_truckOf : ByteArray := prog_9_method_53_code
def yX7_truckOf : MethodName := ⟨RX7, "truckOf", "(III)I"⟩
abbrev cX7_load : ByteArray := prog_9_method_54_code
def yX7_load : MethodName := ⟨RX7, "load", "(II)F"⟩
abbrev cX7_at : ByteArray := prog_9_method_55_code
def yX7_at : MethodName := ⟨RX7, "at", "(I)I"⟩
abbrev cX7_rolls : ByteArray := prog_9_method_56_code
def yX7_rolls : MethodName := ⟨RX7, "rolls", "(I)I"⟩
abbrev cX7_rollsAgain : ByteArray := prog_9_method_57_code
def yX7_rollsAgain : MethodName := ⟨RX7, "rollsAgain", "(I)I"⟩
abbrev cX7_iceBehind : ByteArray := prog_9_method_58_code
def yX7_iceBehind : MethodName := ⟨RX7, "iceBehind", "(F)F"⟩
abbrev cX7_iceIn : ByteArray := prog_9_method_59_code
def yX7_iceIn : MethodName := ⟨RX7, "iceIn", "(II)I"⟩
abbrev cX7_bearsIn : ByteArray := prog_9_method_60_code
def yX7_bearsIn : MethodName := ⟨RX7, "bearsIn", "(II)I"⟩
abbrev cX7_goodMany : ByteArray := prog_9_method_61_code
def yX7_goodMany : MethodName := ⟨RX7, "goodMany", "()I"⟩
abbrev cX7_goDay : ByteArray := prog_9_method_62_code
def yX7_goDay : MethodName := ⟨RX7, "goDay", "()V"⟩
abbrev cX7_doPass : ByteArray := prog_9_method_63_code
def yX7_doPass : MethodName := ⟨RX7, "doPass", "(I)I"⟩
abbrev cX7_pass : ByteArray := prog_9_method_64_code
def yX7_pass : MethodName := ⟨RX7, "pass", "(I)I"⟩
abbrev cX7_append : ByteArray := prog_9_method_65_code
def yX7_append : MethodName := ⟨RX7, "append", "(C)I"⟩
abbrev cX7_isHere : ByteArray := prog_9_method_66_code
def yX7_isHere : MethodName := ⟨RX7, "isHere", "(CC)Z"⟩
abbrev cX7_sign1 : ByteArray := prog_9_method_67_code
def yX7_sign1 : MethodName := ⟨RX7, "sign1", "(CC)I"⟩
abbrev cX7_digit : ByteArray := prog_9_method_68_code
def yX7_digit : MethodName := ⟨RX7, "digit", "()I"⟩
abbrev cX7_number : ByteArray := prog_9_method_69_code
def yX7_number : MethodName := ⟨RX7, "number", "()I"⟩
abbrev cX7_digitBehind : ByteArray := prog_9_method_70_code
def yX7_digitBehind : MethodName := ⟨RX7, "digitBehind", "(C)I"⟩
abbrev cX7_signed : ByteArray := prog_9_method_71_code
def yX7_signed : MethodName := ⟨RX7, "signed", "()I"⟩
abbrev cX7_readOrder : ByteArray := prog_9_method_72_code
def yX7_readOrder : MethodName := ⟨RX7, "readOrder", "()V"⟩
abbrev cX7_does : ByteArray := prog_9_method_73_code
def yX7_does : MethodName := ⟨RX7, "does", "(I)V"⟩
abbrev cX7_read : ByteArray := prog_9_method_74_code
def yX7_read : MethodName := ⟨RX7, "read", "()I"⟩
abbrev cX7_errorPosition : ByteArray := prog_9_method_75_code
def yX7_errorPosition : MethodName := ⟨RX7, "errorPosition", "()I"⟩
abbrev cX7_overConvoys : ByteArray := prog_9_method_76_code
def yX7_overConvoys : MethodName := ⟨RX7, "overConvoys", "(I)I"⟩
abbrev cX7_waitingTonnes : ByteArray := prog_9_method_77_code
def yX7_waitingTonnes : MethodName := ⟨RX7, "waitingTonnes", "()I"⟩
abbrev cX7_inRows : ByteArray := prog_9_method_78_code
def yX7_inRows : MethodName := ⟨RX7, "inRows", "()I"⟩
abbrev cX7_allCracks : ByteArray := prog_9_method_79_code
def yX7_allCracks : MethodName := ⟨RX7, "allCracks", "()I"⟩
abbrev cX7_account : ByteArray := prog_9_method_80_code
def yX7_account : MethodName := ⟨RX7, "account", "(I)I"⟩
abbrev cX7_isWell : ByteArray := prog_9_method_81_code
def yX7_isWell : MethodName := ⟨RX7, "isWell", "()Z"⟩
abbrev cX7_meanBits : ByteArray := prog_9_method_82_code
def yX7_meanBits : MethodName := ⟨RX7, "meanBits", "()J"⟩
abbrev cX7_share : ByteArray := prog_9_method_83_code
def yX7_share : MethodName := ⟨RX7, "share", "()F"⟩
abbrev cX7_undo : ByteArray := prog_9_method_84_code
def yX7_undo : MethodName := ⟨RX7, "undo", "()I"⟩
abbrev cX7_save : ByteArray := prog_9_method_85_code
def yX7_save : MethodName := ⟨RX7, "save", "()I"⟩
abbrev cX7_restore : ByteArray := prog_9_method_86_code
def yX7_restore : MethodName := ⟨RX7, "restore", "()I"⟩
def RJx145de : String := "java/io/Serializable"
def TJx145de : u_T := fun k => match k with
  | _ => ("", "", "", false)
def tyJx145de : Nat → FieldType := fun k => match k with
  | _ => .int
theorem nmJx145de : ∀ a, a < 0 → ∀ b, b < 0 → a ≠ b → (TJx145de a).2.1 ≠ (TJx145de b).2.1 := by decide +kernel
theorem tyJx145de_ok : ∀ k, k < 0 → parseFieldDescriptor (TJx145de k).2.2.1 = some (tyJx145de k) := by decide +kernel
def RJx00060 : String := "java/lang/ArrayIndexOutOfBoundsException"
def TJx00060 : u_T := fun k => match k with
  | 0 => ("java/lang/Throwable", "backtrace", "Ljava/lang/Object;", false)
  | 1 => ("java/lang/Throwable", "detailMessage", "Ljava/lang/String;", false)
  | 2 => ("java/lang/Throwable", "cause", "Ljava/lang/Throwable;", false)
  | 3 => ("java/lang/Throwable", "stackTrace", "[Ljava/lang/StackTraceElement;", false)
  | 4 => ("java/lang/Throwable", "depth", "I", false)
  | _ => ("java/lang/Throwable", "suppressedExceptions", "Ljava/util/List;", false)
def tyJx00060 : Nat → FieldType := fun k => match k with
  | 0 => .object "java/lang/Object"
  | 1 => .object "java/lang/String"
  | 2 => .object "java/lang/Throwable"
  | 3 => .array (.object "java/lang/StackTraceElement")
  | 4 => .int
  | _ => .object "java/util/List"
theorem nmJx00060 : ∀ a, a < 6 → ∀ b, b < 6 → a ≠ b → (TJx00060 a).2.1 ≠ (TJx00060 b).2.1 := by decide +kernel
theorem tyJx00060_ok : ∀ k, k < 6 → parseFieldDescriptor (TJx00060 k).2.2.1 = some (tyJx00060 k) := by decide +kernel
abbrev cJx00060_init_a7421 : ByteArray := prog_12_method_2_code
def yJx00060_init_a7421 : MethodName := ⟨RJx00060, "<init>", "(Ljava/lang/String;)V"⟩
def RJx9f9b0 : String := "java/lang/CharSequence"
def TJx9f9b0 : u_T := fun k => match k with
  | _ => ("", "", "", false)
def tyJx9f9b0 : Nat → FieldType := fun k => match k with
  | _ => .int
theorem nmJx9f9b0 : ∀ a, a < 0 → ∀ b, b < 0 → a ≠ b → (TJx9f9b0 a).2.1 ≠ (TJx9f9b0 b).2.1 := by decide +kernel
theorem tyJx9f9b0_ok : ∀ k, k < 0 → parseFieldDescriptor (TJx9f9b0 k).2.2.1 = some (tyJx9f9b0 k) := by decide +kernel
def RJ11 : String := "java/lang/Character"
def TJ11 : u_T := fun k => match k with
  | _ => ("", "", "", false)
def tyJ11 : Nat → FieldType := fun k => match k with
  | _ => .int
theorem nmJ11 : ∀ a, a < 0 → ∀ b, b < 0 → a ≠ b → (TJ11 a).2.1 ≠ (TJ11 b).2.1 := by decide +kernel
theorem tyJ11_ok : ∀ k, k < 0 → parseFieldDescriptor (TJ11 k).2.2.1 = some (tyJ11 k) := by decide +kernel
abbrev cJ11_isValidCodePoint_9a6ad : ByteArray := prog_14_method_11_code
def yJ11_isValidCodePoint_9a6ad : MethodName := ⟨RJ11, "isValidCodePoint", "(I)Z"⟩
abbrev cJ11_highSurrogate_5068e : ByteArray := prog_14_method_28_code
def yJ11_highSurrogate_5068e : MethodName := ⟨RJ11, "highSurrogate", "(I)C"⟩
abbrev cJ11_lowSurrogate_5068e : ByteArray := prog_14_method_29_code
def yJ11_lowSurrogate_5068e : MethodName := ⟨RJ11, "lowSurrogate", "(I)C"⟩
def RJxb160c : String := "java/lang/Comparable"
def TJxb160c : u_T := fun k => match k with
  | _ => ("", "", "", false)
def tyJxb160c : Nat → FieldType := fun k => match k with
  | _ => .int
theorem nmJxb160c : ∀ a, a < 0 → ∀ b, b < 0 → a ≠ b → (TJxb160c a).2.1 ≠ (TJxb160c b).2.1 := by decide +kernel
theorem tyJxb160c_ok : ∀ k, k < 0 → parseFieldDescriptor (TJxb160c k).2.2.1 = some (tyJxb160c k) := by decide +kernel
def RJxe99ae : String := "java/lang/Double"
def TJxe99ae : u_T := fun k => match k with
  | _ => ("", "", "", false)
def tyJxe99ae : Nat → FieldType := fun k => match k with
  | _ => .int
theorem nmJxe99ae : ∀ a, a < 0 → ∀ b, b < 0 → a ≠ b → (TJxe99ae a).2.1 ≠ (TJxe99ae b).2.1 := by decide +kernel
theorem tyJxe99ae_ok : ∀ k, k < 0 → parseFieldDescriptor (TJxe99ae k).2.2.1 = some (tyJxe99ae k) := by decide +kernel
abbrev cJxe99ae_isNaN_b9ae7 : ByteArray := prog_16_method_6_code
def yJxe99ae_isNaN_b9ae7 : MethodName := ⟨RJxe99ae, "isNaN", "(D)Z"⟩
abbrev cJxe99ae_doubleToLongBits_ccdee : ByteArray := prog_16_method_23_code
def yJxe99ae_doubleToLongBits_ccdee : MethodName := ⟨RJxe99ae, "doubleToLongBits", "(D)J"⟩
def RJxf58ca : String := "java/lang/Float"
def TJxf58ca : u_T := fun k => match k with
  | _ => ("", "", "", false)
def tyJxf58ca : Nat → FieldType := fun k => match k with
  | _ => .int
theorem nmJxf58ca : ∀ a, a < 0 → ∀ b, b < 0 → a ≠ b → (TJxf58ca a).2.1 ≠ (TJxf58ca b).2.1 := by decide +kernel
theorem tyJxf58ca_ok : ∀ k, k < 0 → parseFieldDescriptor (TJxf58ca k).2.2.1 = some (tyJxf58ca k) := by decide +kernel
abbrev cJxf58ca_isNaN_12338 : ByteArray := prog_18_method_6_code
def yJxf58ca_isNaN_12338 : MethodName := ⟨RJxf58ca, "isNaN", "(F)Z"⟩
abbrev cJxf58ca_floatToIntBits_5c35a : ByteArray := prog_18_method_24_code
def yJxf58ca_floatToIntBits_5c35a : MethodName := ⟨RJxf58ca, "floatToIntBits", "(F)I"⟩
def RJ9 : String := "java/lang/Math"
def TJ9 : u_T := fun k => match k with
  | _ => ("", "", "", false)
def tyJ9 : Nat → FieldType := fun k => match k with
  | _ => .int
theorem nmJ9 : ∀ a, a < 0 → ∀ b, b < 0 → a ≠ b → (TJ9 a).2.1 ≠ (TJ9 b).2.1 := by decide +kernel
theorem tyJ9_ok : ∀ k, k < 0 → parseFieldDescriptor (TJ9 k).2.2.1 = some (tyJ9 k) := by decide +kernel
abbrev cJ9_abs_0f7a4 : ByteArray := prog_22_method_59_code
def yJ9_abs_0f7a4 : MethodName := ⟨RJ9, "abs", "(I)I"⟩
abbrev cJ9_max_7cf53 : ByteArray := prog_22_method_65_code
def yJ9_max_7cf53 : MethodName := ⟨RJ9, "max", "(II)I"⟩
abbrev cJ9_min_7cf53 : ByteArray := prog_22_method_69_code
def yJ9_min_7cf53 : MethodName := ⟨RJ9, "min", "(II)I"⟩
def RJxd2413 : String := "java/lang/Number"
def TJxd2413 : u_T := fun k => match k with
  | _ => ("", "", "", false)
def tyJxd2413 : Nat → FieldType := fun k => match k with
  | _ => .int
theorem nmJxd2413 : ∀ a, a < 0 → ∀ b, b < 0 → a ≠ b → (TJxd2413 a).2.1 ≠ (TJxd2413 b).2.1 := by decide +kernel
theorem tyJxd2413_ok : ∀ k, k < 0 → parseFieldDescriptor (TJxd2413 k).2.2.1 = some (tyJxd2413 k) := by decide +kernel
def RJ0 : String := "java/lang/String"
def TJ0 : u_T := fun k => match k with
  | 0 => ("java/lang/String", "value", "[B", true)
  | _ => ("java/lang/String", "coder", "B", true)
def tyJ0 : Nat → FieldType := fun k => match k with
  | 0 => .array .byte
  | _ => .byte
theorem nmJ0 : ∀ a, a < 2 → ∀ b, b < 2 → a ≠ b → (TJ0 a).2.1 ≠ (TJ0 b).2.1 := by decide +kernel
theorem tyJ0_ok : ∀ k, k < 2 → parseFieldDescriptor (TJ0 k).2.2.1 = some (tyJ0 k) := by decide +kernel
abbrev cJ0_length_8abf5 : ByteArray := prog_25_method_54_code
def yJ0_length_8abf5 : MethodName := ⟨RJ0, "length", "()I"⟩
abbrev cJ0_indexOf_0f7a4 : ByteArray := prog_25_method_79_code
def yJ0_indexOf_0f7a4 : MethodName := ⟨RJ0, "indexOf", "(I)I"⟩
abbrev cJ0_indexOf_7cf53 : ByteArray := prog_25_method_80_code
def yJ0_indexOf_7cf53 : MethodName := ⟨RJ0, "indexOf", "(II)I"⟩
abbrev cJ0_coder_7d493 : ByteArray := prog_25_method_152_code
def yJ0_coder_7d493 : MethodName := ⟨RJ0, "coder", "()B"⟩
abbrev cJ0_isLatin1_aae02 : ByteArray := prog_25_method_154_code
def yJ0_isLatin1_aae02 : MethodName := ⟨RJ0, "isLatin1", "()Z"⟩
abbrev cJ0_checkBoundsBeginEnd_23922 : ByteArray := prog_25_method_158_code
def yJ0_checkBoundsBeginEnd_23922 : MethodName := ⟨RJ0, "checkBoundsBeginEnd", "(III)V"⟩
def RJ1 : String := "java/lang/StringLatin1"
def TJ1 : u_T := fun k => match k with
  | _ => ("", "", "", false)
def tyJ1 : Nat → FieldType := fun k => match k with
  | _ => .int
theorem nmJ1 : ∀ a, a < 0 → ∀ b, b < 0 → a ≠ b → (TJ1 a).2.1 ≠ (TJ1 b).2.1 := by decide +kernel
theorem tyJ1_ok : ∀ k, k < 0 → parseFieldDescriptor (TJ1 k).2.2.1 = some (tyJ1 k) := by decide +kernel
abbrev cJ1_canEncode_9a6ad : ByteArray := prog_26_method_4_code
def yJ1_canEncode_9a6ad : MethodName := ⟨RJ1, "canEncode", "(I)Z"⟩
abbrev cJ1_indexOf_4cfef : ByteArray := prog_26_method_22_code
def yJ1_indexOf_4cfef : MethodName := ⟨RJ1, "indexOf", "([BIII)I"⟩
abbrev cJ1_indexOfChar_4cfef : ByteArray := prog_26_method_23_code
def yJ1_indexOfChar_4cfef : MethodName := ⟨RJ1, "indexOfChar", "([BIII)I"⟩
def RJ2 : String := "java/lang/StringUTF16"
def TJ2 : u_T := fun k => match k with
  | _ => ("", "", "", false)
def tyJ2 : Nat → FieldType := fun k => match k with
  | _ => .int
theorem nmJ2 : ∀ a, a < 0 → ∀ b, b < 0 → a ≠ b → (TJ2 a).2.1 ≠ (TJ2 b).2.1 := by decide +kernel
theorem tyJ2_ok : ∀ k, k < 0 → parseFieldDescriptor (TJ2 k).2.2.1 = some (tyJ2 k) := by decide +kernel
abbrev cJ2_getChar_3b067 : ByteArray := prog_27_method_5_code
def yJ2_getChar_3b067 : MethodName := ⟨RJ2, "getChar", "([BI)C"⟩
abbrev cJ2_length_9d52b : ByteArray := prog_27_method_6_code
def yJ2_length_9d52b : MethodName := ⟨RJ2, "length", "([B)I"⟩
abbrev cJ2_indexOf_4cfef : ByteArray := prog_27_method_40_code
def yJ2_indexOf_4cfef : MethodName := ⟨RJ2, "indexOf", "([BIII)I"⟩
abbrev cJ2_indexOfChar_4cfef : ByteArray := prog_27_method_47_code
def yJ2_indexOfChar_4cfef : MethodName := ⟨RJ2, "indexOfChar", "([BIII)I"⟩
abbrev cJ2_indexOfCharUnsafe_4cfef : ByteArray := prog_27_method_48_code
def yJ2_indexOfCharUnsafe_4cfef : MethodName := ⟨RJ2, "indexOfCharUnsafe", "([BIII)I"⟩
abbrev cJ2_indexOfSupplementary_4cfef : ByteArray := prog_27_method_49_code
def yJ2_indexOfSupplementary_4cfef : MethodName := ⟨RJ2, "indexOfSupplementary", "([BIII)I"⟩
abbrev cJ2_checkBoundsBeginEnd_d044e : ByteArray := prog_27_method_93_code
def yJ2_checkBoundsBeginEnd_d044e : MethodName := ⟨RJ2, "checkBoundsBeginEnd", "(II[B)V"⟩
def RJ10 : String := "java/lang/System"
def TJ10 : u_T := fun k => match k with
  | _ => ("", "", "", false)
def tyJ10 : Nat → FieldType := fun k => match k with
  | _ => .int
theorem nmJ10 : ∀ a, a < 0 → ∀ b, b < 0 → a ≠ b → (TJ10 a).2.1 ≠ (TJ10 b).2.1 := by decide +kernel
theorem tyJ10_ok : ∀ k, k < 0 → parseFieldDescriptor (TJ10 k).2.2.1 = some (tyJ10 k) := by decide +kernel
def RJxfd54e : String := "java/lang/constant/Constable"
def TJxfd54e : u_T := fun k => match k with
  | _ => ("", "", "", false)
def tyJxfd54e : Nat → FieldType := fun k => match k with
  | _ => .int
theorem nmJxfd54e : ∀ a, a < 0 → ∀ b, b < 0 → a ≠ b → (TJxfd54e a).2.1 ≠ (TJxfd54e b).2.1 := by decide +kernel
theorem tyJxfd54e_ok : ∀ k, k < 0 → parseFieldDescriptor (TJxfd54e k).2.2.1 = some (tyJxfd54e k) := by decide +kernel
def RJx3cf43 : String := "java/lang/constant/ConstantDesc"
def TJx3cf43 : u_T := fun k => match k with
  | _ => ("", "", "", false)
def tyJx3cf43 : Nat → FieldType := fun k => match k with
  | _ => .int
theorem nmJx3cf43 : ∀ a, a < 0 → ∀ b, b < 0 → a ≠ b → (TJx3cf43 a).2.1 ≠ (TJx3cf43 b).2.1 := by decide +kernel
theorem tyJx3cf43_ok : ∀ k, k < 0 → parseFieldDescriptor (TJx3cf43 k).2.2.1 = some (tyJx3cf43 k) := by decide +kernel
def RJ3 : String := "jdk/internal/util/Preconditions"
def TJ3 : u_T := fun k => match k with
  | _ => ("", "", "", false)
def tyJ3 : Nat → FieldType := fun k => match k with
  | _ => .int
theorem nmJ3 : ∀ a, a < 0 → ∀ b, b < 0 → a ≠ b → (TJ3 a).2.1 ≠ (TJ3 b).2.1 := by decide +kernel
theorem tyJ3_ok : ∀ k, k < 0 → parseFieldDescriptor (TJ3 k).2.2.1 = some (tyJ3 k) := by decide +kernel
abbrev cJ3_checkFromToIndex_8c36e : ByteArray := prog_34_method_12_code
def yJ3_checkFromToIndex_8c36e : MethodName := ⟨RJ3, "checkFromToIndex", "(IIILjava/util/function/BiFunction;)I"⟩
def RL : String := "IceConvoysLaw"
abbrev cL_set : ByteArray := method_3_code
def yL_set : MethodName := ⟨RL, "set", "(LIceConvoys;II[J)I"⟩
abbrev cL_setting : ByteArray := method_4_code
def yL_setting : MethodName := ⟨RL, "setting", "(LIceConvoys;I[J)I"⟩
abbrev cL_drill : ByteArray := method_5_code
def yL_drill : MethodName := ⟨RL, "drill", "(LIceConvoys;I[J)I"⟩
abbrev cL_drilled : ByteArray := method_6_code
def yL_drilled : MethodName := ⟨RL, "drilled", "(LIceConvoys;I[J)I"⟩
abbrev cL_mileOf : ByteArray := method_7_code
def yL_mileOf : MethodName := ⟨RL, "mileOf", "(LIceConvoys;II[J)I"⟩
abbrev cL_ice : ByteArray := method_8_code
def yL_ice : MethodName := ⟨RL, "ice", "(LIceConvoys;I[D)I"⟩
abbrev cL_bears : ByteArray := method_9_code
def yL_bears : MethodName := ⟨RL, "bears", "(LIceConvoys;I[J)I"⟩
abbrev cL_sign : ByteArray := method_10_code
def yL_sign : MethodName := ⟨RL, "sign", "(LIceConvoys;I[J)I"⟩
abbrev cL_truck : ByteArray := method_11_code
def yL_truck : MethodName := ⟨RL, "truck", "(LIceConvoys;IIII[J)I"⟩
abbrev cL_inRow : ByteArray := method_12_code
def yL_inRow : MethodName := ⟨RL, "inRow", "(LIceConvoys;III[J)I"⟩
abbrev cL_convoy : ByteArray := method_13_code
def yL_convoy : MethodName := ⟨RL, "convoy", "(LIceConvoys;I[J)I"⟩
abbrev cL_join : ByteArray := method_14_code
def yL_join : MethodName := ⟨RL, "join", "(LIceConvoys;III[J)I"⟩
abbrev cL_start : ByteArray := method_15_code
def yL_start : MethodName := ⟨RL, "start", "(LIceConvoys;I[J)I"⟩
abbrev cL_roll : ByteArray := method_16_code
def yL_roll : MethodName := ⟨RL, "roll", "(LIceConvoys;I[J)I"⟩
abbrev cL_why : ByteArray := method_17_code
def yL_why : MethodName := ⟨RL, "why", "(LIceConvoys;IZ[J)I"⟩
abbrev cL_convoyOf : ByteArray := method_18_code
def yL_convoyOf : MethodName := ⟨RL, "convoyOf", "(LIceConvoys;II[J)I"⟩
abbrev cL_truckOf : ByteArray := method_19_code
def yL_truckOf : MethodName := ⟨RL, "truckOf", "(LIceConvoys;III[J)I"⟩
abbrev cL_load : ByteArray := method_20_code
def yL_load : MethodName := ⟨RL, "load", "(LIceConvoys;II[D)I"⟩
abbrev cL_at : ByteArray := method_21_code
def yL_at : MethodName := ⟨RL, "at", "(LIceConvoys;I[J)I"⟩
abbrev cL_rolls : ByteArray := method_22_code
def yL_rolls : MethodName := ⟨RL, "rolls", "(LIceConvoys;I[J)I"⟩
abbrev cL_rollsAgain : ByteArray := method_23_code
def yL_rollsAgain : MethodName := ⟨RL, "rollsAgain", "(LIceConvoys;I[J)I"⟩
abbrev cL_iceIn : ByteArray := method_24_code
def yL_iceIn : MethodName := ⟨RL, "iceIn", "(LIceConvoys;II[J)I"⟩
abbrev cL_bearsIn : ByteArray := method_25_code
def yL_bearsIn : MethodName := ⟨RL, "bearsIn", "(LIceConvoys;II[J)I"⟩
abbrev cL_pass : ByteArray := method_26_code
def yL_pass : MethodName := ⟨RL, "pass", "(LIceConvoys;I[J)I"⟩
abbrev cL_append : ByteArray := method_27_code
def yL_append : MethodName := ⟨RL, "append", "(LIceConvoys;C[J)I"⟩
abbrev cL_read : ByteArray := method_28_code
def yL_read : MethodName := ⟨RL, "read", "(LIceConvoys;[J)I"⟩
abbrev cL_refusal : ByteArray := method_29_code
def yL_refusal : MethodName := ⟨RL, "refusal", "(LIceConvoys;Z[J)I"⟩
abbrev cL_account : ByteArray := method_30_code
def yL_account : MethodName := ⟨RL, "account", "(LIceConvoys;I[J)I"⟩
abbrev cL_share : ByteArray := method_31_code
def yL_share : MethodName := ⟨RL, "share", "(LIceConvoys;[D)I"⟩
abbrev cL_undo : ByteArray := method_32_code
def yL_undo : MethodName := ⟨RL, "undo", "(LIceConvoys;[J)I"⟩
abbrev cL_restore : ByteArray := method_33_code
def yL_restore : MethodName := ⟨RL, "restore", "(LIceConvoys;[J)I"⟩
abbrev cL_law : ByteArray := code
def yL_law : MethodName := ⟨RL, "law", "([I)Z"⟩
theorem dX0_init_0 : decode cX0_init 0 = .ok (.aload_n 0, 1) := by decide +kernel
theorem dX0_init_1 : decode cX0_init 1 = .ok (.invokespecial 3, 3) := by decide +kernel
theorem dX0_init_4 : decode cX0_init 4 = .ok (.aload_n 0, 1) := by decide +kernel
theorem dX0_init_5 : decode cX0_init 5 = .ok (.iconst 1, 1) := by decide +kernel
theorem dX0_init_6 : decode cX0_init 6 = .ok (.putfield 9, 3) := by decide +kernel
theorem dX0_init_9 : decode cX0_init 9 = .ok (.aload_n 0, 1) := by decide +kernel
theorem dX0_init_10 : decode cX0_init 10 = .ok (.iconst (-1), 1) := by decide +kernel
theorem dX0_init_11 : decode cX0_init 11 = .ok (.putfield 15, 3) := by decide +kernel
theorem dX0_init_14 : decode cX0_init 14 = .ok (.aload_n 0, 1) := by decide +kernel
theorem dX0_init_15 : decode cX0_init 15 = .ok (.iconst 0, 1) := by decide +kernel
theorem dX0_init_16 : decode cX0_init 16 = .ok (.putfield 18, 3) := by decide +kernel
theorem dX0_init_19 : decode cX0_init 19 = .ok (.aload_n 0, 1) := by decide +kernel
theorem dX0_init_20 : decode cX0_init 20 = .ok (.iconst 4, 1) := by decide +kernel
theorem dX0_init_21 : decode cX0_init 21 = .ok (.anewarray 21, 3) := by decide +kernel
theorem dX0_init_24 : decode cX0_init 24 = .ok (.putfield 23, 3) := by decide +kernel
theorem dX0_init_27 : decode cX0_init 27 = .ok (.return_, 1) := by decide +kernel
theorem dX0_copyFrom_0 : decode cX0_copyFrom 0 = .ok (.aload_n 0, 1) := by decide +kernel
theorem dX0_copyFrom_1 : decode cX0_copyFrom 1 = .ok (.aload_n 1, 1) := by decide +kernel
theorem dX0_copyFrom_2 : decode cX0_copyFrom 2 = .ok (.getfield 9, 3) := by decide +kernel
theorem dX0_copyFrom_5 : decode cX0_copyFrom 5 = .ok (.putfield 9, 3) := by decide +kernel
theorem dX0_copyFrom_8 : decode cX0_copyFrom 8 = .ok (.aload_n 0, 1) := by decide +kernel
theorem dX0_copyFrom_9 : decode cX0_copyFrom 9 = .ok (.aload_n 1, 1) := by decide +kernel
theorem dX0_copyFrom_10 : decode cX0_copyFrom 10 = .ok (.getfield 15, 3) := by decide +kernel
theorem dX0_copyFrom_13 : decode cX0_copyFrom 13 = .ok (.putfield 15, 3) := by decide +kernel
theorem dX0_copyFrom_16 : decode cX0_copyFrom 16 = .ok (.aload_n 0, 1) := by decide +kernel
theorem dX0_copyFrom_17 : decode cX0_copyFrom 17 = .ok (.aload_n 1, 1) := by decide +kernel
theorem dX0_copyFrom_18 : decode cX0_copyFrom 18 = .ok (.getfield 18, 3) := by decide +kernel
theorem dX0_copyFrom_21 : decode cX0_copyFrom 21 = .ok (.putfield 18, 3) := by decide +kernel
theorem dX0_copyFrom_24 : decode cX0_copyFrom 24 = .ok (.iconst 0, 1) := by decide +kernel
theorem dX0_copyFrom_25 : decode cX0_copyFrom 25 = .ok (.istore_n 2, 1) := by decide +kernel
theorem dX0_copyFrom_26 : decode cX0_copyFrom 26 = .ok (.iload_n 2, 1) := by decide +kernel
theorem dX0_copyFrom_27 : decode cX0_copyFrom 27 = .ok (.iconst 4, 1) := by decide +kernel
theorem dX0_copyFrom_28 : decode cX0_copyFrom 28 = .ok (.if_icmp .ge 21, 3) := by decide +kernel
theorem dX0_copyFrom_31 : decode cX0_copyFrom 31 = .ok (.aload_n 0, 1) := by decide +kernel
theorem dX0_copyFrom_32 : decode cX0_copyFrom 32 = .ok (.getfield 23, 3) := by decide +kernel
theorem dX0_copyFrom_35 : decode cX0_copyFrom 35 = .ok (.iload_n 2, 1) := by decide +kernel
theorem dX0_copyFrom_36 : decode cX0_copyFrom 36 = .ok (.aload_n 1, 1) := by decide +kernel
theorem dX0_copyFrom_37 : decode cX0_copyFrom 37 = .ok (.getfield 23, 3) := by decide +kernel
theorem dX0_copyFrom_40 : decode cX0_copyFrom 40 = .ok (.iload_n 2, 1) := by decide +kernel
theorem dX0_copyFrom_41 : decode cX0_copyFrom 41 = .ok (.aaload, 1) := by decide +kernel
theorem dX0_copyFrom_42 : decode cX0_copyFrom 42 = .ok (.aastore, 1) := by decide +kernel
theorem dX0_copyFrom_43 : decode cX0_copyFrom 43 = .ok (.iinc 2 1, 3) := by decide +kernel
theorem dX0_copyFrom_46 : decode cX0_copyFrom 46 = .ok (.goto (-20), 3) := by decide +kernel
theorem dX0_copyFrom_49 : decode cX0_copyFrom 49 = .ok (.return_, 1) := by decide +kernel
theorem dX0_hasStarted_0 : decode cX0_hasStarted 0 = .ok (.aload_n 0, 1) := by decide +kernel
theorem dX0_hasStarted_1 : decode cX0_hasStarted 1 = .ok (.getfield 15, 3) := by decide +kernel
theorem dX0_hasStarted_4 : decode cX0_hasStarted 4 = .ok (.ifCond .lt 7, 3) := by decide +kernel
theorem dX0_hasStarted_7 : decode cX0_hasStarted 7 = .ok (.iconst 1, 1) := by decide +kernel
theorem dX0_hasStarted_8 : decode cX0_hasStarted 8 = .ok (.goto 4, 3) := by decide +kernel
theorem dX0_hasStarted_11 : decode cX0_hasStarted 11 = .ok (.iconst 0, 1) := by decide +kernel
theorem dX0_hasStarted_12 : decode cX0_hasStarted 12 = .ok (.ireturn, 1) := by decide +kernel
theorem dX0_isDone_0 : decode cX0_isDone 0 = .ok (.aload_n 0, 1) := by decide +kernel
theorem dX0_isDone_1 : decode cX0_isDone 1 = .ok (.invokevirtual 27, 3) := by decide +kernel
theorem dX0_isDone_4 : decode cX0_isDone 4 = .ok (.ifCond .eq 18, 3) := by decide +kernel
theorem dX0_isDone_7 : decode cX0_isDone 7 = .ok (.aload_n 0, 1) := by decide +kernel
theorem dX0_isDone_8 : decode cX0_isDone 8 = .ok (.invokevirtual 31, 3) := by decide +kernel
theorem dX0_isDone_11 : decode cX0_isDone 11 = .ok (.aload_n 0, 1) := by decide +kernel
theorem dX0_isDone_12 : decode cX0_isDone 12 = .ok (.getfield 18, 3) := by decide +kernel
theorem dX0_isDone_15 : decode cX0_isDone 15 = .ok (.if_icmp .ne 7, 3) := by decide +kernel
theorem dX0_isDone_18 : decode cX0_isDone 18 = .ok (.iconst 1, 1) := by decide +kernel
theorem dX0_isDone_19 : decode cX0_isDone 19 = .ok (.goto 4, 3) := by decide +kernel
theorem dX0_isDone_22 : decode cX0_isDone 22 = .ok (.iconst 0, 1) := by decide +kernel
theorem dX0_isDone_23 : decode cX0_isDone 23 = .ok (.ireturn, 1) := by decide +kernel
theorem dX0_mileWithLead_0 : decode cX0_mileWithLead 0 = .ok (.iload_n 2, 1) := by decide +kernel
theorem dX0_mileWithLead_1 : decode cX0_mileWithLead 1 = .ok (.iload_n 1, 1) := by decide +kernel
theorem dX0_mileWithLead_2 : decode cX0_mileWithLead 2 = .ok (.aload_n 0, 1) := by decide +kernel
theorem dX0_mileWithLead_3 : decode cX0_mileWithLead 3 = .ok (.getfield 9, 3) := by decide +kernel
theorem dX0_mileWithLead_6 : decode cX0_mileWithLead 6 = .ok (.iconst 1, 1) := by decide +kernel
theorem dX0_mileWithLead_7 : decode cX0_mileWithLead 7 = .ok (.iadd, 1) := by decide +kernel
theorem dX0_mileWithLead_8 : decode cX0_mileWithLead 8 = .ok (.imul, 1) := by decide +kernel
theorem dX0_mileWithLead_9 : decode cX0_mileWithLead 9 = .ok (.isub, 1) := by decide +kernel
theorem dX0_mileWithLead_10 : decode cX0_mileWithLead 10 = .ok (.ireturn, 1) := by decide +kernel
theorem dX0_mileOfTruck_0 : decode cX0_mileOfTruck 0 = .ok (.aload_n 0, 1) := by decide +kernel
theorem dX0_mileOfTruck_1 : decode cX0_mileOfTruck 1 = .ok (.invokevirtual 27, 3) := by decide +kernel
theorem dX0_mileOfTruck_4 : decode cX0_mileOfTruck 4 = .ok (.ifCond .eq 15, 3) := by decide +kernel
theorem dX0_mileOfTruck_7 : decode cX0_mileOfTruck 7 = .ok (.aload_n 0, 1) := by decide +kernel
theorem dX0_mileOfTruck_8 : decode cX0_mileOfTruck 8 = .ok (.iload_n 1, 1) := by decide +kernel
theorem dX0_mileOfTruck_9 : decode cX0_mileOfTruck 9 = .ok (.aload_n 0, 1) := by decide +kernel
theorem dX0_mileOfTruck_10 : decode cX0_mileOfTruck 10 = .ok (.getfield 15, 3) := by decide +kernel
theorem dX0_mileOfTruck_13 : decode cX0_mileOfTruck 13 = .ok (.invokevirtual 35, 3) := by decide +kernel
theorem dX0_mileOfTruck_16 : decode cX0_mileOfTruck 16 = .ok (.goto 4, 3) := by decide +kernel
theorem dX0_mileOfTruck_19 : decode cX0_mileOfTruck 19 = .ok (.iconst (-1), 1) := by decide +kernel
theorem dX0_mileOfTruck_20 : decode cX0_mileOfTruck 20 = .ok (.ireturn, 1) := by decide +kernel
theorem dX0_countOnRoad_0 : decode cX0_countOnRoad 0 = .ok (.iconst 0, 1) := by decide +kernel
theorem dX0_countOnRoad_1 : decode cX0_countOnRoad 1 = .ok (.istore_n 1, 1) := by decide +kernel
theorem dX0_countOnRoad_2 : decode cX0_countOnRoad 2 = .ok (.iconst 0, 1) := by decide +kernel
theorem dX0_countOnRoad_3 : decode cX0_countOnRoad 3 = .ok (.istore_n 2, 1) := by decide +kernel
theorem dX0_countOnRoad_4 : decode cX0_countOnRoad 4 = .ok (.iload_n 2, 1) := by decide +kernel
theorem dX0_countOnRoad_5 : decode cX0_countOnRoad 5 = .ok (.aload_n 0, 1) := by decide +kernel
theorem dX0_countOnRoad_6 : decode cX0_countOnRoad 6 = .ok (.getfield 18, 3) := by decide +kernel
theorem dX0_countOnRoad_9 : decode cX0_countOnRoad 9 = .ok (.if_icmp .ge 23, 3) := by decide +kernel
theorem dX0_countOnRoad_12 : decode cX0_countOnRoad 12 = .ok (.aload_n 0, 1) := by decide +kernel
theorem dX0_countOnRoad_13 : decode cX0_countOnRoad 13 = .ok (.iload_n 2, 1) := by decide +kernel
theorem dX0_countOnRoad_14 : decode cX0_countOnRoad 14 = .ok (.invokevirtual 39, 3) := by decide +kernel
theorem dX0_countOnRoad_17 : decode cX0_countOnRoad 17 = .ok (.invokestatic 43, 3) := by decide +kernel
theorem dX0_countOnRoad_20 : decode cX0_countOnRoad 20 = .ok (.ifCond .eq 6, 3) := by decide +kernel
theorem dX0_countOnRoad_23 : decode cX0_countOnRoad 23 = .ok (.iinc 1 1, 3) := by decide +kernel
theorem dX0_countOnRoad_26 : decode cX0_countOnRoad 26 = .ok (.iinc 2 1, 3) := by decide +kernel
theorem dX0_countOnRoad_29 : decode cX0_countOnRoad 29 = .ok (.goto (-25), 3) := by decide +kernel
theorem dX0_countOnRoad_32 : decode cX0_countOnRoad 32 = .ok (.iload_n 1, 1) := by decide +kernel
theorem dX0_countOnRoad_33 : decode cX0_countOnRoad 33 = .ok (.ireturn, 1) := by decide +kernel
theorem dX0_countArrived_0 : decode cX0_countArrived 0 = .ok (.iconst 0, 1) := by decide +kernel
theorem dX0_countArrived_1 : decode cX0_countArrived 1 = .ok (.istore_n 1, 1) := by decide +kernel
theorem dX0_countArrived_2 : decode cX0_countArrived 2 = .ok (.iconst 0, 1) := by decide +kernel
theorem dX0_countArrived_3 : decode cX0_countArrived 3 = .ok (.istore_n 2, 1) := by decide +kernel
theorem dX0_countArrived_4 : decode cX0_countArrived 4 = .ok (.iload_n 2, 1) := by decide +kernel
theorem dX0_countArrived_5 : decode cX0_countArrived 5 = .ok (.aload_n 0, 1) := by decide +kernel
theorem dX0_countArrived_6 : decode cX0_countArrived 6 = .ok (.getfield 18, 3) := by decide +kernel
theorem dX0_countArrived_9 : decode cX0_countArrived 9 = .ok (.if_icmp .ge 22, 3) := by decide +kernel
theorem dX0_countArrived_12 : decode cX0_countArrived 12 = .ok (.aload_n 0, 1) := by decide +kernel
theorem dX0_countArrived_13 : decode cX0_countArrived 13 = .ok (.iload_n 2, 1) := by decide +kernel
theorem dX0_countArrived_14 : decode cX0_countArrived 14 = .ok (.invokevirtual 39, 3) := by decide +kernel
theorem dX0_countArrived_17 : decode cX0_countArrived 17 = .ok (.bipush 12, 2) := by decide +kernel
theorem dX0_countArrived_19 : decode cX0_countArrived 19 = .ok (.if_icmp .lt 6, 3) := by decide +kernel
theorem dX0_countArrived_22 : decode cX0_countArrived 22 = .ok (.iinc 1 1, 3) := by decide +kernel
theorem dX0_countArrived_25 : decode cX0_countArrived 25 = .ok (.iinc 2 1, 3) := by decide +kernel
theorem dX0_countArrived_28 : decode cX0_countArrived 28 = .ok (.goto (-24), 3) := by decide +kernel
theorem dX0_countArrived_31 : decode cX0_countArrived 31 = .ok (.iload_n 1, 1) := by decide +kernel
theorem dX0_countArrived_32 : decode cX0_countArrived 32 = .ok (.ireturn, 1) := by decide +kernel
theorem dX0_placeAt_0 : decode cX0_placeAt 0 = .ok (.iconst 0, 1) := by decide +kernel
theorem dX0_placeAt_1 : decode cX0_placeAt 1 = .ok (.istore_n 2, 1) := by decide +kernel
theorem dX0_placeAt_2 : decode cX0_placeAt 2 = .ok (.iload_n 2, 1) := by decide +kernel
theorem dX0_placeAt_3 : decode cX0_placeAt 3 = .ok (.aload_n 0, 1) := by decide +kernel
theorem dX0_placeAt_4 : decode cX0_placeAt 4 = .ok (.getfield 18, 3) := by decide +kernel
theorem dX0_placeAt_7 : decode cX0_placeAt 7 = .ok (.if_icmp .ge 24, 3) := by decide +kernel
theorem dX0_placeAt_10 : decode cX0_placeAt 10 = .ok (.aload_n 0, 1) := by decide +kernel
theorem dX0_placeAt_11 : decode cX0_placeAt 11 = .ok (.iload_n 2, 1) := by decide +kernel
theorem dX0_placeAt_12 : decode cX0_placeAt 12 = .ok (.aload_n 0, 1) := by decide +kernel
theorem dX0_placeAt_13 : decode cX0_placeAt 13 = .ok (.getfield 15, 3) := by decide +kernel
theorem dX0_placeAt_16 : decode cX0_placeAt 16 = .ok (.invokevirtual 35, 3) := by decide +kernel
theorem dX0_placeAt_19 : decode cX0_placeAt 19 = .ok (.iload_n 1, 1) := by decide +kernel
theorem dX0_placeAt_20 : decode cX0_placeAt 20 = .ok (.if_icmp .ne 5, 3) := by decide +kernel
theorem dX0_placeAt_23 : decode cX0_placeAt 23 = .ok (.iload_n 2, 1) := by decide +kernel
theorem dX0_placeAt_24 : decode cX0_placeAt 24 = .ok (.ireturn, 1) := by decide +kernel
theorem dX0_placeAt_25 : decode cX0_placeAt 25 = .ok (.iinc 2 1, 3) := by decide +kernel
theorem dX0_placeAt_28 : decode cX0_placeAt 28 = .ok (.goto (-26), 3) := by decide +kernel
theorem dX0_placeAt_31 : decode cX0_placeAt 31 = .ok (.iconst (-1), 1) := by decide +kernel
theorem dX0_placeAt_32 : decode cX0_placeAt 32 = .ok (.ireturn, 1) := by decide +kernel
theorem dX0_tonnesNotArrived_0 : decode cX0_tonnesNotArrived 0 = .ok (.iconst 0, 1) := by decide +kernel
theorem dX0_tonnesNotArrived_1 : decode cX0_tonnesNotArrived 1 = .ok (.istore_n 1, 1) := by decide +kernel
theorem dX0_tonnesNotArrived_2 : decode cX0_tonnesNotArrived 2 = .ok (.iconst 0, 1) := by decide +kernel
theorem dX0_tonnesNotArrived_3 : decode cX0_tonnesNotArrived 3 = .ok (.istore_n 2, 1) := by decide +kernel
theorem dX0_tonnesNotArrived_4 : decode cX0_tonnesNotArrived 4 = .ok (.iload_n 2, 1) := by decide +kernel
theorem dX0_tonnesNotArrived_5 : decode cX0_tonnesNotArrived 5 = .ok (.iconst 4, 1) := by decide +kernel
theorem dX0_tonnesNotArrived_6 : decode cX0_tonnesNotArrived 6 = .ok (.if_icmp .ge 37, 3) := by decide +kernel
theorem dX0_tonnesNotArrived_9 : decode cX0_tonnesNotArrived 9 = .ok (.aload_n 0, 1) := by decide +kernel
theorem dX0_tonnesNotArrived_10 : decode cX0_tonnesNotArrived 10 = .ok (.getfield 23, 3) := by decide +kernel
theorem dX0_tonnesNotArrived_13 : decode cX0_tonnesNotArrived 13 = .ok (.iload_n 2, 1) := by decide +kernel
theorem dX0_tonnesNotArrived_14 : decode cX0_tonnesNotArrived 14 = .ok (.aaload, 1) := by decide +kernel
theorem dX0_tonnesNotArrived_15 : decode cX0_tonnesNotArrived 15 = .ok (.astore_n 3, 1) := by decide +kernel
theorem dX0_tonnesNotArrived_16 : decode cX0_tonnesNotArrived 16 = .ok (.aload_n 3, 1) := by decide +kernel
theorem dX0_tonnesNotArrived_17 : decode cX0_tonnesNotArrived 17 = .ok (.ifnull 20, 3) := by decide +kernel
theorem dX0_tonnesNotArrived_20 : decode cX0_tonnesNotArrived 20 = .ok (.aload_n 0, 1) := by decide +kernel
theorem dX0_tonnesNotArrived_21 : decode cX0_tonnesNotArrived 21 = .ok (.iload_n 2, 1) := by decide +kernel
theorem dX0_tonnesNotArrived_22 : decode cX0_tonnesNotArrived 22 = .ok (.invokevirtual 39, 3) := by decide +kernel
theorem dX0_tonnesNotArrived_25 : decode cX0_tonnesNotArrived 25 = .ok (.bipush 12, 2) := by decide +kernel
theorem dX0_tonnesNotArrived_27 : decode cX0_tonnesNotArrived 27 = .ok (.if_icmp .ge 10, 3) := by decide +kernel
theorem dX0_tonnesNotArrived_30 : decode cX0_tonnesNotArrived 30 = .ok (.iload_n 1, 1) := by decide +kernel
theorem dX0_tonnesNotArrived_31 : decode cX0_tonnesNotArrived 31 = .ok (.aload_n 3, 1) := by decide +kernel
theorem dX0_tonnesNotArrived_32 : decode cX0_tonnesNotArrived 32 = .ok (.getfield 47, 3) := by decide +kernel
theorem dX0_tonnesNotArrived_35 : decode cX0_tonnesNotArrived 35 = .ok (.iadd, 1) := by decide +kernel
theorem dX0_tonnesNotArrived_36 : decode cX0_tonnesNotArrived 36 = .ok (.istore_n 1, 1) := by decide +kernel
theorem dX0_tonnesNotArrived_37 : decode cX0_tonnesNotArrived 37 = .ok (.iinc 2 1, 3) := by decide +kernel
theorem dX0_tonnesNotArrived_40 : decode cX0_tonnesNotArrived 40 = .ok (.goto (-36), 3) := by decide +kernel
theorem dX0_tonnesNotArrived_43 : decode cX0_tonnesNotArrived 43 = .ok (.iload_n 1, 1) := by decide +kernel
theorem dX0_tonnesNotArrived_44 : decode cX0_tonnesNotArrived 44 = .ok (.ireturn, 1) := by decide +kernel
theorem dX0_strainAheadOf_0 : decode cX0_strainAheadOf 0 = .ok (.iconst 0, 1) := by decide +kernel
theorem dX0_strainAheadOf_1 : decode cX0_strainAheadOf 1 = .ok (.istore_n 3, 1) := by decide +kernel
theorem dX0_strainAheadOf_2 : decode cX0_strainAheadOf 2 = .ok (.iconst 0, 1) := by decide +kernel
theorem dX0_strainAheadOf_3 : decode cX0_strainAheadOf 3 = .ok (.istore 4, 2) := by decide +kernel
theorem dX0_strainAheadOf_5 : decode cX0_strainAheadOf 5 = .ok (.iload 4, 2) := by decide +kernel
theorem dX0_strainAheadOf_7 : decode cX0_strainAheadOf 7 = .ok (.iload_n 1, 1) := by decide +kernel
theorem dX0_strainAheadOf_8 : decode cX0_strainAheadOf 8 = .ok (.if_icmp .ge 47, 3) := by decide +kernel
theorem dX0_strainAheadOf_11 : decode cX0_strainAheadOf 11 = .ok (.iload 4, 2) := by decide +kernel
theorem dX0_strainAheadOf_13 : decode cX0_strainAheadOf 13 = .ok (.iconst 4, 1) := by decide +kernel
theorem dX0_strainAheadOf_14 : decode cX0_strainAheadOf 14 = .ok (.if_icmp .ge 41, 3) := by decide +kernel
theorem dX0_strainAheadOf_17 : decode cX0_strainAheadOf 17 = .ok (.aload_n 0, 1) := by decide +kernel
theorem dX0_strainAheadOf_18 : decode cX0_strainAheadOf 18 = .ok (.getfield 23, 3) := by decide +kernel
theorem dX0_strainAheadOf_21 : decode cX0_strainAheadOf 21 = .ok (.iload 4, 2) := by decide +kernel
theorem dX0_strainAheadOf_23 : decode cX0_strainAheadOf 23 = .ok (.aaload, 1) := by decide +kernel
theorem dX0_strainAheadOf_24 : decode cX0_strainAheadOf 24 = .ok (.astore 5, 2) := by decide +kernel
theorem dX0_strainAheadOf_26 : decode cX0_strainAheadOf 26 = .ok (.aload 5, 2) := by decide +kernel
theorem dX0_strainAheadOf_28 : decode cX0_strainAheadOf 28 = .ok (.ifnull 21, 3) := by decide +kernel
theorem dX0_strainAheadOf_31 : decode cX0_strainAheadOf 31 = .ok (.aload_n 0, 1) := by decide +kernel
theorem dX0_strainAheadOf_32 : decode cX0_strainAheadOf 32 = .ok (.iload 4, 2) := by decide +kernel
theorem dX0_strainAheadOf_34 : decode cX0_strainAheadOf 34 = .ok (.invokevirtual 39, 3) := by decide +kernel
theorem dX0_strainAheadOf_37 : decode cX0_strainAheadOf 37 = .ok (.iload_n 2, 1) := by decide +kernel
theorem dX0_strainAheadOf_38 : decode cX0_strainAheadOf 38 = .ok (.if_icmp .ge 11, 3) := by decide +kernel
theorem dX0_strainAheadOf_41 : decode cX0_strainAheadOf 41 = .ok (.iload_n 3, 1) := by decide +kernel
theorem dX0_strainAheadOf_42 : decode cX0_strainAheadOf 42 = .ok (.aload 5, 2) := by decide +kernel
theorem dX0_strainAheadOf_44 : decode cX0_strainAheadOf 44 = .ok (.invokevirtual 50, 3) := by decide +kernel
theorem dX0_strainAheadOf_47 : decode cX0_strainAheadOf 47 = .ok (.iadd, 1) := by decide +kernel
theorem dX0_strainAheadOf_48 : decode cX0_strainAheadOf 48 = .ok (.istore_n 3, 1) := by decide +kernel
theorem dX0_strainAheadOf_49 : decode cX0_strainAheadOf 49 = .ok (.iinc 4 1, 3) := by decide +kernel
theorem dX0_strainAheadOf_52 : decode cX0_strainAheadOf 52 = .ok (.goto (-47), 3) := by decide +kernel
theorem dX0_strainAheadOf_55 : decode cX0_strainAheadOf 55 = .ok (.iload_n 3, 1) := by decide +kernel
theorem dX0_strainAheadOf_56 : decode cX0_strainAheadOf 56 = .ok (.ireturn, 1) := by decide +kernel
theorem dX1_init_0 : decode cX1_init 0 = .ok (.aload_n 0, 1) := by decide +kernel
theorem dX1_init_1 : decode cX1_init 1 = .ok (.invokespecial 3, 3) := by decide +kernel
theorem dX1_init_4 : decode cX1_init 4 = .ok (.aload_n 0, 1) := by decide +kernel
theorem dX1_init_5 : decode cX1_init 5 = .ok (.bipush 8, 2) := by decide +kernel
theorem dX1_init_7 : decode cX1_init 7 = .ok (.anewarray 9, 3) := by decide +kernel
theorem dX1_init_10 : decode cX1_init 10 = .ok (.putfield 11, 3) := by decide +kernel
theorem dX1_init_13 : decode cX1_init 13 = .ok (.aload_n 0, 1) := by decide +kernel
theorem dX1_init_14 : decode cX1_init 14 = .ok (.iconst 0, 1) := by decide +kernel
theorem dX1_init_15 : decode cX1_init 15 = .ok (.putfield 17, 3) := by decide +kernel
theorem dX1_init_18 : decode cX1_init 18 = .ok (.aload_n 0, 1) := by decide +kernel
theorem dX1_init_19 : decode cX1_init 19 = .ok (.iconst 0, 1) := by decide +kernel
theorem dX1_init_20 : decode cX1_init 20 = .ok (.putfield 21, 3) := by decide +kernel
theorem dX1_init_23 : decode cX1_init 23 = .ok (.iconst 0, 1) := by decide +kernel
theorem dX1_init_24 : decode cX1_init 24 = .ok (.istore_n 1, 1) := by decide +kernel
theorem dX1_init_25 : decode cX1_init 25 = .ok (.iload_n 1, 1) := by decide +kernel
theorem dX1_init_26 : decode cX1_init 26 = .ok (.bipush 8, 2) := by decide +kernel
theorem dX1_init_28 : decode cX1_init 28 = .ok (.if_icmp .ge 22, 3) := by decide +kernel
theorem dX1_init_31 : decode cX1_init 31 = .ok (.aload_n 0, 1) := by decide +kernel
theorem dX1_init_32 : decode cX1_init 32 = .ok (.getfield 11, 3) := by decide +kernel
theorem dX1_init_35 : decode cX1_init 35 = .ok (.iload_n 1, 1) := by decide +kernel
theorem dX1_init_36 : decode cX1_init 36 = .ok (.new 9, 3) := by decide +kernel
theorem dX1_init_39 : decode cX1_init 39 = .ok (.dup, 1) := by decide +kernel
theorem dX1_init_40 : decode cX1_init 40 = .ok (.invokespecial 24, 3) := by decide +kernel
theorem dX1_init_43 : decode cX1_init 43 = .ok (.aastore, 1) := by decide +kernel
theorem dX1_init_44 : decode cX1_init 44 = .ok (.iinc 1 1, 3) := by decide +kernel
theorem dX1_init_47 : decode cX1_init 47 = .ok (.goto (-22), 3) := by decide +kernel
theorem dX1_init_50 : decode cX1_init 50 = .ok (.return_, 1) := by decide +kernel
theorem dX1_keep_0 : decode cX1_keep 0 = .ok (.aload_n 0, 1) := by decide +kernel
theorem dX1_keep_1 : decode cX1_keep 1 = .ok (.getfield 11, 3) := by decide +kernel
theorem dX1_keep_4 : decode cX1_keep 4 = .ok (.aload_n 0, 1) := by decide +kernel
theorem dX1_keep_5 : decode cX1_keep 5 = .ok (.getfield 17, 3) := by decide +kernel
theorem dX1_keep_8 : decode cX1_keep 8 = .ok (.aaload, 1) := by decide +kernel
theorem dX1_keep_9 : decode cX1_keep 9 = .ok (.aload_n 1, 1) := by decide +kernel
theorem dX1_keep_10 : decode cX1_keep 10 = .ok (.invokevirtual 25, 3) := by decide +kernel
theorem dX1_keep_13 : decode cX1_keep 13 = .ok (.aload_n 0, 1) := by decide +kernel
theorem dX1_keep_14 : decode cX1_keep 14 = .ok (.aload_n 0, 1) := by decide +kernel
theorem dX1_keep_15 : decode cX1_keep 15 = .ok (.getfield 17, 3) := by decide +kernel
theorem dX1_keep_18 : decode cX1_keep 18 = .ok (.iconst 1, 1) := by decide +kernel
theorem dX1_keep_19 : decode cX1_keep 19 = .ok (.iadd, 1) := by decide +kernel
theorem dX1_keep_20 : decode cX1_keep 20 = .ok (.bipush 8, 2) := by decide +kernel
theorem dX1_keep_22 : decode cX1_keep 22 = .ok (.irem, 1) := by decide +kernel
theorem dX1_keep_23 : decode cX1_keep 23 = .ok (.putfield 17, 3) := by decide +kernel
theorem dX1_keep_26 : decode cX1_keep 26 = .ok (.aload_n 0, 1) := by decide +kernel
theorem dX1_keep_27 : decode cX1_keep 27 = .ok (.aload_n 0, 1) := by decide +kernel
theorem dX1_keep_28 : decode cX1_keep 28 = .ok (.getfield 21, 3) := by decide +kernel
theorem dX1_keep_31 : decode cX1_keep 31 = .ok (.iconst 1, 1) := by decide +kernel
theorem dX1_keep_32 : decode cX1_keep 32 = .ok (.iadd, 1) := by decide +kernel
theorem dX1_keep_33 : decode cX1_keep 33 = .ok (.bipush 8, 2) := by decide +kernel
theorem dX1_keep_35 : decode cX1_keep 35 = .ok (.invokestatic 29, 3) := by decide +kernel
theorem dX1_keep_38 : decode cX1_keep 38 = .ok (.putfield 21, 3) := by decide +kernel
theorem dX1_keep_41 : decode cX1_keep 41 = .ok (.return_, 1) := by decide +kernel
theorem dX1_takeBack_0 : decode cX1_takeBack 0 = .ok (.aload_n 0, 1) := by decide +kernel
theorem dX1_takeBack_1 : decode cX1_takeBack 1 = .ok (.aload_n 0, 1) := by decide +kernel
theorem dX1_takeBack_2 : decode cX1_takeBack 2 = .ok (.getfield 17, 3) := by decide +kernel
theorem dX1_takeBack_5 : decode cX1_takeBack 5 = .ok (.bipush 8, 2) := by decide +kernel
theorem dX1_takeBack_7 : decode cX1_takeBack 7 = .ok (.iadd, 1) := by decide +kernel
theorem dX1_takeBack_8 : decode cX1_takeBack 8 = .ok (.iconst 1, 1) := by decide +kernel
theorem dX1_takeBack_9 : decode cX1_takeBack 9 = .ok (.isub, 1) := by decide +kernel
theorem dX1_takeBack_10 : decode cX1_takeBack 10 = .ok (.bipush 8, 2) := by decide +kernel
theorem dX1_takeBack_12 : decode cX1_takeBack 12 = .ok (.irem, 1) := by decide +kernel
theorem dX1_takeBack_13 : decode cX1_takeBack 13 = .ok (.putfield 17, 3) := by decide +kernel
theorem dX1_takeBack_16 : decode cX1_takeBack 16 = .ok (.aload_n 1, 1) := by decide +kernel
theorem dX1_takeBack_17 : decode cX1_takeBack 17 = .ok (.aload_n 0, 1) := by decide +kernel
theorem dX1_takeBack_18 : decode cX1_takeBack 18 = .ok (.getfield 11, 3) := by decide +kernel
theorem dX1_takeBack_21 : decode cX1_takeBack 21 = .ok (.aload_n 0, 1) := by decide +kernel
theorem dX1_takeBack_22 : decode cX1_takeBack 22 = .ok (.getfield 17, 3) := by decide +kernel
theorem dX1_takeBack_25 : decode cX1_takeBack 25 = .ok (.aaload, 1) := by decide +kernel
theorem dX1_takeBack_26 : decode cX1_takeBack 26 = .ok (.invokevirtual 25, 3) := by decide +kernel
theorem dX1_takeBack_29 : decode cX1_takeBack 29 = .ok (.aload_n 0, 1) := by decide +kernel
theorem dX1_takeBack_30 : decode cX1_takeBack 30 = .ok (.dup, 1) := by decide +kernel
theorem dX1_takeBack_31 : decode cX1_takeBack 31 = .ok (.getfield 21, 3) := by decide +kernel
theorem dX1_takeBack_34 : decode cX1_takeBack 34 = .ok (.iconst 1, 1) := by decide +kernel
theorem dX1_takeBack_35 : decode cX1_takeBack 35 = .ok (.isub, 1) := by decide +kernel
theorem dX1_takeBack_36 : decode cX1_takeBack 36 = .ok (.putfield 21, 3) := by decide +kernel
theorem dX1_takeBack_39 : decode cX1_takeBack 39 = .ok (.return_, 1) := by decide +kernel
theorem dX2_init_0 : decode cX2_init 0 = .ok (.aload_n 0, 1) := by decide +kernel
theorem dX2_init_1 : decode cX2_init 1 = .ok (.invokespecial 3, 3) := by decide +kernel
theorem dX2_init_4 : decode cX2_init 4 = .ok (.aload_n 0, 1) := by decide +kernel
theorem dX2_init_5 : decode cX2_init 5 = .ok (.ldc 9, 2) := by decide +kernel
theorem dX2_init_7 : decode cX2_init 7 = .ok (.putfield 10, 3) := by decide +kernel
theorem dX2_init_10 : decode cX2_init 10 = .ok (.aload_n 0, 1) := by decide +kernel
theorem dX2_init_11 : decode cX2_init 11 = .ok (.fconst 0, 1) := by decide +kernel
theorem dX2_init_12 : decode cX2_init 12 = .ok (.putfield 16, 3) := by decide +kernel
theorem dX2_init_15 : decode cX2_init 15 = .ok (.aload_n 0, 1) := by decide +kernel
theorem dX2_init_16 : decode cX2_init 16 = .ok (.iconst (-1), 1) := by decide +kernel
theorem dX2_init_17 : decode cX2_init 17 = .ok (.putfield 19, 3) := by decide +kernel
theorem dX2_init_20 : decode cX2_init 20 = .ok (.aload_n 0, 1) := by decide +kernel
theorem dX2_init_21 : decode cX2_init 21 = .ok (.iconst 0, 1) := by decide +kernel
theorem dX2_init_22 : decode cX2_init 22 = .ok (.putfield 23, 3) := by decide +kernel
theorem dX2_init_25 : decode cX2_init 25 = .ok (.aload_n 0, 1) := by decide +kernel
theorem dX2_init_26 : decode cX2_init 26 = .ok (.iconst 0, 1) := by decide +kernel
theorem dX2_init_27 : decode cX2_init 27 = .ok (.putfield 26, 3) := by decide +kernel
theorem dX2_init_30 : decode cX2_init 30 = .ok (.aload_n 0, 1) := by decide +kernel
theorem dX2_init_31 : decode cX2_init 31 = .ok (.iconst 0, 1) := by decide +kernel
theorem dX2_init_32 : decode cX2_init 32 = .ok (.putfield 29, 3) := by decide +kernel
theorem dX2_init_35 : decode cX2_init 35 = .ok (.return_, 1) := by decide +kernel
theorem dX2_copyFrom_0 : decode cX2_copyFrom 0 = .ok (.aload_n 0, 1) := by decide +kernel
theorem dX2_copyFrom_1 : decode cX2_copyFrom 1 = .ok (.aload_n 1, 1) := by decide +kernel
theorem dX2_copyFrom_2 : decode cX2_copyFrom 2 = .ok (.getfield 10, 3) := by decide +kernel
theorem dX2_copyFrom_5 : decode cX2_copyFrom 5 = .ok (.putfield 10, 3) := by decide +kernel
theorem dX2_copyFrom_8 : decode cX2_copyFrom 8 = .ok (.aload_n 0, 1) := by decide +kernel
theorem dX2_copyFrom_9 : decode cX2_copyFrom 9 = .ok (.aload_n 1, 1) := by decide +kernel
theorem dX2_copyFrom_10 : decode cX2_copyFrom 10 = .ok (.getfield 16, 3) := by decide +kernel
theorem dX2_copyFrom_13 : decode cX2_copyFrom 13 = .ok (.putfield 16, 3) := by decide +kernel
theorem dX2_copyFrom_16 : decode cX2_copyFrom 16 = .ok (.aload_n 0, 1) := by decide +kernel
theorem dX2_copyFrom_17 : decode cX2_copyFrom 17 = .ok (.aload_n 1, 1) := by decide +kernel
theorem dX2_copyFrom_18 : decode cX2_copyFrom 18 = .ok (.getfield 19, 3) := by decide +kernel
theorem dX2_copyFrom_21 : decode cX2_copyFrom 21 = .ok (.putfield 19, 3) := by decide +kernel
theorem dX2_copyFrom_24 : decode cX2_copyFrom 24 = .ok (.aload_n 0, 1) := by decide +kernel
theorem dX2_copyFrom_25 : decode cX2_copyFrom 25 = .ok (.aload_n 1, 1) := by decide +kernel
theorem dX2_copyFrom_26 : decode cX2_copyFrom 26 = .ok (.getfield 23, 3) := by decide +kernel
theorem dX2_copyFrom_29 : decode cX2_copyFrom 29 = .ok (.putfield 23, 3) := by decide +kernel
theorem dX2_copyFrom_32 : decode cX2_copyFrom 32 = .ok (.aload_n 0, 1) := by decide +kernel
theorem dX2_copyFrom_33 : decode cX2_copyFrom 33 = .ok (.aload_n 1, 1) := by decide +kernel
theorem dX2_copyFrom_34 : decode cX2_copyFrom 34 = .ok (.getfield 26, 3) := by decide +kernel
theorem dX2_copyFrom_37 : decode cX2_copyFrom 37 = .ok (.putfield 26, 3) := by decide +kernel
theorem dX2_copyFrom_40 : decode cX2_copyFrom 40 = .ok (.aload_n 0, 1) := by decide +kernel
theorem dX2_copyFrom_41 : decode cX2_copyFrom 41 = .ok (.aload_n 1, 1) := by decide +kernel
theorem dX2_copyFrom_42 : decode cX2_copyFrom 42 = .ok (.getfield 29, 3) := by decide +kernel
theorem dX2_copyFrom_45 : decode cX2_copyFrom 45 = .ok (.putfield 29, 3) := by decide +kernel
theorem dX2_copyFrom_48 : decode cX2_copyFrom 48 = .ok (.return_, 1) := by decide +kernel
theorem dX2_carry_0 : decode cX2_carry 0 = .ok (.aload_n 0, 1) := by decide +kernel
theorem dX2_carry_1 : decode cX2_carry 1 = .ok (.dup, 1) := by decide +kernel
theorem dX2_carry_2 : decode cX2_carry 2 = .ok (.getfield 29, 3) := by decide +kernel
theorem dX2_carry_5 : decode cX2_carry 5 = .ok (.iconst 1, 1) := by decide +kernel
theorem dX2_carry_6 : decode cX2_carry 6 = .ok (.iadd, 1) := by decide +kernel
theorem dX2_carry_7 : decode cX2_carry 7 = .ok (.putfield 29, 3) := by decide +kernel
theorem dX2_carry_10 : decode cX2_carry 10 = .ok (.aload_n 0, 1) := by decide +kernel
theorem dX2_carry_11 : decode cX2_carry 11 = .ok (.dup, 1) := by decide +kernel
theorem dX2_carry_12 : decode cX2_carry 12 = .ok (.getfield 26, 3) := by decide +kernel
theorem dX2_carry_15 : decode cX2_carry 15 = .ok (.aload_n 1, 1) := by decide +kernel
theorem dX2_carry_16 : decode cX2_carry 16 = .ok (.invokevirtual 32, 3) := by decide +kernel
theorem dX2_carry_19 : decode cX2_carry 19 = .ok (.iadd, 1) := by decide +kernel
theorem dX2_carry_20 : decode cX2_carry 20 = .ok (.putfield 26, 3) := by decide +kernel
theorem dX2_carry_23 : decode cX2_carry 23 = .ok (.aload_n 0, 1) := by decide +kernel
theorem dX2_carry_24 : decode cX2_carry 24 = .ok (.getfield 26, 3) := by decide +kernel
theorem dX2_carry_27 : decode cX2_carry 27 = .ok (.bipush 20, 2) := by decide +kernel
theorem dX2_carry_29 : decode cX2_carry 29 = .ok (.if_icmp .lt 28, 3) := by decide +kernel
theorem dX2_carry_32 : decode cX2_carry 32 = .ok (.aload_n 0, 1) := by decide +kernel
theorem dX2_carry_33 : decode cX2_carry 33 = .ok (.dup, 1) := by decide +kernel
theorem dX2_carry_34 : decode cX2_carry 34 = .ok (.getfield 26, 3) := by decide +kernel
theorem dX2_carry_37 : decode cX2_carry 37 = .ok (.bipush 20, 2) := by decide +kernel
theorem dX2_carry_39 : decode cX2_carry 39 = .ok (.isub, 1) := by decide +kernel
theorem dX2_carry_40 : decode cX2_carry 40 = .ok (.putfield 26, 3) := by decide +kernel
theorem dX2_carry_43 : decode cX2_carry 43 = .ok (.aload_n 0, 1) := by decide +kernel
theorem dX2_carry_44 : decode cX2_carry 44 = .ok (.aload_n 0, 1) := by decide +kernel
theorem dX2_carry_45 : decode cX2_carry 45 = .ok (.getfield 23, 3) := by decide +kernel
theorem dX2_carry_48 : decode cX2_carry 48 = .ok (.iconst 1, 1) := by decide +kernel
theorem dX2_carry_49 : decode cX2_carry 49 = .ok (.iadd, 1) := by decide +kernel
theorem dX2_carry_50 : decode cX2_carry 50 = .ok (.iconst 5, 1) := by decide +kernel
theorem dX2_carry_51 : decode cX2_carry 51 = .ok (.invokestatic 38, 3) := by decide +kernel
theorem dX2_carry_54 : decode cX2_carry 54 = .ok (.putfield 23, 3) := by decide +kernel
theorem dX2_carry_57 : decode cX2_carry 57 = .ok (.return_, 1) := by decide +kernel
theorem dX2_cracksAfter_0 : decode cX2_cracksAfter 0 = .ok (.aload_n 0, 1) := by decide +kernel
theorem dX2_cracksAfter_1 : decode cX2_cracksAfter 1 = .ok (.getfield 23, 3) := by decide +kernel
theorem dX2_cracksAfter_4 : decode cX2_cracksAfter 4 = .ok (.aload_n 0, 1) := by decide +kernel
theorem dX2_cracksAfter_5 : decode cX2_cracksAfter 5 = .ok (.getfield 26, 3) := by decide +kernel
theorem dX2_cracksAfter_8 : decode cX2_cracksAfter 8 = .ok (.iload_n 1, 1) := by decide +kernel
theorem dX2_cracksAfter_9 : decode cX2_cracksAfter 9 = .ok (.iadd, 1) := by decide +kernel
theorem dX2_cracksAfter_10 : decode cX2_cracksAfter 10 = .ok (.bipush 20, 2) := by decide +kernel
theorem dX2_cracksAfter_12 : decode cX2_cracksAfter 12 = .ok (.idiv, 1) := by decide +kernel
theorem dX2_cracksAfter_13 : decode cX2_cracksAfter 13 = .ok (.iadd, 1) := by decide +kernel
theorem dX2_cracksAfter_14 : decode cX2_cracksAfter 14 = .ok (.iconst 5, 1) := by decide +kernel
theorem dX2_cracksAfter_15 : decode cX2_cracksAfter 15 = .ok (.invokestatic 38, 3) := by decide +kernel
theorem dX2_cracksAfter_18 : decode cX2_cracksAfter 18 = .ok (.ireturn, 1) := by decide +kernel
theorem dX2_liveThroughDay_0 : decode cX2_liveThroughDay 0 = .ok (.aload_n 0, 1) := by decide +kernel
theorem dX2_liveThroughDay_1 : decode cX2_liveThroughDay 1 = .ok (.aload_n 0, 1) := by decide +kernel
theorem dX2_liveThroughDay_2 : decode cX2_liveThroughDay 2 = .ok (.getfield 10, 3) := by decide +kernel
theorem dX2_liveThroughDay_5 : decode cX2_liveThroughDay 5 = .ok (.iload_n 1, 1) := by decide +kernel
theorem dX2_liveThroughDay_6 : decode cX2_liveThroughDay 6 = .ok (.invokestatic 44, 3) := by decide +kernel
theorem dX2_liveThroughDay_9 : decode cX2_liveThroughDay 9 = .ok (.putfield 10, 3) := by decide +kernel
theorem dX2_liveThroughDay_12 : decode cX2_liveThroughDay 12 = .ok (.iload_n 1, 1) := by decide +kernel
theorem dX2_liveThroughDay_13 : decode cX2_liveThroughDay 13 = .ok (.bipush (-20), 2) := by decide +kernel
theorem dX2_liveThroughDay_15 : decode cX2_liveThroughDay 15 = .ok (.if_icmp .ge 17, 3) := by decide +kernel
theorem dX2_liveThroughDay_18 : decode cX2_liveThroughDay 18 = .ok (.aload_n 0, 1) := by decide +kernel
theorem dX2_liveThroughDay_19 : decode cX2_liveThroughDay 19 = .ok (.aload_n 0, 1) := by decide +kernel
theorem dX2_liveThroughDay_20 : decode cX2_liveThroughDay 20 = .ok (.getfield 23, 3) := by decide +kernel
theorem dX2_liveThroughDay_23 : decode cX2_liveThroughDay 23 = .ok (.iconst 1, 1) := by decide +kernel
theorem dX2_liveThroughDay_24 : decode cX2_liveThroughDay 24 = .ok (.isub, 1) := by decide +kernel
theorem dX2_liveThroughDay_25 : decode cX2_liveThroughDay 25 = .ok (.iconst 0, 1) := by decide +kernel
theorem dX2_liveThroughDay_26 : decode cX2_liveThroughDay 26 = .ok (.invokestatic 48, 3) := by decide +kernel
theorem dX2_liveThroughDay_29 : decode cX2_liveThroughDay 29 = .ok (.putfield 23, 3) := by decide +kernel
theorem dX2_liveThroughDay_32 : decode cX2_liveThroughDay 32 = .ok (.return_, 1) := by decide +kernel
theorem dX3_init_0 : decode cX3_init 0 = .ok (.aload_n 0, 1) := by decide +kernel
theorem dX3_init_1 : decode cX3_init 1 = .ok (.invokespecial 3, 3) := by decide +kernel
theorem dX3_init_4 : decode cX3_init 4 = .ok (.aload_n 0, 1) := by decide +kernel
theorem dX3_init_5 : decode cX3_init 5 = .ok (.bipush 60, 2) := by decide +kernel
theorem dX3_init_7 : decode cX3_init 7 = .ok (.newarray .char, 2) := by decide +kernel
theorem dX3_init_9 : decode cX3_init 9 = .ok (.putfield 9, 3) := by decide +kernel
theorem dX3_init_12 : decode cX3_init 12 = .ok (.aload_n 0, 1) := by decide +kernel
theorem dX3_init_13 : decode cX3_init 13 = .ok (.iconst 0, 1) := by decide +kernel
theorem dX3_init_14 : decode cX3_init 14 = .ok (.putfield 15, 3) := by decide +kernel
theorem dX3_init_17 : decode cX3_init 17 = .ok (.aload_n 0, 1) := by decide +kernel
theorem dX3_init_18 : decode cX3_init 18 = .ok (.iconst 0, 1) := by decide +kernel
theorem dX3_init_19 : decode cX3_init 19 = .ok (.putfield 19, 3) := by decide +kernel
theorem dX3_init_22 : decode cX3_init 22 = .ok (.aload_n 0, 1) := by decide +kernel
theorem dX3_init_23 : decode cX3_init 23 = .ok (.iconst 0, 1) := by decide +kernel
theorem dX3_init_24 : decode cX3_init 24 = .ok (.putfield 22, 3) := by decide +kernel
theorem dX3_init_27 : decode cX3_init 27 = .ok (.aload_n 0, 1) := by decide +kernel
theorem dX3_init_28 : decode cX3_init 28 = .ok (.bipush 20, 2) := by decide +kernel
theorem dX3_init_30 : decode cX3_init 30 = .ok (.newarray .int, 2) := by decide +kernel
theorem dX3_init_32 : decode cX3_init 32 = .ok (.putfield 25, 3) := by decide +kernel
theorem dX3_init_35 : decode cX3_init 35 = .ok (.aload_n 0, 1) := by decide +kernel
theorem dX3_init_36 : decode cX3_init 36 = .ok (.bipush 20, 2) := by decide +kernel
theorem dX3_init_38 : decode cX3_init 38 = .ok (.newarray .int, 2) := by decide +kernel
theorem dX3_init_40 : decode cX3_init 40 = .ok (.putfield 29, 3) := by decide +kernel
theorem dX3_init_43 : decode cX3_init 43 = .ok (.aload_n 0, 1) := by decide +kernel
theorem dX3_init_44 : decode cX3_init 44 = .ok (.bipush 20, 2) := by decide +kernel
theorem dX3_init_46 : decode cX3_init 46 = .ok (.newarray .int, 2) := by decide +kernel
theorem dX3_init_48 : decode cX3_init 48 = .ok (.putfield 32, 3) := by decide +kernel
theorem dX3_init_51 : decode cX3_init 51 = .ok (.aload_n 0, 1) := by decide +kernel
theorem dX3_init_52 : decode cX3_init 52 = .ok (.bipush 20, 2) := by decide +kernel
theorem dX3_init_54 : decode cX3_init 54 = .ok (.newarray .int, 2) := by decide +kernel
theorem dX3_init_56 : decode cX3_init 56 = .ok (.putfield 35, 3) := by decide +kernel
theorem dX3_init_59 : decode cX3_init 59 = .ok (.return_, 1) := by decide +kernel
theorem dX3_parse_0 : decode cX3_parse 0 = .ok (.aload_n 0, 1) := by decide +kernel
theorem dX3_parse_1 : decode cX3_parse 1 = .ok (.iconst 0, 1) := by decide +kernel
theorem dX3_parse_2 : decode cX3_parse 2 = .ok (.putfield 19, 3) := by decide +kernel
theorem dX3_parse_5 : decode cX3_parse 5 = .ok (.aload_n 0, 1) := by decide +kernel
theorem dX3_parse_6 : decode cX3_parse 6 = .ok (.iconst 0, 1) := by decide +kernel
theorem dX3_parse_7 : decode cX3_parse 7 = .ok (.putfield 22, 3) := by decide +kernel
theorem dX3_parse_10 : decode cX3_parse 10 = .ok (.aload_n 0, 1) := by decide +kernel
theorem dX3_parse_11 : decode cX3_parse 11 = .ok (.getfield 22, 3) := by decide +kernel
theorem dX3_parse_14 : decode cX3_parse 14 = .ok (.bipush 20, 2) := by decide +kernel
theorem dX3_parse_16 : decode cX3_parse 16 = .ok (.if_icmp .ge 52, 3) := by decide +kernel
theorem dX3_parse_19 : decode cX3_parse 19 = .ok (.aload_n 0, 1) := by decide +kernel
theorem dX3_parse_20 : decode cX3_parse 20 = .ok (.invokevirtual 38, 3) := by decide +kernel
theorem dX3_parse_23 : decode cX3_parse 23 = .ok (.ifCond .ne 8, 3) := by decide +kernel
theorem dX3_parse_26 : decode cX3_parse 26 = .ok (.aload_n 0, 1) := by decide +kernel
theorem dX3_parse_27 : decode cX3_parse 27 = .ok (.getfield 19, 3) := by decide +kernel
theorem dX3_parse_30 : decode cX3_parse 30 = .ok (.ireturn, 1) := by decide +kernel
theorem dX3_parse_31 : decode cX3_parse 31 = .ok (.aload_n 0, 1) := by decide +kernel
theorem dX3_parse_32 : decode cX3_parse 32 = .ok (.dup, 1) := by decide +kernel
theorem dX3_parse_33 : decode cX3_parse 33 = .ok (.getfield 22, 3) := by decide +kernel
theorem dX3_parse_36 : decode cX3_parse 36 = .ok (.iconst 1, 1) := by decide +kernel
theorem dX3_parse_37 : decode cX3_parse 37 = .ok (.iadd, 1) := by decide +kernel
theorem dX3_parse_38 : decode cX3_parse 38 = .ok (.putfield 22, 3) := by decide +kernel
theorem dX3_parse_41 : decode cX3_parse 41 = .ok (.aload_n 0, 1) := by decide +kernel
theorem dX3_parse_42 : decode cX3_parse 42 = .ok (.getfield 19, 3) := by decide +kernel
theorem dX3_parse_45 : decode cX3_parse 45 = .ok (.aload_n 0, 1) := by decide +kernel
theorem dX3_parse_46 : decode cX3_parse 46 = .ok (.getfield 15, 3) := by decide +kernel
theorem dX3_parse_49 : decode cX3_parse 49 = .ok (.if_icmp .lt 5, 3) := by decide +kernel
theorem dX3_parse_52 : decode cX3_parse 52 = .ok (.iconst (-1), 1) := by decide +kernel
theorem dX3_parse_53 : decode cX3_parse 53 = .ok (.ireturn, 1) := by decide +kernel
theorem dX3_parse_54 : decode cX3_parse 54 = .ok (.aload_n 0, 1) := by decide +kernel
theorem dX3_parse_55 : decode cX3_parse 55 = .ok (.bipush 59, 2) := by decide +kernel
theorem dX3_parse_57 : decode cX3_parse 57 = .ok (.invokevirtual 42, 3) := by decide +kernel
theorem dX3_parse_60 : decode cX3_parse 60 = .ok (.ifCond .ne (-50), 3) := by decide +kernel
theorem dX3_parse_63 : decode cX3_parse 63 = .ok (.aload_n 0, 1) := by decide +kernel
theorem dX3_parse_64 : decode cX3_parse 64 = .ok (.getfield 19, 3) := by decide +kernel
theorem dX3_parse_67 : decode cX3_parse 67 = .ok (.ireturn, 1) := by decide +kernel
theorem dX3_parse_68 : decode cX3_parse 68 = .ok (.aload_n 0, 1) := by decide +kernel
theorem dX3_parse_69 : decode cX3_parse 69 = .ok (.getfield 19, 3) := by decide +kernel
theorem dX3_parse_72 : decode cX3_parse 72 = .ok (.ireturn, 1) := by decide +kernel
theorem dX3_parseOrder_0 : decode cX3_parseOrder 0 = .ok (.aload_n 0, 1) := by decide +kernel
theorem dX3_parseOrder_1 : decode cX3_parseOrder 1 = .ok (.getfield 19, 3) := by decide +kernel
theorem dX3_parseOrder_4 : decode cX3_parseOrder 4 = .ok (.aload_n 0, 1) := by decide +kernel
theorem dX3_parseOrder_5 : decode cX3_parseOrder 5 = .ok (.getfield 15, 3) := by decide +kernel
theorem dX3_parseOrder_8 : decode cX3_parseOrder 8 = .ok (.if_icmp .ge 15, 3) := by decide +kernel
theorem dX3_parseOrder_11 : decode cX3_parseOrder 11 = .ok (.aload_n 0, 1) := by decide +kernel
theorem dX3_parseOrder_12 : decode cX3_parseOrder 12 = .ok (.getfield 9, 3) := by decide +kernel
theorem dX3_parseOrder_15 : decode cX3_parseOrder 15 = .ok (.aload_n 0, 1) := by decide +kernel
theorem dX3_parseOrder_16 : decode cX3_parseOrder 16 = .ok (.getfield 19, 3) := by decide +kernel
theorem dX3_parseOrder_19 : decode cX3_parseOrder 19 = .ok (.caload, 1) := by decide +kernel
theorem dX3_parseOrder_20 : decode cX3_parseOrder 20 = .ok (.goto 5, 3) := by decide +kernel
theorem dX3_parseOrder_23 : decode cX3_parseOrder 23 = .ok (.bipush 32, 2) := by decide +kernel
theorem dX3_parseOrder_25 : decode cX3_parseOrder 25 = .ok (.istore_n 1, 1) := by decide +kernel
theorem dX3_parseOrder_26 : decode cX3_parseOrder 26 = .ok (.aload_n 0, 1) := by decide +kernel
theorem dX3_parseOrder_27 : decode cX3_parseOrder 27 = .ok (.getfield 25, 3) := by decide +kernel
theorem dX3_parseOrder_30 : decode cX3_parseOrder 30 = .ok (.aload_n 0, 1) := by decide +kernel
theorem dX3_parseOrder_31 : decode cX3_parseOrder 31 = .ok (.getfield 22, 3) := by decide +kernel
theorem dX3_parseOrder_34 : decode cX3_parseOrder 34 = .ok (.iload_n 1, 1) := by decide +kernel
theorem dX3_parseOrder_35 : decode cX3_parseOrder 35 = .ok (.iastore, 1) := by decide +kernel
theorem dX3_parseOrder_36 : decode cX3_parseOrder 36 = .ok (.iload_n 1, 1) := by decide +kernel
theorem dX3_parseOrder_37 : decode cX3_parseOrder 37 = .ok (.tableswitch 195 100 116 #[83, 195, 195, 195, 195, 195, 180, 195, 195, 195, 195, 195, 83, 195, 124, 124, 165], 83) := by decide +kernel
theorem dX3_parseOrder_120 : decode cX3_parseOrder 120 = .ok (.aload_n 0, 1) := by decide +kernel
theorem dX3_parseOrder_121 : decode cX3_parseOrder 121 = .ok (.dup, 1) := by decide +kernel
theorem dX3_parseOrder_122 : decode cX3_parseOrder 122 = .ok (.getfield 19, 3) := by decide +kernel
theorem dX3_parseOrder_125 : decode cX3_parseOrder 125 = .ok (.iconst 1, 1) := by decide +kernel
theorem dX3_parseOrder_126 : decode cX3_parseOrder 126 = .ok (.iadd, 1) := by decide +kernel
theorem dX3_parseOrder_127 : decode cX3_parseOrder 127 = .ok (.putfield 19, 3) := by decide +kernel
theorem dX3_parseOrder_130 : decode cX3_parseOrder 130 = .ok (.aload_n 0, 1) := by decide +kernel
theorem dX3_parseOrder_131 : decode cX3_parseOrder 131 = .ok (.getfield 29, 3) := by decide +kernel
theorem dX3_parseOrder_134 : decode cX3_parseOrder 134 = .ok (.aload_n 0, 1) := by decide +kernel
theorem dX3_parseOrder_135 : decode cX3_parseOrder 135 = .ok (.getfield 22, 3) := by decide +kernel
theorem dX3_parseOrder_138 : decode cX3_parseOrder 138 = .ok (.aload_n 0, 1) := by decide +kernel
theorem dX3_parseOrder_139 : decode cX3_parseOrder 139 = .ok (.invokevirtual 46, 3) := by decide +kernel
theorem dX3_parseOrder_142 : decode cX3_parseOrder 142 = .ok (.iastore, 1) := by decide +kernel
theorem dX3_parseOrder_143 : decode cX3_parseOrder 143 = .ok (.aload_n 0, 1) := by decide +kernel
theorem dX3_parseOrder_144 : decode cX3_parseOrder 144 = .ok (.getfield 29, 3) := by decide +kernel
theorem dX3_parseOrder_147 : decode cX3_parseOrder 147 = .ok (.aload_n 0, 1) := by decide +kernel
theorem dX3_parseOrder_148 : decode cX3_parseOrder 148 = .ok (.getfield 22, 3) := by decide +kernel
theorem dX3_parseOrder_151 : decode cX3_parseOrder 151 = .ok (.iaload, 1) := by decide +kernel
theorem dX3_parseOrder_152 : decode cX3_parseOrder 152 = .ok (.ifCond .lt 7, 3) := by decide +kernel
theorem dX3_parseOrder_155 : decode cX3_parseOrder 155 = .ok (.iconst 1, 1) := by decide +kernel
theorem dX3_parseOrder_156 : decode cX3_parseOrder 156 = .ok (.goto 4, 3) := by decide +kernel
theorem dX3_parseOrder_159 : decode cX3_parseOrder 159 = .ok (.iconst 0, 1) := by decide +kernel
theorem dX3_parseOrder_160 : decode cX3_parseOrder 160 = .ok (.ireturn, 1) := by decide +kernel
theorem dX3_parseOrder_161 : decode cX3_parseOrder 161 = .ok (.aload_n 0, 1) := by decide +kernel
theorem dX3_parseOrder_162 : decode cX3_parseOrder 162 = .ok (.dup, 1) := by decide +kernel
theorem dX3_parseOrder_163 : decode cX3_parseOrder 163 = .ok (.getfield 19, 3) := by decide +kernel
theorem dX3_parseOrder_166 : decode cX3_parseOrder 166 = .ok (.iconst 1, 1) := by decide +kernel
theorem dX3_parseOrder_167 : decode cX3_parseOrder 167 = .ok (.iadd, 1) := by decide +kernel
theorem dX3_parseOrder_168 : decode cX3_parseOrder 168 = .ok (.putfield 19, 3) := by decide +kernel
theorem dX3_parseOrder_171 : decode cX3_parseOrder 171 = .ok (.aload_n 0, 1) := by decide +kernel
theorem dX3_parseOrder_172 : decode cX3_parseOrder 172 = .ok (.getfield 29, 3) := by decide +kernel
theorem dX3_parseOrder_175 : decode cX3_parseOrder 175 = .ok (.aload_n 0, 1) := by decide +kernel
theorem dX3_parseOrder_176 : decode cX3_parseOrder 176 = .ok (.getfield 22, 3) := by decide +kernel
theorem dX3_parseOrder_179 : decode cX3_parseOrder 179 = .ok (.aload_n 0, 1) := by decide +kernel
theorem dX3_parseOrder_180 : decode cX3_parseOrder 180 = .ok (.invokevirtual 50, 3) := by decide +kernel
theorem dX3_parseOrder_183 : decode cX3_parseOrder 183 = .ok (.iastore, 1) := by decide +kernel
theorem dX3_parseOrder_184 : decode cX3_parseOrder 184 = .ok (.aload_n 0, 1) := by decide +kernel
theorem dX3_parseOrder_185 : decode cX3_parseOrder 185 = .ok (.getfield 29, 3) := by decide +kernel
theorem dX3_parseOrder_188 : decode cX3_parseOrder 188 = .ok (.aload_n 0, 1) := by decide +kernel
theorem dX3_parseOrder_189 : decode cX3_parseOrder 189 = .ok (.getfield 22, 3) := by decide +kernel
theorem dX3_parseOrder_192 : decode cX3_parseOrder 192 = .ok (.iaload, 1) := by decide +kernel
theorem dX3_parseOrder_193 : decode cX3_parseOrder 193 = .ok (.ifCond .lt 7, 3) := by decide +kernel
theorem dX3_parseOrder_196 : decode cX3_parseOrder 196 = .ok (.iconst 1, 1) := by decide +kernel
theorem dX3_parseOrder_197 : decode cX3_parseOrder 197 = .ok (.goto 4, 3) := by decide +kernel
theorem dX3_parseOrder_200 : decode cX3_parseOrder 200 = .ok (.iconst 0, 1) := by decide +kernel
theorem dX3_parseOrder_201 : decode cX3_parseOrder 201 = .ok (.ireturn, 1) := by decide +kernel
theorem dX3_parseOrder_202 : decode cX3_parseOrder 202 = .ok (.aload_n 0, 1) := by decide +kernel
theorem dX3_parseOrder_203 : decode cX3_parseOrder 203 = .ok (.dup, 1) := by decide +kernel
theorem dX3_parseOrder_204 : decode cX3_parseOrder 204 = .ok (.getfield 19, 3) := by decide +kernel
theorem dX3_parseOrder_207 : decode cX3_parseOrder 207 = .ok (.iconst 1, 1) := by decide +kernel
theorem dX3_parseOrder_208 : decode cX3_parseOrder 208 = .ok (.iadd, 1) := by decide +kernel
theorem dX3_parseOrder_209 : decode cX3_parseOrder 209 = .ok (.putfield 19, 3) := by decide +kernel
theorem dX3_parseOrder_212 : decode cX3_parseOrder 212 = .ok (.aload_n 0, 1) := by decide +kernel
theorem dX3_parseOrder_213 : decode cX3_parseOrder 213 = .ok (.invokevirtual 53, 3) := by decide +kernel
theorem dX3_parseOrder_216 : decode cX3_parseOrder 216 = .ok (.ireturn, 1) := by decide +kernel
theorem dX3_parseOrder_217 : decode cX3_parseOrder 217 = .ok (.aload_n 0, 1) := by decide +kernel
theorem dX3_parseOrder_218 : decode cX3_parseOrder 218 = .ok (.dup, 1) := by decide +kernel
theorem dX3_parseOrder_219 : decode cX3_parseOrder 219 = .ok (.getfield 19, 3) := by decide +kernel
theorem dX3_parseOrder_222 : decode cX3_parseOrder 222 = .ok (.iconst 1, 1) := by decide +kernel
theorem dX3_parseOrder_223 : decode cX3_parseOrder 223 = .ok (.iadd, 1) := by decide +kernel
theorem dX3_parseOrder_224 : decode cX3_parseOrder 224 = .ok (.putfield 19, 3) := by decide +kernel
theorem dX3_parseOrder_227 : decode cX3_parseOrder 227 = .ok (.aload_n 0, 1) := by decide +kernel
theorem dX3_parseOrder_228 : decode cX3_parseOrder 228 = .ok (.invokevirtual 56, 3) := by decide +kernel
theorem dX3_parseOrder_231 : decode cX3_parseOrder 231 = .ok (.ireturn, 1) := by decide +kernel
theorem dX3_parseOrder_232 : decode cX3_parseOrder 232 = .ok (.iconst 0, 1) := by decide +kernel
theorem dX3_parseOrder_233 : decode cX3_parseOrder 233 = .ok (.ireturn, 1) := by decide +kernel
theorem dX3_parseTemperature_0 : decode cX3_parseTemperature 0 = .ok (.aload_n 0, 1) := by decide +kernel
theorem dX3_parseTemperature_1 : decode cX3_parseTemperature 1 = .ok (.bipush 45, 2) := by decide +kernel
theorem dX3_parseTemperature_3 : decode cX3_parseTemperature 3 = .ok (.invokevirtual 42, 3) := by decide +kernel
theorem dX3_parseTemperature_6 : decode cX3_parseTemperature 6 = .ok (.istore_n 1, 1) := by decide +kernel
theorem dX3_parseTemperature_7 : decode cX3_parseTemperature 7 = .ok (.aload_n 0, 1) := by decide +kernel
theorem dX3_parseTemperature_8 : decode cX3_parseTemperature 8 = .ok (.invokevirtual 46, 3) := by decide +kernel
theorem dX3_parseTemperature_11 : decode cX3_parseTemperature 11 = .ok (.istore_n 2, 1) := by decide +kernel
theorem dX3_parseTemperature_12 : decode cX3_parseTemperature 12 = .ok (.aload_n 0, 1) := by decide +kernel
theorem dX3_parseTemperature_13 : decode cX3_parseTemperature 13 = .ok (.getfield 29, 3) := by decide +kernel
theorem dX3_parseTemperature_16 : decode cX3_parseTemperature 16 = .ok (.aload_n 0, 1) := by decide +kernel
theorem dX3_parseTemperature_17 : decode cX3_parseTemperature 17 = .ok (.getfield 22, 3) := by decide +kernel
theorem dX3_parseTemperature_20 : decode cX3_parseTemperature 20 = .ok (.iload_n 1, 1) := by decide +kernel
theorem dX3_parseTemperature_21 : decode cX3_parseTemperature 21 = .ok (.ifCond .eq 8, 3) := by decide +kernel
theorem dX3_parseTemperature_24 : decode cX3_parseTemperature 24 = .ok (.iload_n 2, 1) := by decide +kernel
theorem dX3_parseTemperature_25 : decode cX3_parseTemperature 25 = .ok (.ineg, 1) := by decide +kernel
theorem dX3_parseTemperature_26 : decode cX3_parseTemperature 26 = .ok (.goto 4, 3) := by decide +kernel
theorem dX3_parseTemperature_29 : decode cX3_parseTemperature 29 = .ok (.iload_n 2, 1) := by decide +kernel
theorem dX3_parseTemperature_30 : decode cX3_parseTemperature 30 = .ok (.iastore, 1) := by decide +kernel
theorem dX3_parseTemperature_31 : decode cX3_parseTemperature 31 = .ok (.iload_n 2, 1) := by decide +kernel
theorem dX3_parseTemperature_32 : decode cX3_parseTemperature 32 = .ok (.ifCond .lt 7, 3) := by decide +kernel
theorem dX3_parseTemperature_35 : decode cX3_parseTemperature 35 = .ok (.iconst 1, 1) := by decide +kernel
theorem dX3_parseTemperature_36 : decode cX3_parseTemperature 36 = .ok (.goto 4, 3) := by decide +kernel
theorem dX3_parseTemperature_39 : decode cX3_parseTemperature 39 = .ok (.iconst 0, 1) := by decide +kernel
theorem dX3_parseTemperature_40 : decode cX3_parseTemperature 40 = .ok (.ireturn, 1) := by decide +kernel
theorem dX3_parseJoin_0 : decode cX3_parseJoin 0 = .ok (.aload_n 0, 1) := by decide +kernel
theorem dX3_parseJoin_1 : decode cX3_parseJoin 1 = .ok (.getfield 29, 3) := by decide +kernel
theorem dX3_parseJoin_4 : decode cX3_parseJoin 4 = .ok (.aload_n 0, 1) := by decide +kernel
theorem dX3_parseJoin_5 : decode cX3_parseJoin 5 = .ok (.getfield 22, 3) := by decide +kernel
theorem dX3_parseJoin_8 : decode cX3_parseJoin 8 = .ok (.aload_n 0, 1) := by decide +kernel
theorem dX3_parseJoin_9 : decode cX3_parseJoin 9 = .ok (.invokevirtual 50, 3) := by decide +kernel
theorem dX3_parseJoin_12 : decode cX3_parseJoin 12 = .ok (.iastore, 1) := by decide +kernel
theorem dX3_parseJoin_13 : decode cX3_parseJoin 13 = .ok (.aload_n 0, 1) := by decide +kernel
theorem dX3_parseJoin_14 : decode cX3_parseJoin 14 = .ok (.getfield 29, 3) := by decide +kernel
theorem dX3_parseJoin_17 : decode cX3_parseJoin 17 = .ok (.aload_n 0, 1) := by decide +kernel
theorem dX3_parseJoin_18 : decode cX3_parseJoin 18 = .ok (.getfield 22, 3) := by decide +kernel
theorem dX3_parseJoin_21 : decode cX3_parseJoin 21 = .ok (.iaload, 1) := by decide +kernel
theorem dX3_parseJoin_22 : decode cX3_parseJoin 22 = .ok (.ifCond .lt 12, 3) := by decide +kernel
theorem dX3_parseJoin_25 : decode cX3_parseJoin 25 = .ok (.aload_n 0, 1) := by decide +kernel
theorem dX3_parseJoin_26 : decode cX3_parseJoin 26 = .ok (.bipush 58, 2) := by decide +kernel
theorem dX3_parseJoin_28 : decode cX3_parseJoin 28 = .ok (.invokevirtual 42, 3) := by decide +kernel
theorem dX3_parseJoin_31 : decode cX3_parseJoin 31 = .ok (.ifCond .ne 5, 3) := by decide +kernel
theorem dX3_parseJoin_34 : decode cX3_parseJoin 34 = .ok (.iconst 0, 1) := by decide +kernel
theorem dX3_parseJoin_35 : decode cX3_parseJoin 35 = .ok (.ireturn, 1) := by decide +kernel
theorem dX3_parseJoin_36 : decode cX3_parseJoin 36 = .ok (.aload_n 0, 1) := by decide +kernel
theorem dX3_parseJoin_37 : decode cX3_parseJoin 37 = .ok (.getfield 32, 3) := by decide +kernel
theorem dX3_parseJoin_40 : decode cX3_parseJoin 40 = .ok (.aload_n 0, 1) := by decide +kernel
theorem dX3_parseJoin_41 : decode cX3_parseJoin 41 = .ok (.getfield 22, 3) := by decide +kernel
theorem dX3_parseJoin_44 : decode cX3_parseJoin 44 = .ok (.aload_n 0, 1) := by decide +kernel
theorem dX3_parseJoin_45 : decode cX3_parseJoin 45 = .ok (.invokevirtual 50, 3) := by decide +kernel
theorem dX3_parseJoin_48 : decode cX3_parseJoin 48 = .ok (.iastore, 1) := by decide +kernel
theorem dX3_parseJoin_49 : decode cX3_parseJoin 49 = .ok (.aload_n 0, 1) := by decide +kernel
theorem dX3_parseJoin_50 : decode cX3_parseJoin 50 = .ok (.getfield 32, 3) := by decide +kernel
theorem dX3_parseJoin_53 : decode cX3_parseJoin 53 = .ok (.aload_n 0, 1) := by decide +kernel
theorem dX3_parseJoin_54 : decode cX3_parseJoin 54 = .ok (.getfield 22, 3) := by decide +kernel
theorem dX3_parseJoin_57 : decode cX3_parseJoin 57 = .ok (.iaload, 1) := by decide +kernel
theorem dX3_parseJoin_58 : decode cX3_parseJoin 58 = .ok (.ifCond .lt 12, 3) := by decide +kernel
theorem dX3_parseJoin_61 : decode cX3_parseJoin 61 = .ok (.aload_n 0, 1) := by decide +kernel
theorem dX3_parseJoin_62 : decode cX3_parseJoin 62 = .ok (.bipush 46, 2) := by decide +kernel
theorem dX3_parseJoin_64 : decode cX3_parseJoin 64 = .ok (.invokevirtual 42, 3) := by decide +kernel
theorem dX3_parseJoin_67 : decode cX3_parseJoin 67 = .ok (.ifCond .ne 5, 3) := by decide +kernel
theorem dX3_parseJoin_70 : decode cX3_parseJoin 70 = .ok (.iconst 0, 1) := by decide +kernel
theorem dX3_parseJoin_71 : decode cX3_parseJoin 71 = .ok (.ireturn, 1) := by decide +kernel
theorem dX3_parseJoin_72 : decode cX3_parseJoin 72 = .ok (.aload_n 0, 1) := by decide +kernel
theorem dX3_parseJoin_73 : decode cX3_parseJoin 73 = .ok (.getfield 35, 3) := by decide +kernel
theorem dX3_parseJoin_76 : decode cX3_parseJoin 76 = .ok (.aload_n 0, 1) := by decide +kernel
theorem dX3_parseJoin_77 : decode cX3_parseJoin 77 = .ok (.getfield 22, 3) := by decide +kernel
theorem dX3_parseJoin_80 : decode cX3_parseJoin 80 = .ok (.aload_n 0, 1) := by decide +kernel
theorem dX3_parseJoin_81 : decode cX3_parseJoin 81 = .ok (.invokevirtual 50, 3) := by decide +kernel
theorem dX3_parseJoin_84 : decode cX3_parseJoin 84 = .ok (.iastore, 1) := by decide +kernel
theorem dX3_parseJoin_85 : decode cX3_parseJoin 85 = .ok (.aload_n 0, 1) := by decide +kernel
theorem dX3_parseJoin_86 : decode cX3_parseJoin 86 = .ok (.getfield 35, 3) := by decide +kernel
theorem dX3_parseJoin_89 : decode cX3_parseJoin 89 = .ok (.aload_n 0, 1) := by decide +kernel
theorem dX3_parseJoin_90 : decode cX3_parseJoin 90 = .ok (.getfield 22, 3) := by decide +kernel
theorem dX3_parseJoin_93 : decode cX3_parseJoin 93 = .ok (.iaload, 1) := by decide +kernel
theorem dX3_parseJoin_94 : decode cX3_parseJoin 94 = .ok (.ifCond .lt 7, 3) := by decide +kernel
theorem dX3_parseJoin_97 : decode cX3_parseJoin 97 = .ok (.iconst 1, 1) := by decide +kernel
theorem dX3_parseJoin_98 : decode cX3_parseJoin 98 = .ok (.goto 4, 3) := by decide +kernel
theorem dX3_parseJoin_101 : decode cX3_parseJoin 101 = .ok (.iconst 0, 1) := by decide +kernel
theorem dX3_parseJoin_102 : decode cX3_parseJoin 102 = .ok (.ireturn, 1) := by decide +kernel
theorem dX3_skip_0 : decode cX3_skip 0 = .ok (.aload_n 0, 1) := by decide +kernel
theorem dX3_skip_1 : decode cX3_skip 1 = .ok (.getfield 19, 3) := by decide +kernel
theorem dX3_skip_4 : decode cX3_skip 4 = .ok (.aload_n 0, 1) := by decide +kernel
theorem dX3_skip_5 : decode cX3_skip 5 = .ok (.getfield 15, 3) := by decide +kernel
theorem dX3_skip_8 : decode cX3_skip 8 = .ok (.if_icmp .ge 16, 3) := by decide +kernel
theorem dX3_skip_11 : decode cX3_skip 11 = .ok (.aload_n 0, 1) := by decide +kernel
theorem dX3_skip_12 : decode cX3_skip 12 = .ok (.getfield 9, 3) := by decide +kernel
theorem dX3_skip_15 : decode cX3_skip 15 = .ok (.aload_n 0, 1) := by decide +kernel
theorem dX3_skip_16 : decode cX3_skip 16 = .ok (.getfield 19, 3) := by decide +kernel
theorem dX3_skip_19 : decode cX3_skip 19 = .ok (.caload, 1) := by decide +kernel
theorem dX3_skip_20 : decode cX3_skip 20 = .ok (.iload_n 1, 1) := by decide +kernel
theorem dX3_skip_21 : decode cX3_skip 21 = .ok (.if_icmp .eq 5, 3) := by decide +kernel
theorem dX3_skip_24 : decode cX3_skip 24 = .ok (.iconst 0, 1) := by decide +kernel
theorem dX3_skip_25 : decode cX3_skip 25 = .ok (.ireturn, 1) := by decide +kernel
theorem dX3_skip_26 : decode cX3_skip 26 = .ok (.aload_n 0, 1) := by decide +kernel
theorem dX3_skip_27 : decode cX3_skip 27 = .ok (.dup, 1) := by decide +kernel
theorem dX3_skip_28 : decode cX3_skip 28 = .ok (.getfield 19, 3) := by decide +kernel
theorem dX3_skip_31 : decode cX3_skip 31 = .ok (.iconst 1, 1) := by decide +kernel
theorem dX3_skip_32 : decode cX3_skip 32 = .ok (.iadd, 1) := by decide +kernel
theorem dX3_skip_33 : decode cX3_skip 33 = .ok (.putfield 19, 3) := by decide +kernel
theorem dX3_skip_36 : decode cX3_skip 36 = .ok (.iconst 1, 1) := by decide +kernel
theorem dX3_skip_37 : decode cX3_skip 37 = .ok (.ireturn, 1) := by decide +kernel
theorem dX3_parseNumber_0 : decode cX3_parseNumber 0 = .ok (.aload_n 0, 1) := by decide +kernel
theorem dX3_parseNumber_1 : decode cX3_parseNumber 1 = .ok (.invokevirtual 50, 3) := by decide +kernel
theorem dX3_parseNumber_4 : decode cX3_parseNumber 4 = .ok (.istore_n 1, 1) := by decide +kernel
theorem dX3_parseNumber_5 : decode cX3_parseNumber 5 = .ok (.iload_n 1, 1) := by decide +kernel
theorem dX3_parseNumber_6 : decode cX3_parseNumber 6 = .ok (.ifCond .ge 5, 3) := by decide +kernel
theorem dX3_parseNumber_9 : decode cX3_parseNumber 9 = .ok (.iconst (-1), 1) := by decide +kernel
theorem dX3_parseNumber_10 : decode cX3_parseNumber 10 = .ok (.ireturn, 1) := by decide +kernel
theorem dX3_parseNumber_11 : decode cX3_parseNumber 11 = .ok (.aload_n 0, 1) := by decide +kernel
theorem dX3_parseNumber_12 : decode cX3_parseNumber 12 = .ok (.invokevirtual 50, 3) := by decide +kernel
theorem dX3_parseNumber_15 : decode cX3_parseNumber 15 = .ok (.istore_n 2, 1) := by decide +kernel
theorem dX3_parseNumber_16 : decode cX3_parseNumber 16 = .ok (.iload_n 2, 1) := by decide +kernel
theorem dX3_parseNumber_17 : decode cX3_parseNumber 17 = .ok (.ifCond .ge 7, 3) := by decide +kernel
theorem dX3_parseNumber_20 : decode cX3_parseNumber 20 = .ok (.iload_n 1, 1) := by decide +kernel
theorem dX3_parseNumber_21 : decode cX3_parseNumber 21 = .ok (.goto 9, 3) := by decide +kernel
theorem dX3_parseNumber_24 : decode cX3_parseNumber 24 = .ok (.bipush 10, 2) := by decide +kernel
theorem dX3_parseNumber_26 : decode cX3_parseNumber 26 = .ok (.iload_n 1, 1) := by decide +kernel
theorem dX3_parseNumber_27 : decode cX3_parseNumber 27 = .ok (.imul, 1) := by decide +kernel
theorem dX3_parseNumber_28 : decode cX3_parseNumber 28 = .ok (.iload_n 2, 1) := by decide +kernel
theorem dX3_parseNumber_29 : decode cX3_parseNumber 29 = .ok (.iadd, 1) := by decide +kernel
theorem dX3_parseNumber_30 : decode cX3_parseNumber 30 = .ok (.ireturn, 1) := by decide +kernel
theorem dX3_parseDigit_0 : decode cX3_parseDigit 0 = .ok (.aload_n 0, 1) := by decide +kernel
theorem dX3_parseDigit_1 : decode cX3_parseDigit 1 = .ok (.getfield 19, 3) := by decide +kernel
theorem dX3_parseDigit_4 : decode cX3_parseDigit 4 = .ok (.aload_n 0, 1) := by decide +kernel
theorem dX3_parseDigit_5 : decode cX3_parseDigit 5 = .ok (.getfield 15, 3) := by decide +kernel
theorem dX3_parseDigit_8 : decode cX3_parseDigit 8 = .ok (.if_icmp .ge 31, 3) := by decide +kernel
theorem dX3_parseDigit_11 : decode cX3_parseDigit 11 = .ok (.aload_n 0, 1) := by decide +kernel
theorem dX3_parseDigit_12 : decode cX3_parseDigit 12 = .ok (.getfield 9, 3) := by decide +kernel
theorem dX3_parseDigit_15 : decode cX3_parseDigit 15 = .ok (.aload_n 0, 1) := by decide +kernel
theorem dX3_parseDigit_16 : decode cX3_parseDigit 16 = .ok (.getfield 19, 3) := by decide +kernel
theorem dX3_parseDigit_19 : decode cX3_parseDigit 19 = .ok (.caload, 1) := by decide +kernel
theorem dX3_parseDigit_20 : decode cX3_parseDigit 20 = .ok (.bipush 48, 2) := by decide +kernel
theorem dX3_parseDigit_22 : decode cX3_parseDigit 22 = .ok (.if_icmp .lt 17, 3) := by decide +kernel
theorem dX3_parseDigit_25 : decode cX3_parseDigit 25 = .ok (.aload_n 0, 1) := by decide +kernel
theorem dX3_parseDigit_26 : decode cX3_parseDigit 26 = .ok (.getfield 9, 3) := by decide +kernel
theorem dX3_parseDigit_29 : decode cX3_parseDigit 29 = .ok (.aload_n 0, 1) := by decide +kernel
theorem dX3_parseDigit_30 : decode cX3_parseDigit 30 = .ok (.getfield 19, 3) := by decide +kernel
theorem dX3_parseDigit_33 : decode cX3_parseDigit 33 = .ok (.caload, 1) := by decide +kernel
theorem dX3_parseDigit_34 : decode cX3_parseDigit 34 = .ok (.bipush 57, 2) := by decide +kernel
theorem dX3_parseDigit_36 : decode cX3_parseDigit 36 = .ok (.if_icmp .le 5, 3) := by decide +kernel
theorem dX3_parseDigit_39 : decode cX3_parseDigit 39 = .ok (.iconst (-1), 1) := by decide +kernel
theorem dX3_parseDigit_40 : decode cX3_parseDigit 40 = .ok (.ireturn, 1) := by decide +kernel
theorem dX3_parseDigit_41 : decode cX3_parseDigit 41 = .ok (.aload_n 0, 1) := by decide +kernel
theorem dX3_parseDigit_42 : decode cX3_parseDigit 42 = .ok (.getfield 9, 3) := by decide +kernel
theorem dX3_parseDigit_45 : decode cX3_parseDigit 45 = .ok (.aload_n 0, 1) := by decide +kernel
theorem dX3_parseDigit_46 : decode cX3_parseDigit 46 = .ok (.getfield 19, 3) := by decide +kernel
theorem dX3_parseDigit_49 : decode cX3_parseDigit 49 = .ok (.caload, 1) := by decide +kernel
theorem dX3_parseDigit_50 : decode cX3_parseDigit 50 = .ok (.bipush 48, 2) := by decide +kernel
theorem dX3_parseDigit_52 : decode cX3_parseDigit 52 = .ok (.isub, 1) := by decide +kernel
theorem dX3_parseDigit_53 : decode cX3_parseDigit 53 = .ok (.istore_n 1, 1) := by decide +kernel
theorem dX3_parseDigit_54 : decode cX3_parseDigit 54 = .ok (.aload_n 0, 1) := by decide +kernel
theorem dX3_parseDigit_55 : decode cX3_parseDigit 55 = .ok (.dup, 1) := by decide +kernel
theorem dX3_parseDigit_56 : decode cX3_parseDigit 56 = .ok (.getfield 19, 3) := by decide +kernel
theorem dX3_parseDigit_59 : decode cX3_parseDigit 59 = .ok (.iconst 1, 1) := by decide +kernel
theorem dX3_parseDigit_60 : decode cX3_parseDigit 60 = .ok (.iadd, 1) := by decide +kernel
theorem dX3_parseDigit_61 : decode cX3_parseDigit 61 = .ok (.putfield 19, 3) := by decide +kernel
theorem dX3_parseDigit_64 : decode cX3_parseDigit 64 = .ok (.iload_n 1, 1) := by decide +kernel
theorem dX3_parseDigit_65 : decode cX3_parseDigit 65 = .ok (.ireturn, 1) := by decide +kernel
theorem dX3_carryOut_0 : decode cX3_carryOut 0 = .ok (.aload_n 0, 1) := by decide +kernel
theorem dX3_carryOut_1 : decode cX3_carryOut 1 = .ok (.getfield 29, 3) := by decide +kernel
theorem dX3_carryOut_4 : decode cX3_carryOut 4 = .ok (.iload_n 1, 1) := by decide +kernel
theorem dX3_carryOut_5 : decode cX3_carryOut 5 = .ok (.iaload, 1) := by decide +kernel
theorem dX3_carryOut_6 : decode cX3_carryOut 6 = .ok (.istore_n 3, 1) := by decide +kernel
theorem dX3_carryOut_7 : decode cX3_carryOut 7 = .ok (.aload_n 0, 1) := by decide +kernel
theorem dX3_carryOut_8 : decode cX3_carryOut 8 = .ok (.getfield 25, 3) := by decide +kernel
theorem dX3_carryOut_11 : decode cX3_carryOut 11 = .ok (.iload_n 1, 1) := by decide +kernel
theorem dX3_carryOut_12 : decode cX3_carryOut 12 = .ok (.iaload, 1) := by decide +kernel
theorem dX3_carryOut_13 : decode cX3_carryOut 13 = .ok (.tableswitch 130 100 116 #[83, 130, 130, 130, 130, 130, 117, 130, 130, 130, 130, 130, 124, 130, 100, 89, 111], 83) := by decide +kernel
theorem dX3_carryOut_96 : decode cX3_carryOut 96 = .ok (.iload_n 3, 1) := by decide +kernel
theorem dX3_carryOut_97 : decode cX3_carryOut 97 = .ok (.aload_n 2, 1) := by decide +kernel
theorem dX3_carryOut_98 : decode cX3_carryOut 98 = .ok (.invokestatic 59, 3) := by decide +kernel
theorem dX3_carryOut_101 : decode cX3_carryOut 101 = .ok (.ireturn, 1) := by decide +kernel
theorem dX3_carryOut_102 : decode cX3_carryOut 102 = .ok (.iload_n 3, 1) := by decide +kernel
theorem dX3_carryOut_103 : decode cX3_carryOut 103 = .ok (.aload_n 2, 1) := by decide +kernel
theorem dX3_carryOut_104 : decode cX3_carryOut 104 = .ok (.iload_n 3, 1) := by decide +kernel
theorem dX3_carryOut_105 : decode cX3_carryOut 105 = .ok (.invokevirtual 63, 3) := by decide +kernel
theorem dX3_carryOut_108 : decode cX3_carryOut 108 = .ok (.aload_n 2, 1) := by decide +kernel
theorem dX3_carryOut_109 : decode cX3_carryOut 109 = .ok (.invokestatic 69, 3) := by decide +kernel
theorem dX3_carryOut_112 : decode cX3_carryOut 112 = .ok (.ireturn, 1) := by decide +kernel
theorem dX3_carryOut_113 : decode cX3_carryOut 113 = .ok (.iload_n 3, 1) := by decide +kernel
theorem dX3_carryOut_114 : decode cX3_carryOut 114 = .ok (.aload_n 2, 1) := by decide +kernel
theorem dX3_carryOut_115 : decode cX3_carryOut 115 = .ok (.iload_n 3, 1) := by decide +kernel
theorem dX3_carryOut_116 : decode cX3_carryOut 116 = .ok (.invokevirtual 73, 3) := by decide +kernel
theorem dX3_carryOut_119 : decode cX3_carryOut 119 = .ok (.aload_n 2, 1) := by decide +kernel
theorem dX3_carryOut_120 : decode cX3_carryOut 120 = .ok (.invokestatic 69, 3) := by decide +kernel
theorem dX3_carryOut_123 : decode cX3_carryOut 123 = .ok (.ireturn, 1) := by decide +kernel
theorem dX3_carryOut_124 : decode cX3_carryOut 124 = .ok (.iload_n 3, 1) := by decide +kernel
theorem dX3_carryOut_125 : decode cX3_carryOut 125 = .ok (.aload_n 2, 1) := by decide +kernel
theorem dX3_carryOut_126 : decode cX3_carryOut 126 = .ok (.invokestatic 76, 3) := by decide +kernel
theorem dX3_carryOut_129 : decode cX3_carryOut 129 = .ok (.ireturn, 1) := by decide +kernel
theorem dX3_carryOut_130 : decode cX3_carryOut 130 = .ok (.aload_n 0, 1) := by decide +kernel
theorem dX3_carryOut_131 : decode cX3_carryOut 131 = .ok (.iload_n 1, 1) := by decide +kernel
theorem dX3_carryOut_132 : decode cX3_carryOut 132 = .ok (.aload_n 2, 1) := by decide +kernel
theorem dX3_carryOut_133 : decode cX3_carryOut 133 = .ok (.invokevirtual 79, 3) := by decide +kernel
theorem dX3_carryOut_136 : decode cX3_carryOut 136 = .ok (.ireturn, 1) := by decide +kernel
theorem dX3_carryOut_137 : decode cX3_carryOut 137 = .ok (.iload_n 3, 1) := by decide +kernel
theorem dX3_carryOut_138 : decode cX3_carryOut 138 = .ok (.aload_n 2, 1) := by decide +kernel
theorem dX3_carryOut_139 : decode cX3_carryOut 139 = .ok (.invokestatic 82, 3) := by decide +kernel
theorem dX3_carryOut_142 : decode cX3_carryOut 142 = .ok (.ireturn, 1) := by decide +kernel
theorem dX3_carryOut_143 : decode cX3_carryOut 143 = .ok (.iconst (-1), 1) := by decide +kernel
theorem dX3_carryOut_144 : decode cX3_carryOut 144 = .ok (.ireturn, 1) := by decide +kernel
theorem dX3_carryOutDrill_0 : decode cX3_carryOutDrill 0 = .ok (.iload_n 0, 1) := by decide +kernel
theorem dX3_carryOutDrill_1 : decode cX3_carryOutDrill 1 = .ok (.invokestatic 85, 3) := by decide +kernel
theorem dX3_carryOutDrill_4 : decode cX3_carryOutDrill 4 = .ok (.ifCond .ne 5, 3) := by decide +kernel
theorem dX3_carryOutDrill_7 : decode cX3_carryOutDrill 7 = .ok (.iconst (-1), 1) := by decide +kernel
theorem dX3_carryOutDrill_8 : decode cX3_carryOutDrill 8 = .ok (.ireturn, 1) := by decide +kernel
theorem dX3_carryOutDrill_9 : decode cX3_carryOutDrill 9 = .ok (.aload_n 1, 1) := by decide +kernel
theorem dX3_carryOutDrill_10 : decode cX3_carryOutDrill 10 = .ok (.aload_n 1, 1) := by decide +kernel
theorem dX3_carryOutDrill_11 : decode cX3_carryOutDrill 11 = .ok (.getfield 89, 3) := by decide +kernel
theorem dX3_carryOutDrill_14 : decode cX3_carryOutDrill 14 = .ok (.iload_n 0, 1) := by decide +kernel
theorem dX3_carryOutDrill_15 : decode cX3_carryOutDrill 15 = .ok (.aaload, 1) := by decide +kernel
theorem dX3_carryOutDrill_16 : decode cX3_carryOutDrill 16 = .ok (.invokevirtual 93, 3) := by decide +kernel
theorem dX3_carryOutDrill_19 : decode cX3_carryOutDrill 19 = .ok (.iconst 0, 1) := by decide +kernel
theorem dX3_carryOutDrill_20 : decode cX3_carryOutDrill 20 = .ok (.ireturn, 1) := by decide +kernel
theorem dX3_carryOutMove_0 : decode cX3_carryOutMove 0 = .ok (.iload_n 1, 1) := by decide +kernel
theorem dX3_carryOutMove_1 : decode cX3_carryOutMove 1 = .ok (.ifCond .ne 13, 3) := by decide +kernel
theorem dX3_carryOutMove_4 : decode cX3_carryOutMove 4 = .ok (.aload_n 2, 1) := by decide +kernel
theorem dX3_carryOutMove_5 : decode cX3_carryOutMove 5 = .ok (.aload_n 2, 1) := by decide +kernel
theorem dX3_carryOutMove_6 : decode cX3_carryOutMove 6 = .ok (.getfield 97, 3) := by decide +kernel
theorem dX3_carryOutMove_9 : decode cX3_carryOutMove 9 = .ok (.iload_n 0, 1) := by decide +kernel
theorem dX3_carryOutMove_10 : decode cX3_carryOutMove 10 = .ok (.aaload, 1) := by decide +kernel
theorem dX3_carryOutMove_11 : decode cX3_carryOutMove 11 = .ok (.invokevirtual 101, 3) := by decide +kernel
theorem dX3_carryOutMove_14 : decode cX3_carryOutMove 14 = .ok (.iload_n 1, 1) := by decide +kernel
theorem dX3_carryOutMove_15 : decode cX3_carryOutMove 15 = .ok (.ireturn, 1) := by decide +kernel
theorem dX3_carryOutTemperature_0 : decode cX3_carryOutTemperature 0 = .ok (.iconst 0, 1) := by decide +kernel
theorem dX3_carryOutTemperature_1 : decode cX3_carryOutTemperature 1 = .ok (.iload_n 0, 1) := by decide +kernel
theorem dX3_carryOutTemperature_2 : decode cX3_carryOutTemperature 2 = .ok (.invokestatic 105, 3) := by decide +kernel
theorem dX3_carryOutTemperature_5 : decode cX3_carryOutTemperature 5 = .ok (.ifCond .ne 6, 3) := by decide +kernel
theorem dX3_carryOutTemperature_8 : decode cX3_carryOutTemperature 8 = .ok (.bipush (-3), 2) := by decide +kernel
theorem dX3_carryOutTemperature_10 : decode cX3_carryOutTemperature 10 = .ok (.ireturn, 1) := by decide +kernel
theorem dX3_carryOutTemperature_11 : decode cX3_carryOutTemperature 11 = .ok (.aload_n 1, 1) := by decide +kernel
theorem dX3_carryOutTemperature_12 : decode cX3_carryOutTemperature 12 = .ok (.getfield 109, 3) := by decide +kernel
theorem dX3_carryOutTemperature_15 : decode cX3_carryOutTemperature 15 = .ok (.iconst 0, 1) := by decide +kernel
theorem dX3_carryOutTemperature_16 : decode cX3_carryOutTemperature 16 = .ok (.iload_n 0, 1) := by decide +kernel
theorem dX3_carryOutTemperature_17 : decode cX3_carryOutTemperature 17 = .ok (.iastore, 1) := by decide +kernel
theorem dX3_carryOutTemperature_18 : decode cX3_carryOutTemperature 18 = .ok (.iconst 0, 1) := by decide +kernel
theorem dX3_carryOutTemperature_19 : decode cX3_carryOutTemperature 19 = .ok (.ireturn, 1) := by decide +kernel
theorem dX3_carryOutJoin_0 : decode cX3_carryOutJoin 0 = .ok (.aload_n 2, 1) := by decide +kernel
theorem dX3_carryOutJoin_1 : decode cX3_carryOutJoin 1 = .ok (.aload_n 0, 1) := by decide +kernel
theorem dX3_carryOutJoin_2 : decode cX3_carryOutJoin 2 = .ok (.getfield 29, 3) := by decide +kernel
theorem dX3_carryOutJoin_5 : decode cX3_carryOutJoin 5 = .ok (.iload_n 1, 1) := by decide +kernel
theorem dX3_carryOutJoin_6 : decode cX3_carryOutJoin 6 = .ok (.iaload, 1) := by decide +kernel
theorem dX3_carryOutJoin_7 : decode cX3_carryOutJoin 7 = .ok (.aload_n 0, 1) := by decide +kernel
theorem dX3_carryOutJoin_8 : decode cX3_carryOutJoin 8 = .ok (.getfield 32, 3) := by decide +kernel
theorem dX3_carryOutJoin_11 : decode cX3_carryOutJoin 11 = .ok (.iload_n 1, 1) := by decide +kernel
theorem dX3_carryOutJoin_12 : decode cX3_carryOutJoin 12 = .ok (.iaload, 1) := by decide +kernel
theorem dX3_carryOutJoin_13 : decode cX3_carryOutJoin 13 = .ok (.aload_n 0, 1) := by decide +kernel
theorem dX3_carryOutJoin_14 : decode cX3_carryOutJoin 14 = .ok (.getfield 35, 3) := by decide +kernel
theorem dX3_carryOutJoin_17 : decode cX3_carryOutJoin 17 = .ok (.iload_n 1, 1) := by decide +kernel
theorem dX3_carryOutJoin_18 : decode cX3_carryOutJoin 18 = .ok (.iaload, 1) := by decide +kernel
theorem dX3_carryOutJoin_19 : decode cX3_carryOutJoin 19 = .ok (.invokevirtual 112, 3) := by decide +kernel
theorem dX3_carryOutJoin_22 : decode cX3_carryOutJoin 22 = .ok (.istore_n 3, 1) := by decide +kernel
theorem dX3_carryOutJoin_23 : decode cX3_carryOutJoin 23 = .ok (.iload_n 3, 1) := by decide +kernel
theorem dX3_carryOutJoin_24 : decode cX3_carryOutJoin 24 = .ok (.ifCond .ne 33, 3) := by decide +kernel
theorem dX3_carryOutJoin_27 : decode cX3_carryOutJoin 27 = .ok (.aload_n 2, 1) := by decide +kernel
theorem dX3_carryOutJoin_28 : decode cX3_carryOutJoin 28 = .ok (.aload_n 2, 1) := by decide +kernel
theorem dX3_carryOutJoin_29 : decode cX3_carryOutJoin 29 = .ok (.getfield 97, 3) := by decide +kernel
theorem dX3_carryOutJoin_32 : decode cX3_carryOutJoin 32 = .ok (.aload_n 0, 1) := by decide +kernel
theorem dX3_carryOutJoin_33 : decode cX3_carryOutJoin 33 = .ok (.getfield 29, 3) := by decide +kernel
theorem dX3_carryOutJoin_36 : decode cX3_carryOutJoin 36 = .ok (.iload_n 1, 1) := by decide +kernel
theorem dX3_carryOutJoin_37 : decode cX3_carryOutJoin 37 = .ok (.iaload, 1) := by decide +kernel
theorem dX3_carryOutJoin_38 : decode cX3_carryOutJoin 38 = .ok (.aaload, 1) := by decide +kernel
theorem dX3_carryOutJoin_39 : decode cX3_carryOutJoin 39 = .ok (.aload_n 0, 1) := by decide +kernel
theorem dX3_carryOutJoin_40 : decode cX3_carryOutJoin 40 = .ok (.getfield 32, 3) := by decide +kernel
theorem dX3_carryOutJoin_43 : decode cX3_carryOutJoin 43 = .ok (.iload_n 1, 1) := by decide +kernel
theorem dX3_carryOutJoin_44 : decode cX3_carryOutJoin 44 = .ok (.iaload, 1) := by decide +kernel
theorem dX3_carryOutJoin_45 : decode cX3_carryOutJoin 45 = .ok (.iconst 5, 1) := by decide +kernel
theorem dX3_carryOutJoin_46 : decode cX3_carryOutJoin 46 = .ok (.imul, 1) := by decide +kernel
theorem dX3_carryOutJoin_47 : decode cX3_carryOutJoin 47 = .ok (.aload_n 0, 1) := by decide +kernel
theorem dX3_carryOutJoin_48 : decode cX3_carryOutJoin 48 = .ok (.getfield 35, 3) := by decide +kernel
theorem dX3_carryOutJoin_51 : decode cX3_carryOutJoin 51 = .ok (.iload_n 1, 1) := by decide +kernel
theorem dX3_carryOutJoin_52 : decode cX3_carryOutJoin 52 = .ok (.iaload, 1) := by decide +kernel
theorem dX3_carryOutJoin_53 : decode cX3_carryOutJoin 53 = .ok (.iadd, 1) := by decide +kernel
theorem dX3_carryOutJoin_54 : decode cX3_carryOutJoin 54 = .ok (.invokevirtual 116, 3) := by decide +kernel
theorem dX3_carryOutJoin_57 : decode cX3_carryOutJoin 57 = .ok (.iload_n 3, 1) := by decide +kernel
theorem dX3_carryOutJoin_58 : decode cX3_carryOutJoin 58 = .ok (.ireturn, 1) := by decide +kernel
theorem dX3_carryOutDays_0 : decode cX3_carryOutDays 0 = .ok (.iload_n 0, 1) := by decide +kernel
theorem dX3_carryOutDays_1 : decode cX3_carryOutDays 1 = .ok (.invokestatic 120, 3) := by decide +kernel
theorem dX3_carryOutDays_4 : decode cX3_carryOutDays 4 = .ok (.ifCond .ne 6, 3) := by decide +kernel
theorem dX3_carryOutDays_7 : decode cX3_carryOutDays 7 = .ok (.bipush (-3), 2) := by decide +kernel
theorem dX3_carryOutDays_9 : decode cX3_carryOutDays 9 = .ok (.ireturn, 1) := by decide +kernel
theorem dX3_carryOutDays_10 : decode cX3_carryOutDays 10 = .ok (.aload_n 1, 1) := by decide +kernel
theorem dX3_carryOutDays_11 : decode cX3_carryOutDays 11 = .ok (.iload_n 0, 1) := by decide +kernel
theorem dX3_carryOutDays_12 : decode cX3_carryOutDays 12 = .ok (.invokevirtual 123, 3) := by decide +kernel
theorem dX3_carryOutDays_15 : decode cX3_carryOutDays 15 = .ok (.iconst 0, 1) := by decide +kernel
theorem dX3_carryOutDays_16 : decode cX3_carryOutDays 16 = .ok (.ireturn, 1) := by decide +kernel
theorem dX4_init_0 : decode cX4_init 0 = .ok (.aload_n 0, 1) := by decide +kernel
theorem dX4_init_1 : decode cX4_init 1 = .ok (.invokespecial 3, 3) := by decide +kernel
theorem dX4_init_4 : decode cX4_init 4 = .ok (.aload_n 0, 1) := by decide +kernel
theorem dX4_init_5 : decode cX4_init 5 = .ok (.iconst 3, 1) := by decide +kernel
theorem dX4_init_6 : decode cX4_init 6 = .ok (.newarray .int, 2) := by decide +kernel
theorem dX4_init_8 : decode cX4_init 8 = .ok (.dup, 1) := by decide +kernel
theorem dX4_init_9 : decode cX4_init 9 = .ok (.iconst 0, 1) := by decide +kernel
theorem dX4_init_10 : decode cX4_init 10 = .ok (.bipush (-20), 2) := by decide +kernel
theorem dX4_init_12 : decode cX4_init 12 = .ok (.iastore, 1) := by decide +kernel
theorem dX4_init_13 : decode cX4_init 13 = .ok (.dup, 1) := by decide +kernel
theorem dX4_init_14 : decode cX4_init 14 = .ok (.iconst 1, 1) := by decide +kernel
theorem dX4_init_15 : decode cX4_init 15 = .ok (.bipush 100, 2) := by decide +kernel
theorem dX4_init_17 : decode cX4_init 17 = .ok (.iastore, 1) := by decide +kernel
theorem dX4_init_18 : decode cX4_init 18 = .ok (.dup, 1) := by decide +kernel
theorem dX4_init_19 : decode cX4_init 19 = .ok (.iconst 2, 1) := by decide +kernel
theorem dX4_init_20 : decode cX4_init 20 = .ok (.bipush 7, 2) := by decide +kernel
theorem dX4_init_22 : decode cX4_init 22 = .ok (.iastore, 1) := by decide +kernel
theorem dX4_init_23 : decode cX4_init 23 = .ok (.putfield 9, 3) := by decide +kernel
theorem dX4_init_26 : decode cX4_init 26 = .ok (.aload_n 0, 1) := by decide +kernel
theorem dX4_init_27 : decode cX4_init 27 = .ok (.iconst 0, 1) := by decide +kernel
theorem dX4_init_28 : decode cX4_init 28 = .ok (.putfield 15, 3) := by decide +kernel
theorem dX4_init_31 : decode cX4_init 31 = .ok (.aload_n 0, 1) := by decide +kernel
theorem dX4_init_32 : decode cX4_init 32 = .ok (.bipush 12, 2) := by decide +kernel
theorem dX4_init_34 : decode cX4_init 34 = .ok (.anewarray 19, 3) := by decide +kernel
theorem dX4_init_37 : decode cX4_init 37 = .ok (.putfield 21, 3) := by decide +kernel
theorem dX4_init_40 : decode cX4_init 40 = .ok (.aload_n 0, 1) := by decide +kernel
theorem dX4_init_41 : decode cX4_init 41 = .ok (.bipush 10, 2) := by decide +kernel
theorem dX4_init_43 : decode cX4_init 43 = .ok (.anewarray 25, 3) := by decide +kernel
theorem dX4_init_46 : decode cX4_init 46 = .ok (.putfield 27, 3) := by decide +kernel
theorem dX4_init_49 : decode cX4_init 49 = .ok (.aload_n 0, 1) := by decide +kernel
theorem dX4_init_50 : decode cX4_init 50 = .ok (.iconst 4, 1) := by decide +kernel
theorem dX4_init_51 : decode cX4_init 51 = .ok (.anewarray 31, 3) := by decide +kernel
theorem dX4_init_54 : decode cX4_init 54 = .ok (.putfield 33, 3) := by decide +kernel
theorem dX4_init_57 : decode cX4_init 57 = .ok (.aload_n 0, 1) := by decide +kernel
theorem dX4_init_58 : decode cX4_init 58 = .ok (.iconst 0, 1) := by decide +kernel
theorem dX4_init_59 : decode cX4_init 59 = .ok (.putfield 37, 3) := by decide +kernel
theorem dX4_init_62 : decode cX4_init 62 = .ok (.aload_n 0, 1) := by decide +kernel
theorem dX4_init_63 : decode cX4_init 63 = .ok (.iconst 0, 1) := by decide +kernel
theorem dX4_init_64 : decode cX4_init 64 = .ok (.putfield 40, 3) := by decide +kernel
theorem dX4_init_67 : decode cX4_init 67 = .ok (.aload_n 0, 1) := by decide +kernel
theorem dX4_init_68 : decode cX4_init 68 = .ok (.iconst 0, 1) := by decide +kernel
theorem dX4_init_69 : decode cX4_init 69 = .ok (.putfield 43, 3) := by decide +kernel
theorem dX4_init_72 : decode cX4_init 72 = .ok (.aload_n 0, 1) := by decide +kernel
theorem dX4_init_73 : decode cX4_init 73 = .ok (.iconst 0, 1) := by decide +kernel
theorem dX4_init_74 : decode cX4_init 74 = .ok (.putfield 46, 3) := by decide +kernel
theorem dX4_init_77 : decode cX4_init 77 = .ok (.iconst 0, 1) := by decide +kernel
theorem dX4_init_78 : decode cX4_init 78 = .ok (.istore_n 1, 1) := by decide +kernel
theorem dX4_init_79 : decode cX4_init 79 = .ok (.iload_n 1, 1) := by decide +kernel
theorem dX4_init_80 : decode cX4_init 80 = .ok (.bipush 12, 2) := by decide +kernel
theorem dX4_init_82 : decode cX4_init 82 = .ok (.if_icmp .ge 22, 3) := by decide +kernel
theorem dX4_init_85 : decode cX4_init 85 = .ok (.aload_n 0, 1) := by decide +kernel
theorem dX4_init_86 : decode cX4_init 86 = .ok (.getfield 21, 3) := by decide +kernel
theorem dX4_init_89 : decode cX4_init 89 = .ok (.iload_n 1, 1) := by decide +kernel
theorem dX4_init_90 : decode cX4_init 90 = .ok (.new 19, 3) := by decide +kernel
theorem dX4_init_93 : decode cX4_init 93 = .ok (.dup, 1) := by decide +kernel
theorem dX4_init_94 : decode cX4_init 94 = .ok (.invokespecial 49, 3) := by decide +kernel
theorem dX4_init_97 : decode cX4_init 97 = .ok (.aastore, 1) := by decide +kernel
theorem dX4_init_98 : decode cX4_init 98 = .ok (.iinc 1 1, 3) := by decide +kernel
theorem dX4_init_101 : decode cX4_init 101 = .ok (.goto (-22), 3) := by decide +kernel
theorem dX4_init_104 : decode cX4_init 104 = .ok (.iconst 0, 1) := by decide +kernel
theorem dX4_init_105 : decode cX4_init 105 = .ok (.istore_n 1, 1) := by decide +kernel
theorem dX4_init_106 : decode cX4_init 106 = .ok (.iload_n 1, 1) := by decide +kernel
theorem dX4_init_107 : decode cX4_init 107 = .ok (.iconst 4, 1) := by decide +kernel
theorem dX4_init_108 : decode cX4_init 108 = .ok (.if_icmp .ge 22, 3) := by decide +kernel
theorem dX4_init_111 : decode cX4_init 111 = .ok (.aload_n 0, 1) := by decide +kernel
theorem dX4_init_112 : decode cX4_init 112 = .ok (.getfield 33, 3) := by decide +kernel
theorem dX4_init_115 : decode cX4_init 115 = .ok (.iload_n 1, 1) := by decide +kernel
theorem dX4_init_116 : decode cX4_init 116 = .ok (.new 31, 3) := by decide +kernel
theorem dX4_init_119 : decode cX4_init 119 = .ok (.dup, 1) := by decide +kernel
theorem dX4_init_120 : decode cX4_init 120 = .ok (.invokespecial 50, 3) := by decide +kernel
theorem dX4_init_123 : decode cX4_init 123 = .ok (.aastore, 1) := by decide +kernel
theorem dX4_init_124 : decode cX4_init 124 = .ok (.iinc 1 1, 3) := by decide +kernel
theorem dX4_init_127 : decode cX4_init 127 = .ok (.goto (-21), 3) := by decide +kernel
theorem dX4_init_130 : decode cX4_init 130 = .ok (.return_, 1) := by decide +kernel
theorem dX4_copyFrom_0 : decode cX4_copyFrom 0 = .ok (.iconst 0, 1) := by decide +kernel
theorem dX4_copyFrom_1 : decode cX4_copyFrom 1 = .ok (.istore_n 2, 1) := by decide +kernel
theorem dX4_copyFrom_2 : decode cX4_copyFrom 2 = .ok (.iload_n 2, 1) := by decide +kernel
theorem dX4_copyFrom_3 : decode cX4_copyFrom 3 = .ok (.aload_n 0, 1) := by decide +kernel
theorem dX4_copyFrom_4 : decode cX4_copyFrom 4 = .ok (.getfield 9, 3) := by decide +kernel
theorem dX4_copyFrom_7 : decode cX4_copyFrom 7 = .ok (.arraylength, 1) := by decide +kernel
theorem dX4_copyFrom_8 : decode cX4_copyFrom 8 = .ok (.if_icmp .ge 21, 3) := by decide +kernel
theorem dX4_copyFrom_11 : decode cX4_copyFrom 11 = .ok (.aload_n 0, 1) := by decide +kernel
theorem dX4_copyFrom_12 : decode cX4_copyFrom 12 = .ok (.getfield 9, 3) := by decide +kernel
theorem dX4_copyFrom_15 : decode cX4_copyFrom 15 = .ok (.iload_n 2, 1) := by decide +kernel
theorem dX4_copyFrom_16 : decode cX4_copyFrom 16 = .ok (.aload_n 1, 1) := by decide +kernel
theorem dX4_copyFrom_17 : decode cX4_copyFrom 17 = .ok (.getfield 9, 3) := by decide +kernel
theorem dX4_copyFrom_20 : decode cX4_copyFrom 20 = .ok (.iload_n 2, 1) := by decide +kernel
theorem dX4_copyFrom_21 : decode cX4_copyFrom 21 = .ok (.iaload, 1) := by decide +kernel
theorem dX4_copyFrom_22 : decode cX4_copyFrom 22 = .ok (.iastore, 1) := by decide +kernel
theorem dX4_copyFrom_23 : decode cX4_copyFrom 23 = .ok (.iinc 2 1, 3) := by decide +kernel
theorem dX4_copyFrom_26 : decode cX4_copyFrom 26 = .ok (.goto (-24), 3) := by decide +kernel
theorem dX4_copyFrom_29 : decode cX4_copyFrom 29 = .ok (.aload_n 0, 1) := by decide +kernel
theorem dX4_copyFrom_30 : decode cX4_copyFrom 30 = .ok (.aload_n 1, 1) := by decide +kernel
theorem dX4_copyFrom_31 : decode cX4_copyFrom 31 = .ok (.getfield 15, 3) := by decide +kernel
theorem dX4_copyFrom_34 : decode cX4_copyFrom 34 = .ok (.putfield 15, 3) := by decide +kernel
theorem dX4_copyFrom_37 : decode cX4_copyFrom 37 = .ok (.iconst 0, 1) := by decide +kernel
theorem dX4_copyFrom_38 : decode cX4_copyFrom 38 = .ok (.istore_n 2, 1) := by decide +kernel
theorem dX4_copyFrom_39 : decode cX4_copyFrom 39 = .ok (.iload_n 2, 1) := by decide +kernel
theorem dX4_copyFrom_40 : decode cX4_copyFrom 40 = .ok (.bipush 12, 2) := by decide +kernel
theorem dX4_copyFrom_42 : decode cX4_copyFrom 42 = .ok (.if_icmp .ge 24, 3) := by decide +kernel
theorem dX4_copyFrom_45 : decode cX4_copyFrom 45 = .ok (.aload_n 0, 1) := by decide +kernel
theorem dX4_copyFrom_46 : decode cX4_copyFrom 46 = .ok (.getfield 21, 3) := by decide +kernel
theorem dX4_copyFrom_49 : decode cX4_copyFrom 49 = .ok (.iload_n 2, 1) := by decide +kernel
theorem dX4_copyFrom_50 : decode cX4_copyFrom 50 = .ok (.aaload, 1) := by decide +kernel
theorem dX4_copyFrom_51 : decode cX4_copyFrom 51 = .ok (.aload_n 1, 1) := by decide +kernel
theorem dX4_copyFrom_52 : decode cX4_copyFrom 52 = .ok (.getfield 21, 3) := by decide +kernel
theorem dX4_copyFrom_55 : decode cX4_copyFrom 55 = .ok (.iload_n 2, 1) := by decide +kernel
theorem dX4_copyFrom_56 : decode cX4_copyFrom 56 = .ok (.aaload, 1) := by decide +kernel
theorem dX4_copyFrom_57 : decode cX4_copyFrom 57 = .ok (.invokevirtual 51, 3) := by decide +kernel
theorem dX4_copyFrom_60 : decode cX4_copyFrom 60 = .ok (.iinc 2 1, 3) := by decide +kernel
theorem dX4_copyFrom_63 : decode cX4_copyFrom 63 = .ok (.goto (-24), 3) := by decide +kernel
theorem dX4_copyFrom_66 : decode cX4_copyFrom 66 = .ok (.iconst 0, 1) := by decide +kernel
theorem dX4_copyFrom_67 : decode cX4_copyFrom 67 = .ok (.istore_n 2, 1) := by decide +kernel
theorem dX4_copyFrom_68 : decode cX4_copyFrom 68 = .ok (.iload_n 2, 1) := by decide +kernel
theorem dX4_copyFrom_69 : decode cX4_copyFrom 69 = .ok (.aload_n 0, 1) := by decide +kernel
theorem dX4_copyFrom_70 : decode cX4_copyFrom 70 = .ok (.getfield 27, 3) := by decide +kernel
theorem dX4_copyFrom_73 : decode cX4_copyFrom 73 = .ok (.arraylength, 1) := by decide +kernel
theorem dX4_copyFrom_74 : decode cX4_copyFrom 74 = .ok (.if_icmp .ge 21, 3) := by decide +kernel
theorem dX4_copyFrom_77 : decode cX4_copyFrom 77 = .ok (.aload_n 0, 1) := by decide +kernel
theorem dX4_copyFrom_78 : decode cX4_copyFrom 78 = .ok (.getfield 27, 3) := by decide +kernel
theorem dX4_copyFrom_81 : decode cX4_copyFrom 81 = .ok (.iload_n 2, 1) := by decide +kernel
theorem dX4_copyFrom_82 : decode cX4_copyFrom 82 = .ok (.aload_n 1, 1) := by decide +kernel
theorem dX4_copyFrom_83 : decode cX4_copyFrom 83 = .ok (.getfield 27, 3) := by decide +kernel
theorem dX4_copyFrom_86 : decode cX4_copyFrom 86 = .ok (.iload_n 2, 1) := by decide +kernel
theorem dX4_copyFrom_87 : decode cX4_copyFrom 87 = .ok (.aaload, 1) := by decide +kernel
theorem dX4_copyFrom_88 : decode cX4_copyFrom 88 = .ok (.aastore, 1) := by decide +kernel
theorem dX4_copyFrom_89 : decode cX4_copyFrom 89 = .ok (.iinc 2 1, 3) := by decide +kernel
theorem dX4_copyFrom_92 : decode cX4_copyFrom 92 = .ok (.goto (-24), 3) := by decide +kernel
theorem dX4_copyFrom_95 : decode cX4_copyFrom 95 = .ok (.iconst 0, 1) := by decide +kernel
theorem dX4_copyFrom_96 : decode cX4_copyFrom 96 = .ok (.istore_n 2, 1) := by decide +kernel
theorem dX4_copyFrom_97 : decode cX4_copyFrom 97 = .ok (.iload_n 2, 1) := by decide +kernel
theorem dX4_copyFrom_98 : decode cX4_copyFrom 98 = .ok (.iconst 4, 1) := by decide +kernel
theorem dX4_copyFrom_99 : decode cX4_copyFrom 99 = .ok (.if_icmp .ge 24, 3) := by decide +kernel
theorem dX4_copyFrom_102 : decode cX4_copyFrom 102 = .ok (.aload_n 0, 1) := by decide +kernel
theorem dX4_copyFrom_103 : decode cX4_copyFrom 103 = .ok (.getfield 33, 3) := by decide +kernel
theorem dX4_copyFrom_106 : decode cX4_copyFrom 106 = .ok (.iload_n 2, 1) := by decide +kernel
theorem dX4_copyFrom_107 : decode cX4_copyFrom 107 = .ok (.aaload, 1) := by decide +kernel
theorem dX4_copyFrom_108 : decode cX4_copyFrom 108 = .ok (.aload_n 1, 1) := by decide +kernel
theorem dX4_copyFrom_109 : decode cX4_copyFrom 109 = .ok (.getfield 33, 3) := by decide +kernel
theorem dX4_copyFrom_112 : decode cX4_copyFrom 112 = .ok (.iload_n 2, 1) := by decide +kernel
theorem dX4_copyFrom_113 : decode cX4_copyFrom 113 = .ok (.aaload, 1) := by decide +kernel
theorem dX4_copyFrom_114 : decode cX4_copyFrom 114 = .ok (.invokevirtual 55, 3) := by decide +kernel
theorem dX4_copyFrom_117 : decode cX4_copyFrom 117 = .ok (.iinc 2 1, 3) := by decide +kernel
theorem dX4_copyFrom_120 : decode cX4_copyFrom 120 = .ok (.goto (-23), 3) := by decide +kernel
theorem dX4_copyFrom_123 : decode cX4_copyFrom 123 = .ok (.aload_n 0, 1) := by decide +kernel
theorem dX4_copyFrom_124 : decode cX4_copyFrom 124 = .ok (.aload_n 1, 1) := by decide +kernel
theorem dX4_copyFrom_125 : decode cX4_copyFrom 125 = .ok (.getfield 37, 3) := by decide +kernel
theorem dX4_copyFrom_128 : decode cX4_copyFrom 128 = .ok (.putfield 37, 3) := by decide +kernel
theorem dX4_copyFrom_131 : decode cX4_copyFrom 131 = .ok (.aload_n 0, 1) := by decide +kernel
theorem dX4_copyFrom_132 : decode cX4_copyFrom 132 = .ok (.aload_n 1, 1) := by decide +kernel
theorem dX4_copyFrom_133 : decode cX4_copyFrom 133 = .ok (.getfield 40, 3) := by decide +kernel
theorem dX4_copyFrom_136 : decode cX4_copyFrom 136 = .ok (.putfield 40, 3) := by decide +kernel
theorem dX4_copyFrom_139 : decode cX4_copyFrom 139 = .ok (.aload_n 0, 1) := by decide +kernel
theorem dX4_copyFrom_140 : decode cX4_copyFrom 140 = .ok (.aload_n 1, 1) := by decide +kernel
theorem dX4_copyFrom_141 : decode cX4_copyFrom 141 = .ok (.getfield 43, 3) := by decide +kernel
theorem dX4_copyFrom_144 : decode cX4_copyFrom 144 = .ok (.putfield 43, 3) := by decide +kernel
theorem dX4_copyFrom_147 : decode cX4_copyFrom 147 = .ok (.aload_n 0, 1) := by decide +kernel
theorem dX4_copyFrom_148 : decode cX4_copyFrom 148 = .ok (.aload_n 1, 1) := by decide +kernel
theorem dX4_copyFrom_149 : decode cX4_copyFrom 149 = .ok (.getfield 46, 3) := by decide +kernel
theorem dX4_copyFrom_152 : decode cX4_copyFrom 152 = .ok (.putfield 46, 3) := by decide +kernel
theorem dX4_copyFrom_155 : decode cX4_copyFrom 155 = .ok (.return_, 1) := by decide +kernel
theorem dX4_isConvoy_0 : decode cX4_isConvoy 0 = .ok (.iload_n 1, 1) := by decide +kernel
theorem dX4_isConvoy_1 : decode cX4_isConvoy 1 = .ok (.ifCond .lt 20, 3) := by decide +kernel
theorem dX4_isConvoy_4 : decode cX4_isConvoy 4 = .ok (.iload_n 1, 1) := by decide +kernel
theorem dX4_isConvoy_5 : decode cX4_isConvoy 5 = .ok (.aload_n 0, 1) := by decide +kernel
theorem dX4_isConvoy_6 : decode cX4_isConvoy 6 = .ok (.getfield 37, 3) := by decide +kernel
theorem dX4_isConvoy_9 : decode cX4_isConvoy 9 = .ok (.if_icmp .ge 12, 3) := by decide +kernel
theorem dX4_isConvoy_12 : decode cX4_isConvoy 12 = .ok (.iload_n 1, 1) := by decide +kernel
theorem dX4_isConvoy_13 : decode cX4_isConvoy 13 = .ok (.iconst 4, 1) := by decide +kernel
theorem dX4_isConvoy_14 : decode cX4_isConvoy 14 = .ok (.if_icmp .ge 7, 3) := by decide +kernel
theorem dX4_isConvoy_17 : decode cX4_isConvoy 17 = .ok (.iconst 1, 1) := by decide +kernel
theorem dX4_isConvoy_18 : decode cX4_isConvoy 18 = .ok (.goto 4, 3) := by decide +kernel
theorem dX4_isConvoy_21 : decode cX4_isConvoy 21 = .ok (.iconst 0, 1) := by decide +kernel
theorem dX4_isConvoy_22 : decode cX4_isConvoy 22 = .ok (.ireturn, 1) := by decide +kernel
theorem dX4_truckIn_0 : decode cX4_truckIn 0 = .ok (.aload_n 0, 1) := by decide +kernel
theorem dX4_truckIn_1 : decode cX4_truckIn 1 = .ok (.iload_n 1, 1) := by decide +kernel
theorem dX4_truckIn_2 : decode cX4_truckIn 2 = .ok (.invokevirtual 58, 3) := by decide +kernel
theorem dX4_truckIn_5 : decode cX4_truckIn 5 = .ok (.ifCond .eq 12, 3) := by decide +kernel
theorem dX4_truckIn_8 : decode cX4_truckIn 8 = .ok (.iload_n 2, 1) := by decide +kernel
theorem dX4_truckIn_9 : decode cX4_truckIn 9 = .ok (.ifCond .lt 8, 3) := by decide +kernel
theorem dX4_truckIn_12 : decode cX4_truckIn 12 = .ok (.iload_n 2, 1) := by decide +kernel
theorem dX4_truckIn_13 : decode cX4_truckIn 13 = .ok (.iconst 4, 1) := by decide +kernel
theorem dX4_truckIn_14 : decode cX4_truckIn 14 = .ok (.if_icmp .lt 5, 3) := by decide +kernel
theorem dX4_truckIn_17 : decode cX4_truckIn 17 = .ok (.aconst_null, 1) := by decide +kernel
theorem dX4_truckIn_18 : decode cX4_truckIn 18 = .ok (.areturn, 1) := by decide +kernel
theorem dX4_truckIn_19 : decode cX4_truckIn 19 = .ok (.aload_n 0, 1) := by decide +kernel
theorem dX4_truckIn_20 : decode cX4_truckIn 20 = .ok (.getfield 33, 3) := by decide +kernel
theorem dX4_truckIn_23 : decode cX4_truckIn 23 = .ok (.iload_n 1, 1) := by decide +kernel
theorem dX4_truckIn_24 : decode cX4_truckIn 24 = .ok (.aaload, 1) := by decide +kernel
theorem dX4_truckIn_25 : decode cX4_truckIn 25 = .ok (.getfield 62, 3) := by decide +kernel
theorem dX4_truckIn_28 : decode cX4_truckIn 28 = .ok (.iload_n 2, 1) := by decide +kernel
theorem dX4_truckIn_29 : decode cX4_truckIn 29 = .ok (.aaload, 1) := by decide +kernel
theorem dX4_truckIn_30 : decode cX4_truckIn 30 = .ok (.areturn, 1) := by decide +kernel
theorem dX4_noteIce_0 : decode cX4_noteIce 0 = .ok (.aload_n 1, 1) := by decide +kernel
theorem dX4_noteIce_1 : decode cX4_noteIce 1 = .ok (.aload_n 1, 1) := by decide +kernel
theorem dX4_noteIce_2 : decode cX4_noteIce 2 = .ok (.getfield 65, 3) := by decide +kernel
theorem dX4_noteIce_5 : decode cX4_noteIce 5 = .ok (.putfield 69, 3) := by decide +kernel
theorem dX4_noteIce_8 : decode cX4_noteIce 8 = .ok (.aload_n 1, 1) := by decide +kernel
theorem dX4_noteIce_9 : decode cX4_noteIce 9 = .ok (.aload_n 0, 1) := by decide +kernel
theorem dX4_noteIce_10 : decode cX4_noteIce 10 = .ok (.getfield 15, 3) := by decide +kernel
theorem dX4_noteIce_13 : decode cX4_noteIce 13 = .ok (.putfield 72, 3) := by decide +kernel
theorem dX4_noteIce_16 : decode cX4_noteIce 16 = .ok (.aload_n 0, 1) := by decide +kernel
theorem dX4_noteIce_17 : decode cX4_noteIce 17 = .ok (.dup, 1) := by decide +kernel
theorem dX4_noteIce_18 : decode cX4_noteIce 18 = .ok (.getfield 40, 3) := by decide +kernel
theorem dX4_noteIce_21 : decode cX4_noteIce 21 = .ok (.iconst 1, 1) := by decide +kernel
theorem dX4_noteIce_22 : decode cX4_noteIce 22 = .ok (.iadd, 1) := by decide +kernel
theorem dX4_noteIce_23 : decode cX4_noteIce 23 = .ok (.putfield 40, 3) := by decide +kernel
theorem dX4_noteIce_26 : decode cX4_noteIce 26 = .ok (.return_, 1) := by decide +kernel
theorem dX4_isDrillGood_0 : decode cX4_isDrillGood 0 = .ok (.aload_n 1, 1) := by decide +kernel
theorem dX4_isDrillGood_1 : decode cX4_isDrillGood 1 = .ok (.getfield 72, 3) := by decide +kernel
theorem dX4_isDrillGood_4 : decode cX4_isDrillGood 4 = .ok (.ifCond .lt 25, 3) := by decide +kernel
theorem dX4_isDrillGood_7 : decode cX4_isDrillGood 7 = .ok (.aload_n 0, 1) := by decide +kernel
theorem dX4_isDrillGood_8 : decode cX4_isDrillGood 8 = .ok (.getfield 15, 3) := by decide +kernel
theorem dX4_isDrillGood_11 : decode cX4_isDrillGood 11 = .ok (.aload_n 1, 1) := by decide +kernel
theorem dX4_isDrillGood_12 : decode cX4_isDrillGood 12 = .ok (.getfield 72, 3) := by decide +kernel
theorem dX4_isDrillGood_15 : decode cX4_isDrillGood 15 = .ok (.isub, 1) := by decide +kernel
theorem dX4_isDrillGood_16 : decode cX4_isDrillGood 16 = .ok (.aload_n 0, 1) := by decide +kernel
theorem dX4_isDrillGood_17 : decode cX4_isDrillGood 17 = .ok (.getfield 9, 3) := by decide +kernel
theorem dX4_isDrillGood_20 : decode cX4_isDrillGood 20 = .ok (.iconst 2, 1) := by decide +kernel
theorem dX4_isDrillGood_21 : decode cX4_isDrillGood 21 = .ok (.iaload, 1) := by decide +kernel
theorem dX4_isDrillGood_22 : decode cX4_isDrillGood 22 = .ok (.if_icmp .gt 7, 3) := by decide +kernel
theorem dX4_isDrillGood_25 : decode cX4_isDrillGood 25 = .ok (.iconst 1, 1) := by decide +kernel
theorem dX4_isDrillGood_26 : decode cX4_isDrillGood 26 = .ok (.goto 4, 3) := by decide +kernel
theorem dX4_isDrillGood_29 : decode cX4_isDrillGood 29 = .ok (.iconst 0, 1) := by decide +kernel
theorem dX4_isDrillGood_30 : decode cX4_isDrillGood 30 = .ok (.ireturn, 1) := by decide +kernel
theorem dX4_borneByDrill_0 : decode cX4_borneByDrill 0 = .ok (.aload_n 0, 1) := by decide +kernel
theorem dX4_borneByDrill_1 : decode cX4_borneByDrill 1 = .ok (.aload_n 1, 1) := by decide +kernel
theorem dX4_borneByDrill_2 : decode cX4_borneByDrill 2 = .ok (.aload_n 1, 1) := by decide +kernel
theorem dX4_borneByDrill_3 : decode cX4_borneByDrill 3 = .ok (.getfield 75, 3) := by decide +kernel
theorem dX4_borneByDrill_6 : decode cX4_borneByDrill 6 = .ok (.invokevirtual 78, 3) := by decide +kernel
theorem dX4_borneByDrill_9 : decode cX4_borneByDrill 9 = .ok (.freturn, 1) := by decide +kernel
theorem dX4_borneWithCracks_0 : decode cX4_borneWithCracks 0 = .ok (.aload_n 0, 1) := by decide +kernel
theorem dX4_borneWithCracks_1 : decode cX4_borneWithCracks 1 = .ok (.aload_n 1, 1) := by decide +kernel
theorem dX4_borneWithCracks_2 : decode cX4_borneWithCracks 2 = .ok (.invokevirtual 82, 3) := by decide +kernel
theorem dX4_borneWithCracks_5 : decode cX4_borneWithCracks 5 = .ok (.ifCond .eq 20, 3) := by decide +kernel
theorem dX4_borneWithCracks_8 : decode cX4_borneWithCracks 8 = .ok (.aload_n 1, 1) := by decide +kernel
theorem dX4_borneWithCracks_9 : decode cX4_borneWithCracks 9 = .ok (.getfield 69, 3) := by decide +kernel
theorem dX4_borneWithCracks_12 : decode cX4_borneWithCracks 12 = .ok (.iload_n 2, 1) := by decide +kernel
theorem dX4_borneWithCracks_13 : decode cX4_borneWithCracks 13 = .ok (.aload_n 0, 1) := by decide +kernel
theorem dX4_borneWithCracks_14 : decode cX4_borneWithCracks 14 = .ok (.getfield 9, 3) := by decide +kernel
theorem dX4_borneWithCracks_17 : decode cX4_borneWithCracks 17 = .ok (.iconst 1, 1) := by decide +kernel
theorem dX4_borneWithCracks_18 : decode cX4_borneWithCracks 18 = .ok (.iaload, 1) := by decide +kernel
theorem dX4_borneWithCracks_19 : decode cX4_borneWithCracks 19 = .ok (.invokestatic 86, 3) := by decide +kernel
theorem dX4_borneWithCracks_22 : decode cX4_borneWithCracks 22 = .ok (.goto 4, 3) := by decide +kernel
theorem dX4_borneWithCracks_25 : decode cX4_borneWithCracks 25 = .ok (.fconst 0, 1) := by decide +kernel
theorem dX4_borneWithCracks_26 : decode cX4_borneWithCracks 26 = .ok (.freturn, 1) := by decide +kernel
theorem dX4_freePlace_0 : decode cX4_freePlace 0 = .ok (.iconst 0, 1) := by decide +kernel
theorem dX4_freePlace_1 : decode cX4_freePlace 1 = .ok (.istore_n 2, 1) := by decide +kernel
theorem dX4_freePlace_2 : decode cX4_freePlace 2 = .ok (.iload_n 2, 1) := by decide +kernel
theorem dX4_freePlace_3 : decode cX4_freePlace 3 = .ok (.iconst 5, 1) := by decide +kernel
theorem dX4_freePlace_4 : decode cX4_freePlace 4 = .ok (.if_icmp .ge 24, 3) := by decide +kernel
theorem dX4_freePlace_7 : decode cX4_freePlace 7 = .ok (.aload_n 0, 1) := by decide +kernel
theorem dX4_freePlace_8 : decode cX4_freePlace 8 = .ok (.getfield 27, 3) := by decide +kernel
theorem dX4_freePlace_11 : decode cX4_freePlace 11 = .ok (.iload_n 1, 1) := by decide +kernel
theorem dX4_freePlace_12 : decode cX4_freePlace 12 = .ok (.iconst 5, 1) := by decide +kernel
theorem dX4_freePlace_13 : decode cX4_freePlace 13 = .ok (.imul, 1) := by decide +kernel
theorem dX4_freePlace_14 : decode cX4_freePlace 14 = .ok (.iload_n 2, 1) := by decide +kernel
theorem dX4_freePlace_15 : decode cX4_freePlace 15 = .ok (.iadd, 1) := by decide +kernel
theorem dX4_freePlace_16 : decode cX4_freePlace 16 = .ok (.aaload, 1) := by decide +kernel
theorem dX4_freePlace_17 : decode cX4_freePlace 17 = .ok (.ifnonnull 5, 3) := by decide +kernel
theorem dX4_freePlace_20 : decode cX4_freePlace 20 = .ok (.iload_n 2, 1) := by decide +kernel
theorem dX4_freePlace_21 : decode cX4_freePlace 21 = .ok (.ireturn, 1) := by decide +kernel
theorem dX4_freePlace_22 : decode cX4_freePlace 22 = .ok (.iinc 2 1, 3) := by decide +kernel
theorem dX4_freePlace_25 : decode cX4_freePlace 25 = .ok (.goto (-23), 3) := by decide +kernel
theorem dX4_freePlace_28 : decode cX4_freePlace 28 = .ok (.iconst (-1), 1) := by decide +kernel
theorem dX4_freePlace_29 : decode cX4_freePlace 29 = .ok (.ireturn, 1) := by decide +kernel
theorem dX4_convoyAt_0 : decode cX4_convoyAt 0 = .ok (.iconst 0, 1) := by decide +kernel
theorem dX4_convoyAt_1 : decode cX4_convoyAt 1 = .ok (.istore_n 2, 1) := by decide +kernel
theorem dX4_convoyAt_2 : decode cX4_convoyAt 2 = .ok (.iload_n 2, 1) := by decide +kernel
theorem dX4_convoyAt_3 : decode cX4_convoyAt 3 = .ok (.aload_n 0, 1) := by decide +kernel
theorem dX4_convoyAt_4 : decode cX4_convoyAt 4 = .ok (.getfield 37, 3) := by decide +kernel
theorem dX4_convoyAt_7 : decode cX4_convoyAt 7 = .ok (.if_icmp .ge 24, 3) := by decide +kernel
theorem dX4_convoyAt_10 : decode cX4_convoyAt 10 = .ok (.aload_n 0, 1) := by decide +kernel
theorem dX4_convoyAt_11 : decode cX4_convoyAt 11 = .ok (.getfield 33, 3) := by decide +kernel
theorem dX4_convoyAt_14 : decode cX4_convoyAt 14 = .ok (.iload_n 2, 1) := by decide +kernel
theorem dX4_convoyAt_15 : decode cX4_convoyAt 15 = .ok (.aaload, 1) := by decide +kernel
theorem dX4_convoyAt_16 : decode cX4_convoyAt 16 = .ok (.iload_n 1, 1) := by decide +kernel
theorem dX4_convoyAt_17 : decode cX4_convoyAt 17 = .ok (.invokevirtual 90, 3) := by decide +kernel
theorem dX4_convoyAt_20 : decode cX4_convoyAt 20 = .ok (.ifCond .lt 5, 3) := by decide +kernel
theorem dX4_convoyAt_23 : decode cX4_convoyAt 23 = .ok (.iload_n 2, 1) := by decide +kernel
theorem dX4_convoyAt_24 : decode cX4_convoyAt 24 = .ok (.ireturn, 1) := by decide +kernel
theorem dX4_convoyAt_25 : decode cX4_convoyAt 25 = .ok (.iinc 2 1, 3) := by decide +kernel
theorem dX4_convoyAt_28 : decode cX4_convoyAt 28 = .ok (.goto (-26), 3) := by decide +kernel
theorem dX4_convoyAt_31 : decode cX4_convoyAt 31 = .ok (.iconst (-1), 1) := by decide +kernel
theorem dX4_convoyAt_32 : decode cX4_convoyAt 32 = .ok (.ireturn, 1) := by decide +kernel
theorem dX4_isTakenByOther_0 : decode cX4_isTakenByOther 0 = .ok (.iconst 0, 1) := by decide +kernel
theorem dX4_isTakenByOther_1 : decode cX4_isTakenByOther 1 = .ok (.istore_n 3, 1) := by decide +kernel
theorem dX4_isTakenByOther_2 : decode cX4_isTakenByOther 2 = .ok (.iload_n 3, 1) := by decide +kernel
theorem dX4_isTakenByOther_3 : decode cX4_isTakenByOther 3 = .ok (.aload_n 0, 1) := by decide +kernel
theorem dX4_isTakenByOther_4 : decode cX4_isTakenByOther 4 = .ok (.getfield 37, 3) := by decide +kernel
theorem dX4_isTakenByOther_7 : decode cX4_isTakenByOther 7 = .ok (.if_icmp .ge 29, 3) := by decide +kernel
theorem dX4_isTakenByOther_10 : decode cX4_isTakenByOther 10 = .ok (.iload_n 3, 1) := by decide +kernel
theorem dX4_isTakenByOther_11 : decode cX4_isTakenByOther 11 = .ok (.iload_n 2, 1) := by decide +kernel
theorem dX4_isTakenByOther_12 : decode cX4_isTakenByOther 12 = .ok (.if_icmp .eq 18, 3) := by decide +kernel
theorem dX4_isTakenByOther_15 : decode cX4_isTakenByOther 15 = .ok (.aload_n 0, 1) := by decide +kernel
theorem dX4_isTakenByOther_16 : decode cX4_isTakenByOther 16 = .ok (.getfield 33, 3) := by decide +kernel
theorem dX4_isTakenByOther_19 : decode cX4_isTakenByOther 19 = .ok (.iload_n 3, 1) := by decide +kernel
theorem dX4_isTakenByOther_20 : decode cX4_isTakenByOther 20 = .ok (.aaload, 1) := by decide +kernel
theorem dX4_isTakenByOther_21 : decode cX4_isTakenByOther 21 = .ok (.iload_n 1, 1) := by decide +kernel
theorem dX4_isTakenByOther_22 : decode cX4_isTakenByOther 22 = .ok (.invokevirtual 90, 3) := by decide +kernel
theorem dX4_isTakenByOther_25 : decode cX4_isTakenByOther 25 = .ok (.ifCond .lt 5, 3) := by decide +kernel
theorem dX4_isTakenByOther_28 : decode cX4_isTakenByOther 28 = .ok (.iconst 1, 1) := by decide +kernel
theorem dX4_isTakenByOther_29 : decode cX4_isTakenByOther 29 = .ok (.ireturn, 1) := by decide +kernel
theorem dX4_isTakenByOther_30 : decode cX4_isTakenByOther 30 = .ok (.iinc 3 1, 3) := by decide +kernel
theorem dX4_isTakenByOther_33 : decode cX4_isTakenByOther 33 = .ok (.goto (-31), 3) := by decide +kernel
theorem dX4_isTakenByOther_36 : decode cX4_isTakenByOther 36 = .ok (.iconst 0, 1) := by decide +kernel
theorem dX4_isTakenByOther_37 : decode cX4_isTakenByOther 37 = .ok (.ireturn, 1) := by decide +kernel
theorem dX4_joinObstacle_0 : decode cX4_joinObstacle 0 = .ok (.aload_n 0, 1) := by decide +kernel
theorem dX4_joinObstacle_1 : decode cX4_joinObstacle 1 = .ok (.iload_n 1, 1) := by decide +kernel
theorem dX4_joinObstacle_2 : decode cX4_joinObstacle 2 = .ok (.invokevirtual 58, 3) := by decide +kernel
theorem dX4_joinObstacle_5 : decode cX4_joinObstacle 5 = .ok (.ifCond .eq 17, 3) := by decide +kernel
theorem dX4_joinObstacle_8 : decode cX4_joinObstacle 8 = .ok (.iload_n 2, 1) := by decide +kernel
theorem dX4_joinObstacle_9 : decode cX4_joinObstacle 9 = .ok (.invokestatic 94, 3) := by decide +kernel
theorem dX4_joinObstacle_12 : decode cX4_joinObstacle 12 = .ok (.ifCond .eq 10, 3) := by decide +kernel
theorem dX4_joinObstacle_15 : decode cX4_joinObstacle 15 = .ok (.iload_n 3, 1) := by decide +kernel
theorem dX4_joinObstacle_16 : decode cX4_joinObstacle 16 = .ok (.invokestatic 97, 3) := by decide +kernel
theorem dX4_joinObstacle_19 : decode cX4_joinObstacle 19 = .ok (.ifCond .ne 5, 3) := by decide +kernel
theorem dX4_joinObstacle_22 : decode cX4_joinObstacle 22 = .ok (.iconst (-1), 1) := by decide +kernel
theorem dX4_joinObstacle_23 : decode cX4_joinObstacle 23 = .ok (.ireturn, 1) := by decide +kernel
theorem dX4_joinObstacle_24 : decode cX4_joinObstacle 24 = .ok (.aload_n 0, 1) := by decide +kernel
theorem dX4_joinObstacle_25 : decode cX4_joinObstacle 25 = .ok (.getfield 27, 3) := by decide +kernel
theorem dX4_joinObstacle_28 : decode cX4_joinObstacle 28 = .ok (.iload_n 2, 1) := by decide +kernel
theorem dX4_joinObstacle_29 : decode cX4_joinObstacle 29 = .ok (.iconst 5, 1) := by decide +kernel
theorem dX4_joinObstacle_30 : decode cX4_joinObstacle 30 = .ok (.imul, 1) := by decide +kernel
theorem dX4_joinObstacle_31 : decode cX4_joinObstacle 31 = .ok (.iload_n 3, 1) := by decide +kernel
theorem dX4_joinObstacle_32 : decode cX4_joinObstacle 32 = .ok (.iadd, 1) := by decide +kernel
theorem dX4_joinObstacle_33 : decode cX4_joinObstacle 33 = .ok (.aaload, 1) := by decide +kernel
theorem dX4_joinObstacle_34 : decode cX4_joinObstacle 34 = .ok (.ifnonnull 6, 3) := by decide +kernel
theorem dX4_joinObstacle_37 : decode cX4_joinObstacle 37 = .ok (.bipush (-2), 2) := by decide +kernel
theorem dX4_joinObstacle_39 : decode cX4_joinObstacle 39 = .ok (.ireturn, 1) := by decide +kernel
theorem dX4_joinObstacle_40 : decode cX4_joinObstacle 40 = .ok (.aload_n 0, 1) := by decide +kernel
theorem dX4_joinObstacle_41 : decode cX4_joinObstacle 41 = .ok (.getfield 33, 3) := by decide +kernel
theorem dX4_joinObstacle_44 : decode cX4_joinObstacle 44 = .ok (.iload_n 1, 1) := by decide +kernel
theorem dX4_joinObstacle_45 : decode cX4_joinObstacle 45 = .ok (.aaload, 1) := by decide +kernel
theorem dX4_joinObstacle_46 : decode cX4_joinObstacle 46 = .ok (.invokevirtual 100, 3) := by decide +kernel
theorem dX4_joinObstacle_49 : decode cX4_joinObstacle 49 = .ok (.ifCond .eq 9, 3) := by decide +kernel
theorem dX4_joinObstacle_52 : decode cX4_joinObstacle 52 = .ok (.iconst 4, 1) := by decide +kernel
theorem dX4_joinObstacle_53 : decode cX4_joinObstacle 53 = .ok (.iload_n 1, 1) := by decide +kernel
theorem dX4_joinObstacle_54 : decode cX4_joinObstacle 54 = .ok (.invokestatic 104, 3) := by decide +kernel
theorem dX4_joinObstacle_57 : decode cX4_joinObstacle 57 = .ok (.ireturn, 1) := by decide +kernel
theorem dX4_joinObstacle_58 : decode cX4_joinObstacle 58 = .ok (.aload_n 0, 1) := by decide +kernel
theorem dX4_joinObstacle_59 : decode cX4_joinObstacle 59 = .ok (.getfield 33, 3) := by decide +kernel
theorem dX4_joinObstacle_62 : decode cX4_joinObstacle 62 = .ok (.iload_n 1, 1) := by decide +kernel
theorem dX4_joinObstacle_63 : decode cX4_joinObstacle 63 = .ok (.aaload, 1) := by decide +kernel
theorem dX4_joinObstacle_64 : decode cX4_joinObstacle 64 = .ok (.getfield 108, 3) := by decide +kernel
theorem dX4_joinObstacle_67 : decode cX4_joinObstacle 67 = .ok (.iconst 4, 1) := by decide +kernel
theorem dX4_joinObstacle_68 : decode cX4_joinObstacle 68 = .ok (.if_icmp .ge 7, 3) := by decide +kernel
theorem dX4_joinObstacle_71 : decode cX4_joinObstacle 71 = .ok (.iconst 0, 1) := by decide +kernel
theorem dX4_joinObstacle_72 : decode cX4_joinObstacle 72 = .ok (.goto 8, 3) := by decide +kernel
theorem dX4_joinObstacle_75 : decode cX4_joinObstacle 75 = .ok (.iconst 1, 1) := by decide +kernel
theorem dX4_joinObstacle_76 : decode cX4_joinObstacle 76 = .ok (.iconst 4, 1) := by decide +kernel
theorem dX4_joinObstacle_77 : decode cX4_joinObstacle 77 = .ok (.invokestatic 104, 3) := by decide +kernel
theorem dX4_joinObstacle_80 : decode cX4_joinObstacle 80 = .ok (.ireturn, 1) := by decide +kernel
theorem dX4_startObstacle_0 : decode cX4_startObstacle 0 = .ok (.aload_n 0, 1) := by decide +kernel
theorem dX4_startObstacle_1 : decode cX4_startObstacle 1 = .ok (.iload_n 1, 1) := by decide +kernel
theorem dX4_startObstacle_2 : decode cX4_startObstacle 2 = .ok (.invokevirtual 58, 3) := by decide +kernel
theorem dX4_startObstacle_5 : decode cX4_startObstacle 5 = .ok (.ifCond .ne 5, 3) := by decide +kernel
theorem dX4_startObstacle_8 : decode cX4_startObstacle 8 = .ok (.iconst (-1), 1) := by decide +kernel
theorem dX4_startObstacle_9 : decode cX4_startObstacle 9 = .ok (.ireturn, 1) := by decide +kernel
theorem dX4_startObstacle_10 : decode cX4_startObstacle 10 = .ok (.aload_n 0, 1) := by decide +kernel
theorem dX4_startObstacle_11 : decode cX4_startObstacle 11 = .ok (.getfield 33, 3) := by decide +kernel
theorem dX4_startObstacle_14 : decode cX4_startObstacle 14 = .ok (.iload_n 1, 1) := by decide +kernel
theorem dX4_startObstacle_15 : decode cX4_startObstacle 15 = .ok (.aaload, 1) := by decide +kernel
theorem dX4_startObstacle_16 : decode cX4_startObstacle 16 = .ok (.invokevirtual 100, 3) := by decide +kernel
theorem dX4_startObstacle_19 : decode cX4_startObstacle 19 = .ok (.ifCond .eq 9, 3) := by decide +kernel
theorem dX4_startObstacle_22 : decode cX4_startObstacle 22 = .ok (.iconst 4, 1) := by decide +kernel
theorem dX4_startObstacle_23 : decode cX4_startObstacle 23 = .ok (.iload_n 1, 1) := by decide +kernel
theorem dX4_startObstacle_24 : decode cX4_startObstacle 24 = .ok (.invokestatic 104, 3) := by decide +kernel
theorem dX4_startObstacle_27 : decode cX4_startObstacle 27 = .ok (.ireturn, 1) := by decide +kernel
theorem dX4_startObstacle_28 : decode cX4_startObstacle 28 = .ok (.aload_n 0, 1) := by decide +kernel
theorem dX4_startObstacle_29 : decode cX4_startObstacle 29 = .ok (.getfield 33, 3) := by decide +kernel
theorem dX4_startObstacle_32 : decode cX4_startObstacle 32 = .ok (.iload_n 1, 1) := by decide +kernel
theorem dX4_startObstacle_33 : decode cX4_startObstacle 33 = .ok (.aaload, 1) := by decide +kernel
theorem dX4_startObstacle_34 : decode cX4_startObstacle 34 = .ok (.getfield 108, 3) := by decide +kernel
theorem dX4_startObstacle_37 : decode cX4_startObstacle 37 = .ok (.ifCond .ne 9, 3) := by decide +kernel
theorem dX4_startObstacle_40 : decode cX4_startObstacle 40 = .ok (.iconst 5, 1) := by decide +kernel
theorem dX4_startObstacle_41 : decode cX4_startObstacle 41 = .ok (.iload_n 1, 1) := by decide +kernel
theorem dX4_startObstacle_42 : decode cX4_startObstacle 42 = .ok (.invokestatic 104, 3) := by decide +kernel
theorem dX4_startObstacle_45 : decode cX4_startObstacle 45 = .ok (.ireturn, 1) := by decide +kernel
theorem dX4_startObstacle_46 : decode cX4_startObstacle 46 = .ok (.aload_n 0, 1) := by decide +kernel
theorem dX4_startObstacle_47 : decode cX4_startObstacle 47 = .ok (.iload_n 1, 1) := by decide +kernel
theorem dX4_startObstacle_48 : decode cX4_startObstacle 48 = .ok (.invokevirtual 111, 3) := by decide +kernel
theorem dX4_startObstacle_51 : decode cX4_startObstacle 51 = .ok (.ireturn, 1) := by decide +kernel
theorem dX4_rollObstacle_0 : decode cX4_rollObstacle 0 = .ok (.aload_n 0, 1) := by decide +kernel
theorem dX4_rollObstacle_1 : decode cX4_rollObstacle 1 = .ok (.iload_n 1, 1) := by decide +kernel
theorem dX4_rollObstacle_2 : decode cX4_rollObstacle 2 = .ok (.invokevirtual 58, 3) := by decide +kernel
theorem dX4_rollObstacle_5 : decode cX4_rollObstacle 5 = .ok (.ifCond .ne 5, 3) := by decide +kernel
theorem dX4_rollObstacle_8 : decode cX4_rollObstacle 8 = .ok (.iconst (-1), 1) := by decide +kernel
theorem dX4_rollObstacle_9 : decode cX4_rollObstacle 9 = .ok (.ireturn, 1) := by decide +kernel
theorem dX4_rollObstacle_10 : decode cX4_rollObstacle 10 = .ok (.aload_n 0, 1) := by decide +kernel
theorem dX4_rollObstacle_11 : decode cX4_rollObstacle 11 = .ok (.getfield 33, 3) := by decide +kernel
theorem dX4_rollObstacle_14 : decode cX4_rollObstacle 14 = .ok (.iload_n 1, 1) := by decide +kernel
theorem dX4_rollObstacle_15 : decode cX4_rollObstacle 15 = .ok (.aaload, 1) := by decide +kernel
theorem dX4_rollObstacle_16 : decode cX4_rollObstacle 16 = .ok (.invokevirtual 100, 3) := by decide +kernel
theorem dX4_rollObstacle_19 : decode cX4_rollObstacle 19 = .ok (.ifCond .ne 9, 3) := by decide +kernel
theorem dX4_rollObstacle_22 : decode cX4_rollObstacle 22 = .ok (.iconst 4, 1) := by decide +kernel
theorem dX4_rollObstacle_23 : decode cX4_rollObstacle 23 = .ok (.iload_n 1, 1) := by decide +kernel
theorem dX4_rollObstacle_24 : decode cX4_rollObstacle 24 = .ok (.invokestatic 104, 3) := by decide +kernel
theorem dX4_rollObstacle_27 : decode cX4_rollObstacle 27 = .ok (.ireturn, 1) := by decide +kernel
theorem dX4_rollObstacle_28 : decode cX4_rollObstacle 28 = .ok (.aload_n 0, 1) := by decide +kernel
theorem dX4_rollObstacle_29 : decode cX4_rollObstacle 29 = .ok (.getfield 33, 3) := by decide +kernel
theorem dX4_rollObstacle_32 : decode cX4_rollObstacle 32 = .ok (.iload_n 1, 1) := by decide +kernel
theorem dX4_rollObstacle_33 : decode cX4_rollObstacle 33 = .ok (.aaload, 1) := by decide +kernel
theorem dX4_rollObstacle_34 : decode cX4_rollObstacle 34 = .ok (.invokevirtual 114, 3) := by decide +kernel
theorem dX4_rollObstacle_37 : decode cX4_rollObstacle 37 = .ok (.ifCond .eq 10, 3) := by decide +kernel
theorem dX4_rollObstacle_40 : decode cX4_rollObstacle 40 = .ok (.bipush 6, 2) := by decide +kernel
theorem dX4_rollObstacle_42 : decode cX4_rollObstacle 42 = .ok (.iload_n 1, 1) := by decide +kernel
theorem dX4_rollObstacle_43 : decode cX4_rollObstacle 43 = .ok (.invokestatic 104, 3) := by decide +kernel
theorem dX4_rollObstacle_46 : decode cX4_rollObstacle 46 = .ok (.ireturn, 1) := by decide +kernel
theorem dX4_rollObstacle_47 : decode cX4_rollObstacle 47 = .ok (.aload_n 0, 1) := by decide +kernel
theorem dX4_rollObstacle_48 : decode cX4_rollObstacle 48 = .ok (.iload_n 1, 1) := by decide +kernel
theorem dX4_rollObstacle_49 : decode cX4_rollObstacle 49 = .ok (.invokevirtual 111, 3) := by decide +kernel
theorem dX4_rollObstacle_52 : decode cX4_rollObstacle 52 = .ok (.ireturn, 1) := by decide +kernel
theorem dX4_wayObstacle_0 : decode cX4_wayObstacle 0 = .ok (.aload_n 0, 1) := by decide +kernel
theorem dX4_wayObstacle_1 : decode cX4_wayObstacle 1 = .ok (.getfield 33, 3) := by decide +kernel
theorem dX4_wayObstacle_4 : decode cX4_wayObstacle 4 = .ok (.iload_n 1, 1) := by decide +kernel
theorem dX4_wayObstacle_5 : decode cX4_wayObstacle 5 = .ok (.aaload, 1) := by decide +kernel
theorem dX4_wayObstacle_6 : decode cX4_wayObstacle 6 = .ok (.astore_n 2, 1) := by decide +kernel
theorem dX4_wayObstacle_7 : decode cX4_wayObstacle 7 = .ok (.aload_n 2, 1) := by decide +kernel
theorem dX4_wayObstacle_8 : decode cX4_wayObstacle 8 = .ok (.getfield 117, 3) := by decide +kernel
theorem dX4_wayObstacle_11 : decode cX4_wayObstacle 11 = .ok (.iconst 1, 1) := by decide +kernel
theorem dX4_wayObstacle_12 : decode cX4_wayObstacle 12 = .ok (.iadd, 1) := by decide +kernel
theorem dX4_wayObstacle_13 : decode cX4_wayObstacle 13 = .ok (.istore_n 3, 1) := by decide +kernel
theorem dX4_wayObstacle_14 : decode cX4_wayObstacle 14 = .ok (.iconst 0, 1) := by decide +kernel
theorem dX4_wayObstacle_15 : decode cX4_wayObstacle 15 = .ok (.istore 4, 2) := by decide +kernel
theorem dX4_wayObstacle_17 : decode cX4_wayObstacle 17 = .ok (.iload 4, 2) := by decide +kernel
theorem dX4_wayObstacle_19 : decode cX4_wayObstacle 19 = .ok (.iconst 4, 1) := by decide +kernel
theorem dX4_wayObstacle_20 : decode cX4_wayObstacle 20 = .ok (.if_icmp .ge 54, 3) := by decide +kernel
theorem dX4_wayObstacle_23 : decode cX4_wayObstacle 23 = .ok (.aload_n 2, 1) := by decide +kernel
theorem dX4_wayObstacle_24 : decode cX4_wayObstacle 24 = .ok (.iload 4, 2) := by decide +kernel
theorem dX4_wayObstacle_26 : decode cX4_wayObstacle 26 = .ok (.iload_n 3, 1) := by decide +kernel
theorem dX4_wayObstacle_27 : decode cX4_wayObstacle 27 = .ok (.invokevirtual 120, 3) := by decide +kernel
theorem dX4_wayObstacle_30 : decode cX4_wayObstacle 30 = .ok (.istore 5, 2) := by decide +kernel
theorem dX4_wayObstacle_32 : decode cX4_wayObstacle 32 = .ok (.aload_n 2, 1) := by decide +kernel
theorem dX4_wayObstacle_33 : decode cX4_wayObstacle 33 = .ok (.getfield 62, 3) := by decide +kernel
theorem dX4_wayObstacle_36 : decode cX4_wayObstacle 36 = .ok (.iload 4, 2) := by decide +kernel
theorem dX4_wayObstacle_38 : decode cX4_wayObstacle 38 = .ok (.aaload, 1) := by decide +kernel
theorem dX4_wayObstacle_39 : decode cX4_wayObstacle 39 = .ok (.ifnull 29, 3) := by decide +kernel
theorem dX4_wayObstacle_42 : decode cX4_wayObstacle 42 = .ok (.iload 5, 2) := by decide +kernel
theorem dX4_wayObstacle_44 : decode cX4_wayObstacle 44 = .ok (.invokestatic 123, 3) := by decide +kernel
theorem dX4_wayObstacle_47 : decode cX4_wayObstacle 47 = .ok (.ifCond .eq 21, 3) := by decide +kernel
theorem dX4_wayObstacle_50 : decode cX4_wayObstacle 50 = .ok (.aload_n 0, 1) := by decide +kernel
theorem dX4_wayObstacle_51 : decode cX4_wayObstacle 51 = .ok (.iload 5, 2) := by decide +kernel
theorem dX4_wayObstacle_53 : decode cX4_wayObstacle 53 = .ok (.iload_n 1, 1) := by decide +kernel
theorem dX4_wayObstacle_54 : decode cX4_wayObstacle 54 = .ok (.invokevirtual 126, 3) := by decide +kernel
theorem dX4_wayObstacle_57 : decode cX4_wayObstacle 57 = .ok (.ifCond .eq 11, 3) := by decide +kernel
theorem dX4_wayObstacle_60 : decode cX4_wayObstacle 60 = .ok (.bipush 7, 2) := by decide +kernel
theorem dX4_wayObstacle_62 : decode cX4_wayObstacle 62 = .ok (.iload 5, 2) := by decide +kernel
theorem dX4_wayObstacle_64 : decode cX4_wayObstacle 64 = .ok (.invokestatic 104, 3) := by decide +kernel
theorem dX4_wayObstacle_67 : decode cX4_wayObstacle 67 = .ok (.ireturn, 1) := by decide +kernel
theorem dX4_wayObstacle_68 : decode cX4_wayObstacle 68 = .ok (.iinc 4 1, 3) := by decide +kernel
theorem dX4_wayObstacle_71 : decode cX4_wayObstacle 71 = .ok (.goto (-54), 3) := by decide +kernel
theorem dX4_wayObstacle_74 : decode cX4_wayObstacle 74 = .ok (.iconst 0, 1) := by decide +kernel
theorem dX4_wayObstacle_75 : decode cX4_wayObstacle 75 = .ok (.istore 4, 2) := by decide +kernel
theorem dX4_wayObstacle_77 : decode cX4_wayObstacle 77 = .ok (.iload 4, 2) := by decide +kernel
theorem dX4_wayObstacle_79 : decode cX4_wayObstacle 79 = .ok (.iconst 4, 1) := by decide +kernel
theorem dX4_wayObstacle_80 : decode cX4_wayObstacle 80 = .ok (.if_icmp .ge 68, 3) := by decide +kernel
theorem dX4_wayObstacle_83 : decode cX4_wayObstacle 83 = .ok (.aload_n 2, 1) := by decide +kernel
theorem dX4_wayObstacle_84 : decode cX4_wayObstacle 84 = .ok (.iload 4, 2) := by decide +kernel
theorem dX4_wayObstacle_86 : decode cX4_wayObstacle 86 = .ok (.iload_n 3, 1) := by decide +kernel
theorem dX4_wayObstacle_87 : decode cX4_wayObstacle 87 = .ok (.invokevirtual 120, 3) := by decide +kernel
theorem dX4_wayObstacle_90 : decode cX4_wayObstacle 90 = .ok (.istore 5, 2) := by decide +kernel
theorem dX4_wayObstacle_92 : decode cX4_wayObstacle 92 = .ok (.aload_n 2, 1) := by decide +kernel
theorem dX4_wayObstacle_93 : decode cX4_wayObstacle 93 = .ok (.getfield 62, 3) := by decide +kernel
theorem dX4_wayObstacle_96 : decode cX4_wayObstacle 96 = .ok (.iload 4, 2) := by decide +kernel
theorem dX4_wayObstacle_98 : decode cX4_wayObstacle 98 = .ok (.aaload, 1) := by decide +kernel
theorem dX4_wayObstacle_99 : decode cX4_wayObstacle 99 = .ok (.astore 6, 2) := by decide +kernel
theorem dX4_wayObstacle_101 : decode cX4_wayObstacle 101 = .ok (.aload 6, 2) := by decide +kernel
theorem dX4_wayObstacle_103 : decode cX4_wayObstacle 103 = .ok (.ifnull 39, 3) := by decide +kernel
theorem dX4_wayObstacle_106 : decode cX4_wayObstacle 106 = .ok (.iload 5, 2) := by decide +kernel
theorem dX4_wayObstacle_108 : decode cX4_wayObstacle 108 = .ok (.invokestatic 123, 3) := by decide +kernel
theorem dX4_wayObstacle_111 : decode cX4_wayObstacle 111 = .ok (.ifCond .eq 31, 3) := by decide +kernel
theorem dX4_wayObstacle_114 : decode cX4_wayObstacle 114 = .ok (.aload_n 0, 1) := by decide +kernel
theorem dX4_wayObstacle_115 : decode cX4_wayObstacle 115 = .ok (.aload_n 0, 1) := by decide +kernel
theorem dX4_wayObstacle_116 : decode cX4_wayObstacle 116 = .ok (.getfield 21, 3) := by decide +kernel
theorem dX4_wayObstacle_119 : decode cX4_wayObstacle 119 = .ok (.iload 5, 2) := by decide +kernel
theorem dX4_wayObstacle_121 : decode cX4_wayObstacle 121 = .ok (.aaload, 1) := by decide +kernel
theorem dX4_wayObstacle_122 : decode cX4_wayObstacle 122 = .ok (.invokevirtual 130, 3) := by decide +kernel
theorem dX4_wayObstacle_125 : decode cX4_wayObstacle 125 = .ok (.aload 6, 2) := by decide +kernel
theorem dX4_wayObstacle_127 : decode cX4_wayObstacle 127 = .ok (.invokevirtual 134, 3) := by decide +kernel
theorem dX4_wayObstacle_130 : decode cX4_wayObstacle 130 = .ok (.fcmp .g, 1) := by decide +kernel
theorem dX4_wayObstacle_131 : decode cX4_wayObstacle 131 = .ok (.ifCond .ge 11, 3) := by decide +kernel
theorem dX4_wayObstacle_134 : decode cX4_wayObstacle 134 = .ok (.bipush 8, 2) := by decide +kernel
theorem dX4_wayObstacle_136 : decode cX4_wayObstacle 136 = .ok (.iload 5, 2) := by decide +kernel
theorem dX4_wayObstacle_138 : decode cX4_wayObstacle 138 = .ok (.invokestatic 104, 3) := by decide +kernel
theorem dX4_wayObstacle_141 : decode cX4_wayObstacle 141 = .ok (.ireturn, 1) := by decide +kernel
theorem dX4_wayObstacle_142 : decode cX4_wayObstacle 142 = .ok (.iinc 4 1, 3) := by decide +kernel
theorem dX4_wayObstacle_145 : decode cX4_wayObstacle 145 = .ok (.goto (-68), 3) := by decide +kernel
theorem dX4_wayObstacle_148 : decode cX4_wayObstacle 148 = .ok (.iconst 0, 1) := by decide +kernel
theorem dX4_wayObstacle_149 : decode cX4_wayObstacle 149 = .ok (.ireturn, 1) := by decide +kernel
theorem dX4_letJoin_0 : decode cX4_letJoin 0 = .ok (.aload_n 1, 1) := by decide +kernel
theorem dX4_letJoin_1 : decode cX4_letJoin 1 = .ok (.getfield 62, 3) := by decide +kernel
theorem dX4_letJoin_4 : decode cX4_letJoin 4 = .ok (.aload_n 1, 1) := by decide +kernel
theorem dX4_letJoin_5 : decode cX4_letJoin 5 = .ok (.getfield 108, 3) := by decide +kernel
theorem dX4_letJoin_8 : decode cX4_letJoin 8 = .ok (.aload_n 0, 1) := by decide +kernel
theorem dX4_letJoin_9 : decode cX4_letJoin 9 = .ok (.getfield 27, 3) := by decide +kernel
theorem dX4_letJoin_12 : decode cX4_letJoin 12 = .ok (.iload_n 2, 1) := by decide +kernel
theorem dX4_letJoin_13 : decode cX4_letJoin 13 = .ok (.aaload, 1) := by decide +kernel
theorem dX4_letJoin_14 : decode cX4_letJoin 14 = .ok (.aastore, 1) := by decide +kernel
theorem dX4_letJoin_15 : decode cX4_letJoin 15 = .ok (.aload_n 1, 1) := by decide +kernel
theorem dX4_letJoin_16 : decode cX4_letJoin 16 = .ok (.dup, 1) := by decide +kernel
theorem dX4_letJoin_17 : decode cX4_letJoin 17 = .ok (.getfield 108, 3) := by decide +kernel
theorem dX4_letJoin_20 : decode cX4_letJoin 20 = .ok (.iconst 1, 1) := by decide +kernel
theorem dX4_letJoin_21 : decode cX4_letJoin 21 = .ok (.iadd, 1) := by decide +kernel
theorem dX4_letJoin_22 : decode cX4_letJoin 22 = .ok (.putfield 108, 3) := by decide +kernel
theorem dX4_letJoin_25 : decode cX4_letJoin 25 = .ok (.aload_n 0, 1) := by decide +kernel
theorem dX4_letJoin_26 : decode cX4_letJoin 26 = .ok (.getfield 27, 3) := by decide +kernel
theorem dX4_letJoin_29 : decode cX4_letJoin 29 = .ok (.iload_n 2, 1) := by decide +kernel
theorem dX4_letJoin_30 : decode cX4_letJoin 30 = .ok (.aconst_null, 1) := by decide +kernel
theorem dX4_letJoin_31 : decode cX4_letJoin 31 = .ok (.aastore, 1) := by decide +kernel
theorem dX4_letJoin_32 : decode cX4_letJoin 32 = .ok (.return_, 1) := by decide +kernel
theorem dX4_advance_0 : decode cX4_advance 0 = .ok (.aload_n 1, 1) := by decide +kernel
theorem dX4_advance_1 : decode cX4_advance 1 = .ok (.dup, 1) := by decide +kernel
theorem dX4_advance_2 : decode cX4_advance 2 = .ok (.getfield 117, 3) := by decide +kernel
theorem dX4_advance_5 : decode cX4_advance 5 = .ok (.iconst 1, 1) := by decide +kernel
theorem dX4_advance_6 : decode cX4_advance 6 = .ok (.iadd, 1) := by decide +kernel
theorem dX4_advance_7 : decode cX4_advance 7 = .ok (.putfield 117, 3) := by decide +kernel
theorem dX4_advance_10 : decode cX4_advance 10 = .ok (.iconst 0, 1) := by decide +kernel
theorem dX4_advance_11 : decode cX4_advance 11 = .ok (.istore_n 2, 1) := by decide +kernel
theorem dX4_advance_12 : decode cX4_advance 12 = .ok (.iload_n 2, 1) := by decide +kernel
theorem dX4_advance_13 : decode cX4_advance 13 = .ok (.iconst 4, 1) := by decide +kernel
theorem dX4_advance_14 : decode cX4_advance 14 = .ok (.if_icmp .ge 70, 3) := by decide +kernel
theorem dX4_advance_17 : decode cX4_advance 17 = .ok (.aload_n 1, 1) := by decide +kernel
theorem dX4_advance_18 : decode cX4_advance 18 = .ok (.getfield 62, 3) := by decide +kernel
theorem dX4_advance_21 : decode cX4_advance 21 = .ok (.iload_n 2, 1) := by decide +kernel
theorem dX4_advance_22 : decode cX4_advance 22 = .ok (.aaload, 1) := by decide +kernel
theorem dX4_advance_23 : decode cX4_advance 23 = .ok (.astore_n 3, 1) := by decide +kernel
theorem dX4_advance_24 : decode cX4_advance 24 = .ok (.aload_n 1, 1) := by decide +kernel
theorem dX4_advance_25 : decode cX4_advance 25 = .ok (.iload_n 2, 1) := by decide +kernel
theorem dX4_advance_26 : decode cX4_advance 26 = .ok (.invokevirtual 138, 3) := by decide +kernel
theorem dX4_advance_29 : decode cX4_advance 29 = .ok (.istore 4, 2) := by decide +kernel
theorem dX4_advance_31 : decode cX4_advance 31 = .ok (.aload_n 3, 1) := by decide +kernel
theorem dX4_advance_32 : decode cX4_advance 32 = .ok (.ifnull 22, 3) := by decide +kernel
theorem dX4_advance_35 : decode cX4_advance 35 = .ok (.iload 4, 2) := by decide +kernel
theorem dX4_advance_37 : decode cX4_advance 37 = .ok (.invokestatic 123, 3) := by decide +kernel
theorem dX4_advance_40 : decode cX4_advance 40 = .ok (.ifCond .eq 14, 3) := by decide +kernel
theorem dX4_advance_43 : decode cX4_advance 43 = .ok (.aload_n 0, 1) := by decide +kernel
theorem dX4_advance_44 : decode cX4_advance 44 = .ok (.getfield 21, 3) := by decide +kernel
theorem dX4_advance_47 : decode cX4_advance 47 = .ok (.iload 4, 2) := by decide +kernel
theorem dX4_advance_49 : decode cX4_advance 49 = .ok (.aaload, 1) := by decide +kernel
theorem dX4_advance_50 : decode cX4_advance 50 = .ok (.aload_n 3, 1) := by decide +kernel
theorem dX4_advance_51 : decode cX4_advance 51 = .ok (.invokevirtual 141, 3) := by decide +kernel
theorem dX4_advance_54 : decode cX4_advance 54 = .ok (.aload_n 3, 1) := by decide +kernel
theorem dX4_advance_55 : decode cX4_advance 55 = .ok (.ifnull 23, 3) := by decide +kernel
theorem dX4_advance_58 : decode cX4_advance 58 = .ok (.iload 4, 2) := by decide +kernel
theorem dX4_advance_60 : decode cX4_advance 60 = .ok (.bipush 12, 2) := by decide +kernel
theorem dX4_advance_62 : decode cX4_advance 62 = .ok (.if_icmp .ne 16, 3) := by decide +kernel
theorem dX4_advance_65 : decode cX4_advance 65 = .ok (.aload_n 0, 1) := by decide +kernel
theorem dX4_advance_66 : decode cX4_advance 66 = .ok (.dup, 1) := by decide +kernel
theorem dX4_advance_67 : decode cX4_advance 67 = .ok (.getfield 46, 3) := by decide +kernel
theorem dX4_advance_70 : decode cX4_advance 70 = .ok (.aload_n 3, 1) := by decide +kernel
theorem dX4_advance_71 : decode cX4_advance 71 = .ok (.getfield 145, 3) := by decide +kernel
theorem dX4_advance_74 : decode cX4_advance 74 = .ok (.iadd, 1) := by decide +kernel
theorem dX4_advance_75 : decode cX4_advance 75 = .ok (.putfield 46, 3) := by decide +kernel
theorem dX4_advance_78 : decode cX4_advance 78 = .ok (.iinc 2 1, 3) := by decide +kernel
theorem dX4_advance_81 : decode cX4_advance 81 = .ok (.goto (-69), 3) := by decide +kernel
theorem dX4_advance_84 : decode cX4_advance 84 = .ok (.return_, 1) := by decide +kernel
theorem dX4_countRollsAhead_0 : decode cX4_countRollsAhead 0 = .ok (.aload_n 0, 1) := by decide +kernel
theorem dX4_countRollsAhead_1 : decode cX4_countRollsAhead 1 = .ok (.getfield 33, 3) := by decide +kernel
theorem dX4_countRollsAhead_4 : decode cX4_countRollsAhead 4 = .ok (.iload_n 1, 1) := by decide +kernel
theorem dX4_countRollsAhead_5 : decode cX4_countRollsAhead 5 = .ok (.aaload, 1) := by decide +kernel
theorem dX4_countRollsAhead_6 : decode cX4_countRollsAhead 6 = .ok (.astore_n 2, 1) := by decide +kernel
theorem dX4_countRollsAhead_7 : decode cX4_countRollsAhead 7 = .ok (.aload_n 2, 1) := by decide +kernel
theorem dX4_countRollsAhead_8 : decode cX4_countRollsAhead 8 = .ok (.invokevirtual 100, 3) := by decide +kernel
theorem dX4_countRollsAhead_11 : decode cX4_countRollsAhead 11 = .ok (.ifCond .ne 5, 3) := by decide +kernel
theorem dX4_countRollsAhead_14 : decode cX4_countRollsAhead 14 = .ok (.iconst 0, 1) := by decide +kernel
theorem dX4_countRollsAhead_15 : decode cX4_countRollsAhead 15 = .ok (.ireturn, 1) := by decide +kernel
theorem dX4_countRollsAhead_16 : decode cX4_countRollsAhead 16 = .ok (.bipush 12, 2) := by decide +kernel
theorem dX4_countRollsAhead_18 : decode cX4_countRollsAhead 18 = .ok (.aload_n 2, 1) := by decide +kernel
theorem dX4_countRollsAhead_19 : decode cX4_countRollsAhead 19 = .ok (.getfield 108, 3) := by decide +kernel
theorem dX4_countRollsAhead_22 : decode cX4_countRollsAhead 22 = .ok (.iconst 1, 1) := by decide +kernel
theorem dX4_countRollsAhead_23 : decode cX4_countRollsAhead 23 = .ok (.isub, 1) := by decide +kernel
theorem dX4_countRollsAhead_24 : decode cX4_countRollsAhead 24 = .ok (.aload_n 2, 1) := by decide +kernel
theorem dX4_countRollsAhead_25 : decode cX4_countRollsAhead 25 = .ok (.getfield 148, 3) := by decide +kernel
theorem dX4_countRollsAhead_28 : decode cX4_countRollsAhead 28 = .ok (.iconst 1, 1) := by decide +kernel
theorem dX4_countRollsAhead_29 : decode cX4_countRollsAhead 29 = .ok (.iadd, 1) := by decide +kernel
theorem dX4_countRollsAhead_30 : decode cX4_countRollsAhead 30 = .ok (.imul, 1) := by decide +kernel
theorem dX4_countRollsAhead_31 : decode cX4_countRollsAhead 31 = .ok (.iadd, 1) := by decide +kernel
theorem dX4_countRollsAhead_32 : decode cX4_countRollsAhead 32 = .ok (.istore_n 3, 1) := by decide +kernel
theorem dX4_countRollsAhead_33 : decode cX4_countRollsAhead 33 = .ok (.aload_n 2, 1) := by decide +kernel
theorem dX4_countRollsAhead_34 : decode cX4_countRollsAhead 34 = .ok (.getfield 117, 3) := by decide +kernel
theorem dX4_countRollsAhead_37 : decode cX4_countRollsAhead 37 = .ok (.istore 4, 2) := by decide +kernel
theorem dX4_countRollsAhead_39 : decode cX4_countRollsAhead 39 = .ok (.iload 4, 2) := by decide +kernel
theorem dX4_countRollsAhead_41 : decode cX4_countRollsAhead 41 = .ok (.iload_n 3, 1) := by decide +kernel
theorem dX4_countRollsAhead_42 : decode cX4_countRollsAhead 42 = .ok (.if_icmp .ge 21, 3) := by decide +kernel
theorem dX4_countRollsAhead_45 : decode cX4_countRollsAhead 45 = .ok (.aload_n 0, 1) := by decide +kernel
theorem dX4_countRollsAhead_46 : decode cX4_countRollsAhead 46 = .ok (.iload_n 1, 1) := by decide +kernel
theorem dX4_countRollsAhead_47 : decode cX4_countRollsAhead 47 = .ok (.iload 4, 2) := by decide +kernel
theorem dX4_countRollsAhead_49 : decode cX4_countRollsAhead 49 = .ok (.iconst 1, 1) := by decide +kernel
theorem dX4_countRollsAhead_50 : decode cX4_countRollsAhead 50 = .ok (.iadd, 1) := by decide +kernel
theorem dX4_countRollsAhead_51 : decode cX4_countRollsAhead 51 = .ok (.invokevirtual 151, 3) := by decide +kernel
theorem dX4_countRollsAhead_54 : decode cX4_countRollsAhead 54 = .ok (.ifCond .eq 9, 3) := by decide +kernel
theorem dX4_countRollsAhead_57 : decode cX4_countRollsAhead 57 = .ok (.iinc 4 1, 3) := by decide +kernel
theorem dX4_countRollsAhead_60 : decode cX4_countRollsAhead 60 = .ok (.goto (-21), 3) := by decide +kernel
theorem dX4_countRollsAhead_63 : decode cX4_countRollsAhead 63 = .ok (.iload 4, 2) := by decide +kernel
theorem dX4_countRollsAhead_65 : decode cX4_countRollsAhead 65 = .ok (.aload_n 2, 1) := by decide +kernel
theorem dX4_countRollsAhead_66 : decode cX4_countRollsAhead 66 = .ok (.getfield 117, 3) := by decide +kernel
theorem dX4_countRollsAhead_69 : decode cX4_countRollsAhead 69 = .ok (.isub, 1) := by decide +kernel
theorem dX4_countRollsAhead_70 : decode cX4_countRollsAhead 70 = .ok (.ireturn, 1) := by decide +kernel
theorem dX4_couldLeadBe_0 : decode cX4_couldLeadBe 0 = .ok (.aload_n 0, 1) := by decide +kernel
theorem dX4_couldLeadBe_1 : decode cX4_couldLeadBe 1 = .ok (.getfield 33, 3) := by decide +kernel
theorem dX4_couldLeadBe_4 : decode cX4_couldLeadBe 4 = .ok (.iload_n 1, 1) := by decide +kernel
theorem dX4_couldLeadBe_5 : decode cX4_couldLeadBe 5 = .ok (.aaload, 1) := by decide +kernel
theorem dX4_couldLeadBe_6 : decode cX4_couldLeadBe 6 = .ok (.astore_n 3, 1) := by decide +kernel
theorem dX4_couldLeadBe_7 : decode cX4_couldLeadBe 7 = .ok (.iconst 0, 1) := by decide +kernel
theorem dX4_couldLeadBe_8 : decode cX4_couldLeadBe 8 = .ok (.istore 4, 2) := by decide +kernel
theorem dX4_couldLeadBe_10 : decode cX4_couldLeadBe 10 = .ok (.iload 4, 2) := by decide +kernel
theorem dX4_couldLeadBe_12 : decode cX4_couldLeadBe 12 = .ok (.iconst 4, 1) := by decide +kernel
theorem dX4_couldLeadBe_13 : decode cX4_couldLeadBe 13 = .ok (.if_icmp .ge 94, 3) := by decide +kernel
theorem dX4_couldLeadBe_16 : decode cX4_couldLeadBe 16 = .ok (.aload_n 3, 1) := by decide +kernel
theorem dX4_couldLeadBe_17 : decode cX4_couldLeadBe 17 = .ok (.getfield 62, 3) := by decide +kernel
theorem dX4_couldLeadBe_20 : decode cX4_couldLeadBe 20 = .ok (.iload 4, 2) := by decide +kernel
theorem dX4_couldLeadBe_22 : decode cX4_couldLeadBe 22 = .ok (.aaload, 1) := by decide +kernel
theorem dX4_couldLeadBe_23 : decode cX4_couldLeadBe 23 = .ok (.astore 5, 2) := by decide +kernel
theorem dX4_couldLeadBe_25 : decode cX4_couldLeadBe 25 = .ok (.aload_n 3, 1) := by decide +kernel
theorem dX4_couldLeadBe_26 : decode cX4_couldLeadBe 26 = .ok (.iload 4, 2) := by decide +kernel
theorem dX4_couldLeadBe_28 : decode cX4_couldLeadBe 28 = .ok (.iload_n 2, 1) := by decide +kernel
theorem dX4_couldLeadBe_29 : decode cX4_couldLeadBe 29 = .ok (.invokevirtual 120, 3) := by decide +kernel
theorem dX4_couldLeadBe_32 : decode cX4_couldLeadBe 32 = .ok (.istore 6, 2) := by decide +kernel
theorem dX4_couldLeadBe_34 : decode cX4_couldLeadBe 34 = .ok (.aload 5, 2) := by decide +kernel
theorem dX4_couldLeadBe_36 : decode cX4_couldLeadBe 36 = .ok (.ifnull 65, 3) := by decide +kernel
theorem dX4_couldLeadBe_39 : decode cX4_couldLeadBe 39 = .ok (.iload 6, 2) := by decide +kernel
theorem dX4_couldLeadBe_41 : decode cX4_couldLeadBe 41 = .ok (.invokestatic 123, 3) := by decide +kernel
theorem dX4_couldLeadBe_44 : decode cX4_couldLeadBe 44 = .ok (.ifCond .eq 57, 3) := by decide +kernel
theorem dX4_couldLeadBe_47 : decode cX4_couldLeadBe 47 = .ok (.aload_n 0, 1) := by decide +kernel
theorem dX4_couldLeadBe_48 : decode cX4_couldLeadBe 48 = .ok (.getfield 21, 3) := by decide +kernel
theorem dX4_couldLeadBe_51 : decode cX4_couldLeadBe 51 = .ok (.iload 6, 2) := by decide +kernel
theorem dX4_couldLeadBe_53 : decode cX4_couldLeadBe 53 = .ok (.aaload, 1) := by decide +kernel
theorem dX4_couldLeadBe_54 : decode cX4_couldLeadBe 54 = .ok (.aload_n 3, 1) := by decide +kernel
theorem dX4_couldLeadBe_55 : decode cX4_couldLeadBe 55 = .ok (.iload 4, 2) := by decide +kernel
theorem dX4_couldLeadBe_57 : decode cX4_couldLeadBe 57 = .ok (.iload 6, 2) := by decide +kernel
theorem dX4_couldLeadBe_59 : decode cX4_couldLeadBe 59 = .ok (.invokevirtual 154, 3) := by decide +kernel
theorem dX4_couldLeadBe_62 : decode cX4_couldLeadBe 62 = .ok (.invokevirtual 157, 3) := by decide +kernel
theorem dX4_couldLeadBe_65 : decode cX4_couldLeadBe 65 = .ok (.istore 7, 2) := by decide +kernel
theorem dX4_couldLeadBe_67 : decode cX4_couldLeadBe 67 = .ok (.aload_n 0, 1) := by decide +kernel
theorem dX4_couldLeadBe_68 : decode cX4_couldLeadBe 68 = .ok (.iload 6, 2) := by decide +kernel
theorem dX4_couldLeadBe_70 : decode cX4_couldLeadBe 70 = .ok (.iload_n 1, 1) := by decide +kernel
theorem dX4_couldLeadBe_71 : decode cX4_couldLeadBe 71 = .ok (.invokevirtual 126, 3) := by decide +kernel
theorem dX4_couldLeadBe_74 : decode cX4_couldLeadBe 74 = .ok (.ifCond .ne 25, 3) := by decide +kernel
theorem dX4_couldLeadBe_77 : decode cX4_couldLeadBe 77 = .ok (.aload_n 0, 1) := by decide +kernel
theorem dX4_couldLeadBe_78 : decode cX4_couldLeadBe 78 = .ok (.aload_n 0, 1) := by decide +kernel
theorem dX4_couldLeadBe_79 : decode cX4_couldLeadBe 79 = .ok (.getfield 21, 3) := by decide +kernel
theorem dX4_couldLeadBe_82 : decode cX4_couldLeadBe 82 = .ok (.iload 6, 2) := by decide +kernel
theorem dX4_couldLeadBe_84 : decode cX4_couldLeadBe 84 = .ok (.aaload, 1) := by decide +kernel
theorem dX4_couldLeadBe_85 : decode cX4_couldLeadBe 85 = .ok (.iload 7, 2) := by decide +kernel
theorem dX4_couldLeadBe_87 : decode cX4_couldLeadBe 87 = .ok (.invokevirtual 78, 3) := by decide +kernel
theorem dX4_couldLeadBe_90 : decode cX4_couldLeadBe 90 = .ok (.aload 5, 2) := by decide +kernel
theorem dX4_couldLeadBe_92 : decode cX4_couldLeadBe 92 = .ok (.invokevirtual 134, 3) := by decide +kernel
theorem dX4_couldLeadBe_95 : decode cX4_couldLeadBe 95 = .ok (.fcmp .g, 1) := by decide +kernel
theorem dX4_couldLeadBe_96 : decode cX4_couldLeadBe 96 = .ok (.ifCond .ge 5, 3) := by decide +kernel
theorem dX4_couldLeadBe_99 : decode cX4_couldLeadBe 99 = .ok (.iconst 0, 1) := by decide +kernel
theorem dX4_couldLeadBe_100 : decode cX4_couldLeadBe 100 = .ok (.ireturn, 1) := by decide +kernel
theorem dX4_couldLeadBe_101 : decode cX4_couldLeadBe 101 = .ok (.iinc 4 1, 3) := by decide +kernel
theorem dX4_couldLeadBe_104 : decode cX4_couldLeadBe 104 = .ok (.goto (-94), 3) := by decide +kernel
theorem dX4_couldLeadBe_107 : decode cX4_couldLeadBe 107 = .ok (.iconst 1, 1) := by decide +kernel
theorem dX4_couldLeadBe_108 : decode cX4_couldLeadBe 108 = .ok (.ireturn, 1) := by decide +kernel
theorem dX4_letDaysGoBy_0 : decode cX4_letDaysGoBy 0 = .ok (.iconst 0, 1) := by decide +kernel
theorem dX4_letDaysGoBy_1 : decode cX4_letDaysGoBy 1 = .ok (.istore_n 2, 1) := by decide +kernel
theorem dX4_letDaysGoBy_2 : decode cX4_letDaysGoBy 2 = .ok (.iload_n 2, 1) := by decide +kernel
theorem dX4_letDaysGoBy_3 : decode cX4_letDaysGoBy 3 = .ok (.iload_n 1, 1) := by decide +kernel
theorem dX4_letDaysGoBy_4 : decode cX4_letDaysGoBy 4 = .ok (.if_icmp .ge 48, 3) := by decide +kernel
theorem dX4_letDaysGoBy_7 : decode cX4_letDaysGoBy 7 = .ok (.iconst 0, 1) := by decide +kernel
theorem dX4_letDaysGoBy_8 : decode cX4_letDaysGoBy 8 = .ok (.istore_n 3, 1) := by decide +kernel
theorem dX4_letDaysGoBy_9 : decode cX4_letDaysGoBy 9 = .ok (.iload_n 3, 1) := by decide +kernel
theorem dX4_letDaysGoBy_10 : decode cX4_letDaysGoBy 10 = .ok (.bipush 12, 2) := by decide +kernel
theorem dX4_letDaysGoBy_12 : decode cX4_letDaysGoBy 12 = .ok (.if_icmp .ge 24, 3) := by decide +kernel
theorem dX4_letDaysGoBy_15 : decode cX4_letDaysGoBy 15 = .ok (.aload_n 0, 1) := by decide +kernel
theorem dX4_letDaysGoBy_16 : decode cX4_letDaysGoBy 16 = .ok (.getfield 21, 3) := by decide +kernel
theorem dX4_letDaysGoBy_19 : decode cX4_letDaysGoBy 19 = .ok (.iload_n 3, 1) := by decide +kernel
theorem dX4_letDaysGoBy_20 : decode cX4_letDaysGoBy 20 = .ok (.aaload, 1) := by decide +kernel
theorem dX4_letDaysGoBy_21 : decode cX4_letDaysGoBy 21 = .ok (.aload_n 0, 1) := by decide +kernel
theorem dX4_letDaysGoBy_22 : decode cX4_letDaysGoBy 22 = .ok (.getfield 9, 3) := by decide +kernel
theorem dX4_letDaysGoBy_25 : decode cX4_letDaysGoBy 25 = .ok (.iconst 0, 1) := by decide +kernel
theorem dX4_letDaysGoBy_26 : decode cX4_letDaysGoBy 26 = .ok (.iaload, 1) := by decide +kernel
theorem dX4_letDaysGoBy_27 : decode cX4_letDaysGoBy 27 = .ok (.invokevirtual 160, 3) := by decide +kernel
theorem dX4_letDaysGoBy_30 : decode cX4_letDaysGoBy 30 = .ok (.iinc 3 1, 3) := by decide +kernel
theorem dX4_letDaysGoBy_33 : decode cX4_letDaysGoBy 33 = .ok (.goto (-24), 3) := by decide +kernel
theorem dX4_letDaysGoBy_36 : decode cX4_letDaysGoBy 36 = .ok (.aload_n 0, 1) := by decide +kernel
theorem dX4_letDaysGoBy_37 : decode cX4_letDaysGoBy 37 = .ok (.dup, 1) := by decide +kernel
theorem dX4_letDaysGoBy_38 : decode cX4_letDaysGoBy 38 = .ok (.getfield 15, 3) := by decide +kernel
theorem dX4_letDaysGoBy_41 : decode cX4_letDaysGoBy 41 = .ok (.iconst 1, 1) := by decide +kernel
theorem dX4_letDaysGoBy_42 : decode cX4_letDaysGoBy 42 = .ok (.iadd, 1) := by decide +kernel
theorem dX4_letDaysGoBy_43 : decode cX4_letDaysGoBy 43 = .ok (.putfield 15, 3) := by decide +kernel
theorem dX4_letDaysGoBy_46 : decode cX4_letDaysGoBy 46 = .ok (.iinc 2 1, 3) := by decide +kernel
theorem dX4_letDaysGoBy_49 : decode cX4_letDaysGoBy 49 = .ok (.goto (-47), 3) := by decide +kernel
theorem dX4_letDaysGoBy_52 : decode cX4_letDaysGoBy 52 = .ok (.return_, 1) := by decide +kernel
theorem dX4_countGoodDrills_0 : decode cX4_countGoodDrills 0 = .ok (.iconst 0, 1) := by decide +kernel
theorem dX4_countGoodDrills_1 : decode cX4_countGoodDrills 1 = .ok (.istore_n 1, 1) := by decide +kernel
theorem dX4_countGoodDrills_2 : decode cX4_countGoodDrills 2 = .ok (.iconst 0, 1) := by decide +kernel
theorem dX4_countGoodDrills_3 : decode cX4_countGoodDrills 3 = .ok (.istore_n 2, 1) := by decide +kernel
theorem dX4_countGoodDrills_4 : decode cX4_countGoodDrills 4 = .ok (.iload_n 2, 1) := by decide +kernel
theorem dX4_countGoodDrills_5 : decode cX4_countGoodDrills 5 = .ok (.bipush 12, 2) := by decide +kernel
theorem dX4_countGoodDrills_7 : decode cX4_countGoodDrills 7 = .ok (.if_icmp .ge 25, 3) := by decide +kernel
theorem dX4_countGoodDrills_10 : decode cX4_countGoodDrills 10 = .ok (.aload_n 0, 1) := by decide +kernel
theorem dX4_countGoodDrills_11 : decode cX4_countGoodDrills 11 = .ok (.aload_n 0, 1) := by decide +kernel
theorem dX4_countGoodDrills_12 : decode cX4_countGoodDrills 12 = .ok (.getfield 21, 3) := by decide +kernel
theorem dX4_countGoodDrills_15 : decode cX4_countGoodDrills 15 = .ok (.iload_n 2, 1) := by decide +kernel
theorem dX4_countGoodDrills_16 : decode cX4_countGoodDrills 16 = .ok (.aaload, 1) := by decide +kernel
theorem dX4_countGoodDrills_17 : decode cX4_countGoodDrills 17 = .ok (.invokevirtual 82, 3) := by decide +kernel
theorem dX4_countGoodDrills_20 : decode cX4_countGoodDrills 20 = .ok (.ifCond .eq 6, 3) := by decide +kernel
theorem dX4_countGoodDrills_23 : decode cX4_countGoodDrills 23 = .ok (.iinc 1 1, 3) := by decide +kernel
theorem dX4_countGoodDrills_26 : decode cX4_countGoodDrills 26 = .ok (.iinc 2 1, 3) := by decide +kernel
theorem dX4_countGoodDrills_29 : decode cX4_countGoodDrills 29 = .ok (.goto (-25), 3) := by decide +kernel
theorem dX4_countGoodDrills_32 : decode cX4_countGoodDrills 32 = .ok (.iload_n 1, 1) := by decide +kernel
theorem dX4_countGoodDrills_33 : decode cX4_countGoodDrills 33 = .ok (.ireturn, 1) := by decide +kernel
theorem dX4_countCracks_0 : decode cX4_countCracks 0 = .ok (.iconst 0, 1) := by decide +kernel
theorem dX4_countCracks_1 : decode cX4_countCracks 1 = .ok (.istore_n 1, 1) := by decide +kernel
theorem dX4_countCracks_2 : decode cX4_countCracks 2 = .ok (.iconst 0, 1) := by decide +kernel
theorem dX4_countCracks_3 : decode cX4_countCracks 3 = .ok (.istore_n 2, 1) := by decide +kernel
theorem dX4_countCracks_4 : decode cX4_countCracks 4 = .ok (.iload_n 2, 1) := by decide +kernel
theorem dX4_countCracks_5 : decode cX4_countCracks 5 = .ok (.bipush 12, 2) := by decide +kernel
theorem dX4_countCracks_7 : decode cX4_countCracks 7 = .ok (.if_icmp .ge 21, 3) := by decide +kernel
theorem dX4_countCracks_10 : decode cX4_countCracks 10 = .ok (.iload_n 1, 1) := by decide +kernel
theorem dX4_countCracks_11 : decode cX4_countCracks 11 = .ok (.aload_n 0, 1) := by decide +kernel
theorem dX4_countCracks_12 : decode cX4_countCracks 12 = .ok (.getfield 21, 3) := by decide +kernel
theorem dX4_countCracks_15 : decode cX4_countCracks 15 = .ok (.iload_n 2, 1) := by decide +kernel
theorem dX4_countCracks_16 : decode cX4_countCracks 16 = .ok (.aaload, 1) := by decide +kernel
theorem dX4_countCracks_17 : decode cX4_countCracks 17 = .ok (.getfield 75, 3) := by decide +kernel
theorem dX4_countCracks_20 : decode cX4_countCracks 20 = .ok (.iadd, 1) := by decide +kernel
theorem dX4_countCracks_21 : decode cX4_countCracks 21 = .ok (.istore_n 1, 1) := by decide +kernel
theorem dX4_countCracks_22 : decode cX4_countCracks 22 = .ok (.iinc 2 1, 3) := by decide +kernel
theorem dX4_countCracks_25 : decode cX4_countCracks 25 = .ok (.goto (-21), 3) := by decide +kernel
theorem dX4_countCracks_28 : decode cX4_countCracks 28 = .ok (.iload_n 1, 1) := by decide +kernel
theorem dX4_countCracks_29 : decode cX4_countCracks 29 = .ok (.ireturn, 1) := by decide +kernel
theorem dX4_countInRows_0 : decode cX4_countInRows 0 = .ok (.iconst 0, 1) := by decide +kernel
theorem dX4_countInRows_1 : decode cX4_countInRows 1 = .ok (.istore_n 1, 1) := by decide +kernel
theorem dX4_countInRows_2 : decode cX4_countInRows 2 = .ok (.iconst 0, 1) := by decide +kernel
theorem dX4_countInRows_3 : decode cX4_countInRows 3 = .ok (.istore_n 2, 1) := by decide +kernel
theorem dX4_countInRows_4 : decode cX4_countInRows 4 = .ok (.iload_n 2, 1) := by decide +kernel
theorem dX4_countInRows_5 : decode cX4_countInRows 5 = .ok (.aload_n 0, 1) := by decide +kernel
theorem dX4_countInRows_6 : decode cX4_countInRows 6 = .ok (.getfield 27, 3) := by decide +kernel
theorem dX4_countInRows_9 : decode cX4_countInRows 9 = .ok (.arraylength, 1) := by decide +kernel
theorem dX4_countInRows_10 : decode cX4_countInRows 10 = .ok (.if_icmp .ge 21, 3) := by decide +kernel
theorem dX4_countInRows_13 : decode cX4_countInRows 13 = .ok (.aload_n 0, 1) := by decide +kernel
theorem dX4_countInRows_14 : decode cX4_countInRows 14 = .ok (.getfield 27, 3) := by decide +kernel
theorem dX4_countInRows_17 : decode cX4_countInRows 17 = .ok (.iload_n 2, 1) := by decide +kernel
theorem dX4_countInRows_18 : decode cX4_countInRows 18 = .ok (.aaload, 1) := by decide +kernel
theorem dX4_countInRows_19 : decode cX4_countInRows 19 = .ok (.ifnull 6, 3) := by decide +kernel
theorem dX4_countInRows_22 : decode cX4_countInRows 22 = .ok (.iinc 1 1, 3) := by decide +kernel
theorem dX4_countInRows_25 : decode cX4_countInRows 25 = .ok (.iinc 2 1, 3) := by decide +kernel
theorem dX4_countInRows_28 : decode cX4_countInRows 28 = .ok (.goto (-24), 3) := by decide +kernel
theorem dX4_countInRows_31 : decode cX4_countInRows 31 = .ok (.iload_n 1, 1) := by decide +kernel
theorem dX4_countInRows_32 : decode cX4_countInRows 32 = .ok (.ireturn, 1) := by decide +kernel
theorem dX4_countStarted_0 : decode cX4_countStarted 0 = .ok (.iconst 0, 1) := by decide +kernel
theorem dX4_countStarted_1 : decode cX4_countStarted 1 = .ok (.istore_n 1, 1) := by decide +kernel
theorem dX4_countStarted_2 : decode cX4_countStarted 2 = .ok (.iconst 0, 1) := by decide +kernel
theorem dX4_countStarted_3 : decode cX4_countStarted 3 = .ok (.istore_n 2, 1) := by decide +kernel
theorem dX4_countStarted_4 : decode cX4_countStarted 4 = .ok (.iload_n 2, 1) := by decide +kernel
theorem dX4_countStarted_5 : decode cX4_countStarted 5 = .ok (.aload_n 0, 1) := by decide +kernel
theorem dX4_countStarted_6 : decode cX4_countStarted 6 = .ok (.getfield 37, 3) := by decide +kernel
theorem dX4_countStarted_9 : decode cX4_countStarted 9 = .ok (.if_icmp .ge 24, 3) := by decide +kernel
theorem dX4_countStarted_12 : decode cX4_countStarted 12 = .ok (.aload_n 0, 1) := by decide +kernel
theorem dX4_countStarted_13 : decode cX4_countStarted 13 = .ok (.getfield 33, 3) := by decide +kernel
theorem dX4_countStarted_16 : decode cX4_countStarted 16 = .ok (.iload_n 2, 1) := by decide +kernel
theorem dX4_countStarted_17 : decode cX4_countStarted 17 = .ok (.aaload, 1) := by decide +kernel
theorem dX4_countStarted_18 : decode cX4_countStarted 18 = .ok (.invokevirtual 100, 3) := by decide +kernel
theorem dX4_countStarted_21 : decode cX4_countStarted 21 = .ok (.ifCond .eq 6, 3) := by decide +kernel
theorem dX4_countStarted_24 : decode cX4_countStarted 24 = .ok (.iinc 1 1, 3) := by decide +kernel
theorem dX4_countStarted_27 : decode cX4_countStarted 27 = .ok (.iinc 2 1, 3) := by decide +kernel
theorem dX4_countStarted_30 : decode cX4_countStarted 30 = .ok (.goto (-26), 3) := by decide +kernel
theorem dX4_countStarted_33 : decode cX4_countStarted 33 = .ok (.iload_n 1, 1) := by decide +kernel
theorem dX4_countStarted_34 : decode cX4_countStarted 34 = .ok (.ireturn, 1) := by decide +kernel
theorem dX4_countDone_0 : decode cX4_countDone 0 = .ok (.iconst 0, 1) := by decide +kernel
theorem dX4_countDone_1 : decode cX4_countDone 1 = .ok (.istore_n 1, 1) := by decide +kernel
theorem dX4_countDone_2 : decode cX4_countDone 2 = .ok (.iconst 0, 1) := by decide +kernel
theorem dX4_countDone_3 : decode cX4_countDone 3 = .ok (.istore_n 2, 1) := by decide +kernel
theorem dX4_countDone_4 : decode cX4_countDone 4 = .ok (.iload_n 2, 1) := by decide +kernel
theorem dX4_countDone_5 : decode cX4_countDone 5 = .ok (.aload_n 0, 1) := by decide +kernel
theorem dX4_countDone_6 : decode cX4_countDone 6 = .ok (.getfield 37, 3) := by decide +kernel
theorem dX4_countDone_9 : decode cX4_countDone 9 = .ok (.if_icmp .ge 24, 3) := by decide +kernel
theorem dX4_countDone_12 : decode cX4_countDone 12 = .ok (.aload_n 0, 1) := by decide +kernel
theorem dX4_countDone_13 : decode cX4_countDone 13 = .ok (.getfield 33, 3) := by decide +kernel
theorem dX4_countDone_16 : decode cX4_countDone 16 = .ok (.iload_n 2, 1) := by decide +kernel
theorem dX4_countDone_17 : decode cX4_countDone 17 = .ok (.aaload, 1) := by decide +kernel
theorem dX4_countDone_18 : decode cX4_countDone 18 = .ok (.invokevirtual 114, 3) := by decide +kernel
theorem dX4_countDone_21 : decode cX4_countDone 21 = .ok (.ifCond .eq 6, 3) := by decide +kernel
theorem dX4_countDone_24 : decode cX4_countDone 24 = .ok (.iinc 1 1, 3) := by decide +kernel
theorem dX4_countDone_27 : decode cX4_countDone 27 = .ok (.iinc 2 1, 3) := by decide +kernel
theorem dX4_countDone_30 : decode cX4_countDone 30 = .ok (.goto (-26), 3) := by decide +kernel
theorem dX4_countDone_33 : decode cX4_countDone 33 = .ok (.iload_n 1, 1) := by decide +kernel
theorem dX4_countDone_34 : decode cX4_countDone 34 = .ok (.ireturn, 1) := by decide +kernel
theorem dX4_countOnRoad_0 : decode cX4_countOnRoad 0 = .ok (.iconst 0, 1) := by decide +kernel
theorem dX4_countOnRoad_1 : decode cX4_countOnRoad 1 = .ok (.istore_n 1, 1) := by decide +kernel
theorem dX4_countOnRoad_2 : decode cX4_countOnRoad 2 = .ok (.iconst 0, 1) := by decide +kernel
theorem dX4_countOnRoad_3 : decode cX4_countOnRoad 3 = .ok (.istore_n 2, 1) := by decide +kernel
theorem dX4_countOnRoad_4 : decode cX4_countOnRoad 4 = .ok (.iload_n 2, 1) := by decide +kernel
theorem dX4_countOnRoad_5 : decode cX4_countOnRoad 5 = .ok (.aload_n 0, 1) := by decide +kernel
theorem dX4_countOnRoad_6 : decode cX4_countOnRoad 6 = .ok (.getfield 37, 3) := by decide +kernel
theorem dX4_countOnRoad_9 : decode cX4_countOnRoad 9 = .ok (.if_icmp .ge 21, 3) := by decide +kernel
theorem dX4_countOnRoad_12 : decode cX4_countOnRoad 12 = .ok (.iload_n 1, 1) := by decide +kernel
theorem dX4_countOnRoad_13 : decode cX4_countOnRoad 13 = .ok (.aload_n 0, 1) := by decide +kernel
theorem dX4_countOnRoad_14 : decode cX4_countOnRoad 14 = .ok (.getfield 33, 3) := by decide +kernel
theorem dX4_countOnRoad_17 : decode cX4_countOnRoad 17 = .ok (.iload_n 2, 1) := by decide +kernel
theorem dX4_countOnRoad_18 : decode cX4_countOnRoad 18 = .ok (.aaload, 1) := by decide +kernel
theorem dX4_countOnRoad_19 : decode cX4_countOnRoad 19 = .ok (.invokevirtual 164, 3) := by decide +kernel
theorem dX4_countOnRoad_22 : decode cX4_countOnRoad 22 = .ok (.iadd, 1) := by decide +kernel
theorem dX4_countOnRoad_23 : decode cX4_countOnRoad 23 = .ok (.istore_n 1, 1) := by decide +kernel
theorem dX4_countOnRoad_24 : decode cX4_countOnRoad 24 = .ok (.iinc 2 1, 3) := by decide +kernel
theorem dX4_countOnRoad_27 : decode cX4_countOnRoad 27 = .ok (.goto (-23), 3) := by decide +kernel
theorem dX4_countOnRoad_30 : decode cX4_countOnRoad 30 = .ok (.iload_n 1, 1) := by decide +kernel
theorem dX4_countOnRoad_31 : decode cX4_countOnRoad 31 = .ok (.ireturn, 1) := by decide +kernel
theorem dX4_countArrived_0 : decode cX4_countArrived 0 = .ok (.iconst 0, 1) := by decide +kernel
theorem dX4_countArrived_1 : decode cX4_countArrived 1 = .ok (.istore_n 1, 1) := by decide +kernel
theorem dX4_countArrived_2 : decode cX4_countArrived 2 = .ok (.iconst 0, 1) := by decide +kernel
theorem dX4_countArrived_3 : decode cX4_countArrived 3 = .ok (.istore_n 2, 1) := by decide +kernel
theorem dX4_countArrived_4 : decode cX4_countArrived 4 = .ok (.iload_n 2, 1) := by decide +kernel
theorem dX4_countArrived_5 : decode cX4_countArrived 5 = .ok (.aload_n 0, 1) := by decide +kernel
theorem dX4_countArrived_6 : decode cX4_countArrived 6 = .ok (.getfield 37, 3) := by decide +kernel
theorem dX4_countArrived_9 : decode cX4_countArrived 9 = .ok (.if_icmp .ge 21, 3) := by decide +kernel
theorem dX4_countArrived_12 : decode cX4_countArrived 12 = .ok (.iload_n 1, 1) := by decide +kernel
theorem dX4_countArrived_13 : decode cX4_countArrived 13 = .ok (.aload_n 0, 1) := by decide +kernel
theorem dX4_countArrived_14 : decode cX4_countArrived 14 = .ok (.getfield 33, 3) := by decide +kernel
theorem dX4_countArrived_17 : decode cX4_countArrived 17 = .ok (.iload_n 2, 1) := by decide +kernel
theorem dX4_countArrived_18 : decode cX4_countArrived 18 = .ok (.aaload, 1) := by decide +kernel
theorem dX4_countArrived_19 : decode cX4_countArrived 19 = .ok (.invokevirtual 168, 3) := by decide +kernel
theorem dX4_countArrived_22 : decode cX4_countArrived 22 = .ok (.iadd, 1) := by decide +kernel
theorem dX4_countArrived_23 : decode cX4_countArrived 23 = .ok (.istore_n 1, 1) := by decide +kernel
theorem dX4_countArrived_24 : decode cX4_countArrived 24 = .ok (.iinc 2 1, 3) := by decide +kernel
theorem dX4_countArrived_27 : decode cX4_countArrived 27 = .ok (.goto (-23), 3) := by decide +kernel
theorem dX4_countArrived_30 : decode cX4_countArrived 30 = .ok (.iload_n 1, 1) := by decide +kernel
theorem dX4_countArrived_31 : decode cX4_countArrived 31 = .ok (.ireturn, 1) := by decide +kernel
theorem dX4_tonnesInRows_0 : decode cX4_tonnesInRows 0 = .ok (.iconst 0, 1) := by decide +kernel
theorem dX4_tonnesInRows_1 : decode cX4_tonnesInRows 1 = .ok (.istore_n 1, 1) := by decide +kernel
theorem dX4_tonnesInRows_2 : decode cX4_tonnesInRows 2 = .ok (.iconst 0, 1) := by decide +kernel
theorem dX4_tonnesInRows_3 : decode cX4_tonnesInRows 3 = .ok (.istore_n 2, 1) := by decide +kernel
theorem dX4_tonnesInRows_4 : decode cX4_tonnesInRows 4 = .ok (.iload_n 2, 1) := by decide +kernel
theorem dX4_tonnesInRows_5 : decode cX4_tonnesInRows 5 = .ok (.aload_n 0, 1) := by decide +kernel
theorem dX4_tonnesInRows_6 : decode cX4_tonnesInRows 6 = .ok (.getfield 27, 3) := by decide +kernel
theorem dX4_tonnesInRows_9 : decode cX4_tonnesInRows 9 = .ok (.arraylength, 1) := by decide +kernel
theorem dX4_tonnesInRows_10 : decode cX4_tonnesInRows 10 = .ok (.if_icmp .ge 27, 3) := by decide +kernel
theorem dX4_tonnesInRows_13 : decode cX4_tonnesInRows 13 = .ok (.aload_n 0, 1) := by decide +kernel
theorem dX4_tonnesInRows_14 : decode cX4_tonnesInRows 14 = .ok (.getfield 27, 3) := by decide +kernel
theorem dX4_tonnesInRows_17 : decode cX4_tonnesInRows 17 = .ok (.iload_n 2, 1) := by decide +kernel
theorem dX4_tonnesInRows_18 : decode cX4_tonnesInRows 18 = .ok (.aaload, 1) := by decide +kernel
theorem dX4_tonnesInRows_19 : decode cX4_tonnesInRows 19 = .ok (.astore_n 3, 1) := by decide +kernel
theorem dX4_tonnesInRows_20 : decode cX4_tonnesInRows 20 = .ok (.aload_n 3, 1) := by decide +kernel
theorem dX4_tonnesInRows_21 : decode cX4_tonnesInRows 21 = .ok (.ifnull 10, 3) := by decide +kernel
theorem dX4_tonnesInRows_24 : decode cX4_tonnesInRows 24 = .ok (.iload_n 1, 1) := by decide +kernel
theorem dX4_tonnesInRows_25 : decode cX4_tonnesInRows 25 = .ok (.aload_n 3, 1) := by decide +kernel
theorem dX4_tonnesInRows_26 : decode cX4_tonnesInRows 26 = .ok (.getfield 145, 3) := by decide +kernel
theorem dX4_tonnesInRows_29 : decode cX4_tonnesInRows 29 = .ok (.iadd, 1) := by decide +kernel
theorem dX4_tonnesInRows_30 : decode cX4_tonnesInRows 30 = .ok (.istore_n 1, 1) := by decide +kernel
theorem dX4_tonnesInRows_31 : decode cX4_tonnesInRows 31 = .ok (.iinc 2 1, 3) := by decide +kernel
theorem dX4_tonnesInRows_34 : decode cX4_tonnesInRows 34 = .ok (.goto (-30), 3) := by decide +kernel
theorem dX4_tonnesInRows_37 : decode cX4_tonnesInRows 37 = .ok (.iload_n 1, 1) := by decide +kernel
theorem dX4_tonnesInRows_38 : decode cX4_tonnesInRows 38 = .ok (.ireturn, 1) := by decide +kernel
theorem dX4_tonnesUnderWay_0 : decode cX4_tonnesUnderWay 0 = .ok (.iconst 0, 1) := by decide +kernel
theorem dX4_tonnesUnderWay_1 : decode cX4_tonnesUnderWay 1 = .ok (.istore_n 1, 1) := by decide +kernel
theorem dX4_tonnesUnderWay_2 : decode cX4_tonnesUnderWay 2 = .ok (.iconst 0, 1) := by decide +kernel
theorem dX4_tonnesUnderWay_3 : decode cX4_tonnesUnderWay 3 = .ok (.istore_n 2, 1) := by decide +kernel
theorem dX4_tonnesUnderWay_4 : decode cX4_tonnesUnderWay 4 = .ok (.iload_n 2, 1) := by decide +kernel
theorem dX4_tonnesUnderWay_5 : decode cX4_tonnesUnderWay 5 = .ok (.aload_n 0, 1) := by decide +kernel
theorem dX4_tonnesUnderWay_6 : decode cX4_tonnesUnderWay 6 = .ok (.getfield 37, 3) := by decide +kernel
theorem dX4_tonnesUnderWay_9 : decode cX4_tonnesUnderWay 9 = .ok (.if_icmp .ge 21, 3) := by decide +kernel
theorem dX4_tonnesUnderWay_12 : decode cX4_tonnesUnderWay 12 = .ok (.iload_n 1, 1) := by decide +kernel
theorem dX4_tonnesUnderWay_13 : decode cX4_tonnesUnderWay 13 = .ok (.aload_n 0, 1) := by decide +kernel
theorem dX4_tonnesUnderWay_14 : decode cX4_tonnesUnderWay 14 = .ok (.getfield 33, 3) := by decide +kernel
theorem dX4_tonnesUnderWay_17 : decode cX4_tonnesUnderWay 17 = .ok (.iload_n 2, 1) := by decide +kernel
theorem dX4_tonnesUnderWay_18 : decode cX4_tonnesUnderWay 18 = .ok (.aaload, 1) := by decide +kernel
theorem dX4_tonnesUnderWay_19 : decode cX4_tonnesUnderWay 19 = .ok (.invokevirtual 171, 3) := by decide +kernel
theorem dX4_tonnesUnderWay_22 : decode cX4_tonnesUnderWay 22 = .ok (.iadd, 1) := by decide +kernel
theorem dX4_tonnesUnderWay_23 : decode cX4_tonnesUnderWay 23 = .ok (.istore_n 1, 1) := by decide +kernel
theorem dX4_tonnesUnderWay_24 : decode cX4_tonnesUnderWay 24 = .ok (.iinc 2 1, 3) := by decide +kernel
theorem dX4_tonnesUnderWay_27 : decode cX4_tonnesUnderWay 27 = .ok (.goto (-23), 3) := by decide +kernel
theorem dX4_tonnesUnderWay_30 : decode cX4_tonnesUnderWay 30 = .ok (.iload_n 1, 1) := by decide +kernel
theorem dX4_tonnesUnderWay_31 : decode cX4_tonnesUnderWay 31 = .ok (.ireturn, 1) := by decide +kernel
theorem dX4_hasOneTruckAMile_0 : decode cX4_hasOneTruckAMile 0 = .ok (.iconst 0, 1) := by decide +kernel
theorem dX4_hasOneTruckAMile_1 : decode cX4_hasOneTruckAMile 1 = .ok (.istore_n 1, 1) := by decide +kernel
theorem dX4_hasOneTruckAMile_2 : decode cX4_hasOneTruckAMile 2 = .ok (.iconst 0, 1) := by decide +kernel
theorem dX4_hasOneTruckAMile_3 : decode cX4_hasOneTruckAMile 3 = .ok (.istore_n 2, 1) := by decide +kernel
theorem dX4_hasOneTruckAMile_4 : decode cX4_hasOneTruckAMile 4 = .ok (.iload_n 2, 1) := by decide +kernel
theorem dX4_hasOneTruckAMile_5 : decode cX4_hasOneTruckAMile 5 = .ok (.aload_n 0, 1) := by decide +kernel
theorem dX4_hasOneTruckAMile_6 : decode cX4_hasOneTruckAMile 6 = .ok (.getfield 37, 3) := by decide +kernel
theorem dX4_hasOneTruckAMile_9 : decode cX4_hasOneTruckAMile 9 = .ok (.if_icmp .ge 68, 3) := by decide +kernel
theorem dX4_hasOneTruckAMile_12 : decode cX4_hasOneTruckAMile 12 = .ok (.iconst 0, 1) := by decide +kernel
theorem dX4_hasOneTruckAMile_13 : decode cX4_hasOneTruckAMile 13 = .ok (.istore_n 3, 1) := by decide +kernel
theorem dX4_hasOneTruckAMile_14 : decode cX4_hasOneTruckAMile 14 = .ok (.iload_n 3, 1) := by decide +kernel
theorem dX4_hasOneTruckAMile_15 : decode cX4_hasOneTruckAMile 15 = .ok (.aload_n 0, 1) := by decide +kernel
theorem dX4_hasOneTruckAMile_16 : decode cX4_hasOneTruckAMile 16 = .ok (.getfield 33, 3) := by decide +kernel
theorem dX4_hasOneTruckAMile_19 : decode cX4_hasOneTruckAMile 19 = .ok (.iload_n 2, 1) := by decide +kernel
theorem dX4_hasOneTruckAMile_20 : decode cX4_hasOneTruckAMile 20 = .ok (.aaload, 1) := by decide +kernel
theorem dX4_hasOneTruckAMile_21 : decode cX4_hasOneTruckAMile 21 = .ok (.getfield 108, 3) := by decide +kernel
theorem dX4_hasOneTruckAMile_24 : decode cX4_hasOneTruckAMile 24 = .ok (.if_icmp .ge 47, 3) := by decide +kernel
theorem dX4_hasOneTruckAMile_27 : decode cX4_hasOneTruckAMile 27 = .ok (.aload_n 0, 1) := by decide +kernel
theorem dX4_hasOneTruckAMile_28 : decode cX4_hasOneTruckAMile 28 = .ok (.getfield 33, 3) := by decide +kernel
theorem dX4_hasOneTruckAMile_31 : decode cX4_hasOneTruckAMile 31 = .ok (.iload_n 2, 1) := by decide +kernel
theorem dX4_hasOneTruckAMile_32 : decode cX4_hasOneTruckAMile 32 = .ok (.aaload, 1) := by decide +kernel
theorem dX4_hasOneTruckAMile_33 : decode cX4_hasOneTruckAMile 33 = .ok (.iload_n 3, 1) := by decide +kernel
theorem dX4_hasOneTruckAMile_34 : decode cX4_hasOneTruckAMile 34 = .ok (.invokevirtual 138, 3) := by decide +kernel
theorem dX4_hasOneTruckAMile_37 : decode cX4_hasOneTruckAMile 37 = .ok (.istore 4, 2) := by decide +kernel
theorem dX4_hasOneTruckAMile_39 : decode cX4_hasOneTruckAMile 39 = .ok (.iload 4, 2) := by decide +kernel
theorem dX4_hasOneTruckAMile_41 : decode cX4_hasOneTruckAMile 41 = .ok (.invokestatic 123, 3) := by decide +kernel
theorem dX4_hasOneTruckAMile_44 : decode cX4_hasOneTruckAMile 44 = .ok (.ifCond .eq 21, 3) := by decide +kernel
theorem dX4_hasOneTruckAMile_47 : decode cX4_hasOneTruckAMile 47 = .ok (.iload_n 1, 1) := by decide +kernel
theorem dX4_hasOneTruckAMile_48 : decode cX4_hasOneTruckAMile 48 = .ok (.iconst 1, 1) := by decide +kernel
theorem dX4_hasOneTruckAMile_49 : decode cX4_hasOneTruckAMile 49 = .ok (.iload 4, 2) := by decide +kernel
theorem dX4_hasOneTruckAMile_51 : decode cX4_hasOneTruckAMile 51 = .ok (.ishl, 1) := by decide +kernel
theorem dX4_hasOneTruckAMile_52 : decode cX4_hasOneTruckAMile 52 = .ok (.iand, 1) := by decide +kernel
theorem dX4_hasOneTruckAMile_53 : decode cX4_hasOneTruckAMile 53 = .ok (.ifCond .eq 5, 3) := by decide +kernel
theorem dX4_hasOneTruckAMile_56 : decode cX4_hasOneTruckAMile 56 = .ok (.iconst 0, 1) := by decide +kernel
theorem dX4_hasOneTruckAMile_57 : decode cX4_hasOneTruckAMile 57 = .ok (.ireturn, 1) := by decide +kernel
theorem dX4_hasOneTruckAMile_58 : decode cX4_hasOneTruckAMile 58 = .ok (.iload_n 1, 1) := by decide +kernel
theorem dX4_hasOneTruckAMile_59 : decode cX4_hasOneTruckAMile 59 = .ok (.iconst 1, 1) := by decide +kernel
theorem dX4_hasOneTruckAMile_60 : decode cX4_hasOneTruckAMile 60 = .ok (.iload 4, 2) := by decide +kernel
theorem dX4_hasOneTruckAMile_62 : decode cX4_hasOneTruckAMile 62 = .ok (.ishl, 1) := by decide +kernel
theorem dX4_hasOneTruckAMile_63 : decode cX4_hasOneTruckAMile 63 = .ok (.ior, 1) := by decide +kernel
theorem dX4_hasOneTruckAMile_64 : decode cX4_hasOneTruckAMile 64 = .ok (.istore_n 1, 1) := by decide +kernel
theorem dX4_hasOneTruckAMile_65 : decode cX4_hasOneTruckAMile 65 = .ok (.iinc 3 1, 3) := by decide +kernel
theorem dX4_hasOneTruckAMile_68 : decode cX4_hasOneTruckAMile 68 = .ok (.goto (-54), 3) := by decide +kernel
theorem dX4_hasOneTruckAMile_71 : decode cX4_hasOneTruckAMile 71 = .ok (.iinc 2 1, 3) := by decide +kernel
theorem dX4_hasOneTruckAMile_74 : decode cX4_hasOneTruckAMile 74 = .ok (.goto (-70), 3) := by decide +kernel
theorem dX4_hasOneTruckAMile_77 : decode cX4_hasOneTruckAMile 77 = .ok (.iconst 1, 1) := by decide +kernel
theorem dX4_hasOneTruckAMile_78 : decode cX4_hasOneTruckAMile 78 = .ok (.ireturn, 1) := by decide +kernel
theorem dX4_isIceInRange_0 : decode cX4_isIceInRange 0 = .ok (.iconst 0, 1) := by decide +kernel
theorem dX4_isIceInRange_1 : decode cX4_isIceInRange 1 = .ok (.istore_n 1, 1) := by decide +kernel
theorem dX4_isIceInRange_2 : decode cX4_isIceInRange 2 = .ok (.iload_n 1, 1) := by decide +kernel
theorem dX4_isIceInRange_3 : decode cX4_isIceInRange 3 = .ok (.bipush 12, 2) := by decide +kernel
theorem dX4_isIceInRange_5 : decode cX4_isIceInRange 5 = .ok (.if_icmp .ge 40, 3) := by decide +kernel
theorem dX4_isIceInRange_8 : decode cX4_isIceInRange 8 = .ok (.aload_n 0, 1) := by decide +kernel
theorem dX4_isIceInRange_9 : decode cX4_isIceInRange 9 = .ok (.getfield 21, 3) := by decide +kernel
theorem dX4_isIceInRange_12 : decode cX4_isIceInRange 12 = .ok (.iload_n 1, 1) := by decide +kernel
theorem dX4_isIceInRange_13 : decode cX4_isIceInRange 13 = .ok (.aaload, 1) := by decide +kernel
theorem dX4_isIceInRange_14 : decode cX4_isIceInRange 14 = .ok (.getfield 65, 3) := by decide +kernel
theorem dX4_isIceInRange_17 : decode cX4_isIceInRange 17 = .ok (.fconst 0, 1) := by decide +kernel
theorem dX4_isIceInRange_18 : decode cX4_isIceInRange 18 = .ok (.fcmp .g, 1) := by decide +kernel
theorem dX4_isIceInRange_19 : decode cX4_isIceInRange 19 = .ok (.ifCond .lt 18, 3) := by decide +kernel
theorem dX4_isIceInRange_22 : decode cX4_isIceInRange 22 = .ok (.aload_n 0, 1) := by decide +kernel
theorem dX4_isIceInRange_23 : decode cX4_isIceInRange 23 = .ok (.getfield 21, 3) := by decide +kernel
theorem dX4_isIceInRange_26 : decode cX4_isIceInRange 26 = .ok (.iload_n 1, 1) := by decide +kernel
theorem dX4_isIceInRange_27 : decode cX4_isIceInRange 27 = .ok (.aaload, 1) := by decide +kernel
theorem dX4_isIceInRange_28 : decode cX4_isIceInRange 28 = .ok (.getfield 65, 3) := by decide +kernel
theorem dX4_isIceInRange_31 : decode cX4_isIceInRange 31 = .ok (.ldc 174, 2) := by decide +kernel
theorem dX4_isIceInRange_33 : decode cX4_isIceInRange 33 = .ok (.fcmp .l, 1) := by decide +kernel
theorem dX4_isIceInRange_34 : decode cX4_isIceInRange 34 = .ok (.ifCond .le 5, 3) := by decide +kernel
theorem dX4_isIceInRange_37 : decode cX4_isIceInRange 37 = .ok (.iconst 0, 1) := by decide +kernel
theorem dX4_isIceInRange_38 : decode cX4_isIceInRange 38 = .ok (.ireturn, 1) := by decide +kernel
theorem dX4_isIceInRange_39 : decode cX4_isIceInRange 39 = .ok (.iinc 1 1, 3) := by decide +kernel
theorem dX4_isIceInRange_42 : decode cX4_isIceInRange 42 = .ok (.goto (-40), 3) := by decide +kernel
theorem dX4_isIceInRange_45 : decode cX4_isIceInRange 45 = .ok (.iconst 1, 1) := by decide +kernel
theorem dX4_isIceInRange_46 : decode cX4_isIceInRange 46 = .ok (.ireturn, 1) := by decide +kernel
theorem dX5_init_0 : decode cX5_init 0 = .ok (.aload_n 0, 1) := by decide +kernel
theorem dX5_init_1 : decode cX5_init 1 = .ok (.invokespecial 1, 3) := by decide +kernel
theorem dX5_init_4 : decode cX5_init 4 = .ok (.aload_n 0, 1) := by decide +kernel
theorem dX5_init_5 : decode cX5_init 5 = .ok (.iload_n 1, 1) := by decide +kernel
theorem dX5_init_6 : decode cX5_init 6 = .ok (.putfield 7, 3) := by decide +kernel
theorem dX5_init_9 : decode cX5_init 9 = .ok (.aload_n 0, 1) := by decide +kernel
theorem dX5_init_10 : decode cX5_init 10 = .ok (.iload_n 2, 1) := by decide +kernel
theorem dX5_init_11 : decode cX5_init 11 = .ok (.putfield 13, 3) := by decide +kernel
theorem dX5_init_14 : decode cX5_init 14 = .ok (.aload_n 0, 1) := by decide +kernel
theorem dX5_init_15 : decode cX5_init 15 = .ok (.iload_n 3, 1) := by decide +kernel
theorem dX5_init_16 : decode cX5_init 16 = .ok (.putfield 16, 3) := by decide +kernel
theorem dX5_init_19 : decode cX5_init 19 = .ok (.return_, 1) := by decide +kernel
theorem dX5_burden_0 : decode cX5_burden 0 = .ok (.aload_n 0, 1) := by decide +kernel
theorem dX5_burden_1 : decode cX5_burden 1 = .ok (.getfield 7, 3) := by decide +kernel
theorem dX5_burden_4 : decode cX5_burden 4 = .ok (.ifCond .ne 11, 3) := by decide +kernel
theorem dX5_burden_7 : decode cX5_burden 7 = .ok (.aload_n 0, 1) := by decide +kernel
theorem dX5_burden_8 : decode cX5_burden 8 = .ok (.getfield 13, 3) := by decide +kernel
theorem dX5_burden_11 : decode cX5_burden 11 = .ok (.i2f, 1) := by decide +kernel
theorem dX5_burden_12 : decode cX5_burden 12 = .ok (.goto 17, 3) := by decide +kernel
theorem dX5_burden_15 : decode cX5_burden 15 = .ok (.aload_n 0, 1) := by decide +kernel
theorem dX5_burden_16 : decode cX5_burden 16 = .ok (.getfield 13, 3) := by decide +kernel
theorem dX5_burden_19 : decode cX5_burden 19 = .ok (.i2f, 1) := by decide +kernel
theorem dX5_burden_20 : decode cX5_burden 20 = .ok (.ldc 19, 2) := by decide +kernel
theorem dX5_burden_22 : decode cX5_burden 22 = .ok (.aload_n 0, 1) := by decide +kernel
theorem dX5_burden_23 : decode cX5_burden 23 = .ok (.getfield 16, 3) := by decide +kernel
theorem dX5_burden_26 : decode cX5_burden 26 = .ok (.i2f, 1) := by decide +kernel
theorem dX5_burden_27 : decode cX5_burden 27 = .ok (.fmul, 1) := by decide +kernel
theorem dX5_burden_28 : decode cX5_burden 28 = .ok (.fadd, 1) := by decide +kernel
theorem dX5_burden_29 : decode cX5_burden 29 = .ok (.freturn, 1) := by decide +kernel
theorem dX5_strainOnIce_0 : decode cX5_strainOnIce 0 = .ok (.aload_n 0, 1) := by decide +kernel
theorem dX5_strainOnIce_1 : decode cX5_strainOnIce 1 = .ok (.getfield 13, 3) := by decide +kernel
theorem dX5_strainOnIce_4 : decode cX5_strainOnIce 4 = .ok (.bipush 10, 2) := by decide +kernel
theorem dX5_strainOnIce_6 : decode cX5_strainOnIce 6 = .ok (.idiv, 1) := by decide +kernel
theorem dX5_strainOnIce_7 : decode cX5_strainOnIce 7 = .ok (.iconst 1, 1) := by decide +kernel
theorem dX5_strainOnIce_8 : decode cX5_strainOnIce 8 = .ok (.iadd, 1) := by decide +kernel
theorem dX5_strainOnIce_9 : decode cX5_strainOnIce 9 = .ok (.ireturn, 1) := by decide +kernel
theorem dX6_init_0 : decode cX6_init 0 = .ok (.aload_n 0, 1) := by decide +kernel
theorem dX6_init_1 : decode cX6_init 1 = .ok (.invokespecial 3, 3) := by decide +kernel
theorem dX6_init_4 : decode cX6_init 4 = .ok (.aload_n 0, 1) := by decide +kernel
theorem dX6_init_5 : decode cX6_init 5 = .ok (.new 9, 3) := by decide +kernel
theorem dX6_init_8 : decode cX6_init 8 = .ok (.dup, 1) := by decide +kernel
theorem dX6_init_9 : decode cX6_init 9 = .ok (.invokespecial 11, 3) := by decide +kernel
theorem dX6_init_12 : decode cX6_init 12 = .ok (.putfield 12, 3) := by decide +kernel
theorem dX6_init_15 : decode cX6_init 15 = .ok (.aload_n 0, 1) := by decide +kernel
theorem dX6_init_16 : decode cX6_init 16 = .ok (.new 9, 3) := by decide +kernel
theorem dX6_init_19 : decode cX6_init 19 = .ok (.dup, 1) := by decide +kernel
theorem dX6_init_20 : decode cX6_init 20 = .ok (.invokespecial 11, 3) := by decide +kernel
theorem dX6_init_23 : decode cX6_init 23 = .ok (.putfield 16, 3) := by decide +kernel
theorem dX6_init_26 : decode cX6_init 26 = .ok (.aload_n 0, 1) := by decide +kernel
theorem dX6_init_27 : decode cX6_init 27 = .ok (.new 9, 3) := by decide +kernel
theorem dX6_init_30 : decode cX6_init 30 = .ok (.dup, 1) := by decide +kernel
theorem dX6_init_31 : decode cX6_init 31 = .ok (.invokespecial 11, 3) := by decide +kernel
theorem dX6_init_34 : decode cX6_init 34 = .ok (.putfield 19, 3) := by decide +kernel
theorem dX6_init_37 : decode cX6_init 37 = .ok (.aload_n 0, 1) := by decide +kernel
theorem dX6_init_38 : decode cX6_init 38 = .ok (.iconst 0, 1) := by decide +kernel
theorem dX6_init_39 : decode cX6_init 39 = .ok (.putfield 22, 3) := by decide +kernel
theorem dX6_init_42 : decode cX6_init 42 = .ok (.aload_n 0, 1) := by decide +kernel
theorem dX6_init_43 : decode cX6_init 43 = .ok (.new 26, 3) := by decide +kernel
theorem dX6_init_46 : decode cX6_init 46 = .ok (.dup, 1) := by decide +kernel
theorem dX6_init_47 : decode cX6_init 47 = .ok (.invokespecial 28, 3) := by decide +kernel
theorem dX6_init_50 : decode cX6_init 50 = .ok (.putfield 29, 3) := by decide +kernel
theorem dX6_init_53 : decode cX6_init 53 = .ok (.aload_n 0, 1) := by decide +kernel
theorem dX6_init_54 : decode cX6_init 54 = .ok (.new 33, 3) := by decide +kernel
theorem dX6_init_57 : decode cX6_init 57 = .ok (.dup, 1) := by decide +kernel
theorem dX6_init_58 : decode cX6_init 58 = .ok (.invokespecial 35, 3) := by decide +kernel
theorem dX6_init_61 : decode cX6_init 61 = .ok (.putfield 36, 3) := by decide +kernel
theorem dX6_init_64 : decode cX6_init 64 = .ok (.aload_n 0, 1) := by decide +kernel
theorem dX6_init_65 : decode cX6_init 65 = .ok (.iconst (-1), 1) := by decide +kernel
theorem dX6_init_66 : decode cX6_init 66 = .ok (.putfield 40, 3) := by decide +kernel
theorem dX6_init_69 : decode cX6_init 69 = .ok (.aload_n 0, 1) := by decide +kernel
theorem dX6_init_70 : decode cX6_init 70 = .ok (.iconst 0, 1) := by decide +kernel
theorem dX6_init_71 : decode cX6_init 71 = .ok (.putfield 44, 3) := by decide +kernel
theorem dX6_init_74 : decode cX6_init 74 = .ok (.return_, 1) := by decide +kernel
theorem dX6_set_0 : decode cX6_set 0 = .ok (.iload_n 1, 1) := by decide +kernel
theorem dX6_set_1 : decode cX6_set 1 = .ok (.iload_n 2, 1) := by decide +kernel
theorem dX6_set_2 : decode cX6_set 2 = .ok (.invokestatic 47, 3) := by decide +kernel
theorem dX6_set_5 : decode cX6_set 5 = .ok (.ifCond .ne 13, 3) := by decide +kernel
theorem dX6_set_8 : decode cX6_set 8 = .ok (.new 51, 3) := by decide +kernel
theorem dX6_set_11 : decode cX6_set 11 = .ok (.dup, 1) := by decide +kernel
theorem dX6_set_12 : decode cX6_set 12 = .ok (.ldc 53, 2) := by decide +kernel
theorem dX6_set_14 : decode cX6_set 14 = .ok (.invokespecial 55, 3) := by decide +kernel
theorem dX6_set_17 : decode cX6_set 17 = .ok (.athrow, 1) := by decide +kernel
theorem dX6_set_18 : decode cX6_set 18 = .ok (.aload_n 0, 1) := by decide +kernel
theorem dX6_set_19 : decode cX6_set 19 = .ok (.getfield 29, 3) := by decide +kernel
theorem dX6_set_22 : decode cX6_set 22 = .ok (.aload_n 0, 1) := by decide +kernel
theorem dX6_set_23 : decode cX6_set 23 = .ok (.getfield 12, 3) := by decide +kernel
theorem dX6_set_26 : decode cX6_set 26 = .ok (.invokevirtual 58, 3) := by decide +kernel
theorem dX6_set_29 : decode cX6_set 29 = .ok (.aload_n 0, 1) := by decide +kernel
theorem dX6_set_30 : decode cX6_set 30 = .ok (.getfield 12, 3) := by decide +kernel
theorem dX6_set_33 : decode cX6_set 33 = .ok (.getfield 62, 3) := by decide +kernel
theorem dX6_set_36 : decode cX6_set 36 = .ok (.iload_n 1, 1) := by decide +kernel
theorem dX6_set_37 : decode cX6_set 37 = .ok (.iaload, 1) := by decide +kernel
theorem dX6_set_38 : decode cX6_set 38 = .ok (.istore_n 3, 1) := by decide +kernel
theorem dX6_set_39 : decode cX6_set 39 = .ok (.aload_n 0, 1) := by decide +kernel
theorem dX6_set_40 : decode cX6_set 40 = .ok (.getfield 12, 3) := by decide +kernel
theorem dX6_set_43 : decode cX6_set 43 = .ok (.getfield 62, 3) := by decide +kernel
theorem dX6_set_46 : decode cX6_set 46 = .ok (.iload_n 1, 1) := by decide +kernel
theorem dX6_set_47 : decode cX6_set 47 = .ok (.iload_n 2, 1) := by decide +kernel
theorem dX6_set_48 : decode cX6_set 48 = .ok (.iastore, 1) := by decide +kernel
theorem dX6_set_49 : decode cX6_set 49 = .ok (.iload_n 3, 1) := by decide +kernel
theorem dX6_set_50 : decode cX6_set 50 = .ok (.ireturn, 1) := by decide +kernel
theorem dX6_setting_0 : decode cX6_setting 0 = .ok (.iload_n 1, 1) := by decide +kernel
theorem dX6_setting_1 : decode cX6_setting 1 = .ok (.invokestatic 66, 3) := by decide +kernel
theorem dX6_setting_4 : decode cX6_setting 4 = .ok (.ifCond .ne 13, 3) := by decide +kernel
theorem dX6_setting_7 : decode cX6_setting 7 = .ok (.new 51, 3) := by decide +kernel
theorem dX6_setting_10 : decode cX6_setting 10 = .ok (.dup, 1) := by decide +kernel
theorem dX6_setting_11 : decode cX6_setting 11 = .ok (.ldc 70, 2) := by decide +kernel
theorem dX6_setting_13 : decode cX6_setting 13 = .ok (.invokespecial 55, 3) := by decide +kernel
theorem dX6_setting_16 : decode cX6_setting 16 = .ok (.athrow, 1) := by decide +kernel
theorem dX6_setting_17 : decode cX6_setting 17 = .ok (.aload_n 0, 1) := by decide +kernel
theorem dX6_setting_18 : decode cX6_setting 18 = .ok (.getfield 12, 3) := by decide +kernel
theorem dX6_setting_21 : decode cX6_setting 21 = .ok (.getfield 62, 3) := by decide +kernel
theorem dX6_setting_24 : decode cX6_setting 24 = .ok (.iload_n 1, 1) := by decide +kernel
theorem dX6_setting_25 : decode cX6_setting 25 = .ok (.iaload, 1) := by decide +kernel
theorem dX6_setting_26 : decode cX6_setting 26 = .ok (.ireturn, 1) := by decide +kernel
theorem dX6_drill_0 : decode cX6_drill 0 = .ok (.iload_n 1, 1) := by decide +kernel
theorem dX6_drill_1 : decode cX6_drill 1 = .ok (.invokestatic 72, 3) := by decide +kernel
theorem dX6_drill_4 : decode cX6_drill 4 = .ok (.ifCond .ne 13, 3) := by decide +kernel
theorem dX6_drill_7 : decode cX6_drill 7 = .ok (.new 75, 3) := by decide +kernel
theorem dX6_drill_10 : decode cX6_drill 10 = .ok (.dup, 1) := by decide +kernel
theorem dX6_drill_11 : decode cX6_drill 11 = .ok (.ldc 77, 2) := by decide +kernel
theorem dX6_drill_13 : decode cX6_drill 13 = .ok (.invokespecial 79, 3) := by decide +kernel
theorem dX6_drill_16 : decode cX6_drill 16 = .ok (.athrow, 1) := by decide +kernel
theorem dX6_drill_17 : decode cX6_drill 17 = .ok (.aload_n 0, 1) := by decide +kernel
theorem dX6_drill_18 : decode cX6_drill 18 = .ok (.getfield 29, 3) := by decide +kernel
theorem dX6_drill_21 : decode cX6_drill 21 = .ok (.aload_n 0, 1) := by decide +kernel
theorem dX6_drill_22 : decode cX6_drill 22 = .ok (.getfield 12, 3) := by decide +kernel
theorem dX6_drill_25 : decode cX6_drill 25 = .ok (.invokevirtual 58, 3) := by decide +kernel
theorem dX6_drill_28 : decode cX6_drill 28 = .ok (.aload_n 0, 1) := by decide +kernel
theorem dX6_drill_29 : decode cX6_drill 29 = .ok (.getfield 12, 3) := by decide +kernel
theorem dX6_drill_32 : decode cX6_drill 32 = .ok (.aload_n 0, 1) := by decide +kernel
theorem dX6_drill_33 : decode cX6_drill 33 = .ok (.getfield 12, 3) := by decide +kernel
theorem dX6_drill_36 : decode cX6_drill 36 = .ok (.getfield 80, 3) := by decide +kernel
theorem dX6_drill_39 : decode cX6_drill 39 = .ok (.iload_n 1, 1) := by decide +kernel
theorem dX6_drill_40 : decode cX6_drill 40 = .ok (.aaload, 1) := by decide +kernel
theorem dX6_drill_41 : decode cX6_drill 41 = .ok (.invokevirtual 84, 3) := by decide +kernel
theorem dX6_drill_44 : decode cX6_drill 44 = .ok (.aload_n 0, 1) := by decide +kernel
theorem dX6_drill_45 : decode cX6_drill 45 = .ok (.getfield 12, 3) := by decide +kernel
theorem dX6_drill_48 : decode cX6_drill 48 = .ok (.getfield 80, 3) := by decide +kernel
theorem dX6_drill_51 : decode cX6_drill 51 = .ok (.iload_n 1, 1) := by decide +kernel
theorem dX6_drill_52 : decode cX6_drill 52 = .ok (.aaload, 1) := by decide +kernel
theorem dX6_drill_53 : decode cX6_drill 53 = .ok (.getfield 88, 3) := by decide +kernel
theorem dX6_drill_56 : decode cX6_drill 56 = .ok (.invokestatic 94, 3) := by decide +kernel
theorem dX6_drill_59 : decode cX6_drill 59 = .ok (.ireturn, 1) := by decide +kernel
theorem dX6_drilled_0 : decode cX6_drilled 0 = .ok (.iload_n 1, 1) := by decide +kernel
theorem dX6_drilled_1 : decode cX6_drilled 1 = .ok (.invokestatic 72, 3) := by decide +kernel
theorem dX6_drilled_4 : decode cX6_drilled 4 = .ok (.ifCond .ne 13, 3) := by decide +kernel
theorem dX6_drilled_7 : decode cX6_drilled 7 = .ok (.new 75, 3) := by decide +kernel
theorem dX6_drilled_10 : decode cX6_drilled 10 = .ok (.dup, 1) := by decide +kernel
theorem dX6_drilled_11 : decode cX6_drilled 11 = .ok (.ldc 77, 2) := by decide +kernel
theorem dX6_drilled_13 : decode cX6_drilled 13 = .ok (.invokespecial 79, 3) := by decide +kernel
theorem dX6_drilled_16 : decode cX6_drilled 16 = .ok (.athrow, 1) := by decide +kernel
theorem dX6_drilled_17 : decode cX6_drilled 17 = .ok (.aload_n 0, 1) := by decide +kernel
theorem dX6_drilled_18 : decode cX6_drilled 18 = .ok (.getfield 12, 3) := by decide +kernel
theorem dX6_drilled_21 : decode cX6_drilled 21 = .ok (.getfield 80, 3) := by decide +kernel
theorem dX6_drilled_24 : decode cX6_drilled 24 = .ok (.iload_n 1, 1) := by decide +kernel
theorem dX6_drilled_25 : decode cX6_drilled 25 = .ok (.aaload, 1) := by decide +kernel
theorem dX6_drilled_26 : decode cX6_drilled 26 = .ok (.getfield 98, 3) := by decide +kernel
theorem dX6_drilled_29 : decode cX6_drilled 29 = .ok (.ifCond .ge 13, 3) := by decide +kernel
theorem dX6_drilled_32 : decode cX6_drilled 32 = .ok (.new 101, 3) := by decide +kernel
theorem dX6_drilled_35 : decode cX6_drilled 35 = .ok (.dup, 1) := by decide +kernel
theorem dX6_drilled_36 : decode cX6_drilled 36 = .ok (.ldc 103, 2) := by decide +kernel
theorem dX6_drilled_38 : decode cX6_drilled 38 = .ok (.invokespecial 105, 3) := by decide +kernel
theorem dX6_drilled_41 : decode cX6_drilled 41 = .ok (.athrow, 1) := by decide +kernel
theorem dX6_drilled_42 : decode cX6_drilled 42 = .ok (.aload_n 0, 1) := by decide +kernel
theorem dX6_drilled_43 : decode cX6_drilled 43 = .ok (.getfield 12, 3) := by decide +kernel
theorem dX6_drilled_46 : decode cX6_drilled 46 = .ok (.getfield 80, 3) := by decide +kernel
theorem dX6_drilled_49 : decode cX6_drilled 49 = .ok (.iload_n 1, 1) := by decide +kernel
theorem dX6_drilled_50 : decode cX6_drilled 50 = .ok (.aaload, 1) := by decide +kernel
theorem dX6_drilled_51 : decode cX6_drilled 51 = .ok (.getfield 88, 3) := by decide +kernel
theorem dX6_drilled_54 : decode cX6_drilled 54 = .ok (.invokestatic 94, 3) := by decide +kernel
theorem dX6_drilled_57 : decode cX6_drilled 57 = .ok (.ireturn, 1) := by decide +kernel
theorem dX6_mileOf_0 : decode cX6_mileOf 0 = .ok (.iload_n 1, 1) := by decide +kernel
theorem dX6_mileOf_1 : decode cX6_mileOf 1 = .ok (.invokestatic 72, 3) := by decide +kernel
theorem dX6_mileOf_4 : decode cX6_mileOf 4 = .ok (.ifCond .ne 13, 3) := by decide +kernel
theorem dX6_mileOf_7 : decode cX6_mileOf 7 = .ok (.new 75, 3) := by decide +kernel
theorem dX6_mileOf_10 : decode cX6_mileOf 10 = .ok (.dup, 1) := by decide +kernel
theorem dX6_mileOf_11 : decode cX6_mileOf 11 = .ok (.ldc 77, 2) := by decide +kernel
theorem dX6_mileOf_13 : decode cX6_mileOf 13 = .ok (.invokespecial 79, 3) := by decide +kernel
theorem dX6_mileOf_16 : decode cX6_mileOf 16 = .ok (.athrow, 1) := by decide +kernel
theorem dX6_mileOf_17 : decode cX6_mileOf 17 = .ok (.aload_n 0, 1) := by decide +kernel
theorem dX6_mileOf_18 : decode cX6_mileOf 18 = .ok (.getfield 12, 3) := by decide +kernel
theorem dX6_mileOf_21 : decode cX6_mileOf 21 = .ok (.getfield 80, 3) := by decide +kernel
theorem dX6_mileOf_24 : decode cX6_mileOf 24 = .ok (.iload_n 1, 1) := by decide +kernel
theorem dX6_mileOf_25 : decode cX6_mileOf 25 = .ok (.aaload, 1) := by decide +kernel
theorem dX6_mileOf_26 : decode cX6_mileOf 26 = .ok (.astore_n 3, 1) := by decide +kernel
theorem dX6_mileOf_27 : decode cX6_mileOf 27 = .ok (.iload_n 2, 1) := by decide +kernel
theorem dX6_mileOf_28 : decode cX6_mileOf 28 = .ok (.tableswitch 73 0 4 #[36, 41, 46, 51, 68], 36) := by decide +kernel
theorem dX6_mileOf_64 : decode cX6_mileOf 64 = .ok (.aload_n 3, 1) := by decide +kernel
theorem dX6_mileOf_65 : decode cX6_mileOf 65 = .ok (.getfield 106, 3) := by decide +kernel
theorem dX6_mileOf_68 : decode cX6_mileOf 68 = .ok (.ireturn, 1) := by decide +kernel
theorem dX6_mileOf_69 : decode cX6_mileOf 69 = .ok (.aload_n 3, 1) := by decide +kernel
theorem dX6_mileOf_70 : decode cX6_mileOf 70 = .ok (.getfield 109, 3) := by decide +kernel
theorem dX6_mileOf_73 : decode cX6_mileOf 73 = .ok (.ireturn, 1) := by decide +kernel
theorem dX6_mileOf_74 : decode cX6_mileOf 74 = .ok (.aload_n 3, 1) := by decide +kernel
theorem dX6_mileOf_75 : decode cX6_mileOf 75 = .ok (.getfield 98, 3) := by decide +kernel
theorem dX6_mileOf_78 : decode cX6_mileOf 78 = .ok (.ireturn, 1) := by decide +kernel
theorem dX6_mileOf_79 : decode cX6_mileOf 79 = .ok (.aload_n 0, 1) := by decide +kernel
theorem dX6_mileOf_80 : decode cX6_mileOf 80 = .ok (.getfield 12, 3) := by decide +kernel
theorem dX6_mileOf_83 : decode cX6_mileOf 83 = .ok (.aload_n 3, 1) := by decide +kernel
theorem dX6_mileOf_84 : decode cX6_mileOf 84 = .ok (.invokevirtual 112, 3) := by decide +kernel
theorem dX6_mileOf_87 : decode cX6_mileOf 87 = .ok (.ifCond .eq 7, 3) := by decide +kernel
theorem dX6_mileOf_90 : decode cX6_mileOf 90 = .ok (.iconst 1, 1) := by decide +kernel
theorem dX6_mileOf_91 : decode cX6_mileOf 91 = .ok (.goto 4, 3) := by decide +kernel
theorem dX6_mileOf_94 : decode cX6_mileOf 94 = .ok (.iconst 0, 1) := by decide +kernel
theorem dX6_mileOf_95 : decode cX6_mileOf 95 = .ok (.ireturn, 1) := by decide +kernel
theorem dX6_mileOf_96 : decode cX6_mileOf 96 = .ok (.aload_n 3, 1) := by decide +kernel
theorem dX6_mileOf_97 : decode cX6_mileOf 97 = .ok (.getfield 116, 3) := by decide +kernel
theorem dX6_mileOf_100 : decode cX6_mileOf 100 = .ok (.ireturn, 1) := by decide +kernel
theorem dX6_mileOf_101 : decode cX6_mileOf 101 = .ok (.new 51, 3) := by decide +kernel
theorem dX6_mileOf_104 : decode cX6_mileOf 104 = .ok (.dup, 1) := by decide +kernel
theorem dX6_mileOf_105 : decode cX6_mileOf 105 = .ok (.ldc 119, 2) := by decide +kernel
theorem dX6_mileOf_107 : decode cX6_mileOf 107 = .ok (.invokespecial 55, 3) := by decide +kernel
theorem dX6_mileOf_110 : decode cX6_mileOf 110 = .ok (.athrow, 1) := by decide +kernel
theorem dX6_ice_0 : decode cX6_ice 0 = .ok (.iload_n 1, 1) := by decide +kernel
theorem dX6_ice_1 : decode cX6_ice 1 = .ok (.invokestatic 72, 3) := by decide +kernel
theorem dX6_ice_4 : decode cX6_ice 4 = .ok (.ifCond .ne 13, 3) := by decide +kernel
theorem dX6_ice_7 : decode cX6_ice 7 = .ok (.new 75, 3) := by decide +kernel
theorem dX6_ice_10 : decode cX6_ice 10 = .ok (.dup, 1) := by decide +kernel
theorem dX6_ice_11 : decode cX6_ice 11 = .ok (.ldc 77, 2) := by decide +kernel
theorem dX6_ice_13 : decode cX6_ice 13 = .ok (.invokespecial 79, 3) := by decide +kernel
theorem dX6_ice_16 : decode cX6_ice 16 = .ok (.athrow, 1) := by decide +kernel
theorem dX6_ice_17 : decode cX6_ice 17 = .ok (.aload_n 0, 1) := by decide +kernel
theorem dX6_ice_18 : decode cX6_ice 18 = .ok (.getfield 12, 3) := by decide +kernel
theorem dX6_ice_21 : decode cX6_ice 21 = .ok (.getfield 80, 3) := by decide +kernel
theorem dX6_ice_24 : decode cX6_ice 24 = .ok (.iload_n 1, 1) := by decide +kernel
theorem dX6_ice_25 : decode cX6_ice 25 = .ok (.aaload, 1) := by decide +kernel
theorem dX6_ice_26 : decode cX6_ice 26 = .ok (.getfield 121, 3) := by decide +kernel
theorem dX6_ice_29 : decode cX6_ice 29 = .ok (.freturn, 1) := by decide +kernel
theorem dX6_bears_0 : decode cX6_bears 0 = .ok (.iload_n 1, 1) := by decide +kernel
theorem dX6_bears_1 : decode cX6_bears 1 = .ok (.invokestatic 72, 3) := by decide +kernel
theorem dX6_bears_4 : decode cX6_bears 4 = .ok (.ifCond .ne 13, 3) := by decide +kernel
theorem dX6_bears_7 : decode cX6_bears 7 = .ok (.new 75, 3) := by decide +kernel
theorem dX6_bears_10 : decode cX6_bears 10 = .ok (.dup, 1) := by decide +kernel
theorem dX6_bears_11 : decode cX6_bears 11 = .ok (.ldc 77, 2) := by decide +kernel
theorem dX6_bears_13 : decode cX6_bears 13 = .ok (.invokespecial 79, 3) := by decide +kernel
theorem dX6_bears_16 : decode cX6_bears 16 = .ok (.athrow, 1) := by decide +kernel
theorem dX6_bears_17 : decode cX6_bears 17 = .ok (.aload_n 0, 1) := by decide +kernel
theorem dX6_bears_18 : decode cX6_bears 18 = .ok (.getfield 12, 3) := by decide +kernel
theorem dX6_bears_21 : decode cX6_bears 21 = .ok (.aload_n 0, 1) := by decide +kernel
theorem dX6_bears_22 : decode cX6_bears 22 = .ok (.getfield 12, 3) := by decide +kernel
theorem dX6_bears_25 : decode cX6_bears 25 = .ok (.getfield 80, 3) := by decide +kernel
theorem dX6_bears_28 : decode cX6_bears 28 = .ok (.iload_n 1, 1) := by decide +kernel
theorem dX6_bears_29 : decode cX6_bears 29 = .ok (.aaload, 1) := by decide +kernel
theorem dX6_bears_30 : decode cX6_bears 30 = .ok (.invokevirtual 124, 3) := by decide +kernel
theorem dX6_bears_33 : decode cX6_bears 33 = .ok (.invokestatic 94, 3) := by decide +kernel
theorem dX6_bears_36 : decode cX6_bears 36 = .ok (.ireturn, 1) := by decide +kernel
theorem dX6_sign_0 : decode cX6_sign 0 = .ok (.iload_n 1, 1) := by decide +kernel
theorem dX6_sign_1 : decode cX6_sign 1 = .ok (.invokestatic 72, 3) := by decide +kernel
theorem dX6_sign_4 : decode cX6_sign 4 = .ok (.ifCond .ne 13, 3) := by decide +kernel
theorem dX6_sign_7 : decode cX6_sign 7 = .ok (.new 75, 3) := by decide +kernel
theorem dX6_sign_10 : decode cX6_sign 10 = .ok (.dup, 1) := by decide +kernel
theorem dX6_sign_11 : decode cX6_sign 11 = .ok (.ldc 77, 2) := by decide +kernel
theorem dX6_sign_13 : decode cX6_sign 13 = .ok (.invokespecial 79, 3) := by decide +kernel
theorem dX6_sign_16 : decode cX6_sign 16 = .ok (.athrow, 1) := by decide +kernel
theorem dX6_sign_17 : decode cX6_sign 17 = .ok (.aload_n 0, 1) := by decide +kernel
theorem dX6_sign_18 : decode cX6_sign 18 = .ok (.getfield 12, 3) := by decide +kernel
theorem dX6_sign_21 : decode cX6_sign 21 = .ok (.iload_n 1, 1) := by decide +kernel
theorem dX6_sign_22 : decode cX6_sign 22 = .ok (.invokevirtual 128, 3) := by decide +kernel
theorem dX6_sign_25 : decode cX6_sign 25 = .ok (.ifCond .lt 6, 3) := by decide +kernel
theorem dX6_sign_28 : decode cX6_sign 28 = .ok (.bipush 84, 2) := by decide +kernel
theorem dX6_sign_30 : decode cX6_sign 30 = .ok (.ireturn, 1) := by decide +kernel
theorem dX6_sign_31 : decode cX6_sign 31 = .ok (.aload_n 0, 1) := by decide +kernel
theorem dX6_sign_32 : decode cX6_sign 32 = .ok (.getfield 12, 3) := by decide +kernel
theorem dX6_sign_35 : decode cX6_sign 35 = .ok (.getfield 80, 3) := by decide +kernel
theorem dX6_sign_38 : decode cX6_sign 38 = .ok (.iload_n 1, 1) := by decide +kernel
theorem dX6_sign_39 : decode cX6_sign 39 = .ok (.aaload, 1) := by decide +kernel
theorem dX6_sign_40 : decode cX6_sign 40 = .ok (.astore_n 2, 1) := by decide +kernel
theorem dX6_sign_41 : decode cX6_sign 41 = .ok (.aload_n 0, 1) := by decide +kernel
theorem dX6_sign_42 : decode cX6_sign 42 = .ok (.getfield 12, 3) := by decide +kernel
theorem dX6_sign_45 : decode cX6_sign 45 = .ok (.aload_n 2, 1) := by decide +kernel
theorem dX6_sign_46 : decode cX6_sign 46 = .ok (.invokevirtual 112, 3) := by decide +kernel
theorem dX6_sign_49 : decode cX6_sign 49 = .ok (.ifCond .eq 14, 3) := by decide +kernel
theorem dX6_sign_52 : decode cX6_sign 52 = .ok (.bipush 48, 2) := by decide +kernel
theorem dX6_sign_54 : decode cX6_sign 54 = .ok (.aload_n 2, 1) := by decide +kernel
theorem dX6_sign_55 : decode cX6_sign 55 = .ok (.getfield 106, 3) := by decide +kernel
theorem dX6_sign_58 : decode cX6_sign 58 = .ok (.iadd, 1) := by decide +kernel
theorem dX6_sign_59 : decode cX6_sign 59 = .ok (.i2c, 1) := by decide +kernel
theorem dX6_sign_60 : decode cX6_sign 60 = .ok (.goto 5, 3) := by decide +kernel
theorem dX6_sign_63 : decode cX6_sign 63 = .ok (.bipush 63, 2) := by decide +kernel
theorem dX6_sign_65 : decode cX6_sign 65 = .ok (.ireturn, 1) := by decide +kernel
theorem dX6_weakest_0 : decode cX6_weakest 0 = .ok (.iconst 0, 1) := by decide +kernel
theorem dX6_weakest_1 : decode cX6_weakest 1 = .ok (.istore_n 1, 1) := by decide +kernel
theorem dX6_weakest_2 : decode cX6_weakest 2 = .ok (.aload_n 0, 1) := by decide +kernel
theorem dX6_weakest_3 : decode cX6_weakest 3 = .ok (.getfield 12, 3) := by decide +kernel
theorem dX6_weakest_6 : decode cX6_weakest 6 = .ok (.aload_n 0, 1) := by decide +kernel
theorem dX6_weakest_7 : decode cX6_weakest 7 = .ok (.getfield 12, 3) := by decide +kernel
theorem dX6_weakest_10 : decode cX6_weakest 10 = .ok (.getfield 80, 3) := by decide +kernel
theorem dX6_weakest_13 : decode cX6_weakest 13 = .ok (.iconst 0, 1) := by decide +kernel
theorem dX6_weakest_14 : decode cX6_weakest 14 = .ok (.aaload, 1) := by decide +kernel
theorem dX6_weakest_15 : decode cX6_weakest 15 = .ok (.invokevirtual 124, 3) := by decide +kernel
theorem dX6_weakest_18 : decode cX6_weakest 18 = .ok (.fstore_n 2, 1) := by decide +kernel
theorem dX6_weakest_19 : decode cX6_weakest 19 = .ok (.iconst 1, 1) := by decide +kernel
theorem dX6_weakest_20 : decode cX6_weakest 20 = .ok (.istore_n 3, 1) := by decide +kernel
theorem dX6_weakest_21 : decode cX6_weakest 21 = .ok (.iload_n 3, 1) := by decide +kernel
theorem dX6_weakest_22 : decode cX6_weakest 22 = .ok (.bipush 12, 2) := by decide +kernel
theorem dX6_weakest_24 : decode cX6_weakest 24 = .ok (.if_icmp .ge 39, 3) := by decide +kernel
theorem dX6_weakest_27 : decode cX6_weakest 27 = .ok (.aload_n 0, 1) := by decide +kernel
theorem dX6_weakest_28 : decode cX6_weakest 28 = .ok (.getfield 12, 3) := by decide +kernel
theorem dX6_weakest_31 : decode cX6_weakest 31 = .ok (.aload_n 0, 1) := by decide +kernel
theorem dX6_weakest_32 : decode cX6_weakest 32 = .ok (.getfield 12, 3) := by decide +kernel
theorem dX6_weakest_35 : decode cX6_weakest 35 = .ok (.getfield 80, 3) := by decide +kernel
theorem dX6_weakest_38 : decode cX6_weakest 38 = .ok (.iload_n 3, 1) := by decide +kernel
theorem dX6_weakest_39 : decode cX6_weakest 39 = .ok (.aaload, 1) := by decide +kernel
theorem dX6_weakest_40 : decode cX6_weakest 40 = .ok (.invokevirtual 124, 3) := by decide +kernel
theorem dX6_weakest_43 : decode cX6_weakest 43 = .ok (.fstore 4, 2) := by decide +kernel
theorem dX6_weakest_45 : decode cX6_weakest 45 = .ok (.fload 4, 2) := by decide +kernel
theorem dX6_weakest_47 : decode cX6_weakest 47 = .ok (.fload_n 2, 1) := by decide +kernel
theorem dX6_weakest_48 : decode cX6_weakest 48 = .ok (.fcmp .g, 1) := by decide +kernel
theorem dX6_weakest_49 : decode cX6_weakest 49 = .ok (.ifCond .ge 8, 3) := by decide +kernel
theorem dX6_weakest_52 : decode cX6_weakest 52 = .ok (.fload 4, 2) := by decide +kernel
theorem dX6_weakest_54 : decode cX6_weakest 54 = .ok (.fstore_n 2, 1) := by decide +kernel
theorem dX6_weakest_55 : decode cX6_weakest 55 = .ok (.iload_n 3, 1) := by decide +kernel
theorem dX6_weakest_56 : decode cX6_weakest 56 = .ok (.istore_n 1, 1) := by decide +kernel
theorem dX6_weakest_57 : decode cX6_weakest 57 = .ok (.iinc 3 1, 3) := by decide +kernel
theorem dX6_weakest_60 : decode cX6_weakest 60 = .ok (.goto (-39), 3) := by decide +kernel
theorem dX6_weakest_63 : decode cX6_weakest 63 = .ok (.iload_n 1, 1) := by decide +kernel
theorem dX6_weakest_64 : decode cX6_weakest 64 = .ok (.ireturn, 1) := by decide +kernel
theorem dX6_truck_0 : decode cX6_truck 0 = .ok (.iload 4, 2) := by decide +kernel
theorem dX6_truck_2 : decode cX6_truck 2 = .ok (.invokestatic 132, 3) := by decide +kernel
theorem dX6_truck_5 : decode cX6_truck 5 = .ok (.ifCond .ne 13, 3) := by decide +kernel
theorem dX6_truck_8 : decode cX6_truck 8 = .ok (.new 75, 3) := by decide +kernel
theorem dX6_truck_11 : decode cX6_truck 11 = .ok (.dup, 1) := by decide +kernel
theorem dX6_truck_12 : decode cX6_truck 12 = .ok (.ldc 135, 2) := by decide +kernel
theorem dX6_truck_14 : decode cX6_truck 14 = .ok (.invokespecial 79, 3) := by decide +kernel
theorem dX6_truck_17 : decode cX6_truck 17 = .ok (.athrow, 1) := by decide +kernel
theorem dX6_truck_18 : decode cX6_truck 18 = .ok (.iload_n 1, 1) := by decide +kernel
theorem dX6_truck_19 : decode cX6_truck 19 = .ok (.ifCond .lt 30, 3) := by decide +kernel
theorem dX6_truck_22 : decode cX6_truck 22 = .ok (.iload_n 1, 1) := by decide +kernel
theorem dX6_truck_23 : decode cX6_truck 23 = .ok (.iconst 1, 1) := by decide +kernel
theorem dX6_truck_24 : decode cX6_truck 24 = .ok (.if_icmp .gt 25, 3) := by decide +kernel
theorem dX6_truck_27 : decode cX6_truck 27 = .ok (.iload_n 2, 1) := by decide +kernel
theorem dX6_truck_28 : decode cX6_truck 28 = .ok (.iconst 5, 1) := by decide +kernel
theorem dX6_truck_29 : decode cX6_truck 29 = .ok (.if_icmp .lt 20, 3) := by decide +kernel
theorem dX6_truck_32 : decode cX6_truck 32 = .ok (.iload_n 2, 1) := by decide +kernel
theorem dX6_truck_33 : decode cX6_truck 33 = .ok (.bipush 60, 2) := by decide +kernel
theorem dX6_truck_35 : decode cX6_truck 35 = .ok (.if_icmp .gt 14, 3) := by decide +kernel
theorem dX6_truck_38 : decode cX6_truck 38 = .ok (.iload_n 3, 1) := by decide +kernel
theorem dX6_truck_39 : decode cX6_truck 39 = .ok (.iconst 2, 1) := by decide +kernel
theorem dX6_truck_40 : decode cX6_truck 40 = .ok (.if_icmp .lt 9, 3) := by decide +kernel
theorem dX6_truck_43 : decode cX6_truck 43 = .ok (.iload_n 3, 1) := by decide +kernel
theorem dX6_truck_44 : decode cX6_truck 44 = .ok (.bipush 6, 2) := by decide +kernel
theorem dX6_truck_46 : decode cX6_truck 46 = .ok (.if_icmp .le 13, 3) := by decide +kernel
theorem dX6_truck_49 : decode cX6_truck 49 = .ok (.new 51, 3) := by decide +kernel
theorem dX6_truck_52 : decode cX6_truck 52 = .ok (.dup, 1) := by decide +kernel
theorem dX6_truck_53 : decode cX6_truck 53 = .ok (.ldc 137, 2) := by decide +kernel
theorem dX6_truck_55 : decode cX6_truck 55 = .ok (.invokespecial 55, 3) := by decide +kernel
theorem dX6_truck_58 : decode cX6_truck 58 = .ok (.athrow, 1) := by decide +kernel
theorem dX6_truck_59 : decode cX6_truck 59 = .ok (.aload_n 0, 1) := by decide +kernel
theorem dX6_truck_60 : decode cX6_truck 60 = .ok (.getfield 12, 3) := by decide +kernel
theorem dX6_truck_63 : decode cX6_truck 63 = .ok (.iload 4, 2) := by decide +kernel
theorem dX6_truck_65 : decode cX6_truck 65 = .ok (.invokevirtual 139, 3) := by decide +kernel
theorem dX6_truck_68 : decode cX6_truck 68 = .ok (.istore 5, 2) := by decide +kernel
theorem dX6_truck_70 : decode cX6_truck 70 = .ok (.iload 5, 2) := by decide +kernel
theorem dX6_truck_72 : decode cX6_truck 72 = .ok (.ifCond .ge 23, 3) := by decide +kernel
theorem dX6_truck_75 : decode cX6_truck 75 = .ok (.aload_n 0, 1) := by decide +kernel
theorem dX6_truck_76 : decode cX6_truck 76 = .ok (.iconst 2, 1) := by decide +kernel
theorem dX6_truck_77 : decode cX6_truck 77 = .ok (.iload 4, 2) := by decide +kernel
theorem dX6_truck_79 : decode cX6_truck 79 = .ok (.invokestatic 142, 3) := by decide +kernel
theorem dX6_truck_82 : decode cX6_truck 82 = .ok (.putfield 44, 3) := by decide +kernel
theorem dX6_truck_85 : decode cX6_truck 85 = .ok (.new 146, 3) := by decide +kernel
theorem dX6_truck_88 : decode cX6_truck 88 = .ok (.dup, 1) := by decide +kernel
theorem dX6_truck_89 : decode cX6_truck 89 = .ok (.ldc 148, 2) := by decide +kernel
theorem dX6_truck_91 : decode cX6_truck 91 = .ok (.invokespecial 150, 3) := by decide +kernel
theorem dX6_truck_94 : decode cX6_truck 94 = .ok (.athrow, 1) := by decide +kernel
theorem dX6_truck_95 : decode cX6_truck 95 = .ok (.iload_n 1, 1) := by decide +kernel
theorem dX6_truck_96 : decode cX6_truck 96 = .ok (.iload 4, 2) := by decide +kernel
theorem dX6_truck_98 : decode cX6_truck 98 = .ok (.if_icmp .eq 23, 3) := by decide +kernel
theorem dX6_truck_101 : decode cX6_truck 101 = .ok (.aload_n 0, 1) := by decide +kernel
theorem dX6_truck_102 : decode cX6_truck 102 = .ok (.iconst 3, 1) := by decide +kernel
theorem dX6_truck_103 : decode cX6_truck 103 = .ok (.iload 4, 2) := by decide +kernel
theorem dX6_truck_105 : decode cX6_truck 105 = .ok (.invokestatic 142, 3) := by decide +kernel
theorem dX6_truck_108 : decode cX6_truck 108 = .ok (.putfield 44, 3) := by decide +kernel
theorem dX6_truck_111 : decode cX6_truck 111 = .ok (.new 146, 3) := by decide +kernel
theorem dX6_truck_114 : decode cX6_truck 114 = .ok (.dup, 1) := by decide +kernel
theorem dX6_truck_115 : decode cX6_truck 115 = .ok (.ldc 151, 2) := by decide +kernel
theorem dX6_truck_117 : decode cX6_truck 117 = .ok (.invokespecial 150, 3) := by decide +kernel
theorem dX6_truck_120 : decode cX6_truck 120 = .ok (.athrow, 1) := by decide +kernel
theorem dX6_truck_121 : decode cX6_truck 121 = .ok (.aload_n 0, 1) := by decide +kernel
theorem dX6_truck_122 : decode cX6_truck 122 = .ok (.getfield 29, 3) := by decide +kernel
theorem dX6_truck_125 : decode cX6_truck 125 = .ok (.aload_n 0, 1) := by decide +kernel
theorem dX6_truck_126 : decode cX6_truck 126 = .ok (.getfield 12, 3) := by decide +kernel
theorem dX6_truck_129 : decode cX6_truck 129 = .ok (.invokevirtual 58, 3) := by decide +kernel
theorem dX6_truck_132 : decode cX6_truck 132 = .ok (.aload_n 0, 1) := by decide +kernel
theorem dX6_truck_133 : decode cX6_truck 133 = .ok (.getfield 12, 3) := by decide +kernel
theorem dX6_truck_136 : decode cX6_truck 136 = .ok (.getfield 153, 3) := by decide +kernel
theorem dX6_truck_139 : decode cX6_truck 139 = .ok (.iload 4, 2) := by decide +kernel
theorem dX6_truck_141 : decode cX6_truck 141 = .ok (.iconst 5, 1) := by decide +kernel
theorem dX6_truck_142 : decode cX6_truck 142 = .ok (.imul, 1) := by decide +kernel
theorem dX6_truck_143 : decode cX6_truck 143 = .ok (.iload 5, 2) := by decide +kernel
theorem dX6_truck_145 : decode cX6_truck 145 = .ok (.iadd, 1) := by decide +kernel
theorem dX6_truck_146 : decode cX6_truck 146 = .ok (.new 157, 3) := by decide +kernel
theorem dX6_truck_149 : decode cX6_truck 149 = .ok (.dup, 1) := by decide +kernel
theorem dX6_truck_150 : decode cX6_truck 150 = .ok (.iload_n 1, 1) := by decide +kernel
theorem dX6_truck_151 : decode cX6_truck 151 = .ok (.iload_n 2, 1) := by decide +kernel
theorem dX6_truck_152 : decode cX6_truck 152 = .ok (.iload_n 3, 1) := by decide +kernel
theorem dX6_truck_153 : decode cX6_truck 153 = .ok (.invokespecial 159, 3) := by decide +kernel
theorem dX6_truck_156 : decode cX6_truck 156 = .ok (.aastore, 1) := by decide +kernel
theorem dX6_truck_157 : decode cX6_truck 157 = .ok (.aload_n 0, 1) := by decide +kernel
theorem dX6_truck_158 : decode cX6_truck 158 = .ok (.getfield 12, 3) := by decide +kernel
theorem dX6_truck_161 : decode cX6_truck 161 = .ok (.dup, 1) := by decide +kernel
theorem dX6_truck_162 : decode cX6_truck 162 = .ok (.getfield 162, 3) := by decide +kernel
theorem dX6_truck_165 : decode cX6_truck 165 = .ok (.iload_n 2, 1) := by decide +kernel
theorem dX6_truck_166 : decode cX6_truck 166 = .ok (.iadd, 1) := by decide +kernel
theorem dX6_truck_167 : decode cX6_truck 167 = .ok (.putfield 162, 3) := by decide +kernel
theorem dX6_truck_170 : decode cX6_truck 170 = .ok (.iload 5, 2) := by decide +kernel
theorem dX6_truck_172 : decode cX6_truck 172 = .ok (.ireturn, 1) := by decide +kernel
theorem dX6_inRow_0 : decode cX6_inRow 0 = .ok (.iload_n 1, 1) := by decide +kernel
theorem dX6_inRow_1 : decode cX6_inRow 1 = .ok (.invokestatic 132, 3) := by decide +kernel
theorem dX6_inRow_4 : decode cX6_inRow 4 = .ok (.ifCond .eq 10, 3) := by decide +kernel
theorem dX6_inRow_7 : decode cX6_inRow 7 = .ok (.iload_n 2, 1) := by decide +kernel
theorem dX6_inRow_8 : decode cX6_inRow 8 = .ok (.invokestatic 165, 3) := by decide +kernel
theorem dX6_inRow_11 : decode cX6_inRow 11 = .ok (.ifCond .ne 13, 3) := by decide +kernel
theorem dX6_inRow_14 : decode cX6_inRow 14 = .ok (.new 75, 3) := by decide +kernel
theorem dX6_inRow_17 : decode cX6_inRow 17 = .ok (.dup, 1) := by decide +kernel
theorem dX6_inRow_18 : decode cX6_inRow 18 = .ok (.ldc 168, 2) := by decide +kernel
theorem dX6_inRow_20 : decode cX6_inRow 20 = .ok (.invokespecial 79, 3) := by decide +kernel
theorem dX6_inRow_23 : decode cX6_inRow 23 = .ok (.athrow, 1) := by decide +kernel
theorem dX6_inRow_24 : decode cX6_inRow 24 = .ok (.aload_n 0, 1) := by decide +kernel
theorem dX6_inRow_25 : decode cX6_inRow 25 = .ok (.getfield 12, 3) := by decide +kernel
theorem dX6_inRow_28 : decode cX6_inRow 28 = .ok (.getfield 153, 3) := by decide +kernel
theorem dX6_inRow_31 : decode cX6_inRow 31 = .ok (.iload_n 1, 1) := by decide +kernel
theorem dX6_inRow_32 : decode cX6_inRow 32 = .ok (.iconst 5, 1) := by decide +kernel
theorem dX6_inRow_33 : decode cX6_inRow 33 = .ok (.imul, 1) := by decide +kernel
theorem dX6_inRow_34 : decode cX6_inRow 34 = .ok (.iload_n 2, 1) := by decide +kernel
theorem dX6_inRow_35 : decode cX6_inRow 35 = .ok (.iadd, 1) := by decide +kernel
theorem dX6_inRow_36 : decode cX6_inRow 36 = .ok (.aaload, 1) := by decide +kernel
theorem dX6_inRow_37 : decode cX6_inRow 37 = .ok (.astore 4, 2) := by decide +kernel
theorem dX6_inRow_39 : decode cX6_inRow 39 = .ok (.aload 4, 2) := by decide +kernel
theorem dX6_inRow_41 : decode cX6_inRow 41 = .ok (.ifnonnull 13, 3) := by decide +kernel
theorem dX6_inRow_44 : decode cX6_inRow 44 = .ok (.new 101, 3) := by decide +kernel
theorem dX6_inRow_47 : decode cX6_inRow 47 = .ok (.dup, 1) := by decide +kernel
theorem dX6_inRow_48 : decode cX6_inRow 48 = .ok (.ldc 170, 2) := by decide +kernel
theorem dX6_inRow_50 : decode cX6_inRow 50 = .ok (.invokespecial 105, 3) := by decide +kernel
theorem dX6_inRow_53 : decode cX6_inRow 53 = .ok (.athrow, 1) := by decide +kernel
theorem dX6_inRow_54 : decode cX6_inRow 54 = .ok (.iload_n 3, 1) := by decide +kernel
theorem dX6_inRow_55 : decode cX6_inRow 55 = .ok (.ifCond .lt 8, 3) := by decide +kernel
theorem dX6_inRow_58 : decode cX6_inRow 58 = .ok (.iload_n 3, 1) := by decide +kernel
theorem dX6_inRow_59 : decode cX6_inRow 59 = .ok (.iconst 1, 1) := by decide +kernel
theorem dX6_inRow_60 : decode cX6_inRow 60 = .ok (.if_icmp .le 13, 3) := by decide +kernel
theorem dX6_inRow_63 : decode cX6_inRow 63 = .ok (.new 51, 3) := by decide +kernel
theorem dX6_inRow_66 : decode cX6_inRow 66 = .ok (.dup, 1) := by decide +kernel
theorem dX6_inRow_67 : decode cX6_inRow 67 = .ok (.ldc 172, 2) := by decide +kernel
theorem dX6_inRow_69 : decode cX6_inRow 69 = .ok (.invokespecial 55, 3) := by decide +kernel
theorem dX6_inRow_72 : decode cX6_inRow 72 = .ok (.athrow, 1) := by decide +kernel
theorem dX6_inRow_73 : decode cX6_inRow 73 = .ok (.iload_n 3, 1) := by decide +kernel
theorem dX6_inRow_74 : decode cX6_inRow 74 = .ok (.ifCond .ne 11, 3) := by decide +kernel
theorem dX6_inRow_77 : decode cX6_inRow 77 = .ok (.aload 4, 2) := by decide +kernel
theorem dX6_inRow_79 : decode cX6_inRow 79 = .ok (.getfield 174, 3) := by decide +kernel
theorem dX6_inRow_82 : decode cX6_inRow 82 = .ok (.goto 8, 3) := by decide +kernel
theorem dX6_inRow_85 : decode cX6_inRow 85 = .ok (.aload 4, 2) := by decide +kernel
theorem dX6_inRow_87 : decode cX6_inRow 87 = .ok (.getfield 177, 3) := by decide +kernel
theorem dX6_inRow_90 : decode cX6_inRow 90 = .ok (.ireturn, 1) := by decide +kernel
theorem dX6_convoy_0 : decode cX6_convoy 0 = .ok (.iload_n 1, 1) := by decide +kernel
theorem dX6_convoy_1 : decode cX6_convoy 1 = .ok (.iconst 1, 1) := by decide +kernel
theorem dX6_convoy_2 : decode cX6_convoy 2 = .ok (.if_icmp .lt 8, 3) := by decide +kernel
theorem dX6_convoy_5 : decode cX6_convoy 5 = .ok (.iload_n 1, 1) := by decide +kernel
theorem dX6_convoy_6 : decode cX6_convoy 6 = .ok (.iconst 3, 1) := by decide +kernel
theorem dX6_convoy_7 : decode cX6_convoy 7 = .ok (.if_icmp .le 13, 3) := by decide +kernel
theorem dX6_convoy_10 : decode cX6_convoy 10 = .ok (.new 51, 3) := by decide +kernel
theorem dX6_convoy_13 : decode cX6_convoy 13 = .ok (.dup, 1) := by decide +kernel
theorem dX6_convoy_14 : decode cX6_convoy 14 = .ok (.ldc 180, 2) := by decide +kernel
theorem dX6_convoy_16 : decode cX6_convoy 16 = .ok (.invokespecial 55, 3) := by decide +kernel
theorem dX6_convoy_19 : decode cX6_convoy 19 = .ok (.athrow, 1) := by decide +kernel
theorem dX6_convoy_20 : decode cX6_convoy 20 = .ok (.aload_n 0, 1) := by decide +kernel
theorem dX6_convoy_21 : decode cX6_convoy 21 = .ok (.getfield 12, 3) := by decide +kernel
theorem dX6_convoy_24 : decode cX6_convoy 24 = .ok (.getfield 182, 3) := by decide +kernel
theorem dX6_convoy_27 : decode cX6_convoy 27 = .ok (.istore_n 2, 1) := by decide +kernel
theorem dX6_convoy_28 : decode cX6_convoy 28 = .ok (.iload_n 2, 1) := by decide +kernel
theorem dX6_convoy_29 : decode cX6_convoy 29 = .ok (.iconst 4, 1) := by decide +kernel
theorem dX6_convoy_30 : decode cX6_convoy 30 = .ok (.if_icmp .lt 22, 3) := by decide +kernel
theorem dX6_convoy_33 : decode cX6_convoy 33 = .ok (.aload_n 0, 1) := by decide +kernel
theorem dX6_convoy_34 : decode cX6_convoy 34 = .ok (.iconst 1, 1) := by decide +kernel
theorem dX6_convoy_35 : decode cX6_convoy 35 = .ok (.iconst 4, 1) := by decide +kernel
theorem dX6_convoy_36 : decode cX6_convoy 36 = .ok (.invokestatic 142, 3) := by decide +kernel
theorem dX6_convoy_39 : decode cX6_convoy 39 = .ok (.putfield 44, 3) := by decide +kernel
theorem dX6_convoy_42 : decode cX6_convoy 42 = .ok (.new 146, 3) := by decide +kernel
theorem dX6_convoy_45 : decode cX6_convoy 45 = .ok (.dup, 1) := by decide +kernel
theorem dX6_convoy_46 : decode cX6_convoy 46 = .ok (.ldc 185, 2) := by decide +kernel
theorem dX6_convoy_48 : decode cX6_convoy 48 = .ok (.invokespecial 150, 3) := by decide +kernel
theorem dX6_convoy_51 : decode cX6_convoy 51 = .ok (.athrow, 1) := by decide +kernel
theorem dX6_convoy_52 : decode cX6_convoy 52 = .ok (.aload_n 0, 1) := by decide +kernel
theorem dX6_convoy_53 : decode cX6_convoy 53 = .ok (.getfield 29, 3) := by decide +kernel
theorem dX6_convoy_56 : decode cX6_convoy 56 = .ok (.aload_n 0, 1) := by decide +kernel
theorem dX6_convoy_57 : decode cX6_convoy 57 = .ok (.getfield 12, 3) := by decide +kernel
theorem dX6_convoy_60 : decode cX6_convoy 60 = .ok (.invokevirtual 58, 3) := by decide +kernel
theorem dX6_convoy_63 : decode cX6_convoy 63 = .ok (.aload_n 0, 1) := by decide +kernel
theorem dX6_convoy_64 : decode cX6_convoy 64 = .ok (.getfield 12, 3) := by decide +kernel
theorem dX6_convoy_67 : decode cX6_convoy 67 = .ok (.getfield 187, 3) := by decide +kernel
theorem dX6_convoy_70 : decode cX6_convoy 70 = .ok (.iload_n 2, 1) := by decide +kernel
theorem dX6_convoy_71 : decode cX6_convoy 71 = .ok (.aaload, 1) := by decide +kernel
theorem dX6_convoy_72 : decode cX6_convoy 72 = .ok (.iload_n 1, 1) := by decide +kernel
theorem dX6_convoy_73 : decode cX6_convoy 73 = .ok (.putfield 191, 3) := by decide +kernel
theorem dX6_convoy_76 : decode cX6_convoy 76 = .ok (.aload_n 0, 1) := by decide +kernel
theorem dX6_convoy_77 : decode cX6_convoy 77 = .ok (.getfield 12, 3) := by decide +kernel
theorem dX6_convoy_80 : decode cX6_convoy 80 = .ok (.iload_n 2, 1) := by decide +kernel
theorem dX6_convoy_81 : decode cX6_convoy 81 = .ok (.iconst 1, 1) := by decide +kernel
theorem dX6_convoy_82 : decode cX6_convoy 82 = .ok (.iadd, 1) := by decide +kernel
theorem dX6_convoy_83 : decode cX6_convoy 83 = .ok (.putfield 182, 3) := by decide +kernel
theorem dX6_convoy_86 : decode cX6_convoy 86 = .ok (.iload_n 2, 1) := by decide +kernel
theorem dX6_convoy_87 : decode cX6_convoy 87 = .ok (.ireturn, 1) := by decide +kernel
theorem dX6_join_0 : decode cX6_join 0 = .ok (.aload_n 0, 1) := by decide +kernel
theorem dX6_join_1 : decode cX6_join 1 = .ok (.getfield 12, 3) := by decide +kernel
theorem dX6_join_4 : decode cX6_join 4 = .ok (.iload_n 1, 1) := by decide +kernel
theorem dX6_join_5 : decode cX6_join 5 = .ok (.iload_n 2, 1) := by decide +kernel
theorem dX6_join_6 : decode cX6_join 6 = .ok (.iload_n 3, 1) := by decide +kernel
theorem dX6_join_7 : decode cX6_join 7 = .ok (.invokevirtual 196, 3) := by decide +kernel
theorem dX6_join_10 : decode cX6_join 10 = .ok (.istore 4, 2) := by decide +kernel
theorem dX6_join_12 : decode cX6_join 12 = .ok (.iload 4, 2) := by decide +kernel
theorem dX6_join_14 : decode cX6_join 14 = .ok (.iconst (-1), 1) := by decide +kernel
theorem dX6_join_15 : decode cX6_join 15 = .ok (.if_icmp .ne 13, 3) := by decide +kernel
theorem dX6_join_18 : decode cX6_join 18 = .ok (.new 75, 3) := by decide +kernel
theorem dX6_join_21 : decode cX6_join 21 = .ok (.dup, 1) := by decide +kernel
theorem dX6_join_22 : decode cX6_join 22 = .ok (.ldc 200, 2) := by decide +kernel
theorem dX6_join_24 : decode cX6_join 24 = .ok (.invokespecial 79, 3) := by decide +kernel
theorem dX6_join_27 : decode cX6_join 27 = .ok (.athrow, 1) := by decide +kernel
theorem dX6_join_28 : decode cX6_join 28 = .ok (.iload 4, 2) := by decide +kernel
theorem dX6_join_30 : decode cX6_join 30 = .ok (.bipush (-2), 2) := by decide +kernel
theorem dX6_join_32 : decode cX6_join 32 = .ok (.if_icmp .ne 13, 3) := by decide +kernel
theorem dX6_join_35 : decode cX6_join 35 = .ok (.new 101, 3) := by decide +kernel
theorem dX6_join_38 : decode cX6_join 38 = .ok (.dup, 1) := by decide +kernel
theorem dX6_join_39 : decode cX6_join 39 = .ok (.ldc 170, 2) := by decide +kernel
theorem dX6_join_41 : decode cX6_join 41 = .ok (.invokespecial 105, 3) := by decide +kernel
theorem dX6_join_44 : decode cX6_join 44 = .ok (.athrow, 1) := by decide +kernel
theorem dX6_join_45 : decode cX6_join 45 = .ok (.iload 4, 2) := by decide +kernel
theorem dX6_join_47 : decode cX6_join 47 = .ok (.ifCond .eq 19, 3) := by decide +kernel
theorem dX6_join_50 : decode cX6_join 50 = .ok (.aload_n 0, 1) := by decide +kernel
theorem dX6_join_51 : decode cX6_join 51 = .ok (.iload 4, 2) := by decide +kernel
theorem dX6_join_53 : decode cX6_join 53 = .ok (.putfield 44, 3) := by decide +kernel
theorem dX6_join_56 : decode cX6_join 56 = .ok (.new 146, 3) := by decide +kernel
theorem dX6_join_59 : decode cX6_join 59 = .ok (.dup, 1) := by decide +kernel
theorem dX6_join_60 : decode cX6_join 60 = .ok (.ldc 202, 2) := by decide +kernel
theorem dX6_join_62 : decode cX6_join 62 = .ok (.invokespecial 150, 3) := by decide +kernel
theorem dX6_join_65 : decode cX6_join 65 = .ok (.athrow, 1) := by decide +kernel
theorem dX6_join_66 : decode cX6_join 66 = .ok (.aload_n 0, 1) := by decide +kernel
theorem dX6_join_67 : decode cX6_join 67 = .ok (.getfield 29, 3) := by decide +kernel
theorem dX6_join_70 : decode cX6_join 70 = .ok (.aload_n 0, 1) := by decide +kernel
theorem dX6_join_71 : decode cX6_join 71 = .ok (.getfield 12, 3) := by decide +kernel
theorem dX6_join_74 : decode cX6_join 74 = .ok (.invokevirtual 58, 3) := by decide +kernel
theorem dX6_join_77 : decode cX6_join 77 = .ok (.aload_n 0, 1) := by decide +kernel
theorem dX6_join_78 : decode cX6_join 78 = .ok (.getfield 12, 3) := by decide +kernel
theorem dX6_join_81 : decode cX6_join 81 = .ok (.aload_n 0, 1) := by decide +kernel
theorem dX6_join_82 : decode cX6_join 82 = .ok (.getfield 12, 3) := by decide +kernel
theorem dX6_join_85 : decode cX6_join 85 = .ok (.getfield 187, 3) := by decide +kernel
theorem dX6_join_88 : decode cX6_join 88 = .ok (.iload_n 1, 1) := by decide +kernel
theorem dX6_join_89 : decode cX6_join 89 = .ok (.aaload, 1) := by decide +kernel
theorem dX6_join_90 : decode cX6_join 90 = .ok (.iload_n 2, 1) := by decide +kernel
theorem dX6_join_91 : decode cX6_join 91 = .ok (.iconst 5, 1) := by decide +kernel
theorem dX6_join_92 : decode cX6_join 92 = .ok (.imul, 1) := by decide +kernel
theorem dX6_join_93 : decode cX6_join 93 = .ok (.iload_n 3, 1) := by decide +kernel
theorem dX6_join_94 : decode cX6_join 94 = .ok (.iadd, 1) := by decide +kernel
theorem dX6_join_95 : decode cX6_join 95 = .ok (.invokevirtual 204, 3) := by decide +kernel
theorem dX6_join_98 : decode cX6_join 98 = .ok (.aload_n 0, 1) := by decide +kernel
theorem dX6_join_99 : decode cX6_join 99 = .ok (.getfield 12, 3) := by decide +kernel
theorem dX6_join_102 : decode cX6_join 102 = .ok (.getfield 187, 3) := by decide +kernel
theorem dX6_join_105 : decode cX6_join 105 = .ok (.iload_n 1, 1) := by decide +kernel
theorem dX6_join_106 : decode cX6_join 106 = .ok (.aaload, 1) := by decide +kernel
theorem dX6_join_107 : decode cX6_join 107 = .ok (.getfield 208, 3) := by decide +kernel
theorem dX6_join_110 : decode cX6_join 110 = .ok (.ireturn, 1) := by decide +kernel
theorem dX6_start_0 : decode cX6_start 0 = .ok (.aload_n 0, 1) := by decide +kernel
theorem dX6_start_1 : decode cX6_start 1 = .ok (.getfield 12, 3) := by decide +kernel
theorem dX6_start_4 : decode cX6_start 4 = .ok (.iload_n 1, 1) := by decide +kernel
theorem dX6_start_5 : decode cX6_start 5 = .ok (.invokevirtual 211, 3) := by decide +kernel
theorem dX6_start_8 : decode cX6_start 8 = .ok (.istore_n 2, 1) := by decide +kernel
theorem dX6_start_9 : decode cX6_start 9 = .ok (.iload_n 2, 1) := by decide +kernel
theorem dX6_start_10 : decode cX6_start 10 = .ok (.iconst (-1), 1) := by decide +kernel
theorem dX6_start_11 : decode cX6_start 11 = .ok (.if_icmp .ne 13, 3) := by decide +kernel
theorem dX6_start_14 : decode cX6_start 14 = .ok (.new 75, 3) := by decide +kernel
theorem dX6_start_17 : decode cX6_start 17 = .ok (.dup, 1) := by decide +kernel
theorem dX6_start_18 : decode cX6_start 18 = .ok (.ldc 214, 2) := by decide +kernel
theorem dX6_start_20 : decode cX6_start 20 = .ok (.invokespecial 79, 3) := by decide +kernel
theorem dX6_start_23 : decode cX6_start 23 = .ok (.athrow, 1) := by decide +kernel
theorem dX6_start_24 : decode cX6_start 24 = .ok (.iload_n 2, 1) := by decide +kernel
theorem dX6_start_25 : decode cX6_start 25 = .ok (.ifCond .eq 18, 3) := by decide +kernel
theorem dX6_start_28 : decode cX6_start 28 = .ok (.aload_n 0, 1) := by decide +kernel
theorem dX6_start_29 : decode cX6_start 29 = .ok (.iload_n 2, 1) := by decide +kernel
theorem dX6_start_30 : decode cX6_start 30 = .ok (.putfield 44, 3) := by decide +kernel
theorem dX6_start_33 : decode cX6_start 33 = .ok (.new 146, 3) := by decide +kernel
theorem dX6_start_36 : decode cX6_start 36 = .ok (.dup, 1) := by decide +kernel
theorem dX6_start_37 : decode cX6_start 37 = .ok (.ldc 216, 2) := by decide +kernel
theorem dX6_start_39 : decode cX6_start 39 = .ok (.invokespecial 150, 3) := by decide +kernel
theorem dX6_start_42 : decode cX6_start 42 = .ok (.athrow, 1) := by decide +kernel
theorem dX6_start_43 : decode cX6_start 43 = .ok (.aload_n 0, 1) := by decide +kernel
theorem dX6_start_44 : decode cX6_start 44 = .ok (.getfield 29, 3) := by decide +kernel
theorem dX6_start_47 : decode cX6_start 47 = .ok (.aload_n 0, 1) := by decide +kernel
theorem dX6_start_48 : decode cX6_start 48 = .ok (.getfield 12, 3) := by decide +kernel
theorem dX6_start_51 : decode cX6_start 51 = .ok (.invokevirtual 58, 3) := by decide +kernel
theorem dX6_start_54 : decode cX6_start 54 = .ok (.aload_n 0, 1) := by decide +kernel
theorem dX6_start_55 : decode cX6_start 55 = .ok (.getfield 12, 3) := by decide +kernel
theorem dX6_start_58 : decode cX6_start 58 = .ok (.aload_n 0, 1) := by decide +kernel
theorem dX6_start_59 : decode cX6_start 59 = .ok (.getfield 12, 3) := by decide +kernel
theorem dX6_start_62 : decode cX6_start 62 = .ok (.getfield 187, 3) := by decide +kernel
theorem dX6_start_65 : decode cX6_start 65 = .ok (.iload_n 1, 1) := by decide +kernel
theorem dX6_start_66 : decode cX6_start 66 = .ok (.aaload, 1) := by decide +kernel
theorem dX6_start_67 : decode cX6_start 67 = .ok (.invokevirtual 218, 3) := by decide +kernel
theorem dX6_start_70 : decode cX6_start 70 = .ok (.aload_n 0, 1) := by decide +kernel
theorem dX6_start_71 : decode cX6_start 71 = .ok (.getfield 12, 3) := by decide +kernel
theorem dX6_start_74 : decode cX6_start 74 = .ok (.getfield 187, 3) := by decide +kernel
theorem dX6_start_77 : decode cX6_start 77 = .ok (.iload_n 1, 1) := by decide +kernel
theorem dX6_start_78 : decode cX6_start 78 = .ok (.aaload, 1) := by decide +kernel
theorem dX6_start_79 : decode cX6_start 79 = .ok (.getfield 208, 3) := by decide +kernel
theorem dX6_start_82 : decode cX6_start 82 = .ok (.ireturn, 1) := by decide +kernel
theorem dX6_roll_0 : decode cX6_roll 0 = .ok (.aload_n 0, 1) := by decide +kernel
theorem dX6_roll_1 : decode cX6_roll 1 = .ok (.getfield 12, 3) := by decide +kernel
theorem dX6_roll_4 : decode cX6_roll 4 = .ok (.iload_n 1, 1) := by decide +kernel
theorem dX6_roll_5 : decode cX6_roll 5 = .ok (.invokevirtual 222, 3) := by decide +kernel
theorem dX6_roll_8 : decode cX6_roll 8 = .ok (.istore_n 2, 1) := by decide +kernel
theorem dX6_roll_9 : decode cX6_roll 9 = .ok (.iload_n 2, 1) := by decide +kernel
theorem dX6_roll_10 : decode cX6_roll 10 = .ok (.iconst (-1), 1) := by decide +kernel
theorem dX6_roll_11 : decode cX6_roll 11 = .ok (.if_icmp .ne 13, 3) := by decide +kernel
theorem dX6_roll_14 : decode cX6_roll 14 = .ok (.new 75, 3) := by decide +kernel
theorem dX6_roll_17 : decode cX6_roll 17 = .ok (.dup, 1) := by decide +kernel
theorem dX6_roll_18 : decode cX6_roll 18 = .ok (.ldc 214, 2) := by decide +kernel
theorem dX6_roll_20 : decode cX6_roll 20 = .ok (.invokespecial 79, 3) := by decide +kernel
theorem dX6_roll_23 : decode cX6_roll 23 = .ok (.athrow, 1) := by decide +kernel
theorem dX6_roll_24 : decode cX6_roll 24 = .ok (.iload_n 2, 1) := by decide +kernel
theorem dX6_roll_25 : decode cX6_roll 25 = .ok (.ifCond .eq 18, 3) := by decide +kernel
theorem dX6_roll_28 : decode cX6_roll 28 = .ok (.aload_n 0, 1) := by decide +kernel
theorem dX6_roll_29 : decode cX6_roll 29 = .ok (.iload_n 2, 1) := by decide +kernel
theorem dX6_roll_30 : decode cX6_roll 30 = .ok (.putfield 44, 3) := by decide +kernel
theorem dX6_roll_33 : decode cX6_roll 33 = .ok (.new 146, 3) := by decide +kernel
theorem dX6_roll_36 : decode cX6_roll 36 = .ok (.dup, 1) := by decide +kernel
theorem dX6_roll_37 : decode cX6_roll 37 = .ok (.ldc 225, 2) := by decide +kernel
theorem dX6_roll_39 : decode cX6_roll 39 = .ok (.invokespecial 150, 3) := by decide +kernel
theorem dX6_roll_42 : decode cX6_roll 42 = .ok (.athrow, 1) := by decide +kernel
theorem dX6_roll_43 : decode cX6_roll 43 = .ok (.aload_n 0, 1) := by decide +kernel
theorem dX6_roll_44 : decode cX6_roll 44 = .ok (.getfield 29, 3) := by decide +kernel
theorem dX6_roll_47 : decode cX6_roll 47 = .ok (.aload_n 0, 1) := by decide +kernel
theorem dX6_roll_48 : decode cX6_roll 48 = .ok (.getfield 12, 3) := by decide +kernel
theorem dX6_roll_51 : decode cX6_roll 51 = .ok (.invokevirtual 58, 3) := by decide +kernel
theorem dX6_roll_54 : decode cX6_roll 54 = .ok (.aload_n 0, 1) := by decide +kernel
theorem dX6_roll_55 : decode cX6_roll 55 = .ok (.getfield 12, 3) := by decide +kernel
theorem dX6_roll_58 : decode cX6_roll 58 = .ok (.aload_n 0, 1) := by decide +kernel
theorem dX6_roll_59 : decode cX6_roll 59 = .ok (.getfield 12, 3) := by decide +kernel
theorem dX6_roll_62 : decode cX6_roll 62 = .ok (.getfield 187, 3) := by decide +kernel
theorem dX6_roll_65 : decode cX6_roll 65 = .ok (.iload_n 1, 1) := by decide +kernel
theorem dX6_roll_66 : decode cX6_roll 66 = .ok (.aaload, 1) := by decide +kernel
theorem dX6_roll_67 : decode cX6_roll 67 = .ok (.invokevirtual 218, 3) := by decide +kernel
theorem dX6_roll_70 : decode cX6_roll 70 = .ok (.aload_n 0, 1) := by decide +kernel
theorem dX6_roll_71 : decode cX6_roll 71 = .ok (.getfield 12, 3) := by decide +kernel
theorem dX6_roll_74 : decode cX6_roll 74 = .ok (.getfield 187, 3) := by decide +kernel
theorem dX6_roll_77 : decode cX6_roll 77 = .ok (.iload_n 1, 1) := by decide +kernel
theorem dX6_roll_78 : decode cX6_roll 78 = .ok (.aaload, 1) := by decide +kernel
theorem dX6_roll_79 : decode cX6_roll 79 = .ok (.invokevirtual 227, 3) := by decide +kernel
theorem dX6_roll_82 : decode cX6_roll 82 = .ok (.ireturn, 1) := by decide +kernel
theorem dX6_why_0 : decode cX6_why 0 = .ok (.aload_n 0, 1) := by decide +kernel
theorem dX6_why_1 : decode cX6_why 1 = .ok (.getfield 12, 3) := by decide +kernel
theorem dX6_why_4 : decode cX6_why 4 = .ok (.iload_n 1, 1) := by decide +kernel
theorem dX6_why_5 : decode cX6_why 5 = .ok (.invokevirtual 222, 3) := by decide +kernel
theorem dX6_why_8 : decode cX6_why 8 = .ok (.istore_n 3, 1) := by decide +kernel
theorem dX6_why_9 : decode cX6_why 9 = .ok (.iload_n 3, 1) := by decide +kernel
theorem dX6_why_10 : decode cX6_why 10 = .ok (.iconst (-1), 1) := by decide +kernel
theorem dX6_why_11 : decode cX6_why 11 = .ok (.if_icmp .ne 13, 3) := by decide +kernel
theorem dX6_why_14 : decode cX6_why 14 = .ok (.new 75, 3) := by decide +kernel
theorem dX6_why_17 : decode cX6_why 17 = .ok (.dup, 1) := by decide +kernel
theorem dX6_why_18 : decode cX6_why 18 = .ok (.ldc 214, 2) := by decide +kernel
theorem dX6_why_20 : decode cX6_why 20 = .ok (.invokespecial 79, 3) := by decide +kernel
theorem dX6_why_23 : decode cX6_why 23 = .ok (.athrow, 1) := by decide +kernel
theorem dX6_why_24 : decode cX6_why 24 = .ok (.iload_n 2, 1) := by decide +kernel
theorem dX6_why_25 : decode cX6_why 25 = .ok (.ifCond .eq 10, 3) := by decide +kernel
theorem dX6_why_28 : decode cX6_why 28 = .ok (.iload_n 3, 1) := by decide +kernel
theorem dX6_why_29 : decode cX6_why 29 = .ok (.bipush 16, 2) := by decide +kernel
theorem dX6_why_31 : decode cX6_why 31 = .ok (.irem, 1) := by decide +kernel
theorem dX6_why_32 : decode cX6_why 32 = .ok (.goto 7, 3) := by decide +kernel
theorem dX6_why_35 : decode cX6_why 35 = .ok (.iload_n 3, 1) := by decide +kernel
theorem dX6_why_36 : decode cX6_why 36 = .ok (.bipush 16, 2) := by decide +kernel
theorem dX6_why_38 : decode cX6_why 38 = .ok (.idiv, 1) := by decide +kernel
theorem dX6_why_39 : decode cX6_why 39 = .ok (.ireturn, 1) := by decide +kernel
theorem dX6_convoyOf_0 : decode cX6_convoyOf 0 = .ok (.aload_n 0, 1) := by decide +kernel
theorem dX6_convoyOf_1 : decode cX6_convoyOf 1 = .ok (.getfield 12, 3) := by decide +kernel
theorem dX6_convoyOf_4 : decode cX6_convoyOf 4 = .ok (.iload_n 1, 1) := by decide +kernel
theorem dX6_convoyOf_5 : decode cX6_convoyOf 5 = .ok (.invokevirtual 231, 3) := by decide +kernel
theorem dX6_convoyOf_8 : decode cX6_convoyOf 8 = .ok (.ifCond .ne 13, 3) := by decide +kernel
theorem dX6_convoyOf_11 : decode cX6_convoyOf 11 = .ok (.new 75, 3) := by decide +kernel
theorem dX6_convoyOf_14 : decode cX6_convoyOf 14 = .ok (.dup, 1) := by decide +kernel
theorem dX6_convoyOf_15 : decode cX6_convoyOf 15 = .ok (.ldc 214, 2) := by decide +kernel
theorem dX6_convoyOf_17 : decode cX6_convoyOf 17 = .ok (.invokespecial 79, 3) := by decide +kernel
theorem dX6_convoyOf_20 : decode cX6_convoyOf 20 = .ok (.athrow, 1) := by decide +kernel
theorem dX6_convoyOf_21 : decode cX6_convoyOf 21 = .ok (.aload_n 0, 1) := by decide +kernel
theorem dX6_convoyOf_22 : decode cX6_convoyOf 22 = .ok (.getfield 12, 3) := by decide +kernel
theorem dX6_convoyOf_25 : decode cX6_convoyOf 25 = .ok (.getfield 187, 3) := by decide +kernel
theorem dX6_convoyOf_28 : decode cX6_convoyOf 28 = .ok (.iload_n 1, 1) := by decide +kernel
theorem dX6_convoyOf_29 : decode cX6_convoyOf 29 = .ok (.aaload, 1) := by decide +kernel
theorem dX6_convoyOf_30 : decode cX6_convoyOf 30 = .ok (.astore_n 3, 1) := by decide +kernel
theorem dX6_convoyOf_31 : decode cX6_convoyOf 31 = .ok (.iload_n 2, 1) := by decide +kernel
theorem dX6_convoyOf_32 : decode cX6_convoyOf 32 = .ok (.tableswitch 78 0 5 #[40, 45, 50, 55, 60, 65], 40) := by decide +kernel
theorem dX6_convoyOf_72 : decode cX6_convoyOf 72 = .ok (.aload_n 3, 1) := by decide +kernel
theorem dX6_convoyOf_73 : decode cX6_convoyOf 73 = .ok (.getfield 191, 3) := by decide +kernel
theorem dX6_convoyOf_76 : decode cX6_convoyOf 76 = .ok (.ireturn, 1) := by decide +kernel
theorem dX6_convoyOf_77 : decode cX6_convoyOf 77 = .ok (.aload_n 3, 1) := by decide +kernel
theorem dX6_convoyOf_78 : decode cX6_convoyOf 78 = .ok (.getfield 208, 3) := by decide +kernel
theorem dX6_convoyOf_81 : decode cX6_convoyOf 81 = .ok (.ireturn, 1) := by decide +kernel
theorem dX6_convoyOf_82 : decode cX6_convoyOf 82 = .ok (.aload_n 3, 1) := by decide +kernel
theorem dX6_convoyOf_83 : decode cX6_convoyOf 83 = .ok (.getfield 234, 3) := by decide +kernel
theorem dX6_convoyOf_86 : decode cX6_convoyOf 86 = .ok (.ireturn, 1) := by decide +kernel
theorem dX6_convoyOf_87 : decode cX6_convoyOf 87 = .ok (.aload_n 3, 1) := by decide +kernel
theorem dX6_convoyOf_88 : decode cX6_convoyOf 88 = .ok (.invokevirtual 227, 3) := by decide +kernel
theorem dX6_convoyOf_91 : decode cX6_convoyOf 91 = .ok (.ireturn, 1) := by decide +kernel
theorem dX6_convoyOf_92 : decode cX6_convoyOf 92 = .ok (.aload_n 3, 1) := by decide +kernel
theorem dX6_convoyOf_93 : decode cX6_convoyOf 93 = .ok (.invokevirtual 237, 3) := by decide +kernel
theorem dX6_convoyOf_96 : decode cX6_convoyOf 96 = .ok (.ireturn, 1) := by decide +kernel
theorem dX6_convoyOf_97 : decode cX6_convoyOf 97 = .ok (.aload_n 3, 1) := by decide +kernel
theorem dX6_convoyOf_98 : decode cX6_convoyOf 98 = .ok (.invokevirtual 240, 3) := by decide +kernel
theorem dX6_convoyOf_101 : decode cX6_convoyOf 101 = .ok (.ifCond .eq 7, 3) := by decide +kernel
theorem dX6_convoyOf_104 : decode cX6_convoyOf 104 = .ok (.iconst 1, 1) := by decide +kernel
theorem dX6_convoyOf_105 : decode cX6_convoyOf 105 = .ok (.goto 4, 3) := by decide +kernel
theorem dX6_convoyOf_108 : decode cX6_convoyOf 108 = .ok (.iconst 0, 1) := by decide +kernel
theorem dX6_convoyOf_109 : decode cX6_convoyOf 109 = .ok (.ireturn, 1) := by decide +kernel
theorem dX6_convoyOf_110 : decode cX6_convoyOf 110 = .ok (.new 51, 3) := by decide +kernel
theorem dX6_convoyOf_113 : decode cX6_convoyOf 113 = .ok (.dup, 1) := by decide +kernel
theorem dX6_convoyOf_114 : decode cX6_convoyOf 114 = .ok (.ldc 244, 2) := by decide +kernel
theorem dX6_convoyOf_116 : decode cX6_convoyOf 116 = .ok (.invokespecial 55, 3) := by decide +kernel
theorem dX6_convoyOf_119 : decode cX6_convoyOf 119 = .ok (.athrow, 1) := by decide +kernel
theorem dX6_truckOf_0 : decode cX6_truckOf 0 = .ok (.aload_n 0, 1) := by decide +kernel
theorem dX6_truckOf_1 : decode cX6_truckOf 1 = .ok (.getfield 12, 3) := by decide +kernel
theorem dX6_truckOf_4 : decode cX6_truckOf 4 = .ok (.iload_n 1, 1) := by decide +kernel
theorem dX6_truckOf_5 : decode cX6_truckOf 5 = .ok (.iload_n 2, 1) := by decide +kernel
theorem dX6_truckOf_6 : decode cX6_truckOf 6 = .ok (.invokevirtual 246, 3) := by decide +kernel
theorem dX6_truckOf_9 : decode cX6_truckOf 9 = .ok (.astore 4, 2) := by decide +kernel
theorem dX6_truckOf_11 : decode cX6_truckOf 11 = .ok (.aload 4, 2) := by decide +kernel
theorem dX6_truckOf_13 : decode cX6_truckOf 13 = .ok (.ifnonnull 13, 3) := by decide +kernel
theorem dX6_truckOf_16 : decode cX6_truckOf 16 = .ok (.new 75, 3) := by decide +kernel
theorem dX6_truckOf_19 : decode cX6_truckOf 19 = .ok (.dup, 1) := by decide +kernel
theorem dX6_truckOf_20 : decode cX6_truckOf 20 = .ok (.ldc 250, 2) := by decide +kernel
theorem dX6_truckOf_22 : decode cX6_truckOf 22 = .ok (.invokespecial 79, 3) := by decide +kernel
theorem dX6_truckOf_25 : decode cX6_truckOf 25 = .ok (.athrow, 1) := by decide +kernel
theorem dX6_truckOf_26 : decode cX6_truckOf 26 = .ok (.iload_n 3, 1) := by decide +kernel
theorem dX6_truckOf_27 : decode cX6_truckOf 27 = .ok (.tableswitch 61 0 3 #[29, 35, 41, 47], 29) := by decide +kernel
theorem dX6_truckOf_56 : decode cX6_truckOf 56 = .ok (.aload 4, 2) := by decide +kernel
theorem dX6_truckOf_58 : decode cX6_truckOf 58 = .ok (.getfield 252, 3) := by decide +kernel
theorem dX6_truckOf_61 : decode cX6_truckOf 61 = .ok (.ireturn, 1) := by decide +kernel
theorem dX6_truckOf_62 : decode cX6_truckOf 62 = .ok (.aload 4, 2) := by decide +kernel
theorem dX6_truckOf_64 : decode cX6_truckOf 64 = .ok (.getfield 174, 3) := by decide +kernel
theorem dX6_truckOf_67 : decode cX6_truckOf 67 = .ok (.ireturn, 1) := by decide +kernel
theorem dX6_truckOf_68 : decode cX6_truckOf 68 = .ok (.aload 4, 2) := by decide +kernel
theorem dX6_truckOf_70 : decode cX6_truckOf 70 = .ok (.getfield 177, 3) := by decide +kernel
theorem dX6_truckOf_73 : decode cX6_truckOf 73 = .ok (.ireturn, 1) := by decide +kernel
theorem dX6_truckOf_74 : decode cX6_truckOf 74 = .ok (.aload_n 0, 1) := by decide +kernel
theorem dX6_truckOf_75 : decode cX6_truckOf 75 = .ok (.getfield 12, 3) := by decide +kernel
theorem dX6_truckOf_78 : decode cX6_truckOf 78 = .ok (.getfield 187, 3) := by decide +kernel
theorem dX6_truckOf_81 : decode cX6_truckOf 81 = .ok (.iload_n 1, 1) := by decide +kernel
theorem dX6_truckOf_82 : decode cX6_truckOf 82 = .ok (.aaload, 1) := by decide +kernel
theorem dX6_truckOf_83 : decode cX6_truckOf 83 = .ok (.iload_n 2, 1) := by decide +kernel
theorem dX6_truckOf_84 : decode cX6_truckOf 84 = .ok (.invokevirtual 255, 3) := by decide +kernel
theorem dX6_truckOf_87 : decode cX6_truckOf 87 = .ok (.ireturn, 1) := by decide +kernel
theorem dX6_truckOf_88 : decode cX6_truckOf 88 = .ok (.new 51, 3) := by decide +kernel
theorem dX6_truckOf_91 : decode cX6_truckOf 91 = .ok (.dup, 1) := by decide +kernel
theorem dX6_truckOf_92 : decode cX6_truckOf 92 = .ok (.ldc 172, 2) := by decide +kernel
theorem dX6_truckOf_94 : decode cX6_truckOf 94 = .ok (.invokespecial 55, 3) := by decide +kernel
theorem dX6_truckOf_97 : decode cX6_truckOf 97 = .ok (.athrow, 1) := by decide +kernel
theorem dX6_load_0 : decode cX6_load 0 = .ok (.aload_n 0, 1) := by decide +kernel
theorem dX6_load_1 : decode cX6_load 1 = .ok (.getfield 12, 3) := by decide +kernel
theorem dX6_load_4 : decode cX6_load 4 = .ok (.iload_n 1, 1) := by decide +kernel
theorem dX6_load_5 : decode cX6_load 5 = .ok (.iload_n 2, 1) := by decide +kernel
theorem dX6_load_6 : decode cX6_load 6 = .ok (.invokevirtual 246, 3) := by decide +kernel
theorem dX6_load_9 : decode cX6_load 9 = .ok (.astore_n 3, 1) := by decide +kernel
theorem dX6_load_10 : decode cX6_load 10 = .ok (.aload_n 3, 1) := by decide +kernel
theorem dX6_load_11 : decode cX6_load 11 = .ok (.ifnonnull 13, 3) := by decide +kernel
theorem dX6_load_14 : decode cX6_load 14 = .ok (.new 75, 3) := by decide +kernel
theorem dX6_load_17 : decode cX6_load 17 = .ok (.dup, 1) := by decide +kernel
theorem dX6_load_18 : decode cX6_load 18 = .ok (.ldc 250, 2) := by decide +kernel
theorem dX6_load_20 : decode cX6_load 20 = .ok (.invokespecial 79, 3) := by decide +kernel
theorem dX6_load_23 : decode cX6_load 23 = .ok (.athrow, 1) := by decide +kernel
theorem dX6_load_24 : decode cX6_load 24 = .ok (.aload_n 3, 1) := by decide +kernel
theorem dX6_load_25 : decode cX6_load 25 = .ok (.invokevirtual 258, 3) := by decide +kernel
theorem dX6_load_28 : decode cX6_load 28 = .ok (.freturn, 1) := by decide +kernel
theorem dX6_at_0 : decode cX6_at 0 = .ok (.iload_n 1, 1) := by decide +kernel
theorem dX6_at_1 : decode cX6_at 1 = .ok (.invokestatic 72, 3) := by decide +kernel
theorem dX6_at_4 : decode cX6_at 4 = .ok (.ifCond .ne 13, 3) := by decide +kernel
theorem dX6_at_7 : decode cX6_at 7 = .ok (.new 75, 3) := by decide +kernel
theorem dX6_at_10 : decode cX6_at 10 = .ok (.dup, 1) := by decide +kernel
theorem dX6_at_11 : decode cX6_at 11 = .ok (.ldc 77, 2) := by decide +kernel
theorem dX6_at_13 : decode cX6_at 13 = .ok (.invokespecial 79, 3) := by decide +kernel
theorem dX6_at_16 : decode cX6_at 16 = .ok (.athrow, 1) := by decide +kernel
theorem dX6_at_17 : decode cX6_at 17 = .ok (.aload_n 0, 1) := by decide +kernel
theorem dX6_at_18 : decode cX6_at 18 = .ok (.getfield 12, 3) := by decide +kernel
theorem dX6_at_21 : decode cX6_at 21 = .ok (.iload_n 1, 1) := by decide +kernel
theorem dX6_at_22 : decode cX6_at 22 = .ok (.invokevirtual 128, 3) := by decide +kernel
theorem dX6_at_25 : decode cX6_at 25 = .ok (.istore_n 2, 1) := by decide +kernel
theorem dX6_at_26 : decode cX6_at 26 = .ok (.iload_n 2, 1) := by decide +kernel
theorem dX6_at_27 : decode cX6_at 27 = .ok (.ifCond .ge 14, 3) := by decide +kernel
theorem dX6_at_30 : decode cX6_at 30 = .ok (.new 101, 3) := by decide +kernel
theorem dX6_at_33 : decode cX6_at 33 = .ok (.dup, 1) := by decide +kernel
theorem dX6_at_34 : decode cX6_at 34 = .ok (.ldc_w 262, 3) := by decide +kernel
theorem dX6_at_37 : decode cX6_at 37 = .ok (.invokespecial 105, 3) := by decide +kernel
theorem dX6_at_40 : decode cX6_at 40 = .ok (.athrow, 1) := by decide +kernel
theorem dX6_at_41 : decode cX6_at 41 = .ok (.bipush 10, 2) := by decide +kernel
theorem dX6_at_43 : decode cX6_at 43 = .ok (.iload_n 2, 1) := by decide +kernel
theorem dX6_at_44 : decode cX6_at 44 = .ok (.imul, 1) := by decide +kernel
theorem dX6_at_45 : decode cX6_at 45 = .ok (.aload_n 0, 1) := by decide +kernel
theorem dX6_at_46 : decode cX6_at 46 = .ok (.getfield 12, 3) := by decide +kernel
theorem dX6_at_49 : decode cX6_at 49 = .ok (.getfield 187, 3) := by decide +kernel
theorem dX6_at_52 : decode cX6_at 52 = .ok (.iload_n 2, 1) := by decide +kernel
theorem dX6_at_53 : decode cX6_at 53 = .ok (.aaload, 1) := by decide +kernel
theorem dX6_at_54 : decode cX6_at 54 = .ok (.iload_n 1, 1) := by decide +kernel
theorem dX6_at_55 : decode cX6_at 55 = .ok (.invokevirtual 264, 3) := by decide +kernel
theorem dX6_at_58 : decode cX6_at 58 = .ok (.iadd, 1) := by decide +kernel
theorem dX6_at_59 : decode cX6_at 59 = .ok (.ireturn, 1) := by decide +kernel
theorem dX6_rolls_0 : decode cX6_rolls 0 = .ok (.aload_n 0, 1) := by decide +kernel
theorem dX6_rolls_1 : decode cX6_rolls 1 = .ok (.getfield 12, 3) := by decide +kernel
theorem dX6_rolls_4 : decode cX6_rolls 4 = .ok (.iload_n 1, 1) := by decide +kernel
theorem dX6_rolls_5 : decode cX6_rolls 5 = .ok (.invokevirtual 231, 3) := by decide +kernel
theorem dX6_rolls_8 : decode cX6_rolls 8 = .ok (.ifCond .ne 13, 3) := by decide +kernel
theorem dX6_rolls_11 : decode cX6_rolls 11 = .ok (.new 75, 3) := by decide +kernel
theorem dX6_rolls_14 : decode cX6_rolls 14 = .ok (.dup, 1) := by decide +kernel
theorem dX6_rolls_15 : decode cX6_rolls 15 = .ok (.ldc 214, 2) := by decide +kernel
theorem dX6_rolls_17 : decode cX6_rolls 17 = .ok (.invokespecial 79, 3) := by decide +kernel
theorem dX6_rolls_20 : decode cX6_rolls 20 = .ok (.athrow, 1) := by decide +kernel
theorem dX6_rolls_21 : decode cX6_rolls 21 = .ok (.aload_n 0, 1) := by decide +kernel
theorem dX6_rolls_22 : decode cX6_rolls 22 = .ok (.getfield 12, 3) := by decide +kernel
theorem dX6_rolls_25 : decode cX6_rolls 25 = .ok (.iload_n 1, 1) := by decide +kernel
theorem dX6_rolls_26 : decode cX6_rolls 26 = .ok (.invokevirtual 267, 3) := by decide +kernel
theorem dX6_rolls_29 : decode cX6_rolls 29 = .ok (.ireturn, 1) := by decide +kernel
theorem dX6_rollsAgain_0 : decode cX6_rollsAgain 0 = .ok (.aload_n 0, 1) := by decide +kernel
theorem dX6_rollsAgain_1 : decode cX6_rollsAgain 1 = .ok (.getfield 12, 3) := by decide +kernel
theorem dX6_rollsAgain_4 : decode cX6_rollsAgain 4 = .ok (.iload_n 1, 1) := by decide +kernel
theorem dX6_rollsAgain_5 : decode cX6_rollsAgain 5 = .ok (.invokevirtual 231, 3) := by decide +kernel
theorem dX6_rollsAgain_8 : decode cX6_rollsAgain 8 = .ok (.ifCond .ne 13, 3) := by decide +kernel
theorem dX6_rollsAgain_11 : decode cX6_rollsAgain 11 = .ok (.new 75, 3) := by decide +kernel
theorem dX6_rollsAgain_14 : decode cX6_rollsAgain 14 = .ok (.dup, 1) := by decide +kernel
theorem dX6_rollsAgain_15 : decode cX6_rollsAgain 15 = .ok (.ldc 214, 2) := by decide +kernel
theorem dX6_rollsAgain_17 : decode cX6_rollsAgain 17 = .ok (.invokespecial 79, 3) := by decide +kernel
theorem dX6_rollsAgain_20 : decode cX6_rollsAgain 20 = .ok (.athrow, 1) := by decide +kernel
theorem dX6_rollsAgain_21 : decode cX6_rollsAgain 21 = .ok (.aload_n 0, 1) := by decide +kernel
theorem dX6_rollsAgain_22 : decode cX6_rollsAgain 22 = .ok (.getfield 16, 3) := by decide +kernel
theorem dX6_rollsAgain_25 : decode cX6_rollsAgain 25 = .ok (.aload_n 0, 1) := by decide +kernel
theorem dX6_rollsAgain_26 : decode cX6_rollsAgain 26 = .ok (.getfield 12, 3) := by decide +kernel
theorem dX6_rollsAgain_29 : decode cX6_rollsAgain 29 = .ok (.invokevirtual 270, 3) := by decide +kernel
theorem dX6_rollsAgain_32 : decode cX6_rollsAgain 32 = .ok (.iconst 0, 1) := by decide +kernel
theorem dX6_rollsAgain_33 : decode cX6_rollsAgain 33 = .ok (.istore_n 2, 1) := by decide +kernel
theorem dX6_rollsAgain_34 : decode cX6_rollsAgain 34 = .ok (.iload_n 2, 1) := by decide +kernel
theorem dX6_rollsAgain_35 : decode cX6_rollsAgain 35 = .ok (.bipush 24, 2) := by decide +kernel
theorem dX6_rollsAgain_37 : decode cX6_rollsAgain 37 = .ok (.if_icmp .ge 36, 3) := by decide +kernel
theorem dX6_rollsAgain_40 : decode cX6_rollsAgain 40 = .ok (.aload_n 0, 1) := by decide +kernel
theorem dX6_rollsAgain_41 : decode cX6_rollsAgain 41 = .ok (.getfield 16, 3) := by decide +kernel
theorem dX6_rollsAgain_44 : decode cX6_rollsAgain 44 = .ok (.iload_n 1, 1) := by decide +kernel
theorem dX6_rollsAgain_45 : decode cX6_rollsAgain 45 = .ok (.invokevirtual 222, 3) := by decide +kernel
theorem dX6_rollsAgain_48 : decode cX6_rollsAgain 48 = .ok (.ifCond .ne 25, 3) := by decide +kernel
theorem dX6_rollsAgain_51 : decode cX6_rollsAgain 51 = .ok (.aload_n 0, 1) := by decide +kernel
theorem dX6_rollsAgain_52 : decode cX6_rollsAgain 52 = .ok (.getfield 16, 3) := by decide +kernel
theorem dX6_rollsAgain_55 : decode cX6_rollsAgain 55 = .ok (.aload_n 0, 1) := by decide +kernel
theorem dX6_rollsAgain_56 : decode cX6_rollsAgain 56 = .ok (.getfield 16, 3) := by decide +kernel
theorem dX6_rollsAgain_59 : decode cX6_rollsAgain 59 = .ok (.getfield 187, 3) := by decide +kernel
theorem dX6_rollsAgain_62 : decode cX6_rollsAgain 62 = .ok (.iload_n 1, 1) := by decide +kernel
theorem dX6_rollsAgain_63 : decode cX6_rollsAgain 63 = .ok (.aaload, 1) := by decide +kernel
theorem dX6_rollsAgain_64 : decode cX6_rollsAgain 64 = .ok (.invokevirtual 218, 3) := by decide +kernel
theorem dX6_rollsAgain_67 : decode cX6_rollsAgain 67 = .ok (.iinc 2 1, 3) := by decide +kernel
theorem dX6_rollsAgain_70 : decode cX6_rollsAgain 70 = .ok (.goto (-36), 3) := by decide +kernel
theorem dX6_rollsAgain_73 : decode cX6_rollsAgain 73 = .ok (.iload_n 2, 1) := by decide +kernel
theorem dX6_rollsAgain_74 : decode cX6_rollsAgain 74 = .ok (.ireturn, 1) := by decide +kernel
theorem dX6_iceIn_0 : decode cX6_iceIn 0 = .ok (.iload_n 1, 1) := by decide +kernel
theorem dX6_iceIn_1 : decode cX6_iceIn 1 = .ok (.invokestatic 72, 3) := by decide +kernel
theorem dX6_iceIn_4 : decode cX6_iceIn 4 = .ok (.ifCond .ne 13, 3) := by decide +kernel
theorem dX6_iceIn_7 : decode cX6_iceIn 7 = .ok (.new 75, 3) := by decide +kernel
theorem dX6_iceIn_10 : decode cX6_iceIn 10 = .ok (.dup, 1) := by decide +kernel
theorem dX6_iceIn_11 : decode cX6_iceIn 11 = .ok (.ldc 77, 2) := by decide +kernel
theorem dX6_iceIn_13 : decode cX6_iceIn 13 = .ok (.invokespecial 79, 3) := by decide +kernel
theorem dX6_iceIn_16 : decode cX6_iceIn 16 = .ok (.athrow, 1) := by decide +kernel
theorem dX6_iceIn_17 : decode cX6_iceIn 17 = .ok (.iload_n 2, 1) := by decide +kernel
theorem dX6_iceIn_18 : decode cX6_iceIn 18 = .ok (.ifCond .lt 9, 3) := by decide +kernel
theorem dX6_iceIn_21 : decode cX6_iceIn 21 = .ok (.iload_n 2, 1) := by decide +kernel
theorem dX6_iceIn_22 : decode cX6_iceIn 22 = .ok (.bipush 60, 2) := by decide +kernel
theorem dX6_iceIn_24 : decode cX6_iceIn 24 = .ok (.if_icmp .le 14, 3) := by decide +kernel
theorem dX6_iceIn_27 : decode cX6_iceIn 27 = .ok (.new 51, 3) := by decide +kernel
theorem dX6_iceIn_30 : decode cX6_iceIn 30 = .ok (.dup, 1) := by decide +kernel
theorem dX6_iceIn_31 : decode cX6_iceIn 31 = .ok (.ldc_w 273, 3) := by decide +kernel
theorem dX6_iceIn_34 : decode cX6_iceIn 34 = .ok (.invokespecial 55, 3) := by decide +kernel
theorem dX6_iceIn_37 : decode cX6_iceIn 37 = .ok (.athrow, 1) := by decide +kernel
theorem dX6_iceIn_38 : decode cX6_iceIn 38 = .ok (.aload_n 0, 1) := by decide +kernel
theorem dX6_iceIn_39 : decode cX6_iceIn 39 = .ok (.getfield 12, 3) := by decide +kernel
theorem dX6_iceIn_42 : decode cX6_iceIn 42 = .ok (.getfield 80, 3) := by decide +kernel
theorem dX6_iceIn_45 : decode cX6_iceIn 45 = .ok (.iload_n 1, 1) := by decide +kernel
theorem dX6_iceIn_46 : decode cX6_iceIn 46 = .ok (.aaload, 1) := by decide +kernel
theorem dX6_iceIn_47 : decode cX6_iceIn 47 = .ok (.getfield 121, 3) := by decide +kernel
theorem dX6_iceIn_50 : decode cX6_iceIn 50 = .ok (.fstore_n 3, 1) := by decide +kernel
theorem dX6_iceIn_51 : decode cX6_iceIn 51 = .ok (.iconst 0, 1) := by decide +kernel
theorem dX6_iceIn_52 : decode cX6_iceIn 52 = .ok (.istore 4, 2) := by decide +kernel
theorem dX6_iceIn_54 : decode cX6_iceIn 54 = .ok (.iload 4, 2) := by decide +kernel
theorem dX6_iceIn_56 : decode cX6_iceIn 56 = .ok (.iload_n 2, 1) := by decide +kernel
theorem dX6_iceIn_57 : decode cX6_iceIn 57 = .ok (.if_icmp .ge 23, 3) := by decide +kernel
theorem dX6_iceIn_60 : decode cX6_iceIn 60 = .ok (.fload_n 3, 1) := by decide +kernel
theorem dX6_iceIn_61 : decode cX6_iceIn 61 = .ok (.aload_n 0, 1) := by decide +kernel
theorem dX6_iceIn_62 : decode cX6_iceIn 62 = .ok (.getfield 12, 3) := by decide +kernel
theorem dX6_iceIn_65 : decode cX6_iceIn 65 = .ok (.getfield 62, 3) := by decide +kernel
theorem dX6_iceIn_68 : decode cX6_iceIn 68 = .ok (.iconst 0, 1) := by decide +kernel
theorem dX6_iceIn_69 : decode cX6_iceIn 69 = .ok (.iaload, 1) := by decide +kernel
theorem dX6_iceIn_70 : decode cX6_iceIn 70 = .ok (.invokestatic 275, 3) := by decide +kernel
theorem dX6_iceIn_73 : decode cX6_iceIn 73 = .ok (.fstore_n 3, 1) := by decide +kernel
theorem dX6_iceIn_74 : decode cX6_iceIn 74 = .ok (.iinc 4 1, 3) := by decide +kernel
theorem dX6_iceIn_77 : decode cX6_iceIn 77 = .ok (.goto (-23), 3) := by decide +kernel
theorem dX6_iceIn_80 : decode cX6_iceIn 80 = .ok (.fload_n 3, 1) := by decide +kernel
theorem dX6_iceIn_81 : decode cX6_iceIn 81 = .ok (.invokestatic 94, 3) := by decide +kernel
theorem dX6_iceIn_84 : decode cX6_iceIn 84 = .ok (.ireturn, 1) := by decide +kernel
theorem dX6_bearsIn_0 : decode cX6_bearsIn 0 = .ok (.iload_n 1, 1) := by decide +kernel
theorem dX6_bearsIn_1 : decode cX6_bearsIn 1 = .ok (.invokestatic 72, 3) := by decide +kernel
theorem dX6_bearsIn_4 : decode cX6_bearsIn 4 = .ok (.ifCond .ne 13, 3) := by decide +kernel
theorem dX6_bearsIn_7 : decode cX6_bearsIn 7 = .ok (.new 75, 3) := by decide +kernel
theorem dX6_bearsIn_10 : decode cX6_bearsIn 10 = .ok (.dup, 1) := by decide +kernel
theorem dX6_bearsIn_11 : decode cX6_bearsIn 11 = .ok (.ldc 77, 2) := by decide +kernel
theorem dX6_bearsIn_13 : decode cX6_bearsIn 13 = .ok (.invokespecial 79, 3) := by decide +kernel
theorem dX6_bearsIn_16 : decode cX6_bearsIn 16 = .ok (.athrow, 1) := by decide +kernel
theorem dX6_bearsIn_17 : decode cX6_bearsIn 17 = .ok (.iload_n 2, 1) := by decide +kernel
theorem dX6_bearsIn_18 : decode cX6_bearsIn 18 = .ok (.iconst 1, 1) := by decide +kernel
theorem dX6_bearsIn_19 : decode cX6_bearsIn 19 = .ok (.if_icmp .lt 9, 3) := by decide +kernel
theorem dX6_bearsIn_22 : decode cX6_bearsIn 22 = .ok (.iload_n 2, 1) := by decide +kernel
theorem dX6_bearsIn_23 : decode cX6_bearsIn 23 = .ok (.bipush 99, 2) := by decide +kernel
theorem dX6_bearsIn_25 : decode cX6_bearsIn 25 = .ok (.if_icmp .le 14, 3) := by decide +kernel
theorem dX6_bearsIn_28 : decode cX6_bearsIn 28 = .ok (.new 51, 3) := by decide +kernel
theorem dX6_bearsIn_31 : decode cX6_bearsIn 31 = .ok (.dup, 1) := by decide +kernel
theorem dX6_bearsIn_32 : decode cX6_bearsIn 32 = .ok (.ldc_w 279, 3) := by decide +kernel
theorem dX6_bearsIn_35 : decode cX6_bearsIn 35 = .ok (.invokespecial 55, 3) := by decide +kernel
theorem dX6_bearsIn_38 : decode cX6_bearsIn 38 = .ok (.athrow, 1) := by decide +kernel
theorem dX6_bearsIn_39 : decode cX6_bearsIn 39 = .ok (.aload_n 0, 1) := by decide +kernel
theorem dX6_bearsIn_40 : decode cX6_bearsIn 40 = .ok (.getfield 12, 3) := by decide +kernel
theorem dX6_bearsIn_43 : decode cX6_bearsIn 43 = .ok (.getfield 80, 3) := by decide +kernel
theorem dX6_bearsIn_46 : decode cX6_bearsIn 46 = .ok (.iload_n 1, 1) := by decide +kernel
theorem dX6_bearsIn_47 : decode cX6_bearsIn 47 = .ok (.aaload, 1) := by decide +kernel
theorem dX6_bearsIn_48 : decode cX6_bearsIn 48 = .ok (.getfield 121, 3) := by decide +kernel
theorem dX6_bearsIn_51 : decode cX6_bearsIn 51 = .ok (.fstore_n 3, 1) := by decide +kernel
theorem dX6_bearsIn_52 : decode cX6_bearsIn 52 = .ok (.iconst 0, 1) := by decide +kernel
theorem dX6_bearsIn_53 : decode cX6_bearsIn 53 = .ok (.istore 4, 2) := by decide +kernel
theorem dX6_bearsIn_55 : decode cX6_bearsIn 55 = .ok (.iload 4, 2) := by decide +kernel
theorem dX6_bearsIn_57 : decode cX6_bearsIn 57 = .ok (.bipush 90, 2) := by decide +kernel
theorem dX6_bearsIn_59 : decode cX6_bearsIn 59 = .ok (.if_icmp .gt 39, 3) := by decide +kernel
theorem dX6_bearsIn_62 : decode cX6_bearsIn 62 = .ok (.fload_n 3, 1) := by decide +kernel
theorem dX6_bearsIn_63 : decode cX6_bearsIn 63 = .ok (.fload_n 3, 1) := by decide +kernel
theorem dX6_bearsIn_64 : decode cX6_bearsIn 64 = .ok (.fmul, 1) := by decide +kernel
theorem dX6_bearsIn_65 : decode cX6_bearsIn 65 = .ok (.ldc_w 281, 3) := by decide +kernel
theorem dX6_bearsIn_68 : decode cX6_bearsIn 68 = .ok (.fmul, 1) := by decide +kernel
theorem dX6_bearsIn_69 : decode cX6_bearsIn 69 = .ok (.iload_n 2, 1) := by decide +kernel
theorem dX6_bearsIn_70 : decode cX6_bearsIn 70 = .ok (.i2f, 1) := by decide +kernel
theorem dX6_bearsIn_71 : decode cX6_bearsIn 71 = .ok (.fcmp .l, 1) := by decide +kernel
theorem dX6_bearsIn_72 : decode cX6_bearsIn 72 = .ok (.ifCond .lt 6, 3) := by decide +kernel
theorem dX6_bearsIn_75 : decode cX6_bearsIn 75 = .ok (.iload 4, 2) := by decide +kernel
theorem dX6_bearsIn_77 : decode cX6_bearsIn 77 = .ok (.ireturn, 1) := by decide +kernel
theorem dX6_bearsIn_78 : decode cX6_bearsIn 78 = .ok (.fload_n 3, 1) := by decide +kernel
theorem dX6_bearsIn_79 : decode cX6_bearsIn 79 = .ok (.aload_n 0, 1) := by decide +kernel
theorem dX6_bearsIn_80 : decode cX6_bearsIn 80 = .ok (.getfield 12, 3) := by decide +kernel
theorem dX6_bearsIn_83 : decode cX6_bearsIn 83 = .ok (.getfield 62, 3) := by decide +kernel
theorem dX6_bearsIn_86 : decode cX6_bearsIn 86 = .ok (.iconst 0, 1) := by decide +kernel
theorem dX6_bearsIn_87 : decode cX6_bearsIn 87 = .ok (.iaload, 1) := by decide +kernel
theorem dX6_bearsIn_88 : decode cX6_bearsIn 88 = .ok (.invokestatic 275, 3) := by decide +kernel
theorem dX6_bearsIn_91 : decode cX6_bearsIn 91 = .ok (.fstore_n 3, 1) := by decide +kernel
theorem dX6_bearsIn_92 : decode cX6_bearsIn 92 = .ok (.iinc 4 1, 3) := by decide +kernel
theorem dX6_bearsIn_95 : decode cX6_bearsIn 95 = .ok (.goto (-40), 3) := by decide +kernel
theorem dX6_bearsIn_98 : decode cX6_bearsIn 98 = .ok (.new 101, 3) := by decide +kernel
theorem dX6_bearsIn_101 : decode cX6_bearsIn 101 = .ok (.dup, 1) := by decide +kernel
theorem dX6_bearsIn_102 : decode cX6_bearsIn 102 = .ok (.ldc_w 282, 3) := by decide +kernel
theorem dX6_bearsIn_105 : decode cX6_bearsIn 105 = .ok (.invokespecial 105, 3) := by decide +kernel
theorem dX6_bearsIn_108 : decode cX6_bearsIn 108 = .ok (.athrow, 1) := by decide +kernel
theorem dX6_pass_0 : decode cX6_pass 0 = .ok (.iload_n 1, 1) := by decide +kernel
theorem dX6_pass_1 : decode cX6_pass 1 = .ok (.invokestatic 284, 3) := by decide +kernel
theorem dX6_pass_4 : decode cX6_pass 4 = .ok (.ifCond .ne 14, 3) := by decide +kernel
theorem dX6_pass_7 : decode cX6_pass 7 = .ok (.new 51, 3) := by decide +kernel
theorem dX6_pass_10 : decode cX6_pass 10 = .ok (.dup, 1) := by decide +kernel
theorem dX6_pass_11 : decode cX6_pass 11 = .ok (.ldc_w 273, 3) := by decide +kernel
theorem dX6_pass_14 : decode cX6_pass 14 = .ok (.invokespecial 55, 3) := by decide +kernel
theorem dX6_pass_17 : decode cX6_pass 17 = .ok (.athrow, 1) := by decide +kernel
theorem dX6_pass_18 : decode cX6_pass 18 = .ok (.aload_n 0, 1) := by decide +kernel
theorem dX6_pass_19 : decode cX6_pass 19 = .ok (.getfield 29, 3) := by decide +kernel
theorem dX6_pass_22 : decode cX6_pass 22 = .ok (.aload_n 0, 1) := by decide +kernel
theorem dX6_pass_23 : decode cX6_pass 23 = .ok (.getfield 12, 3) := by decide +kernel
theorem dX6_pass_26 : decode cX6_pass 26 = .ok (.invokevirtual 58, 3) := by decide +kernel
theorem dX6_pass_29 : decode cX6_pass 29 = .ok (.aload_n 0, 1) := by decide +kernel
theorem dX6_pass_30 : decode cX6_pass 30 = .ok (.getfield 12, 3) := by decide +kernel
theorem dX6_pass_33 : decode cX6_pass 33 = .ok (.invokevirtual 287, 3) := by decide +kernel
theorem dX6_pass_36 : decode cX6_pass 36 = .ok (.istore_n 2, 1) := by decide +kernel
theorem dX6_pass_37 : decode cX6_pass 37 = .ok (.aload_n 0, 1) := by decide +kernel
theorem dX6_pass_38 : decode cX6_pass 38 = .ok (.getfield 12, 3) := by decide +kernel
theorem dX6_pass_41 : decode cX6_pass 41 = .ok (.iload_n 1, 1) := by decide +kernel
theorem dX6_pass_42 : decode cX6_pass 42 = .ok (.invokevirtual 290, 3) := by decide +kernel
theorem dX6_pass_45 : decode cX6_pass 45 = .ok (.iload_n 2, 1) := by decide +kernel
theorem dX6_pass_46 : decode cX6_pass 46 = .ok (.aload_n 0, 1) := by decide +kernel
theorem dX6_pass_47 : decode cX6_pass 47 = .ok (.getfield 12, 3) := by decide +kernel
theorem dX6_pass_50 : decode cX6_pass 50 = .ok (.invokevirtual 287, 3) := by decide +kernel
theorem dX6_pass_53 : decode cX6_pass 53 = .ok (.isub, 1) := by decide +kernel
theorem dX6_pass_54 : decode cX6_pass 54 = .ok (.ireturn, 1) := by decide +kernel
theorem dX6_append_0 : decode cX6_append 0 = .ok (.aload_n 0, 1) := by decide +kernel
theorem dX6_append_1 : decode cX6_append 1 = .ok (.getfield 36, 3) := by decide +kernel
theorem dX6_append_4 : decode cX6_append 4 = .ok (.getfield 294, 3) := by decide +kernel
theorem dX6_append_7 : decode cX6_append 7 = .ok (.bipush 60, 2) := by decide +kernel
theorem dX6_append_9 : decode cX6_append 9 = .ok (.if_icmp .lt 14, 3) := by decide +kernel
theorem dX6_append_12 : decode cX6_append 12 = .ok (.new 297, 3) := by decide +kernel
theorem dX6_append_15 : decode cX6_append 15 = .ok (.dup, 1) := by decide +kernel
theorem dX6_append_16 : decode cX6_append 16 = .ok (.ldc_w 299, 3) := by decide +kernel
theorem dX6_append_19 : decode cX6_append 19 = .ok (.invokespecial 301, 3) := by decide +kernel
theorem dX6_append_22 : decode cX6_append 22 = .ok (.athrow, 1) := by decide +kernel
theorem dX6_append_23 : decode cX6_append 23 = .ok (.aload_n 0, 1) := by decide +kernel
theorem dX6_append_24 : decode cX6_append 24 = .ok (.getfield 36, 3) := by decide +kernel
theorem dX6_append_27 : decode cX6_append 27 = .ok (.getfield 302, 3) := by decide +kernel
theorem dX6_append_30 : decode cX6_append 30 = .ok (.aload_n 0, 1) := by decide +kernel
theorem dX6_append_31 : decode cX6_append 31 = .ok (.getfield 36, 3) := by decide +kernel
theorem dX6_append_34 : decode cX6_append 34 = .ok (.getfield 294, 3) := by decide +kernel
theorem dX6_append_37 : decode cX6_append 37 = .ok (.iload_n 1, 1) := by decide +kernel
theorem dX6_append_38 : decode cX6_append 38 = .ok (.castore, 1) := by decide +kernel
theorem dX6_append_39 : decode cX6_append 39 = .ok (.aload_n 0, 1) := by decide +kernel
theorem dX6_append_40 : decode cX6_append 40 = .ok (.getfield 36, 3) := by decide +kernel
theorem dX6_append_43 : decode cX6_append 43 = .ok (.dup, 1) := by decide +kernel
theorem dX6_append_44 : decode cX6_append 44 = .ok (.getfield 294, 3) := by decide +kernel
theorem dX6_append_47 : decode cX6_append 47 = .ok (.iconst 1, 1) := by decide +kernel
theorem dX6_append_48 : decode cX6_append 48 = .ok (.iadd, 1) := by decide +kernel
theorem dX6_append_49 : decode cX6_append 49 = .ok (.putfield 294, 3) := by decide +kernel
theorem dX6_append_52 : decode cX6_append 52 = .ok (.aload_n 0, 1) := by decide +kernel
theorem dX6_append_53 : decode cX6_append 53 = .ok (.getfield 36, 3) := by decide +kernel
theorem dX6_append_56 : decode cX6_append 56 = .ok (.getfield 294, 3) := by decide +kernel
theorem dX6_append_59 : decode cX6_append 59 = .ok (.ireturn, 1) := by decide +kernel
theorem dX6_read_0 : decode cX6_read 0 = .ok (.aload_n 0, 1) := by decide +kernel
theorem dX6_read_1 : decode cX6_read 1 = .ok (.aload_n 0, 1) := by decide +kernel
theorem dX6_read_2 : decode cX6_read 2 = .ok (.getfield 36, 3) := by decide +kernel
theorem dX6_read_5 : decode cX6_read 5 = .ok (.invokevirtual 306, 3) := by decide +kernel
theorem dX6_read_8 : decode cX6_read 8 = .ok (.putfield 40, 3) := by decide +kernel
theorem dX6_read_11 : decode cX6_read 11 = .ok (.aload_n 0, 1) := by decide +kernel
theorem dX6_read_12 : decode cX6_read 12 = .ok (.getfield 36, 3) := by decide +kernel
theorem dX6_read_15 : decode cX6_read 15 = .ok (.iconst 0, 1) := by decide +kernel
theorem dX6_read_16 : decode cX6_read 16 = .ok (.putfield 294, 3) := by decide +kernel
theorem dX6_read_19 : decode cX6_read 19 = .ok (.aload_n 0, 1) := by decide +kernel
theorem dX6_read_20 : decode cX6_read 20 = .ok (.getfield 40, 3) := by decide +kernel
theorem dX6_read_23 : decode cX6_read 23 = .ok (.ifCond .lt 14, 3) := by decide +kernel
theorem dX6_read_26 : decode cX6_read 26 = .ok (.new 51, 3) := by decide +kernel
theorem dX6_read_29 : decode cX6_read 29 = .ok (.dup, 1) := by decide +kernel
theorem dX6_read_30 : decode cX6_read 30 = .ok (.ldc_w 309, 3) := by decide +kernel
theorem dX6_read_33 : decode cX6_read 33 = .ok (.invokespecial 55, 3) := by decide +kernel
theorem dX6_read_36 : decode cX6_read 36 = .ok (.athrow, 1) := by decide +kernel
theorem dX6_read_37 : decode cX6_read 37 = .ok (.aload_n 0, 1) := by decide +kernel
theorem dX6_read_38 : decode cX6_read 38 = .ok (.getfield 16, 3) := by decide +kernel
theorem dX6_read_41 : decode cX6_read 41 = .ok (.aload_n 0, 1) := by decide +kernel
theorem dX6_read_42 : decode cX6_read 42 = .ok (.getfield 12, 3) := by decide +kernel
theorem dX6_read_45 : decode cX6_read 45 = .ok (.invokevirtual 270, 3) := by decide +kernel
theorem dX6_read_48 : decode cX6_read 48 = .ok (.iconst 0, 1) := by decide +kernel
theorem dX6_read_49 : decode cX6_read 49 = .ok (.istore_n 1, 1) := by decide +kernel
theorem dX6_read_50 : decode cX6_read 50 = .ok (.iload_n 1, 1) := by decide +kernel
theorem dX6_read_51 : decode cX6_read 51 = .ok (.aload_n 0, 1) := by decide +kernel
theorem dX6_read_52 : decode cX6_read 52 = .ok (.getfield 36, 3) := by decide +kernel
theorem dX6_read_55 : decode cX6_read 55 = .ok (.getfield 311, 3) := by decide +kernel
theorem dX6_read_58 : decode cX6_read 58 = .ok (.if_icmp .ge 57, 3) := by decide +kernel
theorem dX6_read_61 : decode cX6_read 61 = .ok (.aload_n 0, 1) := by decide +kernel
theorem dX6_read_62 : decode cX6_read 62 = .ok (.getfield 36, 3) := by decide +kernel
theorem dX6_read_65 : decode cX6_read 65 = .ok (.iload_n 1, 1) := by decide +kernel
theorem dX6_read_66 : decode cX6_read 66 = .ok (.aload_n 0, 1) := by decide +kernel
theorem dX6_read_67 : decode cX6_read 67 = .ok (.getfield 16, 3) := by decide +kernel
theorem dX6_read_70 : decode cX6_read 70 = .ok (.invokevirtual 314, 3) := by decide +kernel
theorem dX6_read_73 : decode cX6_read 73 = .ok (.istore_n 2, 1) := by decide +kernel
theorem dX6_read_74 : decode cX6_read 74 = .ok (.iload_n 2, 1) := by decide +kernel
theorem dX6_read_75 : decode cX6_read 75 = .ok (.ifCond .ge 14, 3) := by decide +kernel
theorem dX6_read_78 : decode cX6_read 78 = .ok (.new 51, 3) := by decide +kernel
theorem dX6_read_81 : decode cX6_read 81 = .ok (.dup, 1) := by decide +kernel
theorem dX6_read_82 : decode cX6_read 82 = .ok (.ldc_w 318, 3) := by decide +kernel
theorem dX6_read_85 : decode cX6_read 85 = .ok (.invokespecial 55, 3) := by decide +kernel
theorem dX6_read_88 : decode cX6_read 88 = .ok (.athrow, 1) := by decide +kernel
theorem dX6_read_89 : decode cX6_read 89 = .ok (.iload_n 2, 1) := by decide +kernel
theorem dX6_read_90 : decode cX6_read 90 = .ok (.ifCond .le 19, 3) := by decide +kernel
theorem dX6_read_93 : decode cX6_read 93 = .ok (.aload_n 0, 1) := by decide +kernel
theorem dX6_read_94 : decode cX6_read 94 = .ok (.iload_n 2, 1) := by decide +kernel
theorem dX6_read_95 : decode cX6_read 95 = .ok (.putfield 44, 3) := by decide +kernel
theorem dX6_read_98 : decode cX6_read 98 = .ok (.new 146, 3) := by decide +kernel
theorem dX6_read_101 : decode cX6_read 101 = .ok (.dup, 1) := by decide +kernel
theorem dX6_read_102 : decode cX6_read 102 = .ok (.ldc_w 320, 3) := by decide +kernel
theorem dX6_read_105 : decode cX6_read 105 = .ok (.invokespecial 150, 3) := by decide +kernel
theorem dX6_read_108 : decode cX6_read 108 = .ok (.athrow, 1) := by decide +kernel
theorem dX6_read_109 : decode cX6_read 109 = .ok (.iinc 1 1, 3) := by decide +kernel
theorem dX6_read_112 : decode cX6_read 112 = .ok (.goto (-62), 3) := by decide +kernel
theorem dX6_read_115 : decode cX6_read 115 = .ok (.aload_n 0, 1) := by decide +kernel
theorem dX6_read_116 : decode cX6_read 116 = .ok (.getfield 29, 3) := by decide +kernel
theorem dX6_read_119 : decode cX6_read 119 = .ok (.aload_n 0, 1) := by decide +kernel
theorem dX6_read_120 : decode cX6_read 120 = .ok (.getfield 12, 3) := by decide +kernel
theorem dX6_read_123 : decode cX6_read 123 = .ok (.invokevirtual 58, 3) := by decide +kernel
theorem dX6_read_126 : decode cX6_read 126 = .ok (.aload_n 0, 1) := by decide +kernel
theorem dX6_read_127 : decode cX6_read 127 = .ok (.getfield 12, 3) := by decide +kernel
theorem dX6_read_130 : decode cX6_read 130 = .ok (.aload_n 0, 1) := by decide +kernel
theorem dX6_read_131 : decode cX6_read 131 = .ok (.getfield 16, 3) := by decide +kernel
theorem dX6_read_134 : decode cX6_read 134 = .ok (.invokevirtual 270, 3) := by decide +kernel
theorem dX6_read_137 : decode cX6_read 137 = .ok (.aload_n 0, 1) := by decide +kernel
theorem dX6_read_138 : decode cX6_read 138 = .ok (.getfield 36, 3) := by decide +kernel
theorem dX6_read_141 : decode cX6_read 141 = .ok (.getfield 311, 3) := by decide +kernel
theorem dX6_read_144 : decode cX6_read 144 = .ok (.ireturn, 1) := by decide +kernel
theorem dX6_errorPosition_0 : decode cX6_errorPosition 0 = .ok (.aload_n 0, 1) := by decide +kernel
theorem dX6_errorPosition_1 : decode cX6_errorPosition 1 = .ok (.getfield 40, 3) := by decide +kernel
theorem dX6_errorPosition_4 : decode cX6_errorPosition 4 = .ok (.ireturn, 1) := by decide +kernel
theorem dX6_refusal_0 : decode cX6_refusal 0 = .ok (.aload_n 0, 1) := by decide +kernel
theorem dX6_refusal_1 : decode cX6_refusal 1 = .ok (.getfield 44, 3) := by decide +kernel
theorem dX6_refusal_4 : decode cX6_refusal 4 = .ok (.ifCond .ne 14, 3) := by decide +kernel
theorem dX6_refusal_7 : decode cX6_refusal 7 = .ok (.new 101, 3) := by decide +kernel
theorem dX6_refusal_10 : decode cX6_refusal 10 = .ok (.dup, 1) := by decide +kernel
theorem dX6_refusal_11 : decode cX6_refusal 11 = .ok (.ldc_w 322, 3) := by decide +kernel
theorem dX6_refusal_14 : decode cX6_refusal 14 = .ok (.invokespecial 105, 3) := by decide +kernel
theorem dX6_refusal_17 : decode cX6_refusal 17 = .ok (.athrow, 1) := by decide +kernel
theorem dX6_refusal_18 : decode cX6_refusal 18 = .ok (.iload_n 1, 1) := by decide +kernel
theorem dX6_refusal_19 : decode cX6_refusal 19 = .ok (.ifCond .eq 13, 3) := by decide +kernel
theorem dX6_refusal_22 : decode cX6_refusal 22 = .ok (.aload_n 0, 1) := by decide +kernel
theorem dX6_refusal_23 : decode cX6_refusal 23 = .ok (.getfield 44, 3) := by decide +kernel
theorem dX6_refusal_26 : decode cX6_refusal 26 = .ok (.bipush 16, 2) := by decide +kernel
theorem dX6_refusal_28 : decode cX6_refusal 28 = .ok (.irem, 1) := by decide +kernel
theorem dX6_refusal_29 : decode cX6_refusal 29 = .ok (.goto 10, 3) := by decide +kernel
theorem dX6_refusal_32 : decode cX6_refusal 32 = .ok (.aload_n 0, 1) := by decide +kernel
theorem dX6_refusal_33 : decode cX6_refusal 33 = .ok (.getfield 44, 3) := by decide +kernel
theorem dX6_refusal_36 : decode cX6_refusal 36 = .ok (.bipush 16, 2) := by decide +kernel
theorem dX6_refusal_38 : decode cX6_refusal 38 = .ok (.idiv, 1) := by decide +kernel
theorem dX6_refusal_39 : decode cX6_refusal 39 = .ok (.ireturn, 1) := by decide +kernel
theorem dX6_account_0 : decode cX6_account 0 = .ok (.iload_n 1, 1) := by decide +kernel
theorem dX6_account_1 : decode cX6_account 1 = .ok (.tableswitch 211 0 14 #[75, 83, 91, 99, 115, 123, 131, 139, 147, 163, 171, 179, 187, 195, 203], 75) := by decide +kernel
theorem dX6_account_76 : decode cX6_account 76 = .ok (.aload_n 0, 1) := by decide +kernel
theorem dX6_account_77 : decode cX6_account 77 = .ok (.getfield 12, 3) := by decide +kernel
theorem dX6_account_80 : decode cX6_account 80 = .ok (.getfield 324, 3) := by decide +kernel
theorem dX6_account_83 : decode cX6_account 83 = .ok (.ireturn, 1) := by decide +kernel
theorem dX6_account_84 : decode cX6_account 84 = .ok (.aload_n 0, 1) := by decide +kernel
theorem dX6_account_85 : decode cX6_account 85 = .ok (.getfield 12, 3) := by decide +kernel
theorem dX6_account_88 : decode cX6_account 88 = .ok (.invokevirtual 327, 3) := by decide +kernel
theorem dX6_account_91 : decode cX6_account 91 = .ok (.ireturn, 1) := by decide +kernel
theorem dX6_account_92 : decode cX6_account 92 = .ok (.aload_n 0, 1) := by decide +kernel
theorem dX6_account_93 : decode cX6_account 93 = .ok (.getfield 12, 3) := by decide +kernel
theorem dX6_account_96 : decode cX6_account 96 = .ok (.getfield 182, 3) := by decide +kernel
theorem dX6_account_99 : decode cX6_account 99 = .ok (.ireturn, 1) := by decide +kernel
theorem dX6_account_100 : decode cX6_account 100 = .ok (.aload_n 0, 1) := by decide +kernel
theorem dX6_account_101 : decode cX6_account 101 = .ok (.getfield 12, 3) := by decide +kernel
theorem dX6_account_104 : decode cX6_account 104 = .ok (.invokevirtual 330, 3) := by decide +kernel
theorem dX6_account_107 : decode cX6_account 107 = .ok (.aload_n 0, 1) := by decide +kernel
theorem dX6_account_108 : decode cX6_account 108 = .ok (.getfield 12, 3) := by decide +kernel
theorem dX6_account_111 : decode cX6_account 111 = .ok (.invokevirtual 333, 3) := by decide +kernel
theorem dX6_account_114 : decode cX6_account 114 = .ok (.isub, 1) := by decide +kernel
theorem dX6_account_115 : decode cX6_account 115 = .ok (.ireturn, 1) := by decide +kernel
theorem dX6_account_116 : decode cX6_account 116 = .ok (.aload_n 0, 1) := by decide +kernel
theorem dX6_account_117 : decode cX6_account 117 = .ok (.getfield 12, 3) := by decide +kernel
theorem dX6_account_120 : decode cX6_account 120 = .ok (.invokevirtual 333, 3) := by decide +kernel
theorem dX6_account_123 : decode cX6_account 123 = .ok (.ireturn, 1) := by decide +kernel
theorem dX6_account_124 : decode cX6_account 124 = .ok (.aload_n 0, 1) := by decide +kernel
theorem dX6_account_125 : decode cX6_account 125 = .ok (.getfield 12, 3) := by decide +kernel
theorem dX6_account_128 : decode cX6_account 128 = .ok (.invokevirtual 336, 3) := by decide +kernel
theorem dX6_account_131 : decode cX6_account 131 = .ok (.ireturn, 1) := by decide +kernel
theorem dX6_account_132 : decode cX6_account 132 = .ok (.aload_n 0, 1) := by decide +kernel
theorem dX6_account_133 : decode cX6_account 133 = .ok (.getfield 12, 3) := by decide +kernel
theorem dX6_account_136 : decode cX6_account 136 = .ok (.invokevirtual 337, 3) := by decide +kernel
theorem dX6_account_139 : decode cX6_account 139 = .ok (.ireturn, 1) := by decide +kernel
theorem dX6_account_140 : decode cX6_account 140 = .ok (.aload_n 0, 1) := by decide +kernel
theorem dX6_account_141 : decode cX6_account 141 = .ok (.getfield 12, 3) := by decide +kernel
theorem dX6_account_144 : decode cX6_account 144 = .ok (.getfield 338, 3) := by decide +kernel
theorem dX6_account_147 : decode cX6_account 147 = .ok (.ireturn, 1) := by decide +kernel
theorem dX6_account_148 : decode cX6_account 148 = .ok (.aload_n 0, 1) := by decide +kernel
theorem dX6_account_149 : decode cX6_account 149 = .ok (.getfield 12, 3) := by decide +kernel
theorem dX6_account_152 : decode cX6_account 152 = .ok (.getfield 162, 3) := by decide +kernel
theorem dX6_account_155 : decode cX6_account 155 = .ok (.aload_n 0, 1) := by decide +kernel
theorem dX6_account_156 : decode cX6_account 156 = .ok (.getfield 12, 3) := by decide +kernel
theorem dX6_account_159 : decode cX6_account 159 = .ok (.getfield 338, 3) := by decide +kernel
theorem dX6_account_162 : decode cX6_account 162 = .ok (.isub, 1) := by decide +kernel
theorem dX6_account_163 : decode cX6_account 163 = .ok (.ireturn, 1) := by decide +kernel
theorem dX6_account_164 : decode cX6_account 164 = .ok (.aload_n 0, 1) := by decide +kernel
theorem dX6_account_165 : decode cX6_account 165 = .ok (.getfield 12, 3) := by decide +kernel
theorem dX6_account_168 : decode cX6_account 168 = .ok (.invokevirtual 341, 3) := by decide +kernel
theorem dX6_account_171 : decode cX6_account 171 = .ok (.ireturn, 1) := by decide +kernel
theorem dX6_account_172 : decode cX6_account 172 = .ok (.aload_n 0, 1) := by decide +kernel
theorem dX6_account_173 : decode cX6_account 173 = .ok (.getfield 12, 3) := by decide +kernel
theorem dX6_account_176 : decode cX6_account 176 = .ok (.invokevirtual 287, 3) := by decide +kernel
theorem dX6_account_179 : decode cX6_account 179 = .ok (.ireturn, 1) := by decide +kernel
theorem dX6_account_180 : decode cX6_account 180 = .ok (.aload_n 0, 1) := by decide +kernel
theorem dX6_account_181 : decode cX6_account 181 = .ok (.getfield 12, 3) := by decide +kernel
theorem dX6_account_184 : decode cX6_account 184 = .ok (.getfield 344, 3) := by decide +kernel
theorem dX6_account_187 : decode cX6_account 187 = .ok (.ireturn, 1) := by decide +kernel
theorem dX6_account_188 : decode cX6_account 188 = .ok (.aload_n 0, 1) := by decide +kernel
theorem dX6_account_189 : decode cX6_account 189 = .ok (.getfield 12, 3) := by decide +kernel
theorem dX6_account_192 : decode cX6_account 192 = .ok (.getfield 162, 3) := by decide +kernel
theorem dX6_account_195 : decode cX6_account 195 = .ok (.ireturn, 1) := by decide +kernel
theorem dX6_account_196 : decode cX6_account 196 = .ok (.aload_n 0, 1) := by decide +kernel
theorem dX6_account_197 : decode cX6_account 197 = .ok (.getfield 36, 3) := by decide +kernel
theorem dX6_account_200 : decode cX6_account 200 = .ok (.getfield 294, 3) := by decide +kernel
theorem dX6_account_203 : decode cX6_account 203 = .ok (.ireturn, 1) := by decide +kernel
theorem dX6_account_204 : decode cX6_account 204 = .ok (.aload_n 0, 1) := by decide +kernel
theorem dX6_account_205 : decode cX6_account 205 = .ok (.getfield 29, 3) := by decide +kernel
theorem dX6_account_208 : decode cX6_account 208 = .ok (.getfield 347, 3) := by decide +kernel
theorem dX6_account_211 : decode cX6_account 211 = .ok (.ireturn, 1) := by decide +kernel
theorem dX6_account_212 : decode cX6_account 212 = .ok (.new 51, 3) := by decide +kernel
theorem dX6_account_215 : decode cX6_account 215 = .ok (.dup, 1) := by decide +kernel
theorem dX6_account_216 : decode cX6_account 216 = .ok (.ldc_w 348, 3) := by decide +kernel
theorem dX6_account_219 : decode cX6_account 219 = .ok (.invokespecial 55, 3) := by decide +kernel
theorem dX6_account_222 : decode cX6_account 222 = .ok (.athrow, 1) := by decide +kernel
theorem dX6_isWell_0 : decode cX6_isWell 0 = .ok (.aload_n 0, 1) := by decide +kernel
theorem dX6_isWell_1 : decode cX6_isWell 1 = .ok (.getfield 12, 3) := by decide +kernel
theorem dX6_isWell_4 : decode cX6_isWell 4 = .ok (.getfield 162, 3) := by decide +kernel
theorem dX6_isWell_7 : decode cX6_isWell 7 = .ok (.aload_n 0, 1) := by decide +kernel
theorem dX6_isWell_8 : decode cX6_isWell 8 = .ok (.getfield 12, 3) := by decide +kernel
theorem dX6_isWell_11 : decode cX6_isWell 11 = .ok (.getfield 338, 3) := by decide +kernel
theorem dX6_isWell_14 : decode cX6_isWell 14 = .ok (.aload_n 0, 1) := by decide +kernel
theorem dX6_isWell_15 : decode cX6_isWell 15 = .ok (.getfield 12, 3) := by decide +kernel
theorem dX6_isWell_18 : decode cX6_isWell 18 = .ok (.invokevirtual 350, 3) := by decide +kernel
theorem dX6_isWell_21 : decode cX6_isWell 21 = .ok (.iadd, 1) := by decide +kernel
theorem dX6_isWell_22 : decode cX6_isWell 22 = .ok (.aload_n 0, 1) := by decide +kernel
theorem dX6_isWell_23 : decode cX6_isWell 23 = .ok (.getfield 12, 3) := by decide +kernel
theorem dX6_isWell_26 : decode cX6_isWell 26 = .ok (.invokevirtual 353, 3) := by decide +kernel
theorem dX6_isWell_29 : decode cX6_isWell 29 = .ok (.iadd, 1) := by decide +kernel
theorem dX6_isWell_30 : decode cX6_isWell 30 = .ok (.if_icmp .ne 27, 3) := by decide +kernel
theorem dX6_isWell_33 : decode cX6_isWell 33 = .ok (.aload_n 0, 1) := by decide +kernel
theorem dX6_isWell_34 : decode cX6_isWell 34 = .ok (.getfield 12, 3) := by decide +kernel
theorem dX6_isWell_37 : decode cX6_isWell 37 = .ok (.invokevirtual 356, 3) := by decide +kernel
theorem dX6_isWell_40 : decode cX6_isWell 40 = .ok (.ifCond .eq 17, 3) := by decide +kernel
theorem dX6_isWell_43 : decode cX6_isWell 43 = .ok (.aload_n 0, 1) := by decide +kernel
theorem dX6_isWell_44 : decode cX6_isWell 44 = .ok (.getfield 12, 3) := by decide +kernel
theorem dX6_isWell_47 : decode cX6_isWell 47 = .ok (.invokevirtual 359, 3) := by decide +kernel
theorem dX6_isWell_50 : decode cX6_isWell 50 = .ok (.ifCond .eq 7, 3) := by decide +kernel
theorem dX6_isWell_53 : decode cX6_isWell 53 = .ok (.iconst 1, 1) := by decide +kernel
theorem dX6_isWell_54 : decode cX6_isWell 54 = .ok (.goto 4, 3) := by decide +kernel
theorem dX6_isWell_57 : decode cX6_isWell 57 = .ok (.iconst 0, 1) := by decide +kernel
theorem dX6_isWell_58 : decode cX6_isWell 58 = .ok (.ireturn, 1) := by decide +kernel
theorem dX6_meanBits_0 : decode cX6_meanBits 0 = .ok (.dconst 0, 1) := by decide +kernel
theorem dX6_meanBits_1 : decode cX6_meanBits 1 = .ok (.dstore_n 1, 1) := by decide +kernel
theorem dX6_meanBits_2 : decode cX6_meanBits 2 = .ok (.iconst 0, 1) := by decide +kernel
theorem dX6_meanBits_3 : decode cX6_meanBits 3 = .ok (.istore_n 3, 1) := by decide +kernel
theorem dX6_meanBits_4 : decode cX6_meanBits 4 = .ok (.iload_n 3, 1) := by decide +kernel
theorem dX6_meanBits_5 : decode cX6_meanBits 5 = .ok (.bipush 12, 2) := by decide +kernel
theorem dX6_meanBits_7 : decode cX6_meanBits 7 = .ok (.if_icmp .ge 25, 3) := by decide +kernel
theorem dX6_meanBits_10 : decode cX6_meanBits 10 = .ok (.dload_n 1, 1) := by decide +kernel
theorem dX6_meanBits_11 : decode cX6_meanBits 11 = .ok (.aload_n 0, 1) := by decide +kernel
theorem dX6_meanBits_12 : decode cX6_meanBits 12 = .ok (.getfield 12, 3) := by decide +kernel
theorem dX6_meanBits_15 : decode cX6_meanBits 15 = .ok (.getfield 80, 3) := by decide +kernel
theorem dX6_meanBits_18 : decode cX6_meanBits 18 = .ok (.iload_n 3, 1) := by decide +kernel
theorem dX6_meanBits_19 : decode cX6_meanBits 19 = .ok (.aaload, 1) := by decide +kernel
theorem dX6_meanBits_20 : decode cX6_meanBits 20 = .ok (.getfield 121, 3) := by decide +kernel
theorem dX6_meanBits_23 : decode cX6_meanBits 23 = .ok (.f2d, 1) := by decide +kernel
theorem dX6_meanBits_24 : decode cX6_meanBits 24 = .ok (.dadd, 1) := by decide +kernel
theorem dX6_meanBits_25 : decode cX6_meanBits 25 = .ok (.dstore_n 1, 1) := by decide +kernel
theorem dX6_meanBits_26 : decode cX6_meanBits 26 = .ok (.iinc 3 1, 3) := by decide +kernel
theorem dX6_meanBits_29 : decode cX6_meanBits 29 = .ok (.goto (-25), 3) := by decide +kernel
theorem dX6_meanBits_32 : decode cX6_meanBits 32 = .ok (.dload_n 1, 1) := by decide +kernel
theorem dX6_meanBits_33 : decode cX6_meanBits 33 = .ok (.ldc2_w 362, 3) := by decide +kernel
theorem dX6_meanBits_36 : decode cX6_meanBits 36 = .ok (.ddiv, 1) := by decide +kernel
theorem dX6_meanBits_37 : decode cX6_meanBits 37 = .ok (.invokestatic 364, 3) := by decide +kernel
theorem dX6_meanBits_40 : decode cX6_meanBits 40 = .ok (.lreturn, 1) := by decide +kernel
theorem dX6_share_0 : decode cX6_share 0 = .ok (.aload_n 0, 1) := by decide +kernel
theorem dX6_share_1 : decode cX6_share 1 = .ok (.getfield 12, 3) := by decide +kernel
theorem dX6_share_4 : decode cX6_share 4 = .ok (.getfield 162, 3) := by decide +kernel
theorem dX6_share_7 : decode cX6_share 7 = .ok (.ifCond .ne 14, 3) := by decide +kernel
theorem dX6_share_10 : decode cX6_share 10 = .ok (.new 368, 3) := by decide +kernel
theorem dX6_share_13 : decode cX6_share 13 = .ok (.dup, 1) := by decide +kernel
theorem dX6_share_14 : decode cX6_share 14 = .ok (.ldc_w 370, 3) := by decide +kernel
theorem dX6_share_17 : decode cX6_share 17 = .ok (.invokespecial 372, 3) := by decide +kernel
theorem dX6_share_20 : decode cX6_share 20 = .ok (.athrow, 1) := by decide +kernel
theorem dX6_share_21 : decode cX6_share 21 = .ok (.aload_n 0, 1) := by decide +kernel
theorem dX6_share_22 : decode cX6_share 22 = .ok (.getfield 12, 3) := by decide +kernel
theorem dX6_share_25 : decode cX6_share 25 = .ok (.getfield 338, 3) := by decide +kernel
theorem dX6_share_28 : decode cX6_share 28 = .ok (.i2f, 1) := by decide +kernel
theorem dX6_share_29 : decode cX6_share 29 = .ok (.aload_n 0, 1) := by decide +kernel
theorem dX6_share_30 : decode cX6_share 30 = .ok (.getfield 12, 3) := by decide +kernel
theorem dX6_share_33 : decode cX6_share 33 = .ok (.getfield 162, 3) := by decide +kernel
theorem dX6_share_36 : decode cX6_share 36 = .ok (.i2f, 1) := by decide +kernel
theorem dX6_share_37 : decode cX6_share 37 = .ok (.fdiv, 1) := by decide +kernel
theorem dX6_share_38 : decode cX6_share 38 = .ok (.freturn, 1) := by decide +kernel
theorem dX6_undo_0 : decode cX6_undo 0 = .ok (.aload_n 0, 1) := by decide +kernel
theorem dX6_undo_1 : decode cX6_undo 1 = .ok (.getfield 29, 3) := by decide +kernel
theorem dX6_undo_4 : decode cX6_undo 4 = .ok (.getfield 347, 3) := by decide +kernel
theorem dX6_undo_7 : decode cX6_undo 7 = .ok (.ifCond .ne 14, 3) := by decide +kernel
theorem dX6_undo_10 : decode cX6_undo 10 = .ok (.new 297, 3) := by decide +kernel
theorem dX6_undo_13 : decode cX6_undo 13 = .ok (.dup, 1) := by decide +kernel
theorem dX6_undo_14 : decode cX6_undo 14 = .ok (.ldc_w 373, 3) := by decide +kernel
theorem dX6_undo_17 : decode cX6_undo 17 = .ok (.invokespecial 301, 3) := by decide +kernel
theorem dX6_undo_20 : decode cX6_undo 20 = .ok (.athrow, 1) := by decide +kernel
theorem dX6_undo_21 : decode cX6_undo 21 = .ok (.aload_n 0, 1) := by decide +kernel
theorem dX6_undo_22 : decode cX6_undo 22 = .ok (.getfield 29, 3) := by decide +kernel
theorem dX6_undo_25 : decode cX6_undo 25 = .ok (.aload_n 0, 1) := by decide +kernel
theorem dX6_undo_26 : decode cX6_undo 26 = .ok (.getfield 12, 3) := by decide +kernel
theorem dX6_undo_29 : decode cX6_undo 29 = .ok (.invokevirtual 375, 3) := by decide +kernel
theorem dX6_undo_32 : decode cX6_undo 32 = .ok (.aload_n 0, 1) := by decide +kernel
theorem dX6_undo_33 : decode cX6_undo 33 = .ok (.getfield 29, 3) := by decide +kernel
theorem dX6_undo_36 : decode cX6_undo 36 = .ok (.getfield 347, 3) := by decide +kernel
theorem dX6_undo_39 : decode cX6_undo 39 = .ok (.ireturn, 1) := by decide +kernel
theorem dX6_save_0 : decode cX6_save 0 = .ok (.aload_n 0, 1) := by decide +kernel
theorem dX6_save_1 : decode cX6_save 1 = .ok (.getfield 19, 3) := by decide +kernel
theorem dX6_save_4 : decode cX6_save 4 = .ok (.aload_n 0, 1) := by decide +kernel
theorem dX6_save_5 : decode cX6_save 5 = .ok (.getfield 12, 3) := by decide +kernel
theorem dX6_save_8 : decode cX6_save 8 = .ok (.invokevirtual 270, 3) := by decide +kernel
theorem dX6_save_11 : decode cX6_save 11 = .ok (.aload_n 0, 1) := by decide +kernel
theorem dX6_save_12 : decode cX6_save 12 = .ok (.iconst 1, 1) := by decide +kernel
theorem dX6_save_13 : decode cX6_save 13 = .ok (.putfield 22, 3) := by decide +kernel
theorem dX6_save_16 : decode cX6_save 16 = .ok (.aload_n 0, 1) := by decide +kernel
theorem dX6_save_17 : decode cX6_save 17 = .ok (.getfield 12, 3) := by decide +kernel
theorem dX6_save_20 : decode cX6_save 20 = .ok (.getfield 182, 3) := by decide +kernel
theorem dX6_save_23 : decode cX6_save 23 = .ok (.ireturn, 1) := by decide +kernel
theorem dX6_restore_0 : decode cX6_restore 0 = .ok (.aload_n 0, 1) := by decide +kernel
theorem dX6_restore_1 : decode cX6_restore 1 = .ok (.getfield 22, 3) := by decide +kernel
theorem dX6_restore_4 : decode cX6_restore 4 = .ok (.ifCond .ne 14, 3) := by decide +kernel
theorem dX6_restore_7 : decode cX6_restore 7 = .ok (.new 297, 3) := by decide +kernel
theorem dX6_restore_10 : decode cX6_restore 10 = .ok (.dup, 1) := by decide +kernel
theorem dX6_restore_11 : decode cX6_restore 11 = .ok (.ldc_w 378, 3) := by decide +kernel
theorem dX6_restore_14 : decode cX6_restore 14 = .ok (.invokespecial 301, 3) := by decide +kernel
theorem dX6_restore_17 : decode cX6_restore 17 = .ok (.athrow, 1) := by decide +kernel
theorem dX6_restore_18 : decode cX6_restore 18 = .ok (.aload_n 0, 1) := by decide +kernel
theorem dX6_restore_19 : decode cX6_restore 19 = .ok (.getfield 12, 3) := by decide +kernel
theorem dX6_restore_22 : decode cX6_restore 22 = .ok (.aload_n 0, 1) := by decide +kernel
theorem dX6_restore_23 : decode cX6_restore 23 = .ok (.getfield 19, 3) := by decide +kernel
theorem dX6_restore_26 : decode cX6_restore 26 = .ok (.invokevirtual 270, 3) := by decide +kernel
theorem dX6_restore_29 : decode cX6_restore 29 = .ok (.aload_n 0, 1) := by decide +kernel
theorem dX6_restore_30 : decode cX6_restore 30 = .ok (.getfield 29, 3) := by decide +kernel
theorem dX6_restore_33 : decode cX6_restore 33 = .ok (.iconst 0, 1) := by decide +kernel
theorem dX6_restore_34 : decode cX6_restore 34 = .ok (.putfield 347, 3) := by decide +kernel
theorem dX6_restore_37 : decode cX6_restore 37 = .ok (.aload_n 0, 1) := by decide +kernel
theorem dX6_restore_38 : decode cX6_restore 38 = .ok (.getfield 12, 3) := by decide +kernel
theorem dX6_restore_41 : decode cX6_restore 41 = .ok (.getfield 182, 3) := by decide +kernel
theorem dX6_restore_44 : decode cX6_restore 44 = .ok (.ireturn, 1) := by decide +kernel
theorem dX6_isSetting_0 : decode cX6_isSetting 0 = .ok (.iload_n 0, 1) := by decide +kernel
theorem dX6_isSetting_1 : decode cX6_isSetting 1 = .ok (.ifCond .lt 15, 3) := by decide +kernel
theorem dX6_isSetting_4 : decode cX6_isSetting 4 = .ok (.iload_n 0, 1) := by decide +kernel
theorem dX6_isSetting_5 : decode cX6_isSetting 5 = .ok (.getstatic 380, 3) := by decide +kernel
theorem dX6_isSetting_8 : decode cX6_isSetting 8 = .ok (.arraylength, 1) := by decide +kernel
theorem dX6_isSetting_9 : decode cX6_isSetting 9 = .ok (.if_icmp .ge 7, 3) := by decide +kernel
theorem dX6_isSetting_12 : decode cX6_isSetting 12 = .ok (.iconst 1, 1) := by decide +kernel
theorem dX6_isSetting_13 : decode cX6_isSetting 13 = .ok (.goto 4, 3) := by decide +kernel
theorem dX6_isSetting_16 : decode cX6_isSetting 16 = .ok (.iconst 0, 1) := by decide +kernel
theorem dX6_isSetting_17 : decode cX6_isSetting 17 = .ok (.ireturn, 1) := by decide +kernel
theorem dX6_isSettingValue_0 : decode cX6_isSettingValue 0 = .ok (.iload_n 0, 1) := by decide +kernel
theorem dX6_isSettingValue_1 : decode cX6_isSettingValue 1 = .ok (.invokestatic 66, 3) := by decide +kernel
theorem dX6_isSettingValue_4 : decode cX6_isSettingValue 4 = .ok (.ifCond .eq 25, 3) := by decide +kernel
theorem dX6_isSettingValue_7 : decode cX6_isSettingValue 7 = .ok (.iload_n 1, 1) := by decide +kernel
theorem dX6_isSettingValue_8 : decode cX6_isSettingValue 8 = .ok (.getstatic 380, 3) := by decide +kernel
theorem dX6_isSettingValue_11 : decode cX6_isSettingValue 11 = .ok (.iload_n 0, 1) := by decide +kernel
theorem dX6_isSettingValue_12 : decode cX6_isSettingValue 12 = .ok (.iaload, 1) := by decide +kernel
theorem dX6_isSettingValue_13 : decode cX6_isSettingValue 13 = .ok (.if_icmp .lt 16, 3) := by decide +kernel
theorem dX6_isSettingValue_16 : decode cX6_isSettingValue 16 = .ok (.iload_n 1, 1) := by decide +kernel
theorem dX6_isSettingValue_17 : decode cX6_isSettingValue 17 = .ok (.getstatic 383, 3) := by decide +kernel
theorem dX6_isSettingValue_20 : decode cX6_isSettingValue 20 = .ok (.iload_n 0, 1) := by decide +kernel
theorem dX6_isSettingValue_21 : decode cX6_isSettingValue 21 = .ok (.iaload, 1) := by decide +kernel
theorem dX6_isSettingValue_22 : decode cX6_isSettingValue 22 = .ok (.if_icmp .gt 7, 3) := by decide +kernel
theorem dX6_isSettingValue_25 : decode cX6_isSettingValue 25 = .ok (.iconst 1, 1) := by decide +kernel
theorem dX6_isSettingValue_26 : decode cX6_isSettingValue 26 = .ok (.goto 4, 3) := by decide +kernel
theorem dX6_isSettingValue_29 : decode cX6_isSettingValue 29 = .ok (.iconst 0, 1) := by decide +kernel
theorem dX6_isSettingValue_30 : decode cX6_isSettingValue 30 = .ok (.ireturn, 1) := by decide +kernel
theorem dX6_isMile_0 : decode cX6_isMile 0 = .ok (.iload_n 0, 1) := by decide +kernel
theorem dX6_isMile_1 : decode cX6_isMile 1 = .ok (.ifCond .lt 13, 3) := by decide +kernel
theorem dX6_isMile_4 : decode cX6_isMile 4 = .ok (.iload_n 0, 1) := by decide +kernel
theorem dX6_isMile_5 : decode cX6_isMile 5 = .ok (.bipush 12, 2) := by decide +kernel
theorem dX6_isMile_7 : decode cX6_isMile 7 = .ok (.if_icmp .ge 7, 3) := by decide +kernel
theorem dX6_isMile_10 : decode cX6_isMile 10 = .ok (.iconst 1, 1) := by decide +kernel
theorem dX6_isMile_11 : decode cX6_isMile 11 = .ok (.goto 4, 3) := by decide +kernel
theorem dX6_isMile_14 : decode cX6_isMile 14 = .ok (.iconst 0, 1) := by decide +kernel
theorem dX6_isMile_15 : decode cX6_isMile 15 = .ok (.ireturn, 1) := by decide +kernel
theorem dX6_isRow_0 : decode cX6_isRow 0 = .ok (.iload_n 0, 1) := by decide +kernel
theorem dX6_isRow_1 : decode cX6_isRow 1 = .ok (.ifCond .lt 12, 3) := by decide +kernel
theorem dX6_isRow_4 : decode cX6_isRow 4 = .ok (.iload_n 0, 1) := by decide +kernel
theorem dX6_isRow_5 : decode cX6_isRow 5 = .ok (.iconst 2, 1) := by decide +kernel
theorem dX6_isRow_6 : decode cX6_isRow 6 = .ok (.if_icmp .ge 7, 3) := by decide +kernel
theorem dX6_isRow_9 : decode cX6_isRow 9 = .ok (.iconst 1, 1) := by decide +kernel
theorem dX6_isRow_10 : decode cX6_isRow 10 = .ok (.goto 4, 3) := by decide +kernel
theorem dX6_isRow_13 : decode cX6_isRow 13 = .ok (.iconst 0, 1) := by decide +kernel
theorem dX6_isRow_14 : decode cX6_isRow 14 = .ok (.ireturn, 1) := by decide +kernel
theorem dX6_isPlace_0 : decode cX6_isPlace 0 = .ok (.iload_n 0, 1) := by decide +kernel
theorem dX6_isPlace_1 : decode cX6_isPlace 1 = .ok (.ifCond .lt 12, 3) := by decide +kernel
theorem dX6_isPlace_4 : decode cX6_isPlace 4 = .ok (.iload_n 0, 1) := by decide +kernel
theorem dX6_isPlace_5 : decode cX6_isPlace 5 = .ok (.iconst 5, 1) := by decide +kernel
theorem dX6_isPlace_6 : decode cX6_isPlace 6 = .ok (.if_icmp .ge 7, 3) := by decide +kernel
theorem dX6_isPlace_9 : decode cX6_isPlace 9 = .ok (.iconst 1, 1) := by decide +kernel
theorem dX6_isPlace_10 : decode cX6_isPlace 10 = .ok (.goto 4, 3) := by decide +kernel
theorem dX6_isPlace_13 : decode cX6_isPlace 13 = .ok (.iconst 0, 1) := by decide +kernel
theorem dX6_isPlace_14 : decode cX6_isPlace 14 = .ok (.ireturn, 1) := by decide +kernel
theorem dX6_isDaysToPass_0 : decode cX6_isDaysToPass 0 = .ok (.iload_n 0, 1) := by decide +kernel
theorem dX6_isDaysToPass_1 : decode cX6_isDaysToPass 1 = .ok (.iconst 1, 1) := by decide +kernel
theorem dX6_isDaysToPass_2 : decode cX6_isDaysToPass 2 = .ok (.if_icmp .lt 13, 3) := by decide +kernel
theorem dX6_isDaysToPass_5 : decode cX6_isDaysToPass 5 = .ok (.iload_n 0, 1) := by decide +kernel
theorem dX6_isDaysToPass_6 : decode cX6_isDaysToPass 6 = .ok (.bipush 30, 2) := by decide +kernel
theorem dX6_isDaysToPass_8 : decode cX6_isDaysToPass 8 = .ok (.if_icmp .gt 7, 3) := by decide +kernel
theorem dX6_isDaysToPass_11 : decode cX6_isDaysToPass 11 = .ok (.iconst 1, 1) := by decide +kernel
theorem dX6_isDaysToPass_12 : decode cX6_isDaysToPass 12 = .ok (.goto 4, 3) := by decide +kernel
theorem dX6_isDaysToPass_15 : decode cX6_isDaysToPass 15 = .ok (.iconst 0, 1) := by decide +kernel
theorem dX6_isDaysToPass_16 : decode cX6_isDaysToPass 16 = .ok (.ireturn, 1) := by decide +kernel
theorem dX6_refusalFor_0 : decode cX6_refusalFor 0 = .ok (.iload_n 0, 1) := by decide +kernel
theorem dX6_refusalFor_1 : decode cX6_refusalFor 1 = .ok (.bipush 16, 2) := by decide +kernel
theorem dX6_refusalFor_3 : decode cX6_refusalFor 3 = .ok (.imul, 1) := by decide +kernel
theorem dX6_refusalFor_4 : decode cX6_refusalFor 4 = .ok (.iload_n 1, 1) := by decide +kernel
theorem dX6_refusalFor_5 : decode cX6_refusalFor 5 = .ok (.iadd, 1) := by decide +kernel
theorem dX6_refusalFor_6 : decode cX6_refusalFor 6 = .ok (.ireturn, 1) := by decide +kernel
theorem dX6_nextIce_0 : decode cX6_nextIce 0 = .ok (.iload_n 1, 1) := by decide +kernel
theorem dX6_nextIce_1 : decode cX6_nextIce 1 = .ok (.ifCond .ge 21, 3) := by decide +kernel
theorem dX6_nextIce_4 : decode cX6_nextIce 4 = .ok (.fload_n 0, 1) := by decide +kernel
theorem dX6_nextIce_5 : decode cX6_nextIce 5 = .ok (.iload_n 1, 1) := by decide +kernel
theorem dX6_nextIce_6 : decode cX6_nextIce 6 = .ok (.ineg, 1) := by decide +kernel
theorem dX6_nextIce_7 : decode cX6_nextIce 7 = .ok (.i2f, 1) := by decide +kernel
theorem dX6_nextIce_8 : decode cX6_nextIce 8 = .ok (.ldc_w 386, 3) := by decide +kernel
theorem dX6_nextIce_11 : decode cX6_nextIce 11 = .ok (.fmul, 1) := by decide +kernel
theorem dX6_nextIce_12 : decode cX6_nextIce 12 = .ok (.fload_n 0, 1) := by decide +kernel
theorem dX6_nextIce_13 : decode cX6_nextIce 13 = .ok (.ldc_w 387, 3) := by decide +kernel
theorem dX6_nextIce_16 : decode cX6_nextIce 16 = .ok (.fadd, 1) := by decide +kernel
theorem dX6_nextIce_17 : decode cX6_nextIce 17 = .ok (.fdiv, 1) := by decide +kernel
theorem dX6_nextIce_18 : decode cX6_nextIce 18 = .ok (.fadd, 1) := by decide +kernel
theorem dX6_nextIce_19 : decode cX6_nextIce 19 = .ok (.goto 11, 3) := by decide +kernel
theorem dX6_nextIce_22 : decode cX6_nextIce 22 = .ok (.fload_n 0, 1) := by decide +kernel
theorem dX6_nextIce_23 : decode cX6_nextIce 23 = .ok (.ldc_w 388, 3) := by decide +kernel
theorem dX6_nextIce_26 : decode cX6_nextIce 26 = .ok (.iload_n 1, 1) := by decide +kernel
theorem dX6_nextIce_27 : decode cX6_nextIce 27 = .ok (.i2f, 1) := by decide +kernel
theorem dX6_nextIce_28 : decode cX6_nextIce 28 = .ok (.fmul, 1) := by decide +kernel
theorem dX6_nextIce_29 : decode cX6_nextIce 29 = .ok (.fsub, 1) := by decide +kernel
theorem dX6_nextIce_30 : decode cX6_nextIce 30 = .ok (.fstore_n 2, 1) := by decide +kernel
theorem dX6_nextIce_31 : decode cX6_nextIce 31 = .ok (.fload_n 2, 1) := by decide +kernel
theorem dX6_nextIce_32 : decode cX6_nextIce 32 = .ok (.fconst 0, 1) := by decide +kernel
theorem dX6_nextIce_33 : decode cX6_nextIce 33 = .ok (.fcmp .g, 1) := by decide +kernel
theorem dX6_nextIce_34 : decode cX6_nextIce 34 = .ok (.ifCond .ge 5, 3) := by decide +kernel
theorem dX6_nextIce_37 : decode cX6_nextIce 37 = .ok (.fconst 0, 1) := by decide +kernel
theorem dX6_nextIce_38 : decode cX6_nextIce 38 = .ok (.freturn, 1) := by decide +kernel
theorem dX6_nextIce_39 : decode cX6_nextIce 39 = .ok (.fload_n 2, 1) := by decide +kernel
theorem dX6_nextIce_40 : decode cX6_nextIce 40 = .ok (.ldc_w 389, 3) := by decide +kernel
theorem dX6_nextIce_43 : decode cX6_nextIce 43 = .ok (.fcmp .l, 1) := by decide +kernel
theorem dX6_nextIce_44 : decode cX6_nextIce 44 = .ok (.ifCond .le 9, 3) := by decide +kernel
theorem dX6_nextIce_47 : decode cX6_nextIce 47 = .ok (.ldc_w 389, 3) := by decide +kernel
theorem dX6_nextIce_50 : decode cX6_nextIce 50 = .ok (.goto 4, 3) := by decide +kernel
theorem dX6_nextIce_53 : decode cX6_nextIce 53 = .ok (.fload_n 2, 1) := by decide +kernel
theorem dX6_nextIce_54 : decode cX6_nextIce 54 = .ok (.freturn, 1) := by decide +kernel
theorem dX6_borneBy_0 : decode cX6_borneBy 0 = .ok (.fload_n 0, 1) := by decide +kernel
theorem dX6_borneBy_1 : decode cX6_borneBy 1 = .ok (.fload_n 0, 1) := by decide +kernel
theorem dX6_borneBy_2 : decode cX6_borneBy 2 = .ok (.fmul, 1) := by decide +kernel
theorem dX6_borneBy_3 : decode cX6_borneBy 3 = .ok (.ldc_w 281, 3) := by decide +kernel
theorem dX6_borneBy_6 : decode cX6_borneBy 6 = .ok (.fmul, 1) := by decide +kernel
theorem dX6_borneBy_7 : decode cX6_borneBy 7 = .ok (.fconst 1, 1) := by decide +kernel
theorem dX6_borneBy_8 : decode cX6_borneBy 8 = .ok (.ldc_w 390, 3) := by decide +kernel
theorem dX6_borneBy_11 : decode cX6_borneBy 11 = .ok (.iload_n 1, 1) := by decide +kernel
theorem dX6_borneBy_12 : decode cX6_borneBy 12 = .ok (.i2f, 1) := by decide +kernel
theorem dX6_borneBy_13 : decode cX6_borneBy 13 = .ok (.fmul, 1) := by decide +kernel
theorem dX6_borneBy_14 : decode cX6_borneBy 14 = .ok (.fsub, 1) := by decide +kernel
theorem dX6_borneBy_15 : decode cX6_borneBy 15 = .ok (.fmul, 1) := by decide +kernel
theorem dX6_borneBy_16 : decode cX6_borneBy 16 = .ok (.iload_n 2, 1) := by decide +kernel
theorem dX6_borneBy_17 : decode cX6_borneBy 17 = .ok (.i2f, 1) := by decide +kernel
theorem dX6_borneBy_18 : decode cX6_borneBy 18 = .ok (.ldc_w 391, 3) := by decide +kernel
theorem dX6_borneBy_21 : decode cX6_borneBy 21 = .ok (.fdiv, 1) := by decide +kernel
theorem dX6_borneBy_22 : decode cX6_borneBy 22 = .ok (.fmul, 1) := by decide +kernel
theorem dX6_borneBy_23 : decode cX6_borneBy 23 = .ok (.freturn, 1) := by decide +kernel
theorem dX6_floatBits_0 : decode cX6_floatBits 0 = .ok (.fload_n 0, 1) := by decide +kernel
theorem dX6_floatBits_1 : decode cX6_floatBits 1 = .ok (.fconst 0, 1) := by decide +kernel
theorem dX6_floatBits_2 : decode cX6_floatBits 2 = .ok (.fcmp .g, 1) := by decide +kernel
theorem dX6_floatBits_3 : decode cX6_floatBits 3 = .ok (.ifCond .gt 5, 3) := by decide +kernel
theorem dX6_floatBits_6 : decode cX6_floatBits 6 = .ok (.iconst 0, 1) := by decide +kernel
theorem dX6_floatBits_7 : decode cX6_floatBits 7 = .ok (.ireturn, 1) := by decide +kernel
theorem dX6_floatBits_8 : decode cX6_floatBits 8 = .ok (.fload_n 0, 1) := by decide +kernel
theorem dX6_floatBits_9 : decode cX6_floatBits 9 = .ok (.fstore_n 1, 1) := by decide +kernel
theorem dX6_floatBits_10 : decode cX6_floatBits 10 = .ok (.bipush 127, 2) := by decide +kernel
theorem dX6_floatBits_12 : decode cX6_floatBits 12 = .ok (.istore_n 2, 1) := by decide +kernel
theorem dX6_floatBits_13 : decode cX6_floatBits 13 = .ok (.iload_n 2, 1) := by decide +kernel
theorem dX6_floatBits_14 : decode cX6_floatBits 14 = .ok (.sipush 254, 3) := by decide +kernel
theorem dX6_floatBits_17 : decode cX6_floatBits 17 = .ok (.if_icmp .ge 19, 3) := by decide +kernel
theorem dX6_floatBits_20 : decode cX6_floatBits 20 = .ok (.fload_n 1, 1) := by decide +kernel
theorem dX6_floatBits_21 : decode cX6_floatBits 21 = .ok (.fconst 2, 1) := by decide +kernel
theorem dX6_floatBits_22 : decode cX6_floatBits 22 = .ok (.fcmp .l, 1) := by decide +kernel
theorem dX6_floatBits_23 : decode cX6_floatBits 23 = .ok (.ifCond .lt 13, 3) := by decide +kernel
theorem dX6_floatBits_26 : decode cX6_floatBits 26 = .ok (.fload_n 1, 1) := by decide +kernel
theorem dX6_floatBits_27 : decode cX6_floatBits 27 = .ok (.fconst 2, 1) := by decide +kernel
theorem dX6_floatBits_28 : decode cX6_floatBits 28 = .ok (.fdiv, 1) := by decide +kernel
theorem dX6_floatBits_29 : decode cX6_floatBits 29 = .ok (.fstore_n 1, 1) := by decide +kernel
theorem dX6_floatBits_30 : decode cX6_floatBits 30 = .ok (.iinc 2 1, 3) := by decide +kernel
theorem dX6_floatBits_33 : decode cX6_floatBits 33 = .ok (.goto (-20), 3) := by decide +kernel
theorem dX6_floatBits_36 : decode cX6_floatBits 36 = .ok (.iload_n 2, 1) := by decide +kernel
theorem dX6_floatBits_37 : decode cX6_floatBits 37 = .ok (.iconst 1, 1) := by decide +kernel
theorem dX6_floatBits_38 : decode cX6_floatBits 38 = .ok (.if_icmp .le 19, 3) := by decide +kernel
theorem dX6_floatBits_41 : decode cX6_floatBits 41 = .ok (.fload_n 1, 1) := by decide +kernel
theorem dX6_floatBits_42 : decode cX6_floatBits 42 = .ok (.fconst 1, 1) := by decide +kernel
theorem dX6_floatBits_43 : decode cX6_floatBits 43 = .ok (.fcmp .g, 1) := by decide +kernel
theorem dX6_floatBits_44 : decode cX6_floatBits 44 = .ok (.ifCond .ge 13, 3) := by decide +kernel
theorem dX6_floatBits_47 : decode cX6_floatBits 47 = .ok (.fload_n 1, 1) := by decide +kernel
theorem dX6_floatBits_48 : decode cX6_floatBits 48 = .ok (.fconst 2, 1) := by decide +kernel
theorem dX6_floatBits_49 : decode cX6_floatBits 49 = .ok (.fmul, 1) := by decide +kernel
theorem dX6_floatBits_50 : decode cX6_floatBits 50 = .ok (.fstore_n 1, 1) := by decide +kernel
theorem dX6_floatBits_51 : decode cX6_floatBits 51 = .ok (.iinc 2 (-1), 3) := by decide +kernel
theorem dX6_floatBits_54 : decode cX6_floatBits 54 = .ok (.goto (-18), 3) := by decide +kernel
theorem dX6_floatBits_57 : decode cX6_floatBits 57 = .ok (.iload_n 2, 1) := by decide +kernel
theorem dX6_floatBits_58 : decode cX6_floatBits 58 = .ok (.iconst 1, 1) := by decide +kernel
theorem dX6_floatBits_59 : decode cX6_floatBits 59 = .ok (.isub, 1) := by decide +kernel
theorem dX6_floatBits_60 : decode cX6_floatBits 60 = .ok (.bipush 23, 2) := by decide +kernel
theorem dX6_floatBits_62 : decode cX6_floatBits 62 = .ok (.ishl, 1) := by decide +kernel
theorem dX6_floatBits_63 : decode cX6_floatBits 63 = .ok (.fload_n 1, 1) := by decide +kernel
theorem dX6_floatBits_64 : decode cX6_floatBits 64 = .ok (.ldc_w 392, 3) := by decide +kernel
theorem dX6_floatBits_67 : decode cX6_floatBits 67 = .ok (.fmul, 1) := by decide +kernel
theorem dX6_floatBits_68 : decode cX6_floatBits 68 = .ok (.f2i, 1) := by decide +kernel
theorem dX6_floatBits_69 : decode cX6_floatBits 69 = .ok (.iadd, 1) := by decide +kernel
theorem dX6_floatBits_70 : decode cX6_floatBits 70 = .ok (.ireturn, 1) := by decide +kernel
theorem dX6_doubleBits_0 : decode cX6_doubleBits 0 = .ok (.dload_n 0, 1) := by decide +kernel
theorem dX6_doubleBits_1 : decode cX6_doubleBits 1 = .ok (.dconst 0, 1) := by decide +kernel
theorem dX6_doubleBits_2 : decode cX6_doubleBits 2 = .ok (.dcmp .g, 1) := by decide +kernel
theorem dX6_doubleBits_3 : decode cX6_doubleBits 3 = .ok (.ifCond .gt 5, 3) := by decide +kernel
theorem dX6_doubleBits_6 : decode cX6_doubleBits 6 = .ok (.lconst 0, 1) := by decide +kernel
theorem dX6_doubleBits_7 : decode cX6_doubleBits 7 = .ok (.lreturn, 1) := by decide +kernel
theorem dX6_doubleBits_8 : decode cX6_doubleBits 8 = .ok (.dload_n 0, 1) := by decide +kernel
theorem dX6_doubleBits_9 : decode cX6_doubleBits 9 = .ok (.dstore_n 2, 1) := by decide +kernel
theorem dX6_doubleBits_10 : decode cX6_doubleBits 10 = .ok (.sipush 1023, 3) := by decide +kernel
theorem dX6_doubleBits_13 : decode cX6_doubleBits 13 = .ok (.istore 4, 2) := by decide +kernel
theorem dX6_doubleBits_15 : decode cX6_doubleBits 15 = .ok (.iload 4, 2) := by decide +kernel
theorem dX6_doubleBits_17 : decode cX6_doubleBits 17 = .ok (.sipush 2046, 3) := by decide +kernel
theorem dX6_doubleBits_20 : decode cX6_doubleBits 20 = .ok (.if_icmp .ge 23, 3) := by decide +kernel
theorem dX6_doubleBits_23 : decode cX6_doubleBits 23 = .ok (.dload_n 2, 1) := by decide +kernel
theorem dX6_doubleBits_24 : decode cX6_doubleBits 24 = .ok (.ldc2_w 393, 3) := by decide +kernel
theorem dX6_doubleBits_27 : decode cX6_doubleBits 27 = .ok (.dcmp .l, 1) := by decide +kernel
theorem dX6_doubleBits_28 : decode cX6_doubleBits 28 = .ok (.ifCond .lt 15, 3) := by decide +kernel
theorem dX6_doubleBits_31 : decode cX6_doubleBits 31 = .ok (.dload_n 2, 1) := by decide +kernel
theorem dX6_doubleBits_32 : decode cX6_doubleBits 32 = .ok (.ldc2_w 393, 3) := by decide +kernel
theorem dX6_doubleBits_35 : decode cX6_doubleBits 35 = .ok (.ddiv, 1) := by decide +kernel
theorem dX6_doubleBits_36 : decode cX6_doubleBits 36 = .ok (.dstore_n 2, 1) := by decide +kernel
theorem dX6_doubleBits_37 : decode cX6_doubleBits 37 = .ok (.iinc 4 1, 3) := by decide +kernel
theorem dX6_doubleBits_40 : decode cX6_doubleBits 40 = .ok (.goto (-25), 3) := by decide +kernel
theorem dX6_doubleBits_43 : decode cX6_doubleBits 43 = .ok (.iload 4, 2) := by decide +kernel
theorem dX6_doubleBits_45 : decode cX6_doubleBits 45 = .ok (.iconst 1, 1) := by decide +kernel
theorem dX6_doubleBits_46 : decode cX6_doubleBits 46 = .ok (.if_icmp .le 21, 3) := by decide +kernel
theorem dX6_doubleBits_49 : decode cX6_doubleBits 49 = .ok (.dload_n 2, 1) := by decide +kernel
theorem dX6_doubleBits_50 : decode cX6_doubleBits 50 = .ok (.dconst 1, 1) := by decide +kernel
theorem dX6_doubleBits_51 : decode cX6_doubleBits 51 = .ok (.dcmp .g, 1) := by decide +kernel
theorem dX6_doubleBits_52 : decode cX6_doubleBits 52 = .ok (.ifCond .ge 15, 3) := by decide +kernel
theorem dX6_doubleBits_55 : decode cX6_doubleBits 55 = .ok (.dload_n 2, 1) := by decide +kernel
theorem dX6_doubleBits_56 : decode cX6_doubleBits 56 = .ok (.ldc2_w 393, 3) := by decide +kernel
theorem dX6_doubleBits_59 : decode cX6_doubleBits 59 = .ok (.dmul, 1) := by decide +kernel
theorem dX6_doubleBits_60 : decode cX6_doubleBits 60 = .ok (.dstore_n 2, 1) := by decide +kernel
theorem dX6_doubleBits_61 : decode cX6_doubleBits 61 = .ok (.iinc 4 (-1), 3) := by decide +kernel
theorem dX6_doubleBits_64 : decode cX6_doubleBits 64 = .ok (.goto (-21), 3) := by decide +kernel
theorem dX6_doubleBits_67 : decode cX6_doubleBits 67 = .ok (.iload 4, 2) := by decide +kernel
theorem dX6_doubleBits_69 : decode cX6_doubleBits 69 = .ok (.iconst 1, 1) := by decide +kernel
theorem dX6_doubleBits_70 : decode cX6_doubleBits 70 = .ok (.isub, 1) := by decide +kernel
theorem dX6_doubleBits_71 : decode cX6_doubleBits 71 = .ok (.i2l, 1) := by decide +kernel
theorem dX6_doubleBits_72 : decode cX6_doubleBits 72 = .ok (.bipush 52, 2) := by decide +kernel
theorem dX6_doubleBits_74 : decode cX6_doubleBits 74 = .ok (.lshl, 1) := by decide +kernel
theorem dX6_doubleBits_75 : decode cX6_doubleBits 75 = .ok (.dload_n 2, 1) := by decide +kernel
theorem dX6_doubleBits_76 : decode cX6_doubleBits 76 = .ok (.ldc2_w 395, 3) := by decide +kernel
theorem dX6_doubleBits_79 : decode cX6_doubleBits 79 = .ok (.dmul, 1) := by decide +kernel
theorem dX6_doubleBits_80 : decode cX6_doubleBits 80 = .ok (.d2l, 1) := by decide +kernel
theorem dX6_doubleBits_81 : decode cX6_doubleBits 81 = .ok (.ladd, 1) := by decide +kernel
theorem dX6_doubleBits_82 : decode cX6_doubleBits 82 = .ok (.lreturn, 1) := by decide +kernel
theorem dX7_init_0 : decode cX7_init 0 = .ok (.aload_n 0, 1) := by decide +kernel
theorem dX7_init_1 : decode cX7_init 1 = .ok (.invokespecial 3, 3) := by decide +kernel
theorem dX7_init_4 : decode cX7_init 4 = .ok (.aload_n 0, 1) := by decide +kernel
theorem dX7_init_5 : decode cX7_init 5 = .ok (.sipush 164, 3) := by decide +kernel
theorem dX7_init_8 : decode cX7_init 8 = .ok (.newarray .int, 2) := by decide +kernel
theorem dX7_init_10 : decode cX7_init 10 = .ok (.putfield 9, 3) := by decide +kernel
theorem dX7_init_13 : decode cX7_init 13 = .ok (.aload_n 0, 1) := by decide +kernel
theorem dX7_init_14 : decode cX7_init 14 = .ok (.sipush 164, 3) := by decide +kernel
theorem dX7_init_17 : decode cX7_init 17 = .ok (.newarray .int, 2) := by decide +kernel
theorem dX7_init_19 : decode cX7_init 19 = .ok (.putfield 13, 3) := by decide +kernel
theorem dX7_init_22 : decode cX7_init 22 = .ok (.aload_n 0, 1) := by decide +kernel
theorem dX7_init_23 : decode cX7_init 23 = .ok (.sipush 164, 3) := by decide +kernel
theorem dX7_init_26 : decode cX7_init 26 = .ok (.newarray .int, 2) := by decide +kernel
theorem dX7_init_28 : decode cX7_init 28 = .ok (.putfield 16, 3) := by decide +kernel
theorem dX7_init_31 : decode cX7_init 31 = .ok (.aload_n 0, 1) := by decide +kernel
theorem dX7_init_32 : decode cX7_init 32 = .ok (.sipush 164, 3) := by decide +kernel
theorem dX7_init_35 : decode cX7_init 35 = .ok (.newarray .int, 2) := by decide +kernel
theorem dX7_init_37 : decode cX7_init 37 = .ok (.putfield 19, 3) := by decide +kernel
theorem dX7_init_40 : decode cX7_init 40 = .ok (.aload_n 0, 1) := by decide +kernel
theorem dX7_init_41 : decode cX7_init 41 = .ok (.sipush 1312, 3) := by decide +kernel
theorem dX7_init_44 : decode cX7_init 44 = .ok (.newarray .int, 2) := by decide +kernel
theorem dX7_init_46 : decode cX7_init 46 = .ok (.putfield 22, 3) := by decide +kernel
theorem dX7_init_49 : decode cX7_init 49 = .ok (.aload_n 0, 1) := by decide +kernel
theorem dX7_init_50 : decode cX7_init 50 = .ok (.bipush 60, 2) := by decide +kernel
theorem dX7_init_52 : decode cX7_init 52 = .ok (.newarray .char, 2) := by decide +kernel
theorem dX7_init_54 : decode cX7_init 54 = .ok (.putfield 25, 3) := by decide +kernel
theorem dX7_init_57 : decode cX7_init 57 = .ok (.aload_n 0, 1) := by decide +kernel
theorem dX7_init_58 : decode cX7_init 58 = .ok (.iconst (-1), 1) := by decide +kernel
theorem dX7_init_59 : decode cX7_init 59 = .ok (.putfield 29, 3) := by decide +kernel
theorem dX7_init_62 : decode cX7_init 62 = .ok (.aload_n 0, 1) := by decide +kernel
theorem dX7_init_63 : decode cX7_init 63 = .ok (.sipush 240, 3) := by decide +kernel
theorem dX7_init_66 : decode cX7_init 66 = .ok (.newarray .int, 2) := by decide +kernel
theorem dX7_init_68 : decode cX7_init 68 = .ok (.putfield 33, 3) := by decide +kernel
theorem dX7_init_71 : decode cX7_init 71 = .ok (.aload_n 0, 1) := by decide +kernel
theorem dX7_init_72 : decode cX7_init 72 = .ok (.getfield 9, 3) := by decide +kernel
theorem dX7_init_75 : decode cX7_init 75 = .ok (.iconst 5, 1) := by decide +kernel
theorem dX7_init_76 : decode cX7_init 76 = .ok (.bipush (-20), 2) := by decide +kernel
theorem dX7_init_78 : decode cX7_init 78 = .ok (.iastore, 1) := by decide +kernel
theorem dX7_init_79 : decode cX7_init 79 = .ok (.aload_n 0, 1) := by decide +kernel
theorem dX7_init_80 : decode cX7_init 80 = .ok (.getfield 9, 3) := by decide +kernel
theorem dX7_init_83 : decode cX7_init 83 = .ok (.bipush 6, 2) := by decide +kernel
theorem dX7_init_85 : decode cX7_init 85 = .ok (.bipush 100, 2) := by decide +kernel
theorem dX7_init_87 : decode cX7_init 87 = .ok (.iastore, 1) := by decide +kernel
theorem dX7_init_88 : decode cX7_init 88 = .ok (.aload_n 0, 1) := by decide +kernel
theorem dX7_init_89 : decode cX7_init 89 = .ok (.getfield 9, 3) := by decide +kernel
theorem dX7_init_92 : decode cX7_init 92 = .ok (.bipush 7, 2) := by decide +kernel
theorem dX7_init_94 : decode cX7_init 94 = .ok (.bipush 7, 2) := by decide +kernel
theorem dX7_init_96 : decode cX7_init 96 = .ok (.iastore, 1) := by decide +kernel
theorem dX7_init_97 : decode cX7_init 97 = .ok (.iconst 0, 1) := by decide +kernel
theorem dX7_init_98 : decode cX7_init 98 = .ok (.istore_n 1, 1) := by decide +kernel
theorem dX7_init_99 : decode cX7_init 99 = .ok (.iload_n 1, 1) := by decide +kernel
theorem dX7_init_100 : decode cX7_init 100 = .ok (.bipush 12, 2) := by decide +kernel
theorem dX7_init_102 : decode cX7_init 102 = .ok (.if_icmp .ge 23, 3) := by decide +kernel
theorem dX7_init_105 : decode cX7_init 105 = .ok (.aload_n 0, 1) := by decide +kernel
theorem dX7_init_106 : decode cX7_init 106 = .ok (.iload_n 1, 1) := by decide +kernel
theorem dX7_init_107 : decode cX7_init 107 = .ok (.ldc 36, 2) := by decide +kernel
theorem dX7_init_109 : decode cX7_init 109 = .ok (.invokevirtual 37, 3) := by decide +kernel
theorem dX7_init_112 : decode cX7_init 112 = .ok (.aload_n 0, 1) := by decide +kernel
theorem dX7_init_113 : decode cX7_init 113 = .ok (.iload_n 1, 1) := by decide +kernel
theorem dX7_init_114 : decode cX7_init 114 = .ok (.iconst 4, 1) := by decide +kernel
theorem dX7_init_115 : decode cX7_init 115 = .ok (.iconst (-1), 1) := by decide +kernel
theorem dX7_init_116 : decode cX7_init 116 = .ok (.invokevirtual 41, 3) := by decide +kernel
theorem dX7_init_119 : decode cX7_init 119 = .ok (.iinc 1 1, 3) := by decide +kernel
theorem dX7_init_122 : decode cX7_init 122 = .ok (.goto (-23), 3) := by decide +kernel
theorem dX7_init_125 : decode cX7_init 125 = .ok (.return_, 1) := by decide +kernel
theorem dX7_thrown_0 : decode cX7_thrown 0 = .ok (.aload_n 0, 1) := by decide +kernel
theorem dX7_thrown_1 : decode cX7_thrown 1 = .ok (.getfield 45, 3) := by decide +kernel
theorem dX7_thrown_4 : decode cX7_thrown 4 = .ok (.ireturn, 1) := by decide +kernel
theorem dX7_in_0 : decode cX7_in 0 = .ok (.iload_n 0, 1) := by decide +kernel
theorem dX7_in_1 : decode cX7_in 1 = .ok (.iload_n 1, 1) := by decide +kernel
theorem dX7_in_2 : decode cX7_in 2 = .ok (.if_icmp .lt 12, 3) := by decide +kernel
theorem dX7_in_5 : decode cX7_in 5 = .ok (.iload_n 0, 1) := by decide +kernel
theorem dX7_in_6 : decode cX7_in 6 = .ok (.iload_n 2, 1) := by decide +kernel
theorem dX7_in_7 : decode cX7_in 7 = .ok (.if_icmp .gt 7, 3) := by decide +kernel
theorem dX7_in_10 : decode cX7_in 10 = .ok (.iconst 1, 1) := by decide +kernel
theorem dX7_in_11 : decode cX7_in 11 = .ok (.goto 4, 3) := by decide +kernel
theorem dX7_in_14 : decode cX7_in 14 = .ok (.iconst 0, 1) := by decide +kernel
theorem dX7_in_15 : decode cX7_in 15 = .ok (.ireturn, 1) := by decide +kernel
theorem dX7_keep_0 : decode cX7_keep 0 = .ok (.aload_n 0, 1) := by decide +kernel
theorem dX7_keep_1 : decode cX7_keep 1 = .ok (.iconst 0, 1) := by decide +kernel
theorem dX7_keep_2 : decode cX7_keep 2 = .ok (.putfield 45, 3) := by decide +kernel
theorem dX7_keep_5 : decode cX7_keep 5 = .ok (.aload_n 0, 1) := by decide +kernel
theorem dX7_keep_6 : decode cX7_keep 6 = .ok (.getfield 9, 3) := by decide +kernel
theorem dX7_keep_9 : decode cX7_keep 9 = .ok (.iconst 0, 1) := by decide +kernel
theorem dX7_keep_10 : decode cX7_keep 10 = .ok (.aload_n 0, 1) := by decide +kernel
theorem dX7_keep_11 : decode cX7_keep 11 = .ok (.getfield 13, 3) := by decide +kernel
theorem dX7_keep_14 : decode cX7_keep 14 = .ok (.iconst 0, 1) := by decide +kernel
theorem dX7_keep_15 : decode cX7_keep 15 = .ok (.sipush 164, 3) := by decide +kernel
theorem dX7_keep_18 : decode cX7_keep 18 = .ok (.invokestatic 48, 3) := by decide +kernel
theorem dX7_keep_21 : decode cX7_keep 21 = .ok (.return_, 1) := by decide +kernel
theorem dX7_ends_0 : decode cX7_ends 0 = .ok (.aload_n 0, 1) := by decide +kernel
theorem dX7_ends_1 : decode cX7_ends 1 = .ok (.getfield 45, 3) := by decide +kernel
theorem dX7_ends_4 : decode cX7_ends 4 = .ok (.ifCond .le 21, 3) := by decide +kernel
theorem dX7_ends_7 : decode cX7_ends 7 = .ok (.aload_n 0, 1) := by decide +kernel
theorem dX7_ends_8 : decode cX7_ends 8 = .ok (.getfield 13, 3) := by decide +kernel
theorem dX7_ends_11 : decode cX7_ends 11 = .ok (.iconst 0, 1) := by decide +kernel
theorem dX7_ends_12 : decode cX7_ends 12 = .ok (.aload_n 0, 1) := by decide +kernel
theorem dX7_ends_13 : decode cX7_ends 13 = .ok (.getfield 9, 3) := by decide +kernel
theorem dX7_ends_16 : decode cX7_ends 16 = .ok (.iconst 0, 1) := by decide +kernel
theorem dX7_ends_17 : decode cX7_ends 17 = .ok (.sipush 164, 3) := by decide +kernel
theorem dX7_ends_20 : decode cX7_ends 20 = .ok (.invokestatic 48, 3) := by decide +kernel
theorem dX7_ends_23 : decode cX7_ends 23 = .ok (.iconst 0, 1) := by decide +kernel
theorem dX7_ends_24 : decode cX7_ends 24 = .ok (.ireturn, 1) := by decide +kernel
theorem dX7_ends_25 : decode cX7_ends 25 = .ok (.aload_n 0, 1) := by decide +kernel
theorem dX7_ends_26 : decode cX7_ends 26 = .ok (.getfield 54, 3) := by decide +kernel
theorem dX7_ends_29 : decode cX7_ends 29 = .ok (.bipush 8, 2) := by decide +kernel
theorem dX7_ends_31 : decode cX7_ends 31 = .ok (.if_icmp .ne 31, 3) := by decide +kernel
theorem dX7_ends_34 : decode cX7_ends 34 = .ok (.aload_n 0, 1) := by decide +kernel
theorem dX7_ends_35 : decode cX7_ends 35 = .ok (.getfield 22, 3) := by decide +kernel
theorem dX7_ends_38 : decode cX7_ends 38 = .ok (.sipush 164, 3) := by decide +kernel
theorem dX7_ends_41 : decode cX7_ends 41 = .ok (.aload_n 0, 1) := by decide +kernel
theorem dX7_ends_42 : decode cX7_ends 42 = .ok (.getfield 22, 3) := by decide +kernel
theorem dX7_ends_45 : decode cX7_ends 45 = .ok (.iconst 0, 1) := by decide +kernel
theorem dX7_ends_46 : decode cX7_ends 46 = .ok (.sipush 1148, 3) := by decide +kernel
theorem dX7_ends_49 : decode cX7_ends 49 = .ok (.invokestatic 48, 3) := by decide +kernel
theorem dX7_ends_52 : decode cX7_ends 52 = .ok (.aload_n 0, 1) := by decide +kernel
theorem dX7_ends_53 : decode cX7_ends 53 = .ok (.dup, 1) := by decide +kernel
theorem dX7_ends_54 : decode cX7_ends 54 = .ok (.getfield 54, 3) := by decide +kernel
theorem dX7_ends_57 : decode cX7_ends 57 = .ok (.iconst 1, 1) := by decide +kernel
theorem dX7_ends_58 : decode cX7_ends 58 = .ok (.isub, 1) := by decide +kernel
theorem dX7_ends_59 : decode cX7_ends 59 = .ok (.putfield 54, 3) := by decide +kernel
theorem dX7_ends_62 : decode cX7_ends 62 = .ok (.aload_n 0, 1) := by decide +kernel
theorem dX7_ends_63 : decode cX7_ends 63 = .ok (.getfield 13, 3) := by decide +kernel
theorem dX7_ends_66 : decode cX7_ends 66 = .ok (.iconst 0, 1) := by decide +kernel
theorem dX7_ends_67 : decode cX7_ends 67 = .ok (.aload_n 0, 1) := by decide +kernel
theorem dX7_ends_68 : decode cX7_ends 68 = .ok (.getfield 22, 3) := by decide +kernel
theorem dX7_ends_71 : decode cX7_ends 71 = .ok (.sipush 164, 3) := by decide +kernel
theorem dX7_ends_74 : decode cX7_ends 74 = .ok (.aload_n 0, 1) := by decide +kernel
theorem dX7_ends_75 : decode cX7_ends 75 = .ok (.getfield 54, 3) := by decide +kernel
theorem dX7_ends_78 : decode cX7_ends 78 = .ok (.imul, 1) := by decide +kernel
theorem dX7_ends_79 : decode cX7_ends 79 = .ok (.sipush 164, 3) := by decide +kernel
theorem dX7_ends_82 : decode cX7_ends 82 = .ok (.invokestatic 48, 3) := by decide +kernel
theorem dX7_ends_85 : decode cX7_ends 85 = .ok (.aload_n 0, 1) := by decide +kernel
theorem dX7_ends_86 : decode cX7_ends 86 = .ok (.dup, 1) := by decide +kernel
theorem dX7_ends_87 : decode cX7_ends 87 = .ok (.getfield 54, 3) := by decide +kernel
theorem dX7_ends_90 : decode cX7_ends 90 = .ok (.iconst 1, 1) := by decide +kernel
theorem dX7_ends_91 : decode cX7_ends 91 = .ok (.iadd, 1) := by decide +kernel
theorem dX7_ends_92 : decode cX7_ends 92 = .ok (.putfield 54, 3) := by decide +kernel
theorem dX7_ends_95 : decode cX7_ends 95 = .ok (.iload_n 1, 1) := by decide +kernel
theorem dX7_ends_96 : decode cX7_ends 96 = .ok (.ireturn, 1) := by decide +kernel
theorem dX7_fails_0 : decode cX7_fails 0 = .ok (.aload_n 0, 1) := by decide +kernel
theorem dX7_fails_1 : decode cX7_fails 1 = .ok (.iload_n 1, 1) := by decide +kernel
theorem dX7_fails_2 : decode cX7_fails 2 = .ok (.putfield 45, 3) := by decide +kernel
theorem dX7_fails_5 : decode cX7_fails 5 = .ok (.iconst 0, 1) := by decide +kernel
theorem dX7_fails_6 : decode cX7_fails 6 = .ok (.ireturn, 1) := by decide +kernel
theorem dX7_refuse_0 : decode cX7_refuse 0 = .ok (.aload_n 0, 1) := by decide +kernel
theorem dX7_refuse_1 : decode cX7_refuse 1 = .ok (.iload_n 1, 1) := by decide +kernel
theorem dX7_refuse_2 : decode cX7_refuse 2 = .ok (.putfield 45, 3) := by decide +kernel
theorem dX7_refuse_5 : decode cX7_refuse 5 = .ok (.aload_n 0, 1) := by decide +kernel
theorem dX7_refuse_6 : decode cX7_refuse 6 = .ok (.iload_n 2, 1) := by decide +kernel
theorem dX7_refuse_7 : decode cX7_refuse 7 = .ok (.putfield 57, 3) := by decide +kernel
theorem dX7_refuse_10 : decode cX7_refuse 10 = .ok (.aload_n 0, 1) := by decide +kernel
theorem dX7_refuse_11 : decode cX7_refuse 11 = .ok (.iload_n 3, 1) := by decide +kernel
theorem dX7_refuse_12 : decode cX7_refuse 12 = .ok (.putfield 60, 3) := by decide +kernel
theorem dX7_refuse_15 : decode cX7_refuse 15 = .ok (.aload_n 0, 1) := by decide +kernel
theorem dX7_refuse_16 : decode cX7_refuse 16 = .ok (.iconst 1, 1) := by decide +kernel
theorem dX7_refuse_17 : decode cX7_refuse 17 = .ok (.putfield 63, 3) := by decide +kernel
theorem dX7_refuse_20 : decode cX7_refuse 20 = .ok (.iconst 0, 1) := by decide +kernel
theorem dX7_refuse_21 : decode cX7_refuse 21 = .ok (.ireturn, 1) := by decide +kernel
theorem dX7_refusal_0 : decode cX7_refusal 0 = .ok (.aload_n 0, 1) := by decide +kernel
theorem dX7_refusal_1 : decode cX7_refusal 1 = .ok (.aload_n 0, 1) := by decide +kernel
theorem dX7_refusal_2 : decode cX7_refusal 2 = .ok (.getfield 57, 3) := by decide +kernel
theorem dX7_refusal_5 : decode cX7_refusal 5 = .ok (.ifCond .ne 7, 3) := by decide +kernel
theorem dX7_refusal_8 : decode cX7_refusal 8 = .ok (.iconst 1, 1) := by decide +kernel
theorem dX7_refusal_9 : decode cX7_refusal 9 = .ok (.goto 4, 3) := by decide +kernel
theorem dX7_refusal_12 : decode cX7_refusal 12 = .ok (.iconst 0, 1) := by decide +kernel
theorem dX7_refusal_13 : decode cX7_refusal 13 = .ok (.putfield 45, 3) := by decide +kernel
theorem dX7_refusal_16 : decode cX7_refusal 16 = .ok (.aload_n 0, 1) := by decide +kernel
theorem dX7_refusal_17 : decode cX7_refusal 17 = .ok (.getfield 45, 3) := by decide +kernel
theorem dX7_refusal_20 : decode cX7_refusal 20 = .ok (.ifCond .le 7, 3) := by decide +kernel
theorem dX7_refusal_23 : decode cX7_refusal 23 = .ok (.iconst 0, 1) := by decide +kernel
theorem dX7_refusal_24 : decode cX7_refusal 24 = .ok (.goto 18, 3) := by decide +kernel
theorem dX7_refusal_27 : decode cX7_refusal 27 = .ok (.iload_n 1, 1) := by decide +kernel
theorem dX7_refusal_28 : decode cX7_refusal 28 = .ok (.ifCond .eq 10, 3) := by decide +kernel
theorem dX7_refusal_31 : decode cX7_refusal 31 = .ok (.aload_n 0, 1) := by decide +kernel
theorem dX7_refusal_32 : decode cX7_refusal 32 = .ok (.getfield 60, 3) := by decide +kernel
theorem dX7_refusal_35 : decode cX7_refusal 35 = .ok (.goto 7, 3) := by decide +kernel
theorem dX7_refusal_38 : decode cX7_refusal 38 = .ok (.aload_n 0, 1) := by decide +kernel
theorem dX7_refusal_39 : decode cX7_refusal 39 = .ok (.getfield 57, 3) := by decide +kernel
theorem dX7_refusal_42 : decode cX7_refusal 42 = .ok (.ireturn, 1) := by decide +kernel
theorem dX7_get_0 : decode cX7_get 0 = .ok (.aload_n 0, 1) := by decide +kernel
theorem dX7_get_1 : decode cX7_get 1 = .ok (.getfield 9, 3) := by decide +kernel
theorem dX7_get_4 : decode cX7_get 4 = .ok (.bipush 8, 2) := by decide +kernel
theorem dX7_get_6 : decode cX7_get 6 = .ok (.bipush 6, 2) := by decide +kernel
theorem dX7_get_8 : decode cX7_get 8 = .ok (.iload_n 1, 1) := by decide +kernel
theorem dX7_get_9 : decode cX7_get 9 = .ok (.imul, 1) := by decide +kernel
theorem dX7_get_10 : decode cX7_get 10 = .ok (.iadd, 1) := by decide +kernel
theorem dX7_get_11 : decode cX7_get 11 = .ok (.iload_n 2, 1) := by decide +kernel
theorem dX7_get_12 : decode cX7_get 12 = .ok (.iadd, 1) := by decide +kernel
theorem dX7_get_13 : decode cX7_get 13 = .ok (.iaload, 1) := by decide +kernel
theorem dX7_get_14 : decode cX7_get 14 = .ok (.ireturn, 1) := by decide +kernel
theorem dX7_set_0 : decode cX7_set 0 = .ok (.aload_n 0, 1) := by decide +kernel
theorem dX7_set_1 : decode cX7_set 1 = .ok (.getfield 9, 3) := by decide +kernel
theorem dX7_set_4 : decode cX7_set 4 = .ok (.bipush 8, 2) := by decide +kernel
theorem dX7_set_6 : decode cX7_set 6 = .ok (.bipush 6, 2) := by decide +kernel
theorem dX7_set_8 : decode cX7_set 8 = .ok (.iload_n 1, 1) := by decide +kernel
theorem dX7_set_9 : decode cX7_set 9 = .ok (.imul, 1) := by decide +kernel
theorem dX7_set_10 : decode cX7_set 10 = .ok (.iadd, 1) := by decide +kernel
theorem dX7_set_11 : decode cX7_set 11 = .ok (.iload_n 2, 1) := by decide +kernel
theorem dX7_set_12 : decode cX7_set 12 = .ok (.iadd, 1) := by decide +kernel
theorem dX7_set_13 : decode cX7_set 13 = .ok (.iload_n 3, 1) := by decide +kernel
theorem dX7_set_14 : decode cX7_set 14 = .ok (.iastore, 1) := by decide +kernel
theorem dX7_set_15 : decode cX7_set 15 = .ok (.return_, 1) := by decide +kernel
theorem dX7_iceOf_0 : decode cX7_iceOf 0 = .ok (.aload_n 0, 1) := by decide +kernel
theorem dX7_iceOf_1 : decode cX7_iceOf 1 = .ok (.iload_n 1, 1) := by decide +kernel
theorem dX7_iceOf_2 : decode cX7_iceOf 2 = .ok (.iconst 0, 1) := by decide +kernel
theorem dX7_iceOf_3 : decode cX7_iceOf 3 = .ok (.invokevirtual 67, 3) := by decide +kernel
theorem dX7_iceOf_6 : decode cX7_iceOf 6 = .ok (.invokestatic 71, 3) := by decide +kernel
theorem dX7_iceOf_9 : decode cX7_iceOf 9 = .ok (.freturn, 1) := by decide +kernel
theorem dX7_setIce_0 : decode cX7_setIce 0 = .ok (.aload_n 0, 1) := by decide +kernel
theorem dX7_setIce_1 : decode cX7_setIce 1 = .ok (.iload_n 1, 1) := by decide +kernel
theorem dX7_setIce_2 : decode cX7_setIce 2 = .ok (.iconst 0, 1) := by decide +kernel
theorem dX7_setIce_3 : decode cX7_setIce 3 = .ok (.fload_n 2, 1) := by decide +kernel
theorem dX7_setIce_4 : decode cX7_setIce 4 = .ok (.invokestatic 77, 3) := by decide +kernel
theorem dX7_setIce_7 : decode cX7_setIce 7 = .ok (.invokevirtual 41, 3) := by decide +kernel
theorem dX7_setIce_10 : decode cX7_setIce 10 = .ok (.return_, 1) := by decide +kernel
theorem dX7_convoy1_0 : decode cX7_convoy1 0 = .ok (.aload_n 0, 1) := by decide +kernel
theorem dX7_convoy1_1 : decode cX7_convoy1 1 = .ok (.getfield 9, 3) := by decide +kernel
theorem dX7_convoy1_4 : decode cX7_convoy1 4 = .ok (.bipush 100, 2) := by decide +kernel
theorem dX7_convoy1_6 : decode cX7_convoy1 6 = .ok (.bipush 16, 2) := by decide +kernel
theorem dX7_convoy1_8 : decode cX7_convoy1 8 = .ok (.iload_n 1, 1) := by decide +kernel
theorem dX7_convoy1_9 : decode cX7_convoy1 9 = .ok (.imul, 1) := by decide +kernel
theorem dX7_convoy1_10 : decode cX7_convoy1 10 = .ok (.iadd, 1) := by decide +kernel
theorem dX7_convoy1_11 : decode cX7_convoy1 11 = .ok (.iload_n 2, 1) := by decide +kernel
theorem dX7_convoy1_12 : decode cX7_convoy1 12 = .ok (.iadd, 1) := by decide +kernel
theorem dX7_convoy1_13 : decode cX7_convoy1 13 = .ok (.iaload, 1) := by decide +kernel
theorem dX7_convoy1_14 : decode cX7_convoy1 14 = .ok (.ireturn, 1) := by decide +kernel
theorem dX7_truck1_0 : decode cX7_truck1 0 = .ok (.aload_n 0, 1) := by decide +kernel
theorem dX7_truck1_1 : decode cX7_truck1 1 = .ok (.iload_n 1, 1) := by decide +kernel
theorem dX7_truck1_2 : decode cX7_truck1 2 = .ok (.iconst 4, 1) := by decide +kernel
theorem dX7_truck1_3 : decode cX7_truck1 3 = .ok (.iconst 3, 1) := by decide +kernel
theorem dX7_truck1_4 : decode cX7_truck1 4 = .ok (.iload_n 2, 1) := by decide +kernel
theorem dX7_truck1_5 : decode cX7_truck1 5 = .ok (.imul, 1) := by decide +kernel
theorem dX7_truck1_6 : decode cX7_truck1 6 = .ok (.iadd, 1) := by decide +kernel
theorem dX7_truck1_7 : decode cX7_truck1 7 = .ok (.iload_n 3, 1) := by decide +kernel
theorem dX7_truck1_8 : decode cX7_truck1 8 = .ok (.iadd, 1) := by decide +kernel
theorem dX7_truck1_9 : decode cX7_truck1 9 = .ok (.invokevirtual 81, 3) := by decide +kernel
theorem dX7_truck1_12 : decode cX7_truck1 12 = .ok (.ireturn, 1) := by decide +kernel
theorem dX7_isMile_0 : decode cX7_isMile 0 = .ok (.iload_n 0, 1) := by decide +kernel
theorem dX7_isMile_1 : decode cX7_isMile 1 = .ok (.iconst 0, 1) := by decide +kernel
theorem dX7_isMile_2 : decode cX7_isMile 2 = .ok (.bipush 11, 2) := by decide +kernel
theorem dX7_isMile_4 : decode cX7_isMile 4 = .ok (.invokestatic 84, 3) := by decide +kernel
theorem dX7_isMile_7 : decode cX7_isMile 7 = .ok (.ireturn, 1) := by decide +kernel
theorem dX7_isConvoy_0 : decode cX7_isConvoy 0 = .ok (.iload_n 1, 1) := by decide +kernel
theorem dX7_isConvoy_1 : decode cX7_isConvoy 1 = .ok (.iconst 0, 1) := by decide +kernel
theorem dX7_isConvoy_2 : decode cX7_isConvoy 2 = .ok (.aload_n 0, 1) := by decide +kernel
theorem dX7_isConvoy_3 : decode cX7_isConvoy 3 = .ok (.getfield 9, 3) := by decide +kernel
theorem dX7_isConvoy_6 : decode cX7_isConvoy 6 = .ok (.iconst 1, 1) := by decide +kernel
theorem dX7_isConvoy_7 : decode cX7_isConvoy 7 = .ok (.iaload, 1) := by decide +kernel
theorem dX7_isConvoy_8 : decode cX7_isConvoy 8 = .ok (.iconst 1, 1) := by decide +kernel
theorem dX7_isConvoy_9 : decode cX7_isConvoy 9 = .ok (.isub, 1) := by decide +kernel
theorem dX7_isConvoy_10 : decode cX7_isConvoy 10 = .ok (.invokestatic 84, 3) := by decide +kernel
theorem dX7_isConvoy_13 : decode cX7_isConvoy 13 = .ok (.ireturn, 1) := by decide +kernel
theorem dX7_doSet_0 : decode cX7_doSet 0 = .ok (.iload_n 1, 1) := by decide +kernel
theorem dX7_doSet_1 : decode cX7_doSet 1 = .ok (.ifCond .ne 8, 3) := by decide +kernel
theorem dX7_doSet_4 : decode cX7_doSet 4 = .ok (.bipush (-40), 2) := by decide +kernel
theorem dX7_doSet_6 : decode cX7_doSet 6 = .ok (.goto 13, 3) := by decide +kernel
theorem dX7_doSet_9 : decode cX7_doSet 9 = .ok (.iload_n 1, 1) := by decide +kernel
theorem dX7_doSet_10 : decode cX7_doSet 10 = .ok (.iconst 1, 1) := by decide +kernel
theorem dX7_doSet_11 : decode cX7_doSet 11 = .ok (.if_icmp .ne 7, 3) := by decide +kernel
theorem dX7_doSet_14 : decode cX7_doSet 14 = .ok (.iconst 0, 1) := by decide +kernel
theorem dX7_doSet_15 : decode cX7_doSet 15 = .ok (.goto 4, 3) := by decide +kernel
theorem dX7_doSet_18 : decode cX7_doSet 18 = .ok (.iconst 1, 1) := by decide +kernel
theorem dX7_doSet_19 : decode cX7_doSet 19 = .ok (.istore_n 3, 1) := by decide +kernel
theorem dX7_doSet_20 : decode cX7_doSet 20 = .ok (.iload_n 1, 1) := by decide +kernel
theorem dX7_doSet_21 : decode cX7_doSet 21 = .ok (.ifCond .ne 8, 3) := by decide +kernel
theorem dX7_doSet_24 : decode cX7_doSet 24 = .ok (.bipush 10, 2) := by decide +kernel
theorem dX7_doSet_26 : decode cX7_doSet 26 = .ok (.goto 15, 3) := by decide +kernel
theorem dX7_doSet_29 : decode cX7_doSet 29 = .ok (.iload_n 1, 1) := by decide +kernel
theorem dX7_doSet_30 : decode cX7_doSet 30 = .ok (.iconst 1, 1) := by decide +kernel
theorem dX7_doSet_31 : decode cX7_doSet 31 = .ok (.if_icmp .ne 8, 3) := by decide +kernel
theorem dX7_doSet_34 : decode cX7_doSet 34 = .ok (.bipush 100, 2) := by decide +kernel
theorem dX7_doSet_36 : decode cX7_doSet 36 = .ok (.goto 5, 3) := by decide +kernel
theorem dX7_doSet_39 : decode cX7_doSet 39 = .ok (.bipush 14, 2) := by decide +kernel
theorem dX7_doSet_41 : decode cX7_doSet 41 = .ok (.istore 4, 2) := by decide +kernel
theorem dX7_doSet_43 : decode cX7_doSet 43 = .ok (.iload_n 1, 1) := by decide +kernel
theorem dX7_doSet_44 : decode cX7_doSet 44 = .ok (.iconst 0, 1) := by decide +kernel
theorem dX7_doSet_45 : decode cX7_doSet 45 = .ok (.iconst 2, 1) := by decide +kernel
theorem dX7_doSet_46 : decode cX7_doSet 46 = .ok (.invokestatic 84, 3) := by decide +kernel
theorem dX7_doSet_49 : decode cX7_doSet 49 = .ok (.ifCond .eq 13, 3) := by decide +kernel
theorem dX7_doSet_52 : decode cX7_doSet 52 = .ok (.iload_n 2, 1) := by decide +kernel
theorem dX7_doSet_53 : decode cX7_doSet 53 = .ok (.iload_n 3, 1) := by decide +kernel
theorem dX7_doSet_54 : decode cX7_doSet 54 = .ok (.iload 4, 2) := by decide +kernel
theorem dX7_doSet_56 : decode cX7_doSet 56 = .ok (.invokestatic 84, 3) := by decide +kernel
theorem dX7_doSet_59 : decode cX7_doSet 59 = .ok (.ifCond .ne 9, 3) := by decide +kernel
theorem dX7_doSet_62 : decode cX7_doSet 62 = .ok (.aload_n 0, 1) := by decide +kernel
theorem dX7_doSet_63 : decode cX7_doSet 63 = .ok (.iconst 1, 1) := by decide +kernel
theorem dX7_doSet_64 : decode cX7_doSet 64 = .ok (.invokevirtual 88, 3) := by decide +kernel
theorem dX7_doSet_67 : decode cX7_doSet 67 = .ok (.ireturn, 1) := by decide +kernel
theorem dX7_doSet_68 : decode cX7_doSet 68 = .ok (.aload_n 0, 1) := by decide +kernel
theorem dX7_doSet_69 : decode cX7_doSet 69 = .ok (.getfield 9, 3) := by decide +kernel
theorem dX7_doSet_72 : decode cX7_doSet 72 = .ok (.iconst 5, 1) := by decide +kernel
theorem dX7_doSet_73 : decode cX7_doSet 73 = .ok (.iload_n 1, 1) := by decide +kernel
theorem dX7_doSet_74 : decode cX7_doSet 74 = .ok (.iadd, 1) := by decide +kernel
theorem dX7_doSet_75 : decode cX7_doSet 75 = .ok (.iaload, 1) := by decide +kernel
theorem dX7_doSet_76 : decode cX7_doSet 76 = .ok (.istore 5, 2) := by decide +kernel
theorem dX7_doSet_78 : decode cX7_doSet 78 = .ok (.aload_n 0, 1) := by decide +kernel
theorem dX7_doSet_79 : decode cX7_doSet 79 = .ok (.getfield 9, 3) := by decide +kernel
theorem dX7_doSet_82 : decode cX7_doSet 82 = .ok (.iconst 5, 1) := by decide +kernel
theorem dX7_doSet_83 : decode cX7_doSet 83 = .ok (.iload_n 1, 1) := by decide +kernel
theorem dX7_doSet_84 : decode cX7_doSet 84 = .ok (.iadd, 1) := by decide +kernel
theorem dX7_doSet_85 : decode cX7_doSet 85 = .ok (.iload_n 2, 1) := by decide +kernel
theorem dX7_doSet_86 : decode cX7_doSet 86 = .ok (.iastore, 1) := by decide +kernel
theorem dX7_doSet_87 : decode cX7_doSet 87 = .ok (.iload 5, 2) := by decide +kernel
theorem dX7_doSet_89 : decode cX7_doSet 89 = .ok (.ireturn, 1) := by decide +kernel
theorem dX7_set__0 : decode cX7_set_ 0 = .ok (.aload_n 0, 1) := by decide +kernel
theorem dX7_set__1 : decode cX7_set_ 1 = .ok (.invokevirtual 92, 3) := by decide +kernel
theorem dX7_set__4 : decode cX7_set_ 4 = .ok (.aload_n 0, 1) := by decide +kernel
theorem dX7_set__5 : decode cX7_set_ 5 = .ok (.aload_n 0, 1) := by decide +kernel
theorem dX7_set__6 : decode cX7_set_ 6 = .ok (.iload_n 1, 1) := by decide +kernel
theorem dX7_set__7 : decode cX7_set_ 7 = .ok (.iload_n 2, 1) := by decide +kernel
theorem dX7_set__8 : decode cX7_set_ 8 = .ok (.invokevirtual 95, 3) := by decide +kernel
theorem dX7_set__11 : decode cX7_set_ 11 = .ok (.invokevirtual 98, 3) := by decide +kernel
theorem dX7_set__14 : decode cX7_set_ 14 = .ok (.ireturn, 1) := by decide +kernel
theorem dX7_setting_0 : decode cX7_setting 0 = .ok (.aload_n 0, 1) := by decide +kernel
theorem dX7_setting_1 : decode cX7_setting 1 = .ok (.iload_n 1, 1) := by decide +kernel
theorem dX7_setting_2 : decode cX7_setting 2 = .ok (.iconst 0, 1) := by decide +kernel
theorem dX7_setting_3 : decode cX7_setting 3 = .ok (.iconst 2, 1) := by decide +kernel
theorem dX7_setting_4 : decode cX7_setting 4 = .ok (.invokestatic 84, 3) := by decide +kernel
theorem dX7_setting_7 : decode cX7_setting 7 = .ok (.ifCond .eq 7, 3) := by decide +kernel
theorem dX7_setting_10 : decode cX7_setting 10 = .ok (.iconst 0, 1) := by decide +kernel
theorem dX7_setting_11 : decode cX7_setting 11 = .ok (.goto 4, 3) := by decide +kernel
theorem dX7_setting_14 : decode cX7_setting 14 = .ok (.iconst 1, 1) := by decide +kernel
theorem dX7_setting_15 : decode cX7_setting 15 = .ok (.putfield 45, 3) := by decide +kernel
theorem dX7_setting_18 : decode cX7_setting 18 = .ok (.aload_n 0, 1) := by decide +kernel
theorem dX7_setting_19 : decode cX7_setting 19 = .ok (.getfield 45, 3) := by decide +kernel
theorem dX7_setting_22 : decode cX7_setting 22 = .ok (.ifCond .le 7, 3) := by decide +kernel
theorem dX7_setting_25 : decode cX7_setting 25 = .ok (.iconst 0, 1) := by decide +kernel
theorem dX7_setting_26 : decode cX7_setting 26 = .ok (.goto 11, 3) := by decide +kernel
theorem dX7_setting_29 : decode cX7_setting 29 = .ok (.aload_n 0, 1) := by decide +kernel
theorem dX7_setting_30 : decode cX7_setting 30 = .ok (.getfield 9, 3) := by decide +kernel
theorem dX7_setting_33 : decode cX7_setting 33 = .ok (.iconst 5, 1) := by decide +kernel
theorem dX7_setting_34 : decode cX7_setting 34 = .ok (.iload_n 1, 1) := by decide +kernel
theorem dX7_setting_35 : decode cX7_setting 35 = .ok (.iadd, 1) := by decide +kernel
theorem dX7_setting_36 : decode cX7_setting 36 = .ok (.iaload, 1) := by decide +kernel
theorem dX7_setting_37 : decode cX7_setting 37 = .ok (.ireturn, 1) := by decide +kernel
theorem dX7_doDrill_0 : decode cX7_doDrill 0 = .ok (.iload_n 1, 1) := by decide +kernel
theorem dX7_doDrill_1 : decode cX7_doDrill 1 = .ok (.invokestatic 101, 3) := by decide +kernel
theorem dX7_doDrill_4 : decode cX7_doDrill 4 = .ok (.ifCond .ne 9, 3) := by decide +kernel
theorem dX7_doDrill_7 : decode cX7_doDrill 7 = .ok (.aload_n 0, 1) := by decide +kernel
theorem dX7_doDrill_8 : decode cX7_doDrill 8 = .ok (.iconst 1, 1) := by decide +kernel
theorem dX7_doDrill_9 : decode cX7_doDrill 9 = .ok (.invokevirtual 88, 3) := by decide +kernel
theorem dX7_doDrill_12 : decode cX7_doDrill 12 = .ok (.ireturn, 1) := by decide +kernel
theorem dX7_doDrill_13 : decode cX7_doDrill 13 = .ok (.aload_n 0, 1) := by decide +kernel
theorem dX7_doDrill_14 : decode cX7_doDrill 14 = .ok (.iload_n 1, 1) := by decide +kernel
theorem dX7_doDrill_15 : decode cX7_doDrill 15 = .ok (.iconst 3, 1) := by decide +kernel
theorem dX7_doDrill_16 : decode cX7_doDrill 16 = .ok (.aload_n 0, 1) := by decide +kernel
theorem dX7_doDrill_17 : decode cX7_doDrill 17 = .ok (.iload_n 1, 1) := by decide +kernel
theorem dX7_doDrill_18 : decode cX7_doDrill 18 = .ok (.iconst 0, 1) := by decide +kernel
theorem dX7_doDrill_19 : decode cX7_doDrill 19 = .ok (.invokevirtual 67, 3) := by decide +kernel
theorem dX7_doDrill_22 : decode cX7_doDrill 22 = .ok (.invokevirtual 41, 3) := by decide +kernel
theorem dX7_doDrill_25 : decode cX7_doDrill 25 = .ok (.aload_n 0, 1) := by decide +kernel
theorem dX7_doDrill_26 : decode cX7_doDrill 26 = .ok (.iload_n 1, 1) := by decide +kernel
theorem dX7_doDrill_27 : decode cX7_doDrill 27 = .ok (.iconst 4, 1) := by decide +kernel
theorem dX7_doDrill_28 : decode cX7_doDrill 28 = .ok (.aload_n 0, 1) := by decide +kernel
theorem dX7_doDrill_29 : decode cX7_doDrill 29 = .ok (.getfield 9, 3) := by decide +kernel
theorem dX7_doDrill_32 : decode cX7_doDrill 32 = .ok (.iconst 0, 1) := by decide +kernel
theorem dX7_doDrill_33 : decode cX7_doDrill 33 = .ok (.iaload, 1) := by decide +kernel
theorem dX7_doDrill_34 : decode cX7_doDrill 34 = .ok (.invokevirtual 41, 3) := by decide +kernel
theorem dX7_doDrill_37 : decode cX7_doDrill 37 = .ok (.aload_n 0, 1) := by decide +kernel
theorem dX7_doDrill_38 : decode cX7_doDrill 38 = .ok (.getfield 9, 3) := by decide +kernel
theorem dX7_doDrill_41 : decode cX7_doDrill 41 = .ok (.iconst 2, 1) := by decide +kernel
theorem dX7_doDrill_42 : decode cX7_doDrill 42 = .ok (.dup2, 1) := by decide +kernel
theorem dX7_doDrill_43 : decode cX7_doDrill 43 = .ok (.iaload, 1) := by decide +kernel
theorem dX7_doDrill_44 : decode cX7_doDrill 44 = .ok (.iconst 1, 1) := by decide +kernel
theorem dX7_doDrill_45 : decode cX7_doDrill 45 = .ok (.iadd, 1) := by decide +kernel
theorem dX7_doDrill_46 : decode cX7_doDrill 46 = .ok (.iastore, 1) := by decide +kernel
theorem dX7_doDrill_47 : decode cX7_doDrill 47 = .ok (.aload_n 0, 1) := by decide +kernel
theorem dX7_doDrill_48 : decode cX7_doDrill 48 = .ok (.iload_n 1, 1) := by decide +kernel
theorem dX7_doDrill_49 : decode cX7_doDrill 49 = .ok (.iconst 0, 1) := by decide +kernel
theorem dX7_doDrill_50 : decode cX7_doDrill 50 = .ok (.invokevirtual 67, 3) := by decide +kernel
theorem dX7_doDrill_53 : decode cX7_doDrill 53 = .ok (.ireturn, 1) := by decide +kernel
theorem dX7_drill_0 : decode cX7_drill 0 = .ok (.aload_n 0, 1) := by decide +kernel
theorem dX7_drill_1 : decode cX7_drill 1 = .ok (.invokevirtual 92, 3) := by decide +kernel
theorem dX7_drill_4 : decode cX7_drill 4 = .ok (.aload_n 0, 1) := by decide +kernel
theorem dX7_drill_5 : decode cX7_drill 5 = .ok (.aload_n 0, 1) := by decide +kernel
theorem dX7_drill_6 : decode cX7_drill 6 = .ok (.iload_n 1, 1) := by decide +kernel
theorem dX7_drill_7 : decode cX7_drill 7 = .ok (.invokevirtual 105, 3) := by decide +kernel
theorem dX7_drill_10 : decode cX7_drill 10 = .ok (.invokevirtual 98, 3) := by decide +kernel
theorem dX7_drill_13 : decode cX7_drill 13 = .ok (.ireturn, 1) := by decide +kernel
theorem dX7_drilled_0 : decode cX7_drilled 0 = .ok (.aload_n 0, 1) := by decide +kernel
theorem dX7_drilled_1 : decode cX7_drilled 1 = .ok (.iload_n 1, 1) := by decide +kernel
theorem dX7_drilled_2 : decode cX7_drilled 2 = .ok (.invokestatic 101, 3) := by decide +kernel
theorem dX7_drilled_5 : decode cX7_drilled 5 = .ok (.ifCond .ne 7, 3) := by decide +kernel
theorem dX7_drilled_8 : decode cX7_drilled 8 = .ok (.iconst 1, 1) := by decide +kernel
theorem dX7_drilled_9 : decode cX7_drilled 9 = .ok (.goto 17, 3) := by decide +kernel
theorem dX7_drilled_12 : decode cX7_drilled 12 = .ok (.aload_n 0, 1) := by decide +kernel
theorem dX7_drilled_13 : decode cX7_drilled 13 = .ok (.iload_n 1, 1) := by decide +kernel
theorem dX7_drilled_14 : decode cX7_drilled 14 = .ok (.iconst 4, 1) := by decide +kernel
theorem dX7_drilled_15 : decode cX7_drilled 15 = .ok (.invokevirtual 67, 3) := by decide +kernel
theorem dX7_drilled_18 : decode cX7_drilled 18 = .ok (.ifCond .ge 7, 3) := by decide +kernel
theorem dX7_drilled_21 : decode cX7_drilled 21 = .ok (.iconst 2, 1) := by decide +kernel
theorem dX7_drilled_22 : decode cX7_drilled 22 = .ok (.goto 4, 3) := by decide +kernel
theorem dX7_drilled_25 : decode cX7_drilled 25 = .ok (.iconst 0, 1) := by decide +kernel
theorem dX7_drilled_26 : decode cX7_drilled 26 = .ok (.putfield 45, 3) := by decide +kernel
theorem dX7_drilled_29 : decode cX7_drilled 29 = .ok (.aload_n 0, 1) := by decide +kernel
theorem dX7_drilled_30 : decode cX7_drilled 30 = .ok (.getfield 45, 3) := by decide +kernel
theorem dX7_drilled_33 : decode cX7_drilled 33 = .ok (.ifCond .le 7, 3) := by decide +kernel
theorem dX7_drilled_36 : decode cX7_drilled 36 = .ok (.iconst 0, 1) := by decide +kernel
theorem dX7_drilled_37 : decode cX7_drilled 37 = .ok (.goto 9, 3) := by decide +kernel
theorem dX7_drilled_40 : decode cX7_drilled 40 = .ok (.aload_n 0, 1) := by decide +kernel
theorem dX7_drilled_41 : decode cX7_drilled 41 = .ok (.iload_n 1, 1) := by decide +kernel
theorem dX7_drilled_42 : decode cX7_drilled 42 = .ok (.iconst 3, 1) := by decide +kernel
theorem dX7_drilled_43 : decode cX7_drilled 43 = .ok (.invokevirtual 67, 3) := by decide +kernel
theorem dX7_drilled_46 : decode cX7_drilled 46 = .ok (.ireturn, 1) := by decide +kernel
theorem dX7_isGood_0 : decode cX7_isGood 0 = .ok (.aload_n 0, 1) := by decide +kernel
theorem dX7_isGood_1 : decode cX7_isGood 1 = .ok (.iload_n 1, 1) := by decide +kernel
theorem dX7_isGood_2 : decode cX7_isGood 2 = .ok (.iconst 4, 1) := by decide +kernel
theorem dX7_isGood_3 : decode cX7_isGood 3 = .ok (.invokevirtual 67, 3) := by decide +kernel
theorem dX7_isGood_6 : decode cX7_isGood 6 = .ok (.ifCond .lt 30, 3) := by decide +kernel
theorem dX7_isGood_9 : decode cX7_isGood 9 = .ok (.aload_n 0, 1) := by decide +kernel
theorem dX7_isGood_10 : decode cX7_isGood 10 = .ok (.getfield 9, 3) := by decide +kernel
theorem dX7_isGood_13 : decode cX7_isGood 13 = .ok (.iconst 0, 1) := by decide +kernel
theorem dX7_isGood_14 : decode cX7_isGood 14 = .ok (.iaload, 1) := by decide +kernel
theorem dX7_isGood_15 : decode cX7_isGood 15 = .ok (.aload_n 0, 1) := by decide +kernel
theorem dX7_isGood_16 : decode cX7_isGood 16 = .ok (.iload_n 1, 1) := by decide +kernel
theorem dX7_isGood_17 : decode cX7_isGood 17 = .ok (.iconst 4, 1) := by decide +kernel
theorem dX7_isGood_18 : decode cX7_isGood 18 = .ok (.invokevirtual 67, 3) := by decide +kernel
theorem dX7_isGood_21 : decode cX7_isGood 21 = .ok (.isub, 1) := by decide +kernel
theorem dX7_isGood_22 : decode cX7_isGood 22 = .ok (.aload_n 0, 1) := by decide +kernel
theorem dX7_isGood_23 : decode cX7_isGood 23 = .ok (.getfield 9, 3) := by decide +kernel
theorem dX7_isGood_26 : decode cX7_isGood 26 = .ok (.bipush 7, 2) := by decide +kernel
theorem dX7_isGood_28 : decode cX7_isGood 28 = .ok (.iaload, 1) := by decide +kernel
theorem dX7_isGood_29 : decode cX7_isGood 29 = .ok (.if_icmp .gt 7, 3) := by decide +kernel
theorem dX7_isGood_32 : decode cX7_isGood 32 = .ok (.iconst 1, 1) := by decide +kernel
theorem dX7_isGood_33 : decode cX7_isGood 33 = .ok (.goto 4, 3) := by decide +kernel
theorem dX7_isGood_36 : decode cX7_isGood 36 = .ok (.iconst 0, 1) := by decide +kernel
theorem dX7_isGood_37 : decode cX7_isGood 37 = .ok (.ireturn, 1) := by decide +kernel
theorem dX7_bearsOf_0 : decode cX7_bearsOf 0 = .ok (.aload_n 0, 1) := by decide +kernel
theorem dX7_bearsOf_1 : decode cX7_bearsOf 1 = .ok (.iload_n 1, 1) := by decide +kernel
theorem dX7_bearsOf_2 : decode cX7_bearsOf 2 = .ok (.invokevirtual 108, 3) := by decide +kernel
theorem dX7_bearsOf_5 : decode cX7_bearsOf 5 = .ok (.ifCond .ne 5, 3) := by decide +kernel
theorem dX7_bearsOf_8 : decode cX7_bearsOf 8 = .ok (.fconst 0, 1) := by decide +kernel
theorem dX7_bearsOf_9 : decode cX7_bearsOf 9 = .ok (.freturn, 1) := by decide +kernel
theorem dX7_bearsOf_10 : decode cX7_bearsOf 10 = .ok (.aload_n 0, 1) := by decide +kernel
theorem dX7_bearsOf_11 : decode cX7_bearsOf 11 = .ok (.iload_n 1, 1) := by decide +kernel
theorem dX7_bearsOf_12 : decode cX7_bearsOf 12 = .ok (.iconst 3, 1) := by decide +kernel
theorem dX7_bearsOf_13 : decode cX7_bearsOf 13 = .ok (.invokevirtual 67, 3) := by decide +kernel
theorem dX7_bearsOf_16 : decode cX7_bearsOf 16 = .ok (.invokestatic 71, 3) := by decide +kernel
theorem dX7_bearsOf_19 : decode cX7_bearsOf 19 = .ok (.fstore_n 2, 1) := by decide +kernel
theorem dX7_bearsOf_20 : decode cX7_bearsOf 20 = .ok (.fconst 1, 1) := by decide +kernel
theorem dX7_bearsOf_21 : decode cX7_bearsOf 21 = .ok (.ldc 111, 2) := by decide +kernel
theorem dX7_bearsOf_23 : decode cX7_bearsOf 23 = .ok (.aload_n 0, 1) := by decide +kernel
theorem dX7_bearsOf_24 : decode cX7_bearsOf 24 = .ok (.iload_n 1, 1) := by decide +kernel
theorem dX7_bearsOf_25 : decode cX7_bearsOf 25 = .ok (.iconst 1, 1) := by decide +kernel
theorem dX7_bearsOf_26 : decode cX7_bearsOf 26 = .ok (.invokevirtual 67, 3) := by decide +kernel
theorem dX7_bearsOf_29 : decode cX7_bearsOf 29 = .ok (.i2f, 1) := by decide +kernel
theorem dX7_bearsOf_30 : decode cX7_bearsOf 30 = .ok (.fmul, 1) := by decide +kernel
theorem dX7_bearsOf_31 : decode cX7_bearsOf 31 = .ok (.fsub, 1) := by decide +kernel
theorem dX7_bearsOf_32 : decode cX7_bearsOf 32 = .ok (.fstore_n 3, 1) := by decide +kernel
theorem dX7_bearsOf_33 : decode cX7_bearsOf 33 = .ok (.aload_n 0, 1) := by decide +kernel
theorem dX7_bearsOf_34 : decode cX7_bearsOf 34 = .ok (.getfield 9, 3) := by decide +kernel
theorem dX7_bearsOf_37 : decode cX7_bearsOf 37 = .ok (.bipush 6, 2) := by decide +kernel
theorem dX7_bearsOf_39 : decode cX7_bearsOf 39 = .ok (.iaload, 1) := by decide +kernel
theorem dX7_bearsOf_40 : decode cX7_bearsOf 40 = .ok (.i2f, 1) := by decide +kernel
theorem dX7_bearsOf_41 : decode cX7_bearsOf 41 = .ok (.ldc 112, 2) := by decide +kernel
theorem dX7_bearsOf_43 : decode cX7_bearsOf 43 = .ok (.fdiv, 1) := by decide +kernel
theorem dX7_bearsOf_44 : decode cX7_bearsOf 44 = .ok (.fstore 4, 2) := by decide +kernel
theorem dX7_bearsOf_46 : decode cX7_bearsOf 46 = .ok (.fload_n 2, 1) := by decide +kernel
theorem dX7_bearsOf_47 : decode cX7_bearsOf 47 = .ok (.fload_n 2, 1) := by decide +kernel
theorem dX7_bearsOf_48 : decode cX7_bearsOf 48 = .ok (.fmul, 1) := by decide +kernel
theorem dX7_bearsOf_49 : decode cX7_bearsOf 49 = .ok (.ldc 113, 2) := by decide +kernel
theorem dX7_bearsOf_51 : decode cX7_bearsOf 51 = .ok (.fmul, 1) := by decide +kernel
theorem dX7_bearsOf_52 : decode cX7_bearsOf 52 = .ok (.fload_n 3, 1) := by decide +kernel
theorem dX7_bearsOf_53 : decode cX7_bearsOf 53 = .ok (.fmul, 1) := by decide +kernel
theorem dX7_bearsOf_54 : decode cX7_bearsOf 54 = .ok (.fload 4, 2) := by decide +kernel
theorem dX7_bearsOf_56 : decode cX7_bearsOf 56 = .ok (.fmul, 1) := by decide +kernel
theorem dX7_bearsOf_57 : decode cX7_bearsOf 57 = .ok (.freturn, 1) := by decide +kernel
theorem dX7_mileOf_0 : decode cX7_mileOf 0 = .ok (.aload_n 0, 1) := by decide +kernel
theorem dX7_mileOf_1 : decode cX7_mileOf 1 = .ok (.iload_n 1, 1) := by decide +kernel
theorem dX7_mileOf_2 : decode cX7_mileOf 2 = .ok (.invokestatic 101, 3) := by decide +kernel
theorem dX7_mileOf_5 : decode cX7_mileOf 5 = .ok (.ifCond .ne 7, 3) := by decide +kernel
theorem dX7_mileOf_8 : decode cX7_mileOf 8 = .ok (.iconst 1, 1) := by decide +kernel
theorem dX7_mileOf_9 : decode cX7_mileOf 9 = .ok (.goto 17, 3) := by decide +kernel
theorem dX7_mileOf_12 : decode cX7_mileOf 12 = .ok (.iload_n 2, 1) := by decide +kernel
theorem dX7_mileOf_13 : decode cX7_mileOf 13 = .ok (.iconst 0, 1) := by decide +kernel
theorem dX7_mileOf_14 : decode cX7_mileOf 14 = .ok (.iconst 4, 1) := by decide +kernel
theorem dX7_mileOf_15 : decode cX7_mileOf 15 = .ok (.invokestatic 84, 3) := by decide +kernel
theorem dX7_mileOf_18 : decode cX7_mileOf 18 = .ok (.ifCond .ne 7, 3) := by decide +kernel
theorem dX7_mileOf_21 : decode cX7_mileOf 21 = .ok (.iconst 2, 1) := by decide +kernel
theorem dX7_mileOf_22 : decode cX7_mileOf 22 = .ok (.goto 4, 3) := by decide +kernel
theorem dX7_mileOf_25 : decode cX7_mileOf 25 = .ok (.iconst 0, 1) := by decide +kernel
theorem dX7_mileOf_26 : decode cX7_mileOf 26 = .ok (.putfield 45, 3) := by decide +kernel
theorem dX7_mileOf_29 : decode cX7_mileOf 29 = .ok (.aload_n 0, 1) := by decide +kernel
theorem dX7_mileOf_30 : decode cX7_mileOf 30 = .ok (.getfield 45, 3) := by decide +kernel
theorem dX7_mileOf_33 : decode cX7_mileOf 33 = .ok (.ifCond .le 5, 3) := by decide +kernel
theorem dX7_mileOf_36 : decode cX7_mileOf 36 = .ok (.iconst 0, 1) := by decide +kernel
theorem dX7_mileOf_37 : decode cX7_mileOf 37 = .ok (.ireturn, 1) := by decide +kernel
theorem dX7_mileOf_38 : decode cX7_mileOf 38 = .ok (.iload_n 2, 1) := by decide +kernel
theorem dX7_mileOf_39 : decode cX7_mileOf 39 = .ok (.tableswitch 64 0 3 #[29, 36, 43, 50], 29) := by decide +kernel
theorem dX7_mileOf_68 : decode cX7_mileOf 68 = .ok (.aload_n 0, 1) := by decide +kernel
theorem dX7_mileOf_69 : decode cX7_mileOf 69 = .ok (.iload_n 1, 1) := by decide +kernel
theorem dX7_mileOf_70 : decode cX7_mileOf 70 = .ok (.iconst 1, 1) := by decide +kernel
theorem dX7_mileOf_71 : decode cX7_mileOf 71 = .ok (.invokevirtual 67, 3) := by decide +kernel
theorem dX7_mileOf_74 : decode cX7_mileOf 74 = .ok (.ireturn, 1) := by decide +kernel
theorem dX7_mileOf_75 : decode cX7_mileOf 75 = .ok (.aload_n 0, 1) := by decide +kernel
theorem dX7_mileOf_76 : decode cX7_mileOf 76 = .ok (.iload_n 1, 1) := by decide +kernel
theorem dX7_mileOf_77 : decode cX7_mileOf 77 = .ok (.iconst 2, 1) := by decide +kernel
theorem dX7_mileOf_78 : decode cX7_mileOf 78 = .ok (.invokevirtual 67, 3) := by decide +kernel
theorem dX7_mileOf_81 : decode cX7_mileOf 81 = .ok (.ireturn, 1) := by decide +kernel
theorem dX7_mileOf_82 : decode cX7_mileOf 82 = .ok (.aload_n 0, 1) := by decide +kernel
theorem dX7_mileOf_83 : decode cX7_mileOf 83 = .ok (.iload_n 1, 1) := by decide +kernel
theorem dX7_mileOf_84 : decode cX7_mileOf 84 = .ok (.iconst 4, 1) := by decide +kernel
theorem dX7_mileOf_85 : decode cX7_mileOf 85 = .ok (.invokevirtual 67, 3) := by decide +kernel
theorem dX7_mileOf_88 : decode cX7_mileOf 88 = .ok (.ireturn, 1) := by decide +kernel
theorem dX7_mileOf_89 : decode cX7_mileOf 89 = .ok (.aload_n 0, 1) := by decide +kernel
theorem dX7_mileOf_90 : decode cX7_mileOf 90 = .ok (.iload_n 1, 1) := by decide +kernel
theorem dX7_mileOf_91 : decode cX7_mileOf 91 = .ok (.invokevirtual 108, 3) := by decide +kernel
theorem dX7_mileOf_94 : decode cX7_mileOf 94 = .ok (.ifCond .eq 7, 3) := by decide +kernel
theorem dX7_mileOf_97 : decode cX7_mileOf 97 = .ok (.iconst 1, 1) := by decide +kernel
theorem dX7_mileOf_98 : decode cX7_mileOf 98 = .ok (.goto 4, 3) := by decide +kernel
theorem dX7_mileOf_101 : decode cX7_mileOf 101 = .ok (.iconst 0, 1) := by decide +kernel
theorem dX7_mileOf_102 : decode cX7_mileOf 102 = .ok (.ireturn, 1) := by decide +kernel
theorem dX7_mileOf_103 : decode cX7_mileOf 103 = .ok (.aload_n 0, 1) := by decide +kernel
theorem dX7_mileOf_104 : decode cX7_mileOf 104 = .ok (.iload_n 1, 1) := by decide +kernel
theorem dX7_mileOf_105 : decode cX7_mileOf 105 = .ok (.iconst 5, 1) := by decide +kernel
theorem dX7_mileOf_106 : decode cX7_mileOf 106 = .ok (.invokevirtual 67, 3) := by decide +kernel
theorem dX7_mileOf_109 : decode cX7_mileOf 109 = .ok (.ireturn, 1) := by decide +kernel
theorem dX7_ice_0 : decode cX7_ice 0 = .ok (.aload_n 0, 1) := by decide +kernel
theorem dX7_ice_1 : decode cX7_ice 1 = .ok (.iload_n 1, 1) := by decide +kernel
theorem dX7_ice_2 : decode cX7_ice 2 = .ok (.invokestatic 101, 3) := by decide +kernel
theorem dX7_ice_5 : decode cX7_ice 5 = .ok (.ifCond .eq 7, 3) := by decide +kernel
theorem dX7_ice_8 : decode cX7_ice 8 = .ok (.iconst 0, 1) := by decide +kernel
theorem dX7_ice_9 : decode cX7_ice 9 = .ok (.goto 4, 3) := by decide +kernel
theorem dX7_ice_12 : decode cX7_ice 12 = .ok (.iconst 1, 1) := by decide +kernel
theorem dX7_ice_13 : decode cX7_ice 13 = .ok (.putfield 45, 3) := by decide +kernel
theorem dX7_ice_16 : decode cX7_ice 16 = .ok (.aload_n 0, 1) := by decide +kernel
theorem dX7_ice_17 : decode cX7_ice 17 = .ok (.getfield 45, 3) := by decide +kernel
theorem dX7_ice_20 : decode cX7_ice 20 = .ok (.ifCond .le 7, 3) := by decide +kernel
theorem dX7_ice_23 : decode cX7_ice 23 = .ok (.fconst 0, 1) := by decide +kernel
theorem dX7_ice_24 : decode cX7_ice 24 = .ok (.goto 8, 3) := by decide +kernel
theorem dX7_ice_27 : decode cX7_ice 27 = .ok (.aload_n 0, 1) := by decide +kernel
theorem dX7_ice_28 : decode cX7_ice 28 = .ok (.iload_n 1, 1) := by decide +kernel
theorem dX7_ice_29 : decode cX7_ice 29 = .ok (.invokevirtual 114, 3) := by decide +kernel
theorem dX7_ice_32 : decode cX7_ice 32 = .ok (.freturn, 1) := by decide +kernel
theorem dX7_bears_0 : decode cX7_bears 0 = .ok (.aload_n 0, 1) := by decide +kernel
theorem dX7_bears_1 : decode cX7_bears 1 = .ok (.iload_n 1, 1) := by decide +kernel
theorem dX7_bears_2 : decode cX7_bears 2 = .ok (.invokestatic 101, 3) := by decide +kernel
theorem dX7_bears_5 : decode cX7_bears 5 = .ok (.ifCond .eq 7, 3) := by decide +kernel
theorem dX7_bears_8 : decode cX7_bears 8 = .ok (.iconst 0, 1) := by decide +kernel
theorem dX7_bears_9 : decode cX7_bears 9 = .ok (.goto 4, 3) := by decide +kernel
theorem dX7_bears_12 : decode cX7_bears 12 = .ok (.iconst 1, 1) := by decide +kernel
theorem dX7_bears_13 : decode cX7_bears 13 = .ok (.putfield 45, 3) := by decide +kernel
theorem dX7_bears_16 : decode cX7_bears 16 = .ok (.aload_n 0, 1) := by decide +kernel
theorem dX7_bears_17 : decode cX7_bears 17 = .ok (.getfield 45, 3) := by decide +kernel
theorem dX7_bears_20 : decode cX7_bears 20 = .ok (.ifCond .le 7, 3) := by decide +kernel
theorem dX7_bears_23 : decode cX7_bears 23 = .ok (.iconst 0, 1) := by decide +kernel
theorem dX7_bears_24 : decode cX7_bears 24 = .ok (.goto 11, 3) := by decide +kernel
theorem dX7_bears_27 : decode cX7_bears 27 = .ok (.aload_n 0, 1) := by decide +kernel
theorem dX7_bears_28 : decode cX7_bears 28 = .ok (.iload_n 1, 1) := by decide +kernel
theorem dX7_bears_29 : decode cX7_bears 29 = .ok (.invokevirtual 117, 3) := by decide +kernel
theorem dX7_bears_32 : decode cX7_bears 32 = .ok (.invokestatic 77, 3) := by decide +kernel
theorem dX7_bears_35 : decode cX7_bears 35 = .ok (.ireturn, 1) := by decide +kernel
theorem dX7_sign_0 : decode cX7_sign 0 = .ok (.aload_n 0, 1) := by decide +kernel
theorem dX7_sign_1 : decode cX7_sign 1 = .ok (.iload_n 1, 1) := by decide +kernel
theorem dX7_sign_2 : decode cX7_sign 2 = .ok (.invokestatic 101, 3) := by decide +kernel
theorem dX7_sign_5 : decode cX7_sign 5 = .ok (.ifCond .eq 7, 3) := by decide +kernel
theorem dX7_sign_8 : decode cX7_sign 8 = .ok (.iconst 0, 1) := by decide +kernel
theorem dX7_sign_9 : decode cX7_sign 9 = .ok (.goto 4, 3) := by decide +kernel
theorem dX7_sign_12 : decode cX7_sign 12 = .ok (.iconst 1, 1) := by decide +kernel
theorem dX7_sign_13 : decode cX7_sign 13 = .ok (.putfield 45, 3) := by decide +kernel
theorem dX7_sign_16 : decode cX7_sign 16 = .ok (.aload_n 0, 1) := by decide +kernel
theorem dX7_sign_17 : decode cX7_sign 17 = .ok (.getfield 45, 3) := by decide +kernel
theorem dX7_sign_20 : decode cX7_sign 20 = .ok (.ifCond .le 6, 3) := by decide +kernel
theorem dX7_sign_23 : decode cX7_sign 23 = .ok (.bipush 32, 2) := by decide +kernel
theorem dX7_sign_25 : decode cX7_sign 25 = .ok (.ireturn, 1) := by decide +kernel
theorem dX7_sign_26 : decode cX7_sign 26 = .ok (.aload_n 0, 1) := by decide +kernel
theorem dX7_sign_27 : decode cX7_sign 27 = .ok (.iload_n 1, 1) := by decide +kernel
theorem dX7_sign_28 : decode cX7_sign 28 = .ok (.iconst (-1), 1) := by decide +kernel
theorem dX7_sign_29 : decode cX7_sign 29 = .ok (.invokevirtual 120, 3) := by decide +kernel
theorem dX7_sign_32 : decode cX7_sign 32 = .ok (.ifCond .lt 8, 3) := by decide +kernel
theorem dX7_sign_35 : decode cX7_sign 35 = .ok (.bipush 84, 2) := by decide +kernel
theorem dX7_sign_37 : decode cX7_sign 37 = .ok (.goto 26, 3) := by decide +kernel
theorem dX7_sign_40 : decode cX7_sign 40 = .ok (.aload_n 0, 1) := by decide +kernel
theorem dX7_sign_41 : decode cX7_sign 41 = .ok (.iload_n 1, 1) := by decide +kernel
theorem dX7_sign_42 : decode cX7_sign 42 = .ok (.invokevirtual 108, 3) := by decide +kernel
theorem dX7_sign_45 : decode cX7_sign 45 = .ok (.ifCond .eq 16, 3) := by decide +kernel
theorem dX7_sign_48 : decode cX7_sign 48 = .ok (.bipush 48, 2) := by decide +kernel
theorem dX7_sign_50 : decode cX7_sign 50 = .ok (.aload_n 0, 1) := by decide +kernel
theorem dX7_sign_51 : decode cX7_sign 51 = .ok (.iload_n 1, 1) := by decide +kernel
theorem dX7_sign_52 : decode cX7_sign 52 = .ok (.iconst 1, 1) := by decide +kernel
theorem dX7_sign_53 : decode cX7_sign 53 = .ok (.invokevirtual 67, 3) := by decide +kernel
theorem dX7_sign_56 : decode cX7_sign 56 = .ok (.iadd, 1) := by decide +kernel
theorem dX7_sign_57 : decode cX7_sign 57 = .ok (.i2c, 1) := by decide +kernel
theorem dX7_sign_58 : decode cX7_sign 58 = .ok (.goto 5, 3) := by decide +kernel
theorem dX7_sign_61 : decode cX7_sign 61 = .ok (.bipush 63, 2) := by decide +kernel
theorem dX7_sign_63 : decode cX7_sign 63 = .ok (.ireturn, 1) := by decide +kernel
theorem dX7_weakest_0 : decode cX7_weakest 0 = .ok (.aload_n 0, 1) := by decide +kernel
theorem dX7_weakest_1 : decode cX7_weakest 1 = .ok (.iconst 0, 1) := by decide +kernel
theorem dX7_weakest_2 : decode cX7_weakest 2 = .ok (.putfield 45, 3) := by decide +kernel
theorem dX7_weakest_5 : decode cX7_weakest 5 = .ok (.iconst 0, 1) := by decide +kernel
theorem dX7_weakest_6 : decode cX7_weakest 6 = .ok (.istore_n 1, 1) := by decide +kernel
theorem dX7_weakest_7 : decode cX7_weakest 7 = .ok (.iconst 1, 1) := by decide +kernel
theorem dX7_weakest_8 : decode cX7_weakest 8 = .ok (.istore_n 2, 1) := by decide +kernel
theorem dX7_weakest_9 : decode cX7_weakest 9 = .ok (.iload_n 2, 1) := by decide +kernel
theorem dX7_weakest_10 : decode cX7_weakest 10 = .ok (.bipush 12, 2) := by decide +kernel
theorem dX7_weakest_12 : decode cX7_weakest 12 = .ok (.if_icmp .ge 29, 3) := by decide +kernel
theorem dX7_weakest_15 : decode cX7_weakest 15 = .ok (.aload_n 0, 1) := by decide +kernel
theorem dX7_weakest_16 : decode cX7_weakest 16 = .ok (.iload_n 2, 1) := by decide +kernel
theorem dX7_weakest_17 : decode cX7_weakest 17 = .ok (.invokevirtual 117, 3) := by decide +kernel
theorem dX7_weakest_20 : decode cX7_weakest 20 = .ok (.aload_n 0, 1) := by decide +kernel
theorem dX7_weakest_21 : decode cX7_weakest 21 = .ok (.iload_n 1, 1) := by decide +kernel
theorem dX7_weakest_22 : decode cX7_weakest 22 = .ok (.invokevirtual 117, 3) := by decide +kernel
theorem dX7_weakest_25 : decode cX7_weakest 25 = .ok (.fcmp .g, 1) := by decide +kernel
theorem dX7_weakest_26 : decode cX7_weakest 26 = .ok (.ifCond .ge 7, 3) := by decide +kernel
theorem dX7_weakest_29 : decode cX7_weakest 29 = .ok (.iload_n 2, 1) := by decide +kernel
theorem dX7_weakest_30 : decode cX7_weakest 30 = .ok (.goto 4, 3) := by decide +kernel
theorem dX7_weakest_33 : decode cX7_weakest 33 = .ok (.iload_n 1, 1) := by decide +kernel
theorem dX7_weakest_34 : decode cX7_weakest 34 = .ok (.istore_n 1, 1) := by decide +kernel
theorem dX7_weakest_35 : decode cX7_weakest 35 = .ok (.iinc 2 1, 3) := by decide +kernel
theorem dX7_weakest_38 : decode cX7_weakest 38 = .ok (.goto (-29), 3) := by decide +kernel
theorem dX7_weakest_41 : decode cX7_weakest 41 = .ok (.iload_n 1, 1) := by decide +kernel
theorem dX7_weakest_42 : decode cX7_weakest 42 = .ok (.ireturn, 1) := by decide +kernel
theorem dX7_placeIn_0 : decode cX7_placeIn 0 = .ok (.bipush 80, 2) := by decide +kernel
theorem dX7_placeIn_2 : decode cX7_placeIn 2 = .ok (.iconst 2, 1) := by decide +kernel
theorem dX7_placeIn_3 : decode cX7_placeIn 3 = .ok (.iconst 5, 1) := by decide +kernel
theorem dX7_placeIn_4 : decode cX7_placeIn 4 = .ok (.iload_n 0, 1) := by decide +kernel
theorem dX7_placeIn_5 : decode cX7_placeIn 5 = .ok (.imul, 1) := by decide +kernel
theorem dX7_placeIn_6 : decode cX7_placeIn 6 = .ok (.iload_n 1, 1) := by decide +kernel
theorem dX7_placeIn_7 : decode cX7_placeIn 7 = .ok (.iadd, 1) := by decide +kernel
theorem dX7_placeIn_8 : decode cX7_placeIn 8 = .ok (.imul, 1) := by decide +kernel
theorem dX7_placeIn_9 : decode cX7_placeIn 9 = .ok (.iadd, 1) := by decide +kernel
theorem dX7_placeIn_10 : decode cX7_placeIn 10 = .ok (.ireturn, 1) := by decide +kernel
theorem dX7_isPlace_0 : decode cX7_isPlace 0 = .ok (.iload_n 0, 1) := by decide +kernel
theorem dX7_isPlace_1 : decode cX7_isPlace 1 = .ok (.iconst 0, 1) := by decide +kernel
theorem dX7_isPlace_2 : decode cX7_isPlace 2 = .ok (.iconst 1, 1) := by decide +kernel
theorem dX7_isPlace_3 : decode cX7_isPlace 3 = .ok (.invokestatic 84, 3) := by decide +kernel
theorem dX7_isPlace_6 : decode cX7_isPlace 6 = .ok (.ifCond .eq 16, 3) := by decide +kernel
theorem dX7_isPlace_9 : decode cX7_isPlace 9 = .ok (.iload_n 1, 1) := by decide +kernel
theorem dX7_isPlace_10 : decode cX7_isPlace 10 = .ok (.iconst 0, 1) := by decide +kernel
theorem dX7_isPlace_11 : decode cX7_isPlace 11 = .ok (.iconst 4, 1) := by decide +kernel
theorem dX7_isPlace_12 : decode cX7_isPlace 12 = .ok (.invokestatic 84, 3) := by decide +kernel
theorem dX7_isPlace_15 : decode cX7_isPlace 15 = .ok (.ifCond .eq 7, 3) := by decide +kernel
theorem dX7_isPlace_18 : decode cX7_isPlace 18 = .ok (.iconst 1, 1) := by decide +kernel
theorem dX7_isPlace_19 : decode cX7_isPlace 19 = .ok (.goto 4, 3) := by decide +kernel
theorem dX7_isPlace_22 : decode cX7_isPlace 22 = .ok (.iconst 0, 1) := by decide +kernel
theorem dX7_isPlace_23 : decode cX7_isPlace 23 = .ok (.ireturn, 1) := by decide +kernel
theorem dX7_truck_0 : decode cX7_truck 0 = .ok (.aload_n 0, 1) := by decide +kernel
theorem dX7_truck_1 : decode cX7_truck 1 = .ok (.invokevirtual 92, 3) := by decide +kernel
theorem dX7_truck_4 : decode cX7_truck 4 = .ok (.iload 4, 2) := by decide +kernel
theorem dX7_truck_6 : decode cX7_truck 6 = .ok (.iconst 0, 1) := by decide +kernel
theorem dX7_truck_7 : decode cX7_truck 7 = .ok (.iconst 1, 1) := by decide +kernel
theorem dX7_truck_8 : decode cX7_truck 8 = .ok (.invokestatic 84, 3) := by decide +kernel
theorem dX7_truck_11 : decode cX7_truck 11 = .ok (.ifCond .ne 9, 3) := by decide +kernel
theorem dX7_truck_14 : decode cX7_truck 14 = .ok (.aload_n 0, 1) := by decide +kernel
theorem dX7_truck_15 : decode cX7_truck 15 = .ok (.iconst 1, 1) := by decide +kernel
theorem dX7_truck_16 : decode cX7_truck 16 = .ok (.invokevirtual 88, 3) := by decide +kernel
theorem dX7_truck_19 : decode cX7_truck 19 = .ok (.ireturn, 1) := by decide +kernel
theorem dX7_truck_20 : decode cX7_truck 20 = .ok (.iload_n 1, 1) := by decide +kernel
theorem dX7_truck_21 : decode cX7_truck 21 = .ok (.iconst 0, 1) := by decide +kernel
theorem dX7_truck_22 : decode cX7_truck 22 = .ok (.iconst 1, 1) := by decide +kernel
theorem dX7_truck_23 : decode cX7_truck 23 = .ok (.invokestatic 84, 3) := by decide +kernel
theorem dX7_truck_26 : decode cX7_truck 26 = .ok (.ifCond .eq 23, 3) := by decide +kernel
theorem dX7_truck_29 : decode cX7_truck 29 = .ok (.iload_n 2, 1) := by decide +kernel
theorem dX7_truck_30 : decode cX7_truck 30 = .ok (.iconst 5, 1) := by decide +kernel
theorem dX7_truck_31 : decode cX7_truck 31 = .ok (.bipush 60, 2) := by decide +kernel
theorem dX7_truck_33 : decode cX7_truck 33 = .ok (.invokestatic 84, 3) := by decide +kernel
theorem dX7_truck_36 : decode cX7_truck 36 = .ok (.ifCond .eq 13, 3) := by decide +kernel
theorem dX7_truck_39 : decode cX7_truck 39 = .ok (.iload_n 3, 1) := by decide +kernel
theorem dX7_truck_40 : decode cX7_truck 40 = .ok (.iconst 2, 1) := by decide +kernel
theorem dX7_truck_41 : decode cX7_truck 41 = .ok (.bipush 6, 2) := by decide +kernel
theorem dX7_truck_43 : decode cX7_truck 43 = .ok (.invokestatic 84, 3) := by decide +kernel
theorem dX7_truck_46 : decode cX7_truck 46 = .ok (.ifCond .ne 9, 3) := by decide +kernel
theorem dX7_truck_49 : decode cX7_truck 49 = .ok (.aload_n 0, 1) := by decide +kernel
theorem dX7_truck_50 : decode cX7_truck 50 = .ok (.iconst 2, 1) := by decide +kernel
theorem dX7_truck_51 : decode cX7_truck 51 = .ok (.invokevirtual 88, 3) := by decide +kernel
theorem dX7_truck_54 : decode cX7_truck 54 = .ok (.ireturn, 1) := by decide +kernel
theorem dX7_truck_55 : decode cX7_truck 55 = .ok (.iconst 0, 1) := by decide +kernel
theorem dX7_truck_56 : decode cX7_truck 56 = .ok (.istore 5, 2) := by decide +kernel
theorem dX7_truck_58 : decode cX7_truck 58 = .ok (.iload 5, 2) := by decide +kernel
theorem dX7_truck_60 : decode cX7_truck 60 = .ok (.iconst 5, 1) := by decide +kernel
theorem dX7_truck_61 : decode cX7_truck 61 = .ok (.if_icmp .ge 24, 3) := by decide +kernel
theorem dX7_truck_64 : decode cX7_truck 64 = .ok (.aload_n 0, 1) := by decide +kernel
theorem dX7_truck_65 : decode cX7_truck 65 = .ok (.getfield 9, 3) := by decide +kernel
theorem dX7_truck_68 : decode cX7_truck 68 = .ok (.iload 4, 2) := by decide +kernel
theorem dX7_truck_70 : decode cX7_truck 70 = .ok (.iload 5, 2) := by decide +kernel
theorem dX7_truck_72 : decode cX7_truck 72 = .ok (.invokestatic 123, 3) := by decide +kernel
theorem dX7_truck_75 : decode cX7_truck 75 = .ok (.iaload, 1) := by decide +kernel
theorem dX7_truck_76 : decode cX7_truck 76 = .ok (.ifCond .le 9, 3) := by decide +kernel
theorem dX7_truck_79 : decode cX7_truck 79 = .ok (.iinc 5 1, 3) := by decide +kernel
theorem dX7_truck_82 : decode cX7_truck 82 = .ok (.goto (-24), 3) := by decide +kernel
theorem dX7_truck_85 : decode cX7_truck 85 = .ok (.iload 5, 2) := by decide +kernel
theorem dX7_truck_87 : decode cX7_truck 87 = .ok (.iconst 5, 1) := by decide +kernel
theorem dX7_truck_88 : decode cX7_truck 88 = .ok (.if_icmp .ne 12, 3) := by decide +kernel
theorem dX7_truck_91 : decode cX7_truck 91 = .ok (.aload_n 0, 1) := by decide +kernel
theorem dX7_truck_92 : decode cX7_truck 92 = .ok (.iconst 3, 1) := by decide +kernel
theorem dX7_truck_93 : decode cX7_truck 93 = .ok (.iconst 2, 1) := by decide +kernel
theorem dX7_truck_94 : decode cX7_truck 94 = .ok (.iload 4, 2) := by decide +kernel
theorem dX7_truck_96 : decode cX7_truck 96 = .ok (.invokevirtual 126, 3) := by decide +kernel
theorem dX7_truck_99 : decode cX7_truck 99 = .ok (.ireturn, 1) := by decide +kernel
theorem dX7_truck_100 : decode cX7_truck 100 = .ok (.iload_n 1, 1) := by decide +kernel
theorem dX7_truck_101 : decode cX7_truck 101 = .ok (.iload 4, 2) := by decide +kernel
theorem dX7_truck_103 : decode cX7_truck 103 = .ok (.if_icmp .eq 12, 3) := by decide +kernel
theorem dX7_truck_106 : decode cX7_truck 106 = .ok (.aload_n 0, 1) := by decide +kernel
theorem dX7_truck_107 : decode cX7_truck 107 = .ok (.iconst 3, 1) := by decide +kernel
theorem dX7_truck_108 : decode cX7_truck 108 = .ok (.iconst 3, 1) := by decide +kernel
theorem dX7_truck_109 : decode cX7_truck 109 = .ok (.iload 4, 2) := by decide +kernel
theorem dX7_truck_111 : decode cX7_truck 111 = .ok (.invokevirtual 126, 3) := by decide +kernel
theorem dX7_truck_114 : decode cX7_truck 114 = .ok (.ireturn, 1) := by decide +kernel
theorem dX7_truck_115 : decode cX7_truck 115 = .ok (.aload_n 0, 1) := by decide +kernel
theorem dX7_truck_116 : decode cX7_truck 116 = .ok (.getfield 9, 3) := by decide +kernel
theorem dX7_truck_119 : decode cX7_truck 119 = .ok (.iload 4, 2) := by decide +kernel
theorem dX7_truck_121 : decode cX7_truck 121 = .ok (.iload 5, 2) := by decide +kernel
theorem dX7_truck_123 : decode cX7_truck 123 = .ok (.invokestatic 123, 3) := by decide +kernel
theorem dX7_truck_126 : decode cX7_truck 126 = .ok (.iload_n 2, 1) := by decide +kernel
theorem dX7_truck_127 : decode cX7_truck 127 = .ok (.iastore, 1) := by decide +kernel
theorem dX7_truck_128 : decode cX7_truck 128 = .ok (.aload_n 0, 1) := by decide +kernel
theorem dX7_truck_129 : decode cX7_truck 129 = .ok (.getfield 9, 3) := by decide +kernel
theorem dX7_truck_132 : decode cX7_truck 132 = .ok (.iload 4, 2) := by decide +kernel
theorem dX7_truck_134 : decode cX7_truck 134 = .ok (.iload 5, 2) := by decide +kernel
theorem dX7_truck_136 : decode cX7_truck 136 = .ok (.invokestatic 123, 3) := by decide +kernel
theorem dX7_truck_139 : decode cX7_truck 139 = .ok (.iconst 1, 1) := by decide +kernel
theorem dX7_truck_140 : decode cX7_truck 140 = .ok (.iadd, 1) := by decide +kernel
theorem dX7_truck_141 : decode cX7_truck 141 = .ok (.iload_n 3, 1) := by decide +kernel
theorem dX7_truck_142 : decode cX7_truck 142 = .ok (.iastore, 1) := by decide +kernel
theorem dX7_truck_143 : decode cX7_truck 143 = .ok (.aload_n 0, 1) := by decide +kernel
theorem dX7_truck_144 : decode cX7_truck 144 = .ok (.getfield 9, 3) := by decide +kernel
theorem dX7_truck_147 : decode cX7_truck 147 = .ok (.iconst 3, 1) := by decide +kernel
theorem dX7_truck_148 : decode cX7_truck 148 = .ok (.dup2, 1) := by decide +kernel
theorem dX7_truck_149 : decode cX7_truck 149 = .ok (.iaload, 1) := by decide +kernel
theorem dX7_truck_150 : decode cX7_truck 150 = .ok (.iload_n 2, 1) := by decide +kernel
theorem dX7_truck_151 : decode cX7_truck 151 = .ok (.iadd, 1) := by decide +kernel
theorem dX7_truck_152 : decode cX7_truck 152 = .ok (.iastore, 1) := by decide +kernel
theorem dX7_truck_153 : decode cX7_truck 153 = .ok (.aload_n 0, 1) := by decide +kernel
theorem dX7_truck_154 : decode cX7_truck 154 = .ok (.iload 5, 2) := by decide +kernel
theorem dX7_truck_156 : decode cX7_truck 156 = .ok (.invokevirtual 98, 3) := by decide +kernel
theorem dX7_truck_159 : decode cX7_truck 159 = .ok (.ireturn, 1) := by decide +kernel
theorem dX7_inRow_0 : decode cX7_inRow 0 = .ok (.aload_n 0, 1) := by decide +kernel
theorem dX7_inRow_1 : decode cX7_inRow 1 = .ok (.iload_n 1, 1) := by decide +kernel
theorem dX7_inRow_2 : decode cX7_inRow 2 = .ok (.iload_n 2, 1) := by decide +kernel
theorem dX7_inRow_3 : decode cX7_inRow 3 = .ok (.invokestatic 130, 3) := by decide +kernel
theorem dX7_inRow_6 : decode cX7_inRow 6 = .ok (.ifCond .ne 7, 3) := by decide +kernel
theorem dX7_inRow_9 : decode cX7_inRow 9 = .ok (.iconst 1, 1) := by decide +kernel
theorem dX7_inRow_10 : decode cX7_inRow 10 = .ok (.goto 34, 3) := by decide +kernel
theorem dX7_inRow_13 : decode cX7_inRow 13 = .ok (.aload_n 0, 1) := by decide +kernel
theorem dX7_inRow_14 : decode cX7_inRow 14 = .ok (.getfield 9, 3) := by decide +kernel
theorem dX7_inRow_17 : decode cX7_inRow 17 = .ok (.iload_n 1, 1) := by decide +kernel
theorem dX7_inRow_18 : decode cX7_inRow 18 = .ok (.iload_n 2, 1) := by decide +kernel
theorem dX7_inRow_19 : decode cX7_inRow 19 = .ok (.invokestatic 123, 3) := by decide +kernel
theorem dX7_inRow_22 : decode cX7_inRow 22 = .ok (.iaload, 1) := by decide +kernel
theorem dX7_inRow_23 : decode cX7_inRow 23 = .ok (.ifCond .ne 7, 3) := by decide +kernel
theorem dX7_inRow_26 : decode cX7_inRow 26 = .ok (.iconst 2, 1) := by decide +kernel
theorem dX7_inRow_27 : decode cX7_inRow 27 = .ok (.goto 17, 3) := by decide +kernel
theorem dX7_inRow_30 : decode cX7_inRow 30 = .ok (.iload_n 3, 1) := by decide +kernel
theorem dX7_inRow_31 : decode cX7_inRow 31 = .ok (.iconst 0, 1) := by decide +kernel
theorem dX7_inRow_32 : decode cX7_inRow 32 = .ok (.iconst 1, 1) := by decide +kernel
theorem dX7_inRow_33 : decode cX7_inRow 33 = .ok (.invokestatic 84, 3) := by decide +kernel
theorem dX7_inRow_36 : decode cX7_inRow 36 = .ok (.ifCond .ne 7, 3) := by decide +kernel
theorem dX7_inRow_39 : decode cX7_inRow 39 = .ok (.iconst 3, 1) := by decide +kernel
theorem dX7_inRow_40 : decode cX7_inRow 40 = .ok (.goto 4, 3) := by decide +kernel
theorem dX7_inRow_43 : decode cX7_inRow 43 = .ok (.iconst 0, 1) := by decide +kernel
theorem dX7_inRow_44 : decode cX7_inRow 44 = .ok (.putfield 45, 3) := by decide +kernel
theorem dX7_inRow_47 : decode cX7_inRow 47 = .ok (.aload_n 0, 1) := by decide +kernel
theorem dX7_inRow_48 : decode cX7_inRow 48 = .ok (.getfield 45, 3) := by decide +kernel
theorem dX7_inRow_51 : decode cX7_inRow 51 = .ok (.ifCond .le 7, 3) := by decide +kernel
theorem dX7_inRow_54 : decode cX7_inRow 54 = .ok (.iconst 0, 1) := by decide +kernel
theorem dX7_inRow_55 : decode cX7_inRow 55 = .ok (.goto 15, 3) := by decide +kernel
theorem dX7_inRow_58 : decode cX7_inRow 58 = .ok (.aload_n 0, 1) := by decide +kernel
theorem dX7_inRow_59 : decode cX7_inRow 59 = .ok (.getfield 9, 3) := by decide +kernel
theorem dX7_inRow_62 : decode cX7_inRow 62 = .ok (.iload_n 1, 1) := by decide +kernel
theorem dX7_inRow_63 : decode cX7_inRow 63 = .ok (.iload_n 2, 1) := by decide +kernel
theorem dX7_inRow_64 : decode cX7_inRow 64 = .ok (.invokestatic 123, 3) := by decide +kernel
theorem dX7_inRow_67 : decode cX7_inRow 67 = .ok (.iload_n 3, 1) := by decide +kernel
theorem dX7_inRow_68 : decode cX7_inRow 68 = .ok (.iadd, 1) := by decide +kernel
theorem dX7_inRow_69 : decode cX7_inRow 69 = .ok (.iaload, 1) := by decide +kernel
theorem dX7_inRow_70 : decode cX7_inRow 70 = .ok (.ireturn, 1) := by decide +kernel
theorem dX7_convoy_0 : decode cX7_convoy 0 = .ok (.aload_n 0, 1) := by decide +kernel
theorem dX7_convoy_1 : decode cX7_convoy 1 = .ok (.getfield 9, 3) := by decide +kernel
theorem dX7_convoy_4 : decode cX7_convoy 4 = .ok (.iconst 1, 1) := by decide +kernel
theorem dX7_convoy_5 : decode cX7_convoy 5 = .ok (.iaload, 1) := by decide +kernel
theorem dX7_convoy_6 : decode cX7_convoy 6 = .ok (.istore_n 2, 1) := by decide +kernel
theorem dX7_convoy_7 : decode cX7_convoy 7 = .ok (.aload_n 0, 1) := by decide +kernel
theorem dX7_convoy_8 : decode cX7_convoy 8 = .ok (.invokevirtual 92, 3) := by decide +kernel
theorem dX7_convoy_11 : decode cX7_convoy 11 = .ok (.iload_n 1, 1) := by decide +kernel
theorem dX7_convoy_12 : decode cX7_convoy 12 = .ok (.iconst 1, 1) := by decide +kernel
theorem dX7_convoy_13 : decode cX7_convoy 13 = .ok (.iconst 3, 1) := by decide +kernel
theorem dX7_convoy_14 : decode cX7_convoy 14 = .ok (.invokestatic 84, 3) := by decide +kernel
theorem dX7_convoy_17 : decode cX7_convoy 17 = .ok (.ifCond .ne 9, 3) := by decide +kernel
theorem dX7_convoy_20 : decode cX7_convoy 20 = .ok (.aload_n 0, 1) := by decide +kernel
theorem dX7_convoy_21 : decode cX7_convoy 21 = .ok (.iconst 1, 1) := by decide +kernel
theorem dX7_convoy_22 : decode cX7_convoy 22 = .ok (.invokevirtual 88, 3) := by decide +kernel
theorem dX7_convoy_25 : decode cX7_convoy 25 = .ok (.ireturn, 1) := by decide +kernel
theorem dX7_convoy_26 : decode cX7_convoy 26 = .ok (.iload_n 2, 1) := by decide +kernel
theorem dX7_convoy_27 : decode cX7_convoy 27 = .ok (.iconst 4, 1) := by decide +kernel
theorem dX7_convoy_28 : decode cX7_convoy 28 = .ok (.if_icmp .ne 11, 3) := by decide +kernel
theorem dX7_convoy_31 : decode cX7_convoy 31 = .ok (.aload_n 0, 1) := by decide +kernel
theorem dX7_convoy_32 : decode cX7_convoy 32 = .ok (.iconst 2, 1) := by decide +kernel
theorem dX7_convoy_33 : decode cX7_convoy 33 = .ok (.iconst 1, 1) := by decide +kernel
theorem dX7_convoy_34 : decode cX7_convoy 34 = .ok (.iconst 4, 1) := by decide +kernel
theorem dX7_convoy_35 : decode cX7_convoy 35 = .ok (.invokevirtual 126, 3) := by decide +kernel
theorem dX7_convoy_38 : decode cX7_convoy 38 = .ok (.ireturn, 1) := by decide +kernel
theorem dX7_convoy_39 : decode cX7_convoy 39 = .ok (.iconst 0, 1) := by decide +kernel
theorem dX7_convoy_40 : decode cX7_convoy 40 = .ok (.istore_n 3, 1) := by decide +kernel
theorem dX7_convoy_41 : decode cX7_convoy 41 = .ok (.iload_n 3, 1) := by decide +kernel
theorem dX7_convoy_42 : decode cX7_convoy 42 = .ok (.bipush 16, 2) := by decide +kernel
theorem dX7_convoy_44 : decode cX7_convoy 44 = .ok (.if_icmp .ge 41, 3) := by decide +kernel
theorem dX7_convoy_47 : decode cX7_convoy 47 = .ok (.aload_n 0, 1) := by decide +kernel
theorem dX7_convoy_48 : decode cX7_convoy 48 = .ok (.getfield 9, 3) := by decide +kernel
theorem dX7_convoy_51 : decode cX7_convoy 51 = .ok (.bipush 100, 2) := by decide +kernel
theorem dX7_convoy_53 : decode cX7_convoy 53 = .ok (.bipush 16, 2) := by decide +kernel
theorem dX7_convoy_55 : decode cX7_convoy 55 = .ok (.iload_n 2, 1) := by decide +kernel
theorem dX7_convoy_56 : decode cX7_convoy 56 = .ok (.imul, 1) := by decide +kernel
theorem dX7_convoy_57 : decode cX7_convoy 57 = .ok (.iadd, 1) := by decide +kernel
theorem dX7_convoy_58 : decode cX7_convoy 58 = .ok (.iload_n 3, 1) := by decide +kernel
theorem dX7_convoy_59 : decode cX7_convoy 59 = .ok (.iadd, 1) := by decide +kernel
theorem dX7_convoy_60 : decode cX7_convoy 60 = .ok (.iload_n 3, 1) := by decide +kernel
theorem dX7_convoy_61 : decode cX7_convoy 61 = .ok (.ifCond .ne 7, 3) := by decide +kernel
theorem dX7_convoy_64 : decode cX7_convoy 64 = .ok (.iload_n 1, 1) := by decide +kernel
theorem dX7_convoy_65 : decode cX7_convoy 65 = .ok (.goto 13, 3) := by decide +kernel
theorem dX7_convoy_68 : decode cX7_convoy 68 = .ok (.iload_n 3, 1) := by decide +kernel
theorem dX7_convoy_69 : decode cX7_convoy 69 = .ok (.iconst 2, 1) := by decide +kernel
theorem dX7_convoy_70 : decode cX7_convoy 70 = .ok (.if_icmp .ne 7, 3) := by decide +kernel
theorem dX7_convoy_73 : decode cX7_convoy 73 = .ok (.iconst (-1), 1) := by decide +kernel
theorem dX7_convoy_74 : decode cX7_convoy 74 = .ok (.goto 4, 3) := by decide +kernel
theorem dX7_convoy_77 : decode cX7_convoy 77 = .ok (.iconst 0, 1) := by decide +kernel
theorem dX7_convoy_78 : decode cX7_convoy 78 = .ok (.iastore, 1) := by decide +kernel
theorem dX7_convoy_79 : decode cX7_convoy 79 = .ok (.iinc 3 1, 3) := by decide +kernel
theorem dX7_convoy_82 : decode cX7_convoy 82 = .ok (.goto (-41), 3) := by decide +kernel
theorem dX7_convoy_85 : decode cX7_convoy 85 = .ok (.aload_n 0, 1) := by decide +kernel
theorem dX7_convoy_86 : decode cX7_convoy 86 = .ok (.getfield 9, 3) := by decide +kernel
theorem dX7_convoy_89 : decode cX7_convoy 89 = .ok (.iconst 1, 1) := by decide +kernel
theorem dX7_convoy_90 : decode cX7_convoy 90 = .ok (.dup2, 1) := by decide +kernel
theorem dX7_convoy_91 : decode cX7_convoy 91 = .ok (.iaload, 1) := by decide +kernel
theorem dX7_convoy_92 : decode cX7_convoy 92 = .ok (.iconst 1, 1) := by decide +kernel
theorem dX7_convoy_93 : decode cX7_convoy 93 = .ok (.iadd, 1) := by decide +kernel
theorem dX7_convoy_94 : decode cX7_convoy 94 = .ok (.iastore, 1) := by decide +kernel
theorem dX7_convoy_95 : decode cX7_convoy 95 = .ok (.aload_n 0, 1) := by decide +kernel
theorem dX7_convoy_96 : decode cX7_convoy 96 = .ok (.iload_n 2, 1) := by decide +kernel
theorem dX7_convoy_97 : decode cX7_convoy 97 = .ok (.invokevirtual 98, 3) := by decide +kernel
theorem dX7_convoy_100 : decode cX7_convoy 100 = .ok (.ireturn, 1) := by decide +kernel
theorem dX7_doJoin_0 : decode cX7_doJoin 0 = .ok (.aload_n 0, 1) := by decide +kernel
theorem dX7_doJoin_1 : decode cX7_doJoin 1 = .ok (.iload_n 1, 1) := by decide +kernel
theorem dX7_doJoin_2 : decode cX7_doJoin 2 = .ok (.invokevirtual 134, 3) := by decide +kernel
theorem dX7_doJoin_5 : decode cX7_doJoin 5 = .ok (.ifCond .eq 11, 3) := by decide +kernel
theorem dX7_doJoin_8 : decode cX7_doJoin 8 = .ok (.iload_n 2, 1) := by decide +kernel
theorem dX7_doJoin_9 : decode cX7_doJoin 9 = .ok (.iload_n 3, 1) := by decide +kernel
theorem dX7_doJoin_10 : decode cX7_doJoin 10 = .ok (.invokestatic 130, 3) := by decide +kernel
theorem dX7_doJoin_13 : decode cX7_doJoin 13 = .ok (.ifCond .ne 9, 3) := by decide +kernel
theorem dX7_doJoin_16 : decode cX7_doJoin 16 = .ok (.aload_n 0, 1) := by decide +kernel
theorem dX7_doJoin_17 : decode cX7_doJoin 17 = .ok (.iconst 1, 1) := by decide +kernel
theorem dX7_doJoin_18 : decode cX7_doJoin 18 = .ok (.invokevirtual 88, 3) := by decide +kernel
theorem dX7_doJoin_21 : decode cX7_doJoin 21 = .ok (.ireturn, 1) := by decide +kernel
theorem dX7_doJoin_22 : decode cX7_doJoin 22 = .ok (.iload_n 2, 1) := by decide +kernel
theorem dX7_doJoin_23 : decode cX7_doJoin 23 = .ok (.iload_n 3, 1) := by decide +kernel
theorem dX7_doJoin_24 : decode cX7_doJoin 24 = .ok (.invokestatic 123, 3) := by decide +kernel
theorem dX7_doJoin_27 : decode cX7_doJoin 27 = .ok (.istore 4, 2) := by decide +kernel
theorem dX7_doJoin_29 : decode cX7_doJoin 29 = .ok (.aload_n 0, 1) := by decide +kernel
theorem dX7_doJoin_30 : decode cX7_doJoin 30 = .ok (.getfield 9, 3) := by decide +kernel
theorem dX7_doJoin_33 : decode cX7_doJoin 33 = .ok (.iload 4, 2) := by decide +kernel
theorem dX7_doJoin_35 : decode cX7_doJoin 35 = .ok (.iaload, 1) := by decide +kernel
theorem dX7_doJoin_36 : decode cX7_doJoin 36 = .ok (.ifCond .ne 9, 3) := by decide +kernel
theorem dX7_doJoin_39 : decode cX7_doJoin 39 = .ok (.aload_n 0, 1) := by decide +kernel
theorem dX7_doJoin_40 : decode cX7_doJoin 40 = .ok (.iconst 2, 1) := by decide +kernel
theorem dX7_doJoin_41 : decode cX7_doJoin 41 = .ok (.invokevirtual 88, 3) := by decide +kernel
theorem dX7_doJoin_44 : decode cX7_doJoin 44 = .ok (.ireturn, 1) := by decide +kernel
theorem dX7_doJoin_45 : decode cX7_doJoin 45 = .ok (.aload_n 0, 1) := by decide +kernel
theorem dX7_doJoin_46 : decode cX7_doJoin 46 = .ok (.iload_n 1, 1) := by decide +kernel
theorem dX7_doJoin_47 : decode cX7_doJoin 47 = .ok (.iconst 1, 1) := by decide +kernel
theorem dX7_doJoin_48 : decode cX7_doJoin 48 = .ok (.invokevirtual 81, 3) := by decide +kernel
theorem dX7_doJoin_51 : decode cX7_doJoin 51 = .ok (.istore 5, 2) := by decide +kernel
theorem dX7_doJoin_53 : decode cX7_doJoin 53 = .ok (.aload_n 0, 1) := by decide +kernel
theorem dX7_doJoin_54 : decode cX7_doJoin 54 = .ok (.iload_n 1, 1) := by decide +kernel
theorem dX7_doJoin_55 : decode cX7_doJoin 55 = .ok (.iconst 3, 1) := by decide +kernel
theorem dX7_doJoin_56 : decode cX7_doJoin 56 = .ok (.invokevirtual 81, 3) := by decide +kernel
theorem dX7_doJoin_59 : decode cX7_doJoin 59 = .ok (.iconst 1, 1) := by decide +kernel
theorem dX7_doJoin_60 : decode cX7_doJoin 60 = .ok (.if_icmp .ne 11, 3) := by decide +kernel
theorem dX7_doJoin_63 : decode cX7_doJoin 63 = .ok (.aload_n 0, 1) := by decide +kernel
theorem dX7_doJoin_64 : decode cX7_doJoin 64 = .ok (.iconst 3, 1) := by decide +kernel
theorem dX7_doJoin_65 : decode cX7_doJoin 65 = .ok (.iconst 4, 1) := by decide +kernel
theorem dX7_doJoin_66 : decode cX7_doJoin 66 = .ok (.iload_n 1, 1) := by decide +kernel
theorem dX7_doJoin_67 : decode cX7_doJoin 67 = .ok (.invokevirtual 126, 3) := by decide +kernel
theorem dX7_doJoin_70 : decode cX7_doJoin 70 = .ok (.ireturn, 1) := by decide +kernel
theorem dX7_doJoin_71 : decode cX7_doJoin 71 = .ok (.iload 5, 2) := by decide +kernel
theorem dX7_doJoin_73 : decode cX7_doJoin 73 = .ok (.iconst 4, 1) := by decide +kernel
theorem dX7_doJoin_74 : decode cX7_doJoin 74 = .ok (.if_icmp .ne 11, 3) := by decide +kernel
theorem dX7_doJoin_77 : decode cX7_doJoin 77 = .ok (.aload_n 0, 1) := by decide +kernel
theorem dX7_doJoin_78 : decode cX7_doJoin 78 = .ok (.iconst 3, 1) := by decide +kernel
theorem dX7_doJoin_79 : decode cX7_doJoin 79 = .ok (.iconst 1, 1) := by decide +kernel
theorem dX7_doJoin_80 : decode cX7_doJoin 80 = .ok (.iconst 4, 1) := by decide +kernel
theorem dX7_doJoin_81 : decode cX7_doJoin 81 = .ok (.invokevirtual 126, 3) := by decide +kernel
theorem dX7_doJoin_84 : decode cX7_doJoin 84 = .ok (.ireturn, 1) := by decide +kernel
theorem dX7_doJoin_85 : decode cX7_doJoin 85 = .ok (.bipush 100, 2) := by decide +kernel
theorem dX7_doJoin_87 : decode cX7_doJoin 87 = .ok (.bipush 16, 2) := by decide +kernel
theorem dX7_doJoin_89 : decode cX7_doJoin 89 = .ok (.iload_n 1, 1) := by decide +kernel
theorem dX7_doJoin_90 : decode cX7_doJoin 90 = .ok (.imul, 1) := by decide +kernel
theorem dX7_doJoin_91 : decode cX7_doJoin 91 = .ok (.iadd, 1) := by decide +kernel
theorem dX7_doJoin_92 : decode cX7_doJoin 92 = .ok (.iconst 4, 1) := by decide +kernel
theorem dX7_doJoin_93 : decode cX7_doJoin 93 = .ok (.iadd, 1) := by decide +kernel
theorem dX7_doJoin_94 : decode cX7_doJoin 94 = .ok (.iconst 3, 1) := by decide +kernel
theorem dX7_doJoin_95 : decode cX7_doJoin 95 = .ok (.iload 5, 2) := by decide +kernel
theorem dX7_doJoin_97 : decode cX7_doJoin 97 = .ok (.imul, 1) := by decide +kernel
theorem dX7_doJoin_98 : decode cX7_doJoin 98 = .ok (.iadd, 1) := by decide +kernel
theorem dX7_doJoin_99 : decode cX7_doJoin 99 = .ok (.istore 6, 2) := by decide +kernel
theorem dX7_doJoin_101 : decode cX7_doJoin 101 = .ok (.aload_n 0, 1) := by decide +kernel
theorem dX7_doJoin_102 : decode cX7_doJoin 102 = .ok (.getfield 9, 3) := by decide +kernel
theorem dX7_doJoin_105 : decode cX7_doJoin 105 = .ok (.iload 6, 2) := by decide +kernel
theorem dX7_doJoin_107 : decode cX7_doJoin 107 = .ok (.iconst 0, 1) := by decide +kernel
theorem dX7_doJoin_108 : decode cX7_doJoin 108 = .ok (.iadd, 1) := by decide +kernel
theorem dX7_doJoin_109 : decode cX7_doJoin 109 = .ok (.iload_n 2, 1) := by decide +kernel
theorem dX7_doJoin_110 : decode cX7_doJoin 110 = .ok (.iastore, 1) := by decide +kernel
theorem dX7_doJoin_111 : decode cX7_doJoin 111 = .ok (.aload_n 0, 1) := by decide +kernel
theorem dX7_doJoin_112 : decode cX7_doJoin 112 = .ok (.getfield 9, 3) := by decide +kernel
theorem dX7_doJoin_115 : decode cX7_doJoin 115 = .ok (.iload 6, 2) := by decide +kernel
theorem dX7_doJoin_117 : decode cX7_doJoin 117 = .ok (.iconst 1, 1) := by decide +kernel
theorem dX7_doJoin_118 : decode cX7_doJoin 118 = .ok (.iadd, 1) := by decide +kernel
theorem dX7_doJoin_119 : decode cX7_doJoin 119 = .ok (.aload_n 0, 1) := by decide +kernel
theorem dX7_doJoin_120 : decode cX7_doJoin 120 = .ok (.getfield 9, 3) := by decide +kernel
theorem dX7_doJoin_123 : decode cX7_doJoin 123 = .ok (.iload 4, 2) := by decide +kernel
theorem dX7_doJoin_125 : decode cX7_doJoin 125 = .ok (.iaload, 1) := by decide +kernel
theorem dX7_doJoin_126 : decode cX7_doJoin 126 = .ok (.iastore, 1) := by decide +kernel
theorem dX7_doJoin_127 : decode cX7_doJoin 127 = .ok (.aload_n 0, 1) := by decide +kernel
theorem dX7_doJoin_128 : decode cX7_doJoin 128 = .ok (.getfield 9, 3) := by decide +kernel
theorem dX7_doJoin_131 : decode cX7_doJoin 131 = .ok (.iload 6, 2) := by decide +kernel
theorem dX7_doJoin_133 : decode cX7_doJoin 133 = .ok (.iconst 2, 1) := by decide +kernel
theorem dX7_doJoin_134 : decode cX7_doJoin 134 = .ok (.iadd, 1) := by decide +kernel
theorem dX7_doJoin_135 : decode cX7_doJoin 135 = .ok (.aload_n 0, 1) := by decide +kernel
theorem dX7_doJoin_136 : decode cX7_doJoin 136 = .ok (.getfield 9, 3) := by decide +kernel
theorem dX7_doJoin_139 : decode cX7_doJoin 139 = .ok (.iload 4, 2) := by decide +kernel
theorem dX7_doJoin_141 : decode cX7_doJoin 141 = .ok (.iconst 1, 1) := by decide +kernel
theorem dX7_doJoin_142 : decode cX7_doJoin 142 = .ok (.iadd, 1) := by decide +kernel
theorem dX7_doJoin_143 : decode cX7_doJoin 143 = .ok (.iaload, 1) := by decide +kernel
theorem dX7_doJoin_144 : decode cX7_doJoin 144 = .ok (.iastore, 1) := by decide +kernel
theorem dX7_doJoin_145 : decode cX7_doJoin 145 = .ok (.aload_n 0, 1) := by decide +kernel
theorem dX7_doJoin_146 : decode cX7_doJoin 146 = .ok (.getfield 9, 3) := by decide +kernel
theorem dX7_doJoin_149 : decode cX7_doJoin 149 = .ok (.iload 4, 2) := by decide +kernel
theorem dX7_doJoin_151 : decode cX7_doJoin 151 = .ok (.iconst 0, 1) := by decide +kernel
theorem dX7_doJoin_152 : decode cX7_doJoin 152 = .ok (.iastore, 1) := by decide +kernel
theorem dX7_doJoin_153 : decode cX7_doJoin 153 = .ok (.aload_n 0, 1) := by decide +kernel
theorem dX7_doJoin_154 : decode cX7_doJoin 154 = .ok (.getfield 9, 3) := by decide +kernel
theorem dX7_doJoin_157 : decode cX7_doJoin 157 = .ok (.iload 4, 2) := by decide +kernel
theorem dX7_doJoin_159 : decode cX7_doJoin 159 = .ok (.iconst 1, 1) := by decide +kernel
theorem dX7_doJoin_160 : decode cX7_doJoin 160 = .ok (.iadd, 1) := by decide +kernel
theorem dX7_doJoin_161 : decode cX7_doJoin 161 = .ok (.iconst 0, 1) := by decide +kernel
theorem dX7_doJoin_162 : decode cX7_doJoin 162 = .ok (.iastore, 1) := by decide +kernel
theorem dX7_doJoin_163 : decode cX7_doJoin 163 = .ok (.aload_n 0, 1) := by decide +kernel
theorem dX7_doJoin_164 : decode cX7_doJoin 164 = .ok (.getfield 9, 3) := by decide +kernel
theorem dX7_doJoin_167 : decode cX7_doJoin 167 = .ok (.bipush 100, 2) := by decide +kernel
theorem dX7_doJoin_169 : decode cX7_doJoin 169 = .ok (.bipush 16, 2) := by decide +kernel
theorem dX7_doJoin_171 : decode cX7_doJoin 171 = .ok (.iload_n 1, 1) := by decide +kernel
theorem dX7_doJoin_172 : decode cX7_doJoin 172 = .ok (.imul, 1) := by decide +kernel
theorem dX7_doJoin_173 : decode cX7_doJoin 173 = .ok (.iadd, 1) := by decide +kernel
theorem dX7_doJoin_174 : decode cX7_doJoin 174 = .ok (.iconst 1, 1) := by decide +kernel
theorem dX7_doJoin_175 : decode cX7_doJoin 175 = .ok (.iadd, 1) := by decide +kernel
theorem dX7_doJoin_176 : decode cX7_doJoin 176 = .ok (.dup2, 1) := by decide +kernel
theorem dX7_doJoin_177 : decode cX7_doJoin 177 = .ok (.iaload, 1) := by decide +kernel
theorem dX7_doJoin_178 : decode cX7_doJoin 178 = .ok (.iconst 1, 1) := by decide +kernel
theorem dX7_doJoin_179 : decode cX7_doJoin 179 = .ok (.iadd, 1) := by decide +kernel
theorem dX7_doJoin_180 : decode cX7_doJoin 180 = .ok (.iastore, 1) := by decide +kernel
theorem dX7_doJoin_181 : decode cX7_doJoin 181 = .ok (.iload 5, 2) := by decide +kernel
theorem dX7_doJoin_183 : decode cX7_doJoin 183 = .ok (.iconst 1, 1) := by decide +kernel
theorem dX7_doJoin_184 : decode cX7_doJoin 184 = .ok (.iadd, 1) := by decide +kernel
theorem dX7_doJoin_185 : decode cX7_doJoin 185 = .ok (.ireturn, 1) := by decide +kernel
theorem dX7_join_0 : decode cX7_join 0 = .ok (.aload_n 0, 1) := by decide +kernel
theorem dX7_join_1 : decode cX7_join 1 = .ok (.invokevirtual 92, 3) := by decide +kernel
theorem dX7_join_4 : decode cX7_join 4 = .ok (.aload_n 0, 1) := by decide +kernel
theorem dX7_join_5 : decode cX7_join 5 = .ok (.aload_n 0, 1) := by decide +kernel
theorem dX7_join_6 : decode cX7_join 6 = .ok (.iload_n 1, 1) := by decide +kernel
theorem dX7_join_7 : decode cX7_join 7 = .ok (.iload_n 2, 1) := by decide +kernel
theorem dX7_join_8 : decode cX7_join 8 = .ok (.iload_n 3, 1) := by decide +kernel
theorem dX7_join_9 : decode cX7_join 9 = .ok (.invokevirtual 137, 3) := by decide +kernel
theorem dX7_join_12 : decode cX7_join 12 = .ok (.invokevirtual 98, 3) := by decide +kernel
theorem dX7_join_15 : decode cX7_join 15 = .ok (.ireturn, 1) := by decide +kernel
theorem dX7_loadOf_0 : decode cX7_loadOf 0 = .ok (.aload_n 0, 1) := by decide +kernel
theorem dX7_loadOf_1 : decode cX7_loadOf 1 = .ok (.iload_n 1, 1) := by decide +kernel
theorem dX7_loadOf_2 : decode cX7_loadOf 2 = .ok (.iload_n 2, 1) := by decide +kernel
theorem dX7_loadOf_3 : decode cX7_loadOf 3 = .ok (.iconst 1, 1) := by decide +kernel
theorem dX7_loadOf_4 : decode cX7_loadOf 4 = .ok (.invokevirtual 140, 3) := by decide +kernel
theorem dX7_loadOf_7 : decode cX7_loadOf 7 = .ok (.i2f, 1) := by decide +kernel
theorem dX7_loadOf_8 : decode cX7_loadOf 8 = .ok (.fstore_n 3, 1) := by decide +kernel
theorem dX7_loadOf_9 : decode cX7_loadOf 9 = .ok (.aload_n 0, 1) := by decide +kernel
theorem dX7_loadOf_10 : decode cX7_loadOf 10 = .ok (.iload_n 1, 1) := by decide +kernel
theorem dX7_loadOf_11 : decode cX7_loadOf 11 = .ok (.iload_n 2, 1) := by decide +kernel
theorem dX7_loadOf_12 : decode cX7_loadOf 12 = .ok (.iconst 0, 1) := by decide +kernel
theorem dX7_loadOf_13 : decode cX7_loadOf 13 = .ok (.invokevirtual 140, 3) := by decide +kernel
theorem dX7_loadOf_16 : decode cX7_loadOf 16 = .ok (.iconst 1, 1) := by decide +kernel
theorem dX7_loadOf_17 : decode cX7_loadOf 17 = .ok (.if_icmp .ne 19, 3) := by decide +kernel
theorem dX7_loadOf_20 : decode cX7_loadOf 20 = .ok (.fload_n 3, 1) := by decide +kernel
theorem dX7_loadOf_21 : decode cX7_loadOf 21 = .ok (.ldc 143, 2) := by decide +kernel
theorem dX7_loadOf_23 : decode cX7_loadOf 23 = .ok (.aload_n 0, 1) := by decide +kernel
theorem dX7_loadOf_24 : decode cX7_loadOf 24 = .ok (.iload_n 1, 1) := by decide +kernel
theorem dX7_loadOf_25 : decode cX7_loadOf 25 = .ok (.iload_n 2, 1) := by decide +kernel
theorem dX7_loadOf_26 : decode cX7_loadOf 26 = .ok (.iconst 2, 1) := by decide +kernel
theorem dX7_loadOf_27 : decode cX7_loadOf 27 = .ok (.invokevirtual 140, 3) := by decide +kernel
theorem dX7_loadOf_30 : decode cX7_loadOf 30 = .ok (.i2f, 1) := by decide +kernel
theorem dX7_loadOf_31 : decode cX7_loadOf 31 = .ok (.fmul, 1) := by decide +kernel
theorem dX7_loadOf_32 : decode cX7_loadOf 32 = .ok (.fadd, 1) := by decide +kernel
theorem dX7_loadOf_33 : decode cX7_loadOf 33 = .ok (.goto 4, 3) := by decide +kernel
theorem dX7_loadOf_36 : decode cX7_loadOf 36 = .ok (.fload_n 3, 1) := by decide +kernel
theorem dX7_loadOf_37 : decode cX7_loadOf 37 = .ok (.freturn, 1) := by decide +kernel
theorem dX7_mileBy_0 : decode cX7_mileBy 0 = .ok (.iload_n 3, 1) := by decide +kernel
theorem dX7_mileBy_1 : decode cX7_mileBy 1 = .ok (.iload_n 2, 1) := by decide +kernel
theorem dX7_mileBy_2 : decode cX7_mileBy 2 = .ok (.aload_n 0, 1) := by decide +kernel
theorem dX7_mileBy_3 : decode cX7_mileBy 3 = .ok (.iload_n 1, 1) := by decide +kernel
theorem dX7_mileBy_4 : decode cX7_mileBy 4 = .ok (.iconst 0, 1) := by decide +kernel
theorem dX7_mileBy_5 : decode cX7_mileBy 5 = .ok (.invokevirtual 81, 3) := by decide +kernel
theorem dX7_mileBy_8 : decode cX7_mileBy 8 = .ok (.iconst 1, 1) := by decide +kernel
theorem dX7_mileBy_9 : decode cX7_mileBy 9 = .ok (.iadd, 1) := by decide +kernel
theorem dX7_mileBy_10 : decode cX7_mileBy 10 = .ok (.imul, 1) := by decide +kernel
theorem dX7_mileBy_11 : decode cX7_mileBy 11 = .ok (.isub, 1) := by decide +kernel
theorem dX7_mileBy_12 : decode cX7_mileBy 12 = .ok (.ireturn, 1) := by decide +kernel
theorem dX7_isStarted_0 : decode cX7_isStarted 0 = .ok (.aload_n 0, 1) := by decide +kernel
theorem dX7_isStarted_1 : decode cX7_isStarted 1 = .ok (.iload_n 1, 1) := by decide +kernel
theorem dX7_isStarted_2 : decode cX7_isStarted 2 = .ok (.iconst 3, 1) := by decide +kernel
theorem dX7_isStarted_3 : decode cX7_isStarted 3 = .ok (.invokevirtual 81, 3) := by decide +kernel
theorem dX7_isStarted_6 : decode cX7_isStarted 6 = .ok (.iconst 1, 1) := by decide +kernel
theorem dX7_isStarted_7 : decode cX7_isStarted 7 = .ok (.if_icmp .ne 7, 3) := by decide +kernel
theorem dX7_isStarted_10 : decode cX7_isStarted 10 = .ok (.iconst 1, 1) := by decide +kernel
theorem dX7_isStarted_11 : decode cX7_isStarted 11 = .ok (.goto 4, 3) := by decide +kernel
theorem dX7_isStarted_14 : decode cX7_isStarted 14 = .ok (.iconst 0, 1) := by decide +kernel
theorem dX7_isStarted_15 : decode cX7_isStarted 15 = .ok (.ireturn, 1) := by decide +kernel
theorem dX7_whoIsAt_0 : decode cX7_whoIsAt 0 = .ok (.iconst 0, 1) := by decide +kernel
theorem dX7_whoIsAt_1 : decode cX7_whoIsAt 1 = .ok (.istore_n 3, 1) := by decide +kernel
theorem dX7_whoIsAt_2 : decode cX7_whoIsAt 2 = .ok (.iload_n 3, 1) := by decide +kernel
theorem dX7_whoIsAt_3 : decode cX7_whoIsAt 3 = .ok (.aload_n 0, 1) := by decide +kernel
theorem dX7_whoIsAt_4 : decode cX7_whoIsAt 4 = .ok (.getfield 9, 3) := by decide +kernel
theorem dX7_whoIsAt_7 : decode cX7_whoIsAt 7 = .ok (.iconst 1, 1) := by decide +kernel
theorem dX7_whoIsAt_8 : decode cX7_whoIsAt 8 = .ok (.iaload, 1) := by decide +kernel
theorem dX7_whoIsAt_9 : decode cX7_whoIsAt 9 = .ok (.if_icmp .ge 67, 3) := by decide +kernel
theorem dX7_whoIsAt_12 : decode cX7_whoIsAt 12 = .ok (.iconst 0, 1) := by decide +kernel
theorem dX7_whoIsAt_13 : decode cX7_whoIsAt 13 = .ok (.istore 4, 2) := by decide +kernel
theorem dX7_whoIsAt_15 : decode cX7_whoIsAt 15 = .ok (.iload 4, 2) := by decide +kernel
theorem dX7_whoIsAt_17 : decode cX7_whoIsAt 17 = .ok (.aload_n 0, 1) := by decide +kernel
theorem dX7_whoIsAt_18 : decode cX7_whoIsAt 18 = .ok (.iload_n 3, 1) := by decide +kernel
theorem dX7_whoIsAt_19 : decode cX7_whoIsAt 19 = .ok (.iconst 1, 1) := by decide +kernel
theorem dX7_whoIsAt_20 : decode cX7_whoIsAt 20 = .ok (.invokevirtual 81, 3) := by decide +kernel
theorem dX7_whoIsAt_23 : decode cX7_whoIsAt 23 = .ok (.if_icmp .ge 47, 3) := by decide +kernel
theorem dX7_whoIsAt_26 : decode cX7_whoIsAt 26 = .ok (.aload_n 0, 1) := by decide +kernel
theorem dX7_whoIsAt_27 : decode cX7_whoIsAt 27 = .ok (.iload_n 3, 1) := by decide +kernel
theorem dX7_whoIsAt_28 : decode cX7_whoIsAt 28 = .ok (.invokevirtual 144, 3) := by decide +kernel
theorem dX7_whoIsAt_31 : decode cX7_whoIsAt 31 = .ok (.ifCond .eq 39, 3) := by decide +kernel
theorem dX7_whoIsAt_34 : decode cX7_whoIsAt 34 = .ok (.iload_n 3, 1) := by decide +kernel
theorem dX7_whoIsAt_35 : decode cX7_whoIsAt 35 = .ok (.iload_n 2, 1) := by decide +kernel
theorem dX7_whoIsAt_36 : decode cX7_whoIsAt 36 = .ok (.if_icmp .eq 34, 3) := by decide +kernel
theorem dX7_whoIsAt_39 : decode cX7_whoIsAt 39 = .ok (.aload_n 0, 1) := by decide +kernel
theorem dX7_whoIsAt_40 : decode cX7_whoIsAt 40 = .ok (.iload_n 3, 1) := by decide +kernel
theorem dX7_whoIsAt_41 : decode cX7_whoIsAt 41 = .ok (.iload 4, 2) := by decide +kernel
theorem dX7_whoIsAt_43 : decode cX7_whoIsAt 43 = .ok (.aload_n 0, 1) := by decide +kernel
theorem dX7_whoIsAt_44 : decode cX7_whoIsAt 44 = .ok (.iload_n 3, 1) := by decide +kernel
theorem dX7_whoIsAt_45 : decode cX7_whoIsAt 45 = .ok (.iconst 2, 1) := by decide +kernel
theorem dX7_whoIsAt_46 : decode cX7_whoIsAt 46 = .ok (.invokevirtual 81, 3) := by decide +kernel
theorem dX7_whoIsAt_49 : decode cX7_whoIsAt 49 = .ok (.invokevirtual 147, 3) := by decide +kernel
theorem dX7_whoIsAt_52 : decode cX7_whoIsAt 52 = .ok (.iload_n 1, 1) := by decide +kernel
theorem dX7_whoIsAt_53 : decode cX7_whoIsAt 53 = .ok (.if_icmp .ne 11, 3) := by decide +kernel
theorem dX7_whoIsAt_56 : decode cX7_whoIsAt 56 = .ok (.bipush 10, 2) := by decide +kernel
theorem dX7_whoIsAt_58 : decode cX7_whoIsAt 58 = .ok (.iload_n 3, 1) := by decide +kernel
theorem dX7_whoIsAt_59 : decode cX7_whoIsAt 59 = .ok (.imul, 1) := by decide +kernel
theorem dX7_whoIsAt_60 : decode cX7_whoIsAt 60 = .ok (.iload 4, 2) := by decide +kernel
theorem dX7_whoIsAt_62 : decode cX7_whoIsAt 62 = .ok (.iadd, 1) := by decide +kernel
theorem dX7_whoIsAt_63 : decode cX7_whoIsAt 63 = .ok (.ireturn, 1) := by decide +kernel
theorem dX7_whoIsAt_64 : decode cX7_whoIsAt 64 = .ok (.iinc 4 1, 3) := by decide +kernel
theorem dX7_whoIsAt_67 : decode cX7_whoIsAt 67 = .ok (.goto (-52), 3) := by decide +kernel
theorem dX7_whoIsAt_70 : decode cX7_whoIsAt 70 = .ok (.iinc 3 1, 3) := by decide +kernel
theorem dX7_whoIsAt_73 : decode cX7_whoIsAt 73 = .ok (.goto (-71), 3) := by decide +kernel
theorem dX7_whoIsAt_76 : decode cX7_whoIsAt 76 = .ok (.iconst (-1), 1) := by decide +kernel
theorem dX7_whoIsAt_77 : decode cX7_whoIsAt 77 = .ok (.ireturn, 1) := by decide +kernel
theorem dX7_barred_0 : decode cX7_barred 0 = .ok (.iconst 0, 1) := by decide +kernel
theorem dX7_barred_1 : decode cX7_barred 1 = .ok (.istore_n 3, 1) := by decide +kernel
theorem dX7_barred_2 : decode cX7_barred 2 = .ok (.iload_n 3, 1) := by decide +kernel
theorem dX7_barred_3 : decode cX7_barred 3 = .ok (.aload_n 0, 1) := by decide +kernel
theorem dX7_barred_4 : decode cX7_barred 4 = .ok (.iload_n 1, 1) := by decide +kernel
theorem dX7_barred_5 : decode cX7_barred 5 = .ok (.iconst 1, 1) := by decide +kernel
theorem dX7_barred_6 : decode cX7_barred 6 = .ok (.invokevirtual 81, 3) := by decide +kernel
theorem dX7_barred_9 : decode cX7_barred 9 = .ok (.if_icmp .ge 43, 3) := by decide +kernel
theorem dX7_barred_12 : decode cX7_barred 12 = .ok (.aload_n 0, 1) := by decide +kernel
theorem dX7_barred_13 : decode cX7_barred 13 = .ok (.iload_n 1, 1) := by decide +kernel
theorem dX7_barred_14 : decode cX7_barred 14 = .ok (.iload_n 3, 1) := by decide +kernel
theorem dX7_barred_15 : decode cX7_barred 15 = .ok (.iload_n 2, 1) := by decide +kernel
theorem dX7_barred_16 : decode cX7_barred 16 = .ok (.invokevirtual 147, 3) := by decide +kernel
theorem dX7_barred_19 : decode cX7_barred 19 = .ok (.istore 4, 2) := by decide +kernel
theorem dX7_barred_21 : decode cX7_barred 21 = .ok (.iload 4, 2) := by decide +kernel
theorem dX7_barred_23 : decode cX7_barred 23 = .ok (.invokestatic 101, 3) := by decide +kernel
theorem dX7_barred_26 : decode cX7_barred 26 = .ok (.ifCond .eq 20, 3) := by decide +kernel
theorem dX7_barred_29 : decode cX7_barred 29 = .ok (.aload_n 0, 1) := by decide +kernel
theorem dX7_barred_30 : decode cX7_barred 30 = .ok (.iload 4, 2) := by decide +kernel
theorem dX7_barred_32 : decode cX7_barred 32 = .ok (.iload_n 1, 1) := by decide +kernel
theorem dX7_barred_33 : decode cX7_barred 33 = .ok (.invokevirtual 120, 3) := by decide +kernel
theorem dX7_barred_36 : decode cX7_barred 36 = .ok (.ifCond .lt 10, 3) := by decide +kernel
theorem dX7_barred_39 : decode cX7_barred 39 = .ok (.sipush 700, 3) := by decide +kernel
theorem dX7_barred_42 : decode cX7_barred 42 = .ok (.iload 4, 2) := by decide +kernel
theorem dX7_barred_44 : decode cX7_barred 44 = .ok (.iadd, 1) := by decide +kernel
theorem dX7_barred_45 : decode cX7_barred 45 = .ok (.ireturn, 1) := by decide +kernel
theorem dX7_barred_46 : decode cX7_barred 46 = .ok (.iinc 3 1, 3) := by decide +kernel
theorem dX7_barred_49 : decode cX7_barred 49 = .ok (.goto (-47), 3) := by decide +kernel
theorem dX7_barred_52 : decode cX7_barred 52 = .ok (.iconst 0, 1) := by decide +kernel
theorem dX7_barred_53 : decode cX7_barred 53 = .ok (.istore_n 3, 1) := by decide +kernel
theorem dX7_barred_54 : decode cX7_barred 54 = .ok (.iload_n 3, 1) := by decide +kernel
theorem dX7_barred_55 : decode cX7_barred 55 = .ok (.aload_n 0, 1) := by decide +kernel
theorem dX7_barred_56 : decode cX7_barred 56 = .ok (.iload_n 1, 1) := by decide +kernel
theorem dX7_barred_57 : decode cX7_barred 57 = .ok (.iconst 1, 1) := by decide +kernel
theorem dX7_barred_58 : decode cX7_barred 58 = .ok (.invokevirtual 81, 3) := by decide +kernel
theorem dX7_barred_61 : decode cX7_barred 61 = .ok (.if_icmp .ge 49, 3) := by decide +kernel
theorem dX7_barred_64 : decode cX7_barred 64 = .ok (.aload_n 0, 1) := by decide +kernel
theorem dX7_barred_65 : decode cX7_barred 65 = .ok (.iload_n 1, 1) := by decide +kernel
theorem dX7_barred_66 : decode cX7_barred 66 = .ok (.iload_n 3, 1) := by decide +kernel
theorem dX7_barred_67 : decode cX7_barred 67 = .ok (.iload_n 2, 1) := by decide +kernel
theorem dX7_barred_68 : decode cX7_barred 68 = .ok (.invokevirtual 147, 3) := by decide +kernel
theorem dX7_barred_71 : decode cX7_barred 71 = .ok (.istore 4, 2) := by decide +kernel
theorem dX7_barred_73 : decode cX7_barred 73 = .ok (.iload 4, 2) := by decide +kernel
theorem dX7_barred_75 : decode cX7_barred 75 = .ok (.invokestatic 101, 3) := by decide +kernel
theorem dX7_barred_78 : decode cX7_barred 78 = .ok (.ifCond .eq 26, 3) := by decide +kernel
theorem dX7_barred_81 : decode cX7_barred 81 = .ok (.aload_n 0, 1) := by decide +kernel
theorem dX7_barred_82 : decode cX7_barred 82 = .ok (.iload 4, 2) := by decide +kernel
theorem dX7_barred_84 : decode cX7_barred 84 = .ok (.invokevirtual 117, 3) := by decide +kernel
theorem dX7_barred_87 : decode cX7_barred 87 = .ok (.aload_n 0, 1) := by decide +kernel
theorem dX7_barred_88 : decode cX7_barred 88 = .ok (.iload_n 1, 1) := by decide +kernel
theorem dX7_barred_89 : decode cX7_barred 89 = .ok (.iload_n 3, 1) := by decide +kernel
theorem dX7_barred_90 : decode cX7_barred 90 = .ok (.invokevirtual 150, 3) := by decide +kernel
theorem dX7_barred_93 : decode cX7_barred 93 = .ok (.fcmp .g, 1) := by decide +kernel
theorem dX7_barred_94 : decode cX7_barred 94 = .ok (.ifCond .ge 10, 3) := by decide +kernel
theorem dX7_barred_97 : decode cX7_barred 97 = .ok (.sipush 800, 3) := by decide +kernel
theorem dX7_barred_100 : decode cX7_barred 100 = .ok (.iload 4, 2) := by decide +kernel
theorem dX7_barred_102 : decode cX7_barred 102 = .ok (.iadd, 1) := by decide +kernel
theorem dX7_barred_103 : decode cX7_barred 103 = .ok (.ireturn, 1) := by decide +kernel
theorem dX7_barred_104 : decode cX7_barred 104 = .ok (.iinc 3 1, 3) := by decide +kernel
theorem dX7_barred_107 : decode cX7_barred 107 = .ok (.goto (-53), 3) := by decide +kernel
theorem dX7_barred_110 : decode cX7_barred 110 = .ok (.iconst 0, 1) := by decide +kernel
theorem dX7_barred_111 : decode cX7_barred 111 = .ok (.ireturn, 1) := by decide +kernel
theorem dX7_isDone_0 : decode cX7_isDone 0 = .ok (.aload_n 0, 1) := by decide +kernel
theorem dX7_isDone_1 : decode cX7_isDone 1 = .ok (.iload_n 1, 1) := by decide +kernel
theorem dX7_isDone_2 : decode cX7_isDone 2 = .ok (.invokevirtual 144, 3) := by decide +kernel
theorem dX7_isDone_5 : decode cX7_isDone 5 = .ok (.ifCond .eq 31, 3) := by decide +kernel
theorem dX7_isDone_8 : decode cX7_isDone 8 = .ok (.aload_n 0, 1) := by decide +kernel
theorem dX7_isDone_9 : decode cX7_isDone 9 = .ok (.iload_n 1, 1) := by decide +kernel
theorem dX7_isDone_10 : decode cX7_isDone 10 = .ok (.aload_n 0, 1) := by decide +kernel
theorem dX7_isDone_11 : decode cX7_isDone 11 = .ok (.iload_n 1, 1) := by decide +kernel
theorem dX7_isDone_12 : decode cX7_isDone 12 = .ok (.iconst 1, 1) := by decide +kernel
theorem dX7_isDone_13 : decode cX7_isDone 13 = .ok (.invokevirtual 81, 3) := by decide +kernel
theorem dX7_isDone_16 : decode cX7_isDone 16 = .ok (.iconst 1, 1) := by decide +kernel
theorem dX7_isDone_17 : decode cX7_isDone 17 = .ok (.isub, 1) := by decide +kernel
theorem dX7_isDone_18 : decode cX7_isDone 18 = .ok (.aload_n 0, 1) := by decide +kernel
theorem dX7_isDone_19 : decode cX7_isDone 19 = .ok (.iload_n 1, 1) := by decide +kernel
theorem dX7_isDone_20 : decode cX7_isDone 20 = .ok (.iconst 2, 1) := by decide +kernel
theorem dX7_isDone_21 : decode cX7_isDone 21 = .ok (.invokevirtual 81, 3) := by decide +kernel
theorem dX7_isDone_24 : decode cX7_isDone 24 = .ok (.invokevirtual 147, 3) := by decide +kernel
theorem dX7_isDone_27 : decode cX7_isDone 27 = .ok (.bipush 12, 2) := by decide +kernel
theorem dX7_isDone_29 : decode cX7_isDone 29 = .ok (.if_icmp .lt 7, 3) := by decide +kernel
theorem dX7_isDone_32 : decode cX7_isDone 32 = .ok (.iconst 1, 1) := by decide +kernel
theorem dX7_isDone_33 : decode cX7_isDone 33 = .ok (.goto 4, 3) := by decide +kernel
theorem dX7_isDone_36 : decode cX7_isDone 36 = .ok (.iconst 0, 1) := by decide +kernel
theorem dX7_isDone_37 : decode cX7_isDone 37 = .ok (.ireturn, 1) := by decide +kernel
theorem dX7_comesTo_0 : decode cX7_comesTo 0 = .ok (.iconst 0, 1) := by decide +kernel
theorem dX7_comesTo_1 : decode cX7_comesTo 1 = .ok (.istore_n 3, 1) := by decide +kernel
theorem dX7_comesTo_2 : decode cX7_comesTo 2 = .ok (.aload_n 0, 1) := by decide +kernel
theorem dX7_comesTo_3 : decode cX7_comesTo 3 = .ok (.getfield 9, 3) := by decide +kernel
theorem dX7_comesTo_6 : decode cX7_comesTo 6 = .ok (.bipush 100, 2) := by decide +kernel
theorem dX7_comesTo_8 : decode cX7_comesTo 8 = .ok (.bipush 16, 2) := by decide +kernel
theorem dX7_comesTo_10 : decode cX7_comesTo 10 = .ok (.iload_n 1, 1) := by decide +kernel
theorem dX7_comesTo_11 : decode cX7_comesTo 11 = .ok (.imul, 1) := by decide +kernel
theorem dX7_comesTo_12 : decode cX7_comesTo 12 = .ok (.iadd, 1) := by decide +kernel
theorem dX7_comesTo_13 : decode cX7_comesTo 13 = .ok (.iconst 2, 1) := by decide +kernel
theorem dX7_comesTo_14 : decode cX7_comesTo 14 = .ok (.iadd, 1) := by decide +kernel
theorem dX7_comesTo_15 : decode cX7_comesTo 15 = .ok (.iload_n 2, 1) := by decide +kernel
theorem dX7_comesTo_16 : decode cX7_comesTo 16 = .ok (.iastore, 1) := by decide +kernel
theorem dX7_comesTo_17 : decode cX7_comesTo 17 = .ok (.iconst 0, 1) := by decide +kernel
theorem dX7_comesTo_18 : decode cX7_comesTo 18 = .ok (.istore 4, 2) := by decide +kernel
theorem dX7_comesTo_20 : decode cX7_comesTo 20 = .ok (.iload 4, 2) := by decide +kernel
theorem dX7_comesTo_22 : decode cX7_comesTo 22 = .ok (.aload_n 0, 1) := by decide +kernel
theorem dX7_comesTo_23 : decode cX7_comesTo 23 = .ok (.iload_n 1, 1) := by decide +kernel
theorem dX7_comesTo_24 : decode cX7_comesTo 24 = .ok (.iconst 1, 1) := by decide +kernel
theorem dX7_comesTo_25 : decode cX7_comesTo 25 = .ok (.invokevirtual 81, 3) := by decide +kernel
theorem dX7_comesTo_28 : decode cX7_comesTo 28 = .ok (.if_icmp .ge 151, 3) := by decide +kernel
theorem dX7_comesTo_31 : decode cX7_comesTo 31 = .ok (.aload_n 0, 1) := by decide +kernel
theorem dX7_comesTo_32 : decode cX7_comesTo 32 = .ok (.iload_n 1, 1) := by decide +kernel
theorem dX7_comesTo_33 : decode cX7_comesTo 33 = .ok (.iload 4, 2) := by decide +kernel
theorem dX7_comesTo_35 : decode cX7_comesTo 35 = .ok (.iload_n 2, 1) := by decide +kernel
theorem dX7_comesTo_36 : decode cX7_comesTo 36 = .ok (.invokevirtual 147, 3) := by decide +kernel
theorem dX7_comesTo_39 : decode cX7_comesTo 39 = .ok (.istore 5, 2) := by decide +kernel
theorem dX7_comesTo_41 : decode cX7_comesTo 41 = .ok (.iload 5, 2) := by decide +kernel
theorem dX7_comesTo_43 : decode cX7_comesTo 43 = .ok (.invokestatic 101, 3) := by decide +kernel
theorem dX7_comesTo_46 : decode cX7_comesTo 46 = .ok (.ifCond .eq 99, 3) := by decide +kernel
theorem dX7_comesTo_49 : decode cX7_comesTo 49 = .ok (.iinc 3 1, 3) := by decide +kernel
theorem dX7_comesTo_52 : decode cX7_comesTo 52 = .ok (.aload_n 0, 1) := by decide +kernel
theorem dX7_comesTo_53 : decode cX7_comesTo 53 = .ok (.iload 5, 2) := by decide +kernel
theorem dX7_comesTo_55 : decode cX7_comesTo 55 = .ok (.iconst 5, 1) := by decide +kernel
theorem dX7_comesTo_56 : decode cX7_comesTo 56 = .ok (.aload_n 0, 1) := by decide +kernel
theorem dX7_comesTo_57 : decode cX7_comesTo 57 = .ok (.iload 5, 2) := by decide +kernel
theorem dX7_comesTo_59 : decode cX7_comesTo 59 = .ok (.iconst 5, 1) := by decide +kernel
theorem dX7_comesTo_60 : decode cX7_comesTo 60 = .ok (.invokevirtual 67, 3) := by decide +kernel
theorem dX7_comesTo_63 : decode cX7_comesTo 63 = .ok (.iconst 1, 1) := by decide +kernel
theorem dX7_comesTo_64 : decode cX7_comesTo 64 = .ok (.iadd, 1) := by decide +kernel
theorem dX7_comesTo_65 : decode cX7_comesTo 65 = .ok (.invokevirtual 41, 3) := by decide +kernel
theorem dX7_comesTo_68 : decode cX7_comesTo 68 = .ok (.aload_n 0, 1) := by decide +kernel
theorem dX7_comesTo_69 : decode cX7_comesTo 69 = .ok (.iload 5, 2) := by decide +kernel
theorem dX7_comesTo_71 : decode cX7_comesTo 71 = .ok (.iconst 2, 1) := by decide +kernel
theorem dX7_comesTo_72 : decode cX7_comesTo 72 = .ok (.aload_n 0, 1) := by decide +kernel
theorem dX7_comesTo_73 : decode cX7_comesTo 73 = .ok (.iload 5, 2) := by decide +kernel
theorem dX7_comesTo_75 : decode cX7_comesTo 75 = .ok (.iconst 2, 1) := by decide +kernel
theorem dX7_comesTo_76 : decode cX7_comesTo 76 = .ok (.invokevirtual 67, 3) := by decide +kernel
theorem dX7_comesTo_79 : decode cX7_comesTo 79 = .ok (.aload_n 0, 1) := by decide +kernel
theorem dX7_comesTo_80 : decode cX7_comesTo 80 = .ok (.iload_n 1, 1) := by decide +kernel
theorem dX7_comesTo_81 : decode cX7_comesTo 81 = .ok (.iload 4, 2) := by decide +kernel
theorem dX7_comesTo_83 : decode cX7_comesTo 83 = .ok (.iconst 1, 1) := by decide +kernel
theorem dX7_comesTo_84 : decode cX7_comesTo 84 = .ok (.invokevirtual 140, 3) := by decide +kernel
theorem dX7_comesTo_87 : decode cX7_comesTo 87 = .ok (.bipush 10, 2) := by decide +kernel
theorem dX7_comesTo_89 : decode cX7_comesTo 89 = .ok (.idiv, 1) := by decide +kernel
theorem dX7_comesTo_90 : decode cX7_comesTo 90 = .ok (.iadd, 1) := by decide +kernel
theorem dX7_comesTo_91 : decode cX7_comesTo 91 = .ok (.iconst 1, 1) := by decide +kernel
theorem dX7_comesTo_92 : decode cX7_comesTo 92 = .ok (.iadd, 1) := by decide +kernel
theorem dX7_comesTo_93 : decode cX7_comesTo 93 = .ok (.invokevirtual 41, 3) := by decide +kernel
theorem dX7_comesTo_96 : decode cX7_comesTo 96 = .ok (.aload_n 0, 1) := by decide +kernel
theorem dX7_comesTo_97 : decode cX7_comesTo 97 = .ok (.iload 5, 2) := by decide +kernel
theorem dX7_comesTo_99 : decode cX7_comesTo 99 = .ok (.iconst 2, 1) := by decide +kernel
theorem dX7_comesTo_100 : decode cX7_comesTo 100 = .ok (.invokevirtual 67, 3) := by decide +kernel
theorem dX7_comesTo_103 : decode cX7_comesTo 103 = .ok (.bipush 20, 2) := by decide +kernel
theorem dX7_comesTo_105 : decode cX7_comesTo 105 = .ok (.if_icmp .lt 40, 3) := by decide +kernel
theorem dX7_comesTo_108 : decode cX7_comesTo 108 = .ok (.aload_n 0, 1) := by decide +kernel
theorem dX7_comesTo_109 : decode cX7_comesTo 109 = .ok (.iload 5, 2) := by decide +kernel
theorem dX7_comesTo_111 : decode cX7_comesTo 111 = .ok (.iconst 2, 1) := by decide +kernel
theorem dX7_comesTo_112 : decode cX7_comesTo 112 = .ok (.aload_n 0, 1) := by decide +kernel
theorem dX7_comesTo_113 : decode cX7_comesTo 113 = .ok (.iload 5, 2) := by decide +kernel
theorem dX7_comesTo_115 : decode cX7_comesTo 115 = .ok (.iconst 2, 1) := by decide +kernel
theorem dX7_comesTo_116 : decode cX7_comesTo 116 = .ok (.invokevirtual 67, 3) := by decide +kernel
theorem dX7_comesTo_119 : decode cX7_comesTo 119 = .ok (.bipush 20, 2) := by decide +kernel
theorem dX7_comesTo_121 : decode cX7_comesTo 121 = .ok (.isub, 1) := by decide +kernel
theorem dX7_comesTo_122 : decode cX7_comesTo 122 = .ok (.invokevirtual 41, 3) := by decide +kernel
theorem dX7_comesTo_125 : decode cX7_comesTo 125 = .ok (.aload_n 0, 1) := by decide +kernel
theorem dX7_comesTo_126 : decode cX7_comesTo 126 = .ok (.iload 5, 2) := by decide +kernel
theorem dX7_comesTo_128 : decode cX7_comesTo 128 = .ok (.iconst 1, 1) := by decide +kernel
theorem dX7_comesTo_129 : decode cX7_comesTo 129 = .ok (.iconst 5, 1) := by decide +kernel
theorem dX7_comesTo_130 : decode cX7_comesTo 130 = .ok (.aload_n 0, 1) := by decide +kernel
theorem dX7_comesTo_131 : decode cX7_comesTo 131 = .ok (.iload 5, 2) := by decide +kernel
theorem dX7_comesTo_133 : decode cX7_comesTo 133 = .ok (.iconst 1, 1) := by decide +kernel
theorem dX7_comesTo_134 : decode cX7_comesTo 134 = .ok (.invokevirtual 67, 3) := by decide +kernel
theorem dX7_comesTo_137 : decode cX7_comesTo 137 = .ok (.iconst 1, 1) := by decide +kernel
theorem dX7_comesTo_138 : decode cX7_comesTo 138 = .ok (.iadd, 1) := by decide +kernel
theorem dX7_comesTo_139 : decode cX7_comesTo 139 = .ok (.invokestatic 154, 3) := by decide +kernel
theorem dX7_comesTo_142 : decode cX7_comesTo 142 = .ok (.invokevirtual 41, 3) := by decide +kernel
theorem dX7_comesTo_145 : decode cX7_comesTo 145 = .ok (.aload_n 0, 1) := by decide +kernel
theorem dX7_comesTo_146 : decode cX7_comesTo 146 = .ok (.getfield 9, 3) := by decide +kernel
theorem dX7_comesTo_149 : decode cX7_comesTo 149 = .ok (.iconst 4, 1) := by decide +kernel
theorem dX7_comesTo_150 : decode cX7_comesTo 150 = .ok (.dup2, 1) := by decide +kernel
theorem dX7_comesTo_151 : decode cX7_comesTo 151 = .ok (.iaload, 1) := by decide +kernel
theorem dX7_comesTo_152 : decode cX7_comesTo 152 = .ok (.iload 5, 2) := by decide +kernel
theorem dX7_comesTo_154 : decode cX7_comesTo 154 = .ok (.bipush 12, 2) := by decide +kernel
theorem dX7_comesTo_156 : decode cX7_comesTo 156 = .ok (.if_icmp .ne 14, 3) := by decide +kernel
theorem dX7_comesTo_159 : decode cX7_comesTo 159 = .ok (.aload_n 0, 1) := by decide +kernel
theorem dX7_comesTo_160 : decode cX7_comesTo 160 = .ok (.iload_n 1, 1) := by decide +kernel
theorem dX7_comesTo_161 : decode cX7_comesTo 161 = .ok (.iload 4, 2) := by decide +kernel
theorem dX7_comesTo_163 : decode cX7_comesTo 163 = .ok (.iconst 1, 1) := by decide +kernel
theorem dX7_comesTo_164 : decode cX7_comesTo 164 = .ok (.invokevirtual 140, 3) := by decide +kernel
theorem dX7_comesTo_167 : decode cX7_comesTo 167 = .ok (.goto 4, 3) := by decide +kernel
theorem dX7_comesTo_170 : decode cX7_comesTo 170 = .ok (.iconst 0, 1) := by decide +kernel
theorem dX7_comesTo_171 : decode cX7_comesTo 171 = .ok (.iadd, 1) := by decide +kernel
theorem dX7_comesTo_172 : decode cX7_comesTo 172 = .ok (.iastore, 1) := by decide +kernel
theorem dX7_comesTo_173 : decode cX7_comesTo 173 = .ok (.iinc 4 1, 3) := by decide +kernel
theorem dX7_comesTo_176 : decode cX7_comesTo 176 = .ok (.goto (-156), 3) := by decide +kernel
theorem dX7_comesTo_179 : decode cX7_comesTo 179 = .ok (.iload_n 3, 1) := by decide +kernel
theorem dX7_comesTo_180 : decode cX7_comesTo 180 = .ok (.ireturn, 1) := by decide +kernel
theorem dX7_doStart_0 : decode cX7_doStart 0 = .ok (.aload_n 0, 1) := by decide +kernel
theorem dX7_doStart_1 : decode cX7_doStart 1 = .ok (.iload_n 1, 1) := by decide +kernel
theorem dX7_doStart_2 : decode cX7_doStart 2 = .ok (.invokevirtual 134, 3) := by decide +kernel
theorem dX7_doStart_5 : decode cX7_doStart 5 = .ok (.ifCond .ne 9, 3) := by decide +kernel
theorem dX7_doStart_8 : decode cX7_doStart 8 = .ok (.aload_n 0, 1) := by decide +kernel
theorem dX7_doStart_9 : decode cX7_doStart 9 = .ok (.iconst 1, 1) := by decide +kernel
theorem dX7_doStart_10 : decode cX7_doStart 10 = .ok (.invokevirtual 88, 3) := by decide +kernel
theorem dX7_doStart_13 : decode cX7_doStart 13 = .ok (.ireturn, 1) := by decide +kernel
theorem dX7_doStart_14 : decode cX7_doStart 14 = .ok (.aload_n 0, 1) := by decide +kernel
theorem dX7_doStart_15 : decode cX7_doStart 15 = .ok (.iload_n 1, 1) := by decide +kernel
theorem dX7_doStart_16 : decode cX7_doStart 16 = .ok (.invokevirtual 144, 3) := by decide +kernel
theorem dX7_doStart_19 : decode cX7_doStart 19 = .ok (.ifCond .eq 11, 3) := by decide +kernel
theorem dX7_doStart_22 : decode cX7_doStart 22 = .ok (.aload_n 0, 1) := by decide +kernel
theorem dX7_doStart_23 : decode cX7_doStart 23 = .ok (.iconst 2, 1) := by decide +kernel
theorem dX7_doStart_24 : decode cX7_doStart 24 = .ok (.iconst 4, 1) := by decide +kernel
theorem dX7_doStart_25 : decode cX7_doStart 25 = .ok (.iload_n 1, 1) := by decide +kernel
theorem dX7_doStart_26 : decode cX7_doStart 26 = .ok (.invokevirtual 126, 3) := by decide +kernel
theorem dX7_doStart_29 : decode cX7_doStart 29 = .ok (.ireturn, 1) := by decide +kernel
theorem dX7_doStart_30 : decode cX7_doStart 30 = .ok (.aload_n 0, 1) := by decide +kernel
theorem dX7_doStart_31 : decode cX7_doStart 31 = .ok (.iload_n 1, 1) := by decide +kernel
theorem dX7_doStart_32 : decode cX7_doStart 32 = .ok (.iconst 1, 1) := by decide +kernel
theorem dX7_doStart_33 : decode cX7_doStart 33 = .ok (.invokevirtual 81, 3) := by decide +kernel
theorem dX7_doStart_36 : decode cX7_doStart 36 = .ok (.ifCond .ne 11, 3) := by decide +kernel
theorem dX7_doStart_39 : decode cX7_doStart 39 = .ok (.aload_n 0, 1) := by decide +kernel
theorem dX7_doStart_40 : decode cX7_doStart 40 = .ok (.iconst 2, 1) := by decide +kernel
theorem dX7_doStart_41 : decode cX7_doStart 41 = .ok (.iconst 5, 1) := by decide +kernel
theorem dX7_doStart_42 : decode cX7_doStart 42 = .ok (.iload_n 1, 1) := by decide +kernel
theorem dX7_doStart_43 : decode cX7_doStart 43 = .ok (.invokevirtual 126, 3) := by decide +kernel
theorem dX7_doStart_46 : decode cX7_doStart 46 = .ok (.ireturn, 1) := by decide +kernel
theorem dX7_doStart_47 : decode cX7_doStart 47 = .ok (.aload_n 0, 1) := by decide +kernel
theorem dX7_doStart_48 : decode cX7_doStart 48 = .ok (.iload_n 1, 1) := by decide +kernel
theorem dX7_doStart_49 : decode cX7_doStart 49 = .ok (.iconst 0, 1) := by decide +kernel
theorem dX7_doStart_50 : decode cX7_doStart 50 = .ok (.invokevirtual 159, 3) := by decide +kernel
theorem dX7_doStart_53 : decode cX7_doStart 53 = .ok (.istore_n 2, 1) := by decide +kernel
theorem dX7_doStart_54 : decode cX7_doStart 54 = .ok (.iload_n 2, 1) := by decide +kernel
theorem dX7_doStart_55 : decode cX7_doStart 55 = .ok (.ifCond .le 17, 3) := by decide +kernel
theorem dX7_doStart_58 : decode cX7_doStart 58 = .ok (.aload_n 0, 1) := by decide +kernel
theorem dX7_doStart_59 : decode cX7_doStart 59 = .ok (.iconst 2, 1) := by decide +kernel
theorem dX7_doStart_60 : decode cX7_doStart 60 = .ok (.iload_n 2, 1) := by decide +kernel
theorem dX7_doStart_61 : decode cX7_doStart 61 = .ok (.bipush 100, 2) := by decide +kernel
theorem dX7_doStart_63 : decode cX7_doStart 63 = .ok (.idiv, 1) := by decide +kernel
theorem dX7_doStart_64 : decode cX7_doStart 64 = .ok (.iload_n 2, 1) := by decide +kernel
theorem dX7_doStart_65 : decode cX7_doStart 65 = .ok (.bipush 100, 2) := by decide +kernel
theorem dX7_doStart_67 : decode cX7_doStart 67 = .ok (.irem, 1) := by decide +kernel
theorem dX7_doStart_68 : decode cX7_doStart 68 = .ok (.invokevirtual 126, 3) := by decide +kernel
theorem dX7_doStart_71 : decode cX7_doStart 71 = .ok (.ireturn, 1) := by decide +kernel
theorem dX7_doStart_72 : decode cX7_doStart 72 = .ok (.aload_n 0, 1) := by decide +kernel
theorem dX7_doStart_73 : decode cX7_doStart 73 = .ok (.getfield 9, 3) := by decide +kernel
theorem dX7_doStart_76 : decode cX7_doStart 76 = .ok (.bipush 100, 2) := by decide +kernel
theorem dX7_doStart_78 : decode cX7_doStart 78 = .ok (.bipush 16, 2) := by decide +kernel
theorem dX7_doStart_80 : decode cX7_doStart 80 = .ok (.iload_n 1, 1) := by decide +kernel
theorem dX7_doStart_81 : decode cX7_doStart 81 = .ok (.imul, 1) := by decide +kernel
theorem dX7_doStart_82 : decode cX7_doStart 82 = .ok (.iadd, 1) := by decide +kernel
theorem dX7_doStart_83 : decode cX7_doStart 83 = .ok (.iconst 3, 1) := by decide +kernel
theorem dX7_doStart_84 : decode cX7_doStart 84 = .ok (.iadd, 1) := by decide +kernel
theorem dX7_doStart_85 : decode cX7_doStart 85 = .ok (.iconst 1, 1) := by decide +kernel
theorem dX7_doStart_86 : decode cX7_doStart 86 = .ok (.iastore, 1) := by decide +kernel
theorem dX7_doStart_87 : decode cX7_doStart 87 = .ok (.aload_n 0, 1) := by decide +kernel
theorem dX7_doStart_88 : decode cX7_doStart 88 = .ok (.iload_n 1, 1) := by decide +kernel
theorem dX7_doStart_89 : decode cX7_doStart 89 = .ok (.iconst 0, 1) := by decide +kernel
theorem dX7_doStart_90 : decode cX7_doStart 90 = .ok (.invokevirtual 162, 3) := by decide +kernel
theorem dX7_doStart_93 : decode cX7_doStart 93 = .ok (.istore_n 3, 1) := by decide +kernel
theorem dX7_doStart_94 : decode cX7_doStart 94 = .ok (.aload_n 0, 1) := by decide +kernel
theorem dX7_doStart_95 : decode cX7_doStart 95 = .ok (.iload_n 1, 1) := by decide +kernel
theorem dX7_doStart_96 : decode cX7_doStart 96 = .ok (.iconst 1, 1) := by decide +kernel
theorem dX7_doStart_97 : decode cX7_doStart 97 = .ok (.invokevirtual 81, 3) := by decide +kernel
theorem dX7_doStart_100 : decode cX7_doStart 100 = .ok (.ireturn, 1) := by decide +kernel
theorem dX7_start_0 : decode cX7_start 0 = .ok (.aload_n 0, 1) := by decide +kernel
theorem dX7_start_1 : decode cX7_start 1 = .ok (.invokevirtual 92, 3) := by decide +kernel
theorem dX7_start_4 : decode cX7_start 4 = .ok (.aload_n 0, 1) := by decide +kernel
theorem dX7_start_5 : decode cX7_start 5 = .ok (.aload_n 0, 1) := by decide +kernel
theorem dX7_start_6 : decode cX7_start 6 = .ok (.iload_n 1, 1) := by decide +kernel
theorem dX7_start_7 : decode cX7_start 7 = .ok (.invokevirtual 165, 3) := by decide +kernel
theorem dX7_start_10 : decode cX7_start 10 = .ok (.invokevirtual 98, 3) := by decide +kernel
theorem dX7_start_13 : decode cX7_start 13 = .ok (.ireturn, 1) := by decide +kernel
theorem dX7_whyNot_0 : decode cX7_whyNot 0 = .ok (.aload_n 0, 1) := by decide +kernel
theorem dX7_whyNot_1 : decode cX7_whyNot 1 = .ok (.iload_n 1, 1) := by decide +kernel
theorem dX7_whyNot_2 : decode cX7_whyNot 2 = .ok (.invokevirtual 144, 3) := by decide +kernel
theorem dX7_whyNot_5 : decode cX7_whyNot 5 = .ok (.ifCond .ne 9, 3) := by decide +kernel
theorem dX7_whyNot_8 : decode cX7_whyNot 8 = .ok (.sipush 400, 3) := by decide +kernel
theorem dX7_whyNot_11 : decode cX7_whyNot 11 = .ok (.iload_n 1, 1) := by decide +kernel
theorem dX7_whyNot_12 : decode cX7_whyNot 12 = .ok (.iadd, 1) := by decide +kernel
theorem dX7_whyNot_13 : decode cX7_whyNot 13 = .ok (.ireturn, 1) := by decide +kernel
theorem dX7_whyNot_14 : decode cX7_whyNot 14 = .ok (.aload_n 0, 1) := by decide +kernel
theorem dX7_whyNot_15 : decode cX7_whyNot 15 = .ok (.iload_n 1, 1) := by decide +kernel
theorem dX7_whyNot_16 : decode cX7_whyNot 16 = .ok (.invokevirtual 168, 3) := by decide +kernel
theorem dX7_whyNot_19 : decode cX7_whyNot 19 = .ok (.ifCond .eq 11, 3) := by decide +kernel
theorem dX7_whyNot_22 : decode cX7_whyNot 22 = .ok (.sipush 600, 3) := by decide +kernel
theorem dX7_whyNot_25 : decode cX7_whyNot 25 = .ok (.iload_n 1, 1) := by decide +kernel
theorem dX7_whyNot_26 : decode cX7_whyNot 26 = .ok (.iadd, 1) := by decide +kernel
theorem dX7_whyNot_27 : decode cX7_whyNot 27 = .ok (.goto 16, 3) := by decide +kernel
theorem dX7_whyNot_30 : decode cX7_whyNot 30 = .ok (.aload_n 0, 1) := by decide +kernel
theorem dX7_whyNot_31 : decode cX7_whyNot 31 = .ok (.iload_n 1, 1) := by decide +kernel
theorem dX7_whyNot_32 : decode cX7_whyNot 32 = .ok (.aload_n 0, 1) := by decide +kernel
theorem dX7_whyNot_33 : decode cX7_whyNot 33 = .ok (.iload_n 1, 1) := by decide +kernel
theorem dX7_whyNot_34 : decode cX7_whyNot 34 = .ok (.iconst 2, 1) := by decide +kernel
theorem dX7_whyNot_35 : decode cX7_whyNot 35 = .ok (.invokevirtual 81, 3) := by decide +kernel
theorem dX7_whyNot_38 : decode cX7_whyNot 38 = .ok (.iconst 1, 1) := by decide +kernel
theorem dX7_whyNot_39 : decode cX7_whyNot 39 = .ok (.iadd, 1) := by decide +kernel
theorem dX7_whyNot_40 : decode cX7_whyNot 40 = .ok (.invokevirtual 159, 3) := by decide +kernel
theorem dX7_whyNot_43 : decode cX7_whyNot 43 = .ok (.ireturn, 1) := by decide +kernel
theorem dX7_doRoll_0 : decode cX7_doRoll 0 = .ok (.aload_n 0, 1) := by decide +kernel
theorem dX7_doRoll_1 : decode cX7_doRoll 1 = .ok (.iload_n 1, 1) := by decide +kernel
theorem dX7_doRoll_2 : decode cX7_doRoll 2 = .ok (.invokevirtual 134, 3) := by decide +kernel
theorem dX7_doRoll_5 : decode cX7_doRoll 5 = .ok (.ifCond .ne 9, 3) := by decide +kernel
theorem dX7_doRoll_8 : decode cX7_doRoll 8 = .ok (.aload_n 0, 1) := by decide +kernel
theorem dX7_doRoll_9 : decode cX7_doRoll 9 = .ok (.iconst 1, 1) := by decide +kernel
theorem dX7_doRoll_10 : decode cX7_doRoll 10 = .ok (.invokevirtual 88, 3) := by decide +kernel
theorem dX7_doRoll_13 : decode cX7_doRoll 13 = .ok (.ireturn, 1) := by decide +kernel
theorem dX7_doRoll_14 : decode cX7_doRoll 14 = .ok (.aload_n 0, 1) := by decide +kernel
theorem dX7_doRoll_15 : decode cX7_doRoll 15 = .ok (.iload_n 1, 1) := by decide +kernel
theorem dX7_doRoll_16 : decode cX7_doRoll 16 = .ok (.invokevirtual 171, 3) := by decide +kernel
theorem dX7_doRoll_19 : decode cX7_doRoll 19 = .ok (.istore_n 2, 1) := by decide +kernel
theorem dX7_doRoll_20 : decode cX7_doRoll 20 = .ok (.iload_n 2, 1) := by decide +kernel
theorem dX7_doRoll_21 : decode cX7_doRoll 21 = .ok (.ifCond .le 19, 3) := by decide +kernel
theorem dX7_doRoll_24 : decode cX7_doRoll 24 = .ok (.aload_n 0, 1) := by decide +kernel
theorem dX7_doRoll_25 : decode cX7_doRoll 25 = .ok (.iconst 2, 1) := by decide +kernel
theorem dX7_doRoll_26 : decode cX7_doRoll 26 = .ok (.iload_n 2, 1) := by decide +kernel
theorem dX7_doRoll_27 : decode cX7_doRoll 27 = .ok (.bipush 100, 2) := by decide +kernel
theorem dX7_doRoll_29 : decode cX7_doRoll 29 = .ok (.idiv, 1) := by decide +kernel
theorem dX7_doRoll_30 : decode cX7_doRoll 30 = .ok (.iload_n 2, 1) := by decide +kernel
theorem dX7_doRoll_31 : decode cX7_doRoll 31 = .ok (.bipush 100, 2) := by decide +kernel
theorem dX7_doRoll_33 : decode cX7_doRoll 33 = .ok (.irem, 1) := by decide +kernel
theorem dX7_doRoll_34 : decode cX7_doRoll 34 = .ok (.invokevirtual 126, 3) := by decide +kernel
theorem dX7_doRoll_37 : decode cX7_doRoll 37 = .ok (.goto 16, 3) := by decide +kernel
theorem dX7_doRoll_40 : decode cX7_doRoll 40 = .ok (.aload_n 0, 1) := by decide +kernel
theorem dX7_doRoll_41 : decode cX7_doRoll 41 = .ok (.iload_n 1, 1) := by decide +kernel
theorem dX7_doRoll_42 : decode cX7_doRoll 42 = .ok (.aload_n 0, 1) := by decide +kernel
theorem dX7_doRoll_43 : decode cX7_doRoll 43 = .ok (.iload_n 1, 1) := by decide +kernel
theorem dX7_doRoll_44 : decode cX7_doRoll 44 = .ok (.iconst 2, 1) := by decide +kernel
theorem dX7_doRoll_45 : decode cX7_doRoll 45 = .ok (.invokevirtual 81, 3) := by decide +kernel
theorem dX7_doRoll_48 : decode cX7_doRoll 48 = .ok (.iconst 1, 1) := by decide +kernel
theorem dX7_doRoll_49 : decode cX7_doRoll 49 = .ok (.iadd, 1) := by decide +kernel
theorem dX7_doRoll_50 : decode cX7_doRoll 50 = .ok (.invokevirtual 162, 3) := by decide +kernel
theorem dX7_doRoll_53 : decode cX7_doRoll 53 = .ok (.ireturn, 1) := by decide +kernel
theorem dX7_roll_0 : decode cX7_roll 0 = .ok (.aload_n 0, 1) := by decide +kernel
theorem dX7_roll_1 : decode cX7_roll 1 = .ok (.invokevirtual 92, 3) := by decide +kernel
theorem dX7_roll_4 : decode cX7_roll 4 = .ok (.aload_n 0, 1) := by decide +kernel
theorem dX7_roll_5 : decode cX7_roll 5 = .ok (.aload_n 0, 1) := by decide +kernel
theorem dX7_roll_6 : decode cX7_roll 6 = .ok (.iload_n 1, 1) := by decide +kernel
theorem dX7_roll_7 : decode cX7_roll 7 = .ok (.invokevirtual 174, 3) := by decide +kernel
theorem dX7_roll_10 : decode cX7_roll 10 = .ok (.invokevirtual 98, 3) := by decide +kernel
theorem dX7_roll_13 : decode cX7_roll 13 = .ok (.ireturn, 1) := by decide +kernel
theorem dX7_why_0 : decode cX7_why 0 = .ok (.aload_n 0, 1) := by decide +kernel
theorem dX7_why_1 : decode cX7_why 1 = .ok (.aload_n 0, 1) := by decide +kernel
theorem dX7_why_2 : decode cX7_why 2 = .ok (.iload_n 1, 1) := by decide +kernel
theorem dX7_why_3 : decode cX7_why 3 = .ok (.invokevirtual 134, 3) := by decide +kernel
theorem dX7_why_6 : decode cX7_why 6 = .ok (.ifCond .eq 7, 3) := by decide +kernel
theorem dX7_why_9 : decode cX7_why 9 = .ok (.iconst 0, 1) := by decide +kernel
theorem dX7_why_10 : decode cX7_why 10 = .ok (.goto 4, 3) := by decide +kernel
theorem dX7_why_13 : decode cX7_why 13 = .ok (.iconst 1, 1) := by decide +kernel
theorem dX7_why_14 : decode cX7_why 14 = .ok (.putfield 45, 3) := by decide +kernel
theorem dX7_why_17 : decode cX7_why 17 = .ok (.aload_n 0, 1) := by decide +kernel
theorem dX7_why_18 : decode cX7_why 18 = .ok (.getfield 45, 3) := by decide +kernel
theorem dX7_why_21 : decode cX7_why 21 = .ok (.ifCond .le 5, 3) := by decide +kernel
theorem dX7_why_24 : decode cX7_why 24 = .ok (.iconst 0, 1) := by decide +kernel
theorem dX7_why_25 : decode cX7_why 25 = .ok (.ireturn, 1) := by decide +kernel
theorem dX7_why_26 : decode cX7_why 26 = .ok (.iload_n 2, 1) := by decide +kernel
theorem dX7_why_27 : decode cX7_why 27 = .ok (.ifCond .eq 14, 3) := by decide +kernel
theorem dX7_why_30 : decode cX7_why 30 = .ok (.aload_n 0, 1) := by decide +kernel
theorem dX7_why_31 : decode cX7_why 31 = .ok (.iload_n 1, 1) := by decide +kernel
theorem dX7_why_32 : decode cX7_why 32 = .ok (.invokevirtual 171, 3) := by decide +kernel
theorem dX7_why_35 : decode cX7_why 35 = .ok (.bipush 100, 2) := by decide +kernel
theorem dX7_why_37 : decode cX7_why 37 = .ok (.irem, 1) := by decide +kernel
theorem dX7_why_38 : decode cX7_why 38 = .ok (.goto 11, 3) := by decide +kernel
theorem dX7_why_41 : decode cX7_why 41 = .ok (.aload_n 0, 1) := by decide +kernel
theorem dX7_why_42 : decode cX7_why 42 = .ok (.iload_n 1, 1) := by decide +kernel
theorem dX7_why_43 : decode cX7_why 43 = .ok (.invokevirtual 171, 3) := by decide +kernel
theorem dX7_why_46 : decode cX7_why 46 = .ok (.bipush 100, 2) := by decide +kernel
theorem dX7_why_48 : decode cX7_why 48 = .ok (.idiv, 1) := by decide +kernel
theorem dX7_why_49 : decode cX7_why 49 = .ok (.ireturn, 1) := by decide +kernel
theorem dX7_trucksOf_0 : decode cX7_trucksOf 0 = .ok (.iconst 0, 1) := by decide +kernel
theorem dX7_trucksOf_1 : decode cX7_trucksOf 1 = .ok (.istore_n 3, 1) := by decide +kernel
theorem dX7_trucksOf_2 : decode cX7_trucksOf 2 = .ok (.iconst 0, 1) := by decide +kernel
theorem dX7_trucksOf_3 : decode cX7_trucksOf 3 = .ok (.istore 4, 2) := by decide +kernel
theorem dX7_trucksOf_5 : decode cX7_trucksOf 5 = .ok (.iload 4, 2) := by decide +kernel
theorem dX7_trucksOf_7 : decode cX7_trucksOf 7 = .ok (.aload_n 0, 1) := by decide +kernel
theorem dX7_trucksOf_8 : decode cX7_trucksOf 8 = .ok (.iload_n 1, 1) := by decide +kernel
theorem dX7_trucksOf_9 : decode cX7_trucksOf 9 = .ok (.iconst 1, 1) := by decide +kernel
theorem dX7_trucksOf_10 : decode cX7_trucksOf 10 = .ok (.invokevirtual 81, 3) := by decide +kernel
theorem dX7_trucksOf_13 : decode cX7_trucksOf 13 = .ok (.if_icmp .ge 62, 3) := by decide +kernel
theorem dX7_trucksOf_16 : decode cX7_trucksOf 16 = .ok (.aload_n 0, 1) := by decide +kernel
theorem dX7_trucksOf_17 : decode cX7_trucksOf 17 = .ok (.iload_n 1, 1) := by decide +kernel
theorem dX7_trucksOf_18 : decode cX7_trucksOf 18 = .ok (.invokevirtual 144, 3) := by decide +kernel
theorem dX7_trucksOf_21 : decode cX7_trucksOf 21 = .ok (.ifCond .eq 54, 3) := by decide +kernel
theorem dX7_trucksOf_24 : decode cX7_trucksOf 24 = .ok (.aload_n 0, 1) := by decide +kernel
theorem dX7_trucksOf_25 : decode cX7_trucksOf 25 = .ok (.iload_n 1, 1) := by decide +kernel
theorem dX7_trucksOf_26 : decode cX7_trucksOf 26 = .ok (.iload 4, 2) := by decide +kernel
theorem dX7_trucksOf_28 : decode cX7_trucksOf 28 = .ok (.aload_n 0, 1) := by decide +kernel
theorem dX7_trucksOf_29 : decode cX7_trucksOf 29 = .ok (.iload_n 1, 1) := by decide +kernel
theorem dX7_trucksOf_30 : decode cX7_trucksOf 30 = .ok (.iconst 2, 1) := by decide +kernel
theorem dX7_trucksOf_31 : decode cX7_trucksOf 31 = .ok (.invokevirtual 81, 3) := by decide +kernel
theorem dX7_trucksOf_34 : decode cX7_trucksOf 34 = .ok (.invokevirtual 147, 3) := by decide +kernel
theorem dX7_trucksOf_37 : decode cX7_trucksOf 37 = .ok (.istore 5, 2) := by decide +kernel
theorem dX7_trucksOf_39 : decode cX7_trucksOf 39 = .ok (.iload_n 3, 1) := by decide +kernel
theorem dX7_trucksOf_40 : decode cX7_trucksOf 40 = .ok (.iload_n 2, 1) := by decide +kernel
theorem dX7_trucksOf_41 : decode cX7_trucksOf 41 = .ok (.ifCond .eq 13, 3) := by decide +kernel
theorem dX7_trucksOf_44 : decode cX7_trucksOf 44 = .ok (.iload 5, 2) := by decide +kernel
theorem dX7_trucksOf_46 : decode cX7_trucksOf 46 = .ok (.bipush 12, 2) := by decide +kernel
theorem dX7_trucksOf_48 : decode cX7_trucksOf 48 = .ok (.if_icmp .lt 18, 3) := by decide +kernel
theorem dX7_trucksOf_51 : decode cX7_trucksOf 51 = .ok (.goto 11, 3) := by decide +kernel
theorem dX7_trucksOf_54 : decode cX7_trucksOf 54 = .ok (.iload 5, 2) := by decide +kernel
theorem dX7_trucksOf_56 : decode cX7_trucksOf 56 = .ok (.invokestatic 101, 3) := by decide +kernel
theorem dX7_trucksOf_59 : decode cX7_trucksOf 59 = .ok (.ifCond .eq 7, 3) := by decide +kernel
theorem dX7_trucksOf_62 : decode cX7_trucksOf 62 = .ok (.iconst 1, 1) := by decide +kernel
theorem dX7_trucksOf_63 : decode cX7_trucksOf 63 = .ok (.goto 4, 3) := by decide +kernel
theorem dX7_trucksOf_66 : decode cX7_trucksOf 66 = .ok (.iconst 0, 1) := by decide +kernel
theorem dX7_trucksOf_67 : decode cX7_trucksOf 67 = .ok (.iadd, 1) := by decide +kernel
theorem dX7_trucksOf_68 : decode cX7_trucksOf 68 = .ok (.istore_n 3, 1) := by decide +kernel
theorem dX7_trucksOf_69 : decode cX7_trucksOf 69 = .ok (.iinc 4 1, 3) := by decide +kernel
theorem dX7_trucksOf_72 : decode cX7_trucksOf 72 = .ok (.goto (-67), 3) := by decide +kernel
theorem dX7_trucksOf_75 : decode cX7_trucksOf 75 = .ok (.iload_n 3, 1) := by decide +kernel
theorem dX7_trucksOf_76 : decode cX7_trucksOf 76 = .ok (.ireturn, 1) := by decide +kernel
theorem dX7_convoyOf_0 : decode cX7_convoyOf 0 = .ok (.aload_n 0, 1) := by decide +kernel
theorem dX7_convoyOf_1 : decode cX7_convoyOf 1 = .ok (.aload_n 0, 1) := by decide +kernel
theorem dX7_convoyOf_2 : decode cX7_convoyOf 2 = .ok (.iload_n 1, 1) := by decide +kernel
theorem dX7_convoyOf_3 : decode cX7_convoyOf 3 = .ok (.invokevirtual 134, 3) := by decide +kernel
theorem dX7_convoyOf_6 : decode cX7_convoyOf 6 = .ok (.ifCond .ne 7, 3) := by decide +kernel
theorem dX7_convoyOf_9 : decode cX7_convoyOf 9 = .ok (.iconst 1, 1) := by decide +kernel
theorem dX7_convoyOf_10 : decode cX7_convoyOf 10 = .ok (.goto 17, 3) := by decide +kernel
theorem dX7_convoyOf_13 : decode cX7_convoyOf 13 = .ok (.iload_n 2, 1) := by decide +kernel
theorem dX7_convoyOf_14 : decode cX7_convoyOf 14 = .ok (.iconst 0, 1) := by decide +kernel
theorem dX7_convoyOf_15 : decode cX7_convoyOf 15 = .ok (.iconst 5, 1) := by decide +kernel
theorem dX7_convoyOf_16 : decode cX7_convoyOf 16 = .ok (.invokestatic 84, 3) := by decide +kernel
theorem dX7_convoyOf_19 : decode cX7_convoyOf 19 = .ok (.ifCond .ne 7, 3) := by decide +kernel
theorem dX7_convoyOf_22 : decode cX7_convoyOf 22 = .ok (.iconst 2, 1) := by decide +kernel
theorem dX7_convoyOf_23 : decode cX7_convoyOf 23 = .ok (.goto 4, 3) := by decide +kernel
theorem dX7_convoyOf_26 : decode cX7_convoyOf 26 = .ok (.iconst 0, 1) := by decide +kernel
theorem dX7_convoyOf_27 : decode cX7_convoyOf 27 = .ok (.putfield 45, 3) := by decide +kernel
theorem dX7_convoyOf_30 : decode cX7_convoyOf 30 = .ok (.aload_n 0, 1) := by decide +kernel
theorem dX7_convoyOf_31 : decode cX7_convoyOf 31 = .ok (.getfield 45, 3) := by decide +kernel
theorem dX7_convoyOf_34 : decode cX7_convoyOf 34 = .ok (.ifCond .le 5, 3) := by decide +kernel
theorem dX7_convoyOf_37 : decode cX7_convoyOf 37 = .ok (.iconst 0, 1) := by decide +kernel
theorem dX7_convoyOf_38 : decode cX7_convoyOf 38 = .ok (.ireturn, 1) := by decide +kernel
theorem dX7_convoyOf_39 : decode cX7_convoyOf 39 = .ok (.iload_n 2, 1) := by decide +kernel
theorem dX7_convoyOf_40 : decode cX7_convoyOf 40 = .ok (.tableswitch 56 3 5 #[28, 35, 42], 28) := by decide +kernel
theorem dX7_convoyOf_68 : decode cX7_convoyOf 68 = .ok (.aload_n 0, 1) := by decide +kernel
theorem dX7_convoyOf_69 : decode cX7_convoyOf 69 = .ok (.iload_n 1, 1) := by decide +kernel
theorem dX7_convoyOf_70 : decode cX7_convoyOf 70 = .ok (.iconst 0, 1) := by decide +kernel
theorem dX7_convoyOf_71 : decode cX7_convoyOf 71 = .ok (.invokevirtual 177, 3) := by decide +kernel
theorem dX7_convoyOf_74 : decode cX7_convoyOf 74 = .ok (.ireturn, 1) := by decide +kernel
theorem dX7_convoyOf_75 : decode cX7_convoyOf 75 = .ok (.aload_n 0, 1) := by decide +kernel
theorem dX7_convoyOf_76 : decode cX7_convoyOf 76 = .ok (.iload_n 1, 1) := by decide +kernel
theorem dX7_convoyOf_77 : decode cX7_convoyOf 77 = .ok (.iconst 1, 1) := by decide +kernel
theorem dX7_convoyOf_78 : decode cX7_convoyOf 78 = .ok (.invokevirtual 177, 3) := by decide +kernel
theorem dX7_convoyOf_81 : decode cX7_convoyOf 81 = .ok (.ireturn, 1) := by decide +kernel
theorem dX7_convoyOf_82 : decode cX7_convoyOf 82 = .ok (.aload_n 0, 1) := by decide +kernel
theorem dX7_convoyOf_83 : decode cX7_convoyOf 83 = .ok (.iload_n 1, 1) := by decide +kernel
theorem dX7_convoyOf_84 : decode cX7_convoyOf 84 = .ok (.invokevirtual 168, 3) := by decide +kernel
theorem dX7_convoyOf_87 : decode cX7_convoyOf 87 = .ok (.ifCond .eq 7, 3) := by decide +kernel
theorem dX7_convoyOf_90 : decode cX7_convoyOf 90 = .ok (.iconst 1, 1) := by decide +kernel
theorem dX7_convoyOf_91 : decode cX7_convoyOf 91 = .ok (.goto 4, 3) := by decide +kernel
theorem dX7_convoyOf_94 : decode cX7_convoyOf 94 = .ok (.iconst 0, 1) := by decide +kernel
theorem dX7_convoyOf_95 : decode cX7_convoyOf 95 = .ok (.ireturn, 1) := by decide +kernel
theorem dX7_convoyOf_96 : decode cX7_convoyOf 96 = .ok (.aload_n 0, 1) := by decide +kernel
theorem dX7_convoyOf_97 : decode cX7_convoyOf 97 = .ok (.iload_n 1, 1) := by decide +kernel
theorem dX7_convoyOf_98 : decode cX7_convoyOf 98 = .ok (.iload_n 2, 1) := by decide +kernel
theorem dX7_convoyOf_99 : decode cX7_convoyOf 99 = .ok (.invokevirtual 81, 3) := by decide +kernel
theorem dX7_convoyOf_102 : decode cX7_convoyOf 102 = .ok (.ireturn, 1) := by decide +kernel
theorem dX7_isTruck_0 : decode cX7_isTruck 0 = .ok (.aload_n 0, 1) := by decide +kernel
theorem dX7_isTruck_1 : decode cX7_isTruck 1 = .ok (.iload_n 1, 1) := by decide +kernel
theorem dX7_isTruck_2 : decode cX7_isTruck 2 = .ok (.invokevirtual 134, 3) := by decide +kernel
theorem dX7_isTruck_5 : decode cX7_isTruck 5 = .ok (.ifCond .eq 23, 3) := by decide +kernel
theorem dX7_isTruck_8 : decode cX7_isTruck 8 = .ok (.iload_n 2, 1) := by decide +kernel
theorem dX7_isTruck_9 : decode cX7_isTruck 9 = .ok (.iconst 0, 1) := by decide +kernel
theorem dX7_isTruck_10 : decode cX7_isTruck 10 = .ok (.aload_n 0, 1) := by decide +kernel
theorem dX7_isTruck_11 : decode cX7_isTruck 11 = .ok (.iload_n 1, 1) := by decide +kernel
theorem dX7_isTruck_12 : decode cX7_isTruck 12 = .ok (.iconst 1, 1) := by decide +kernel
theorem dX7_isTruck_13 : decode cX7_isTruck 13 = .ok (.invokevirtual 81, 3) := by decide +kernel
theorem dX7_isTruck_16 : decode cX7_isTruck 16 = .ok (.iconst 1, 1) := by decide +kernel
theorem dX7_isTruck_17 : decode cX7_isTruck 17 = .ok (.isub, 1) := by decide +kernel
theorem dX7_isTruck_18 : decode cX7_isTruck 18 = .ok (.invokestatic 84, 3) := by decide +kernel
theorem dX7_isTruck_21 : decode cX7_isTruck 21 = .ok (.ifCond .eq 7, 3) := by decide +kernel
theorem dX7_isTruck_24 : decode cX7_isTruck 24 = .ok (.iconst 1, 1) := by decide +kernel
theorem dX7_isTruck_25 : decode cX7_isTruck 25 = .ok (.goto 4, 3) := by decide +kernel
theorem dX7_isTruck_28 : decode cX7_isTruck 28 = .ok (.iconst 0, 1) := by decide +kernel
theorem dX7_isTruck_29 : decode cX7_isTruck 29 = .ok (.ireturn, 1) := by decide +kernel
theorem dX7_truckOf_0 : decode cX7_truckOf 0 = .ok (.aload_n 0, 1) := by decide +kernel
theorem dX7_truckOf_1 : decode cX7_truckOf 1 = .ok (.aload_n 0, 1) := by decide +kernel
theorem dX7_truckOf_2 : decode cX7_truckOf 2 = .ok (.iload_n 1, 1) := by decide +kernel
theorem dX7_truckOf_3 : decode cX7_truckOf 3 = .ok (.iload_n 2, 1) := by decide +kernel
theorem dX7_truckOf_4 : decode cX7_truckOf 4 = .ok (.invokevirtual 181, 3) := by decide +kernel
theorem dX7_truckOf_7 : decode cX7_truckOf 7 = .ok (.ifCond .ne 7, 3) := by decide +kernel
theorem dX7_truckOf_10 : decode cX7_truckOf 10 = .ok (.iconst 1, 1) := by decide +kernel
theorem dX7_truckOf_11 : decode cX7_truckOf 11 = .ok (.goto 17, 3) := by decide +kernel
theorem dX7_truckOf_14 : decode cX7_truckOf 14 = .ok (.iload_n 3, 1) := by decide +kernel
theorem dX7_truckOf_15 : decode cX7_truckOf 15 = .ok (.iconst 0, 1) := by decide +kernel
theorem dX7_truckOf_16 : decode cX7_truckOf 16 = .ok (.iconst 3, 1) := by decide +kernel
theorem dX7_truckOf_17 : decode cX7_truckOf 17 = .ok (.invokestatic 84, 3) := by decide +kernel
theorem dX7_truckOf_20 : decode cX7_truckOf 20 = .ok (.ifCond .ne 7, 3) := by decide +kernel
theorem dX7_truckOf_23 : decode cX7_truckOf 23 = .ok (.iconst 2, 1) := by decide +kernel
theorem dX7_truckOf_24 : decode cX7_truckOf 24 = .ok (.goto 4, 3) := by decide +kernel
theorem dX7_truckOf_27 : decode cX7_truckOf 27 = .ok (.iconst 0, 1) := by decide +kernel
theorem dX7_truckOf_28 : decode cX7_truckOf 28 = .ok (.putfield 45, 3) := by decide +kernel
theorem dX7_truckOf_31 : decode cX7_truckOf 31 = .ok (.aload_n 0, 1) := by decide +kernel
theorem dX7_truckOf_32 : decode cX7_truckOf 32 = .ok (.getfield 45, 3) := by decide +kernel
theorem dX7_truckOf_35 : decode cX7_truckOf 35 = .ok (.ifCond .le 5, 3) := by decide +kernel
theorem dX7_truckOf_38 : decode cX7_truckOf 38 = .ok (.iconst 0, 1) := by decide +kernel
theorem dX7_truckOf_39 : decode cX7_truckOf 39 = .ok (.ireturn, 1) := by decide +kernel
theorem dX7_truckOf_40 : decode cX7_truckOf 40 = .ok (.iload_n 3, 1) := by decide +kernel
theorem dX7_truckOf_41 : decode cX7_truckOf 41 = .ok (.iconst 3, 1) := by decide +kernel
theorem dX7_truckOf_42 : decode cX7_truckOf 42 = .ok (.if_icmp .ge 13, 3) := by decide +kernel
theorem dX7_truckOf_45 : decode cX7_truckOf 45 = .ok (.aload_n 0, 1) := by decide +kernel
theorem dX7_truckOf_46 : decode cX7_truckOf 46 = .ok (.iload_n 1, 1) := by decide +kernel
theorem dX7_truckOf_47 : decode cX7_truckOf 47 = .ok (.iload_n 2, 1) := by decide +kernel
theorem dX7_truckOf_48 : decode cX7_truckOf 48 = .ok (.iload_n 3, 1) := by decide +kernel
theorem dX7_truckOf_49 : decode cX7_truckOf 49 = .ok (.invokevirtual 140, 3) := by decide +kernel
theorem dX7_truckOf_52 : decode cX7_truckOf 52 = .ok (.goto 27, 3) := by decide +kernel
theorem dX7_truckOf_55 : decode cX7_truckOf 55 = .ok (.aload_n 0, 1) := by decide +kernel
theorem dX7_truckOf_56 : decode cX7_truckOf 56 = .ok (.iload_n 1, 1) := by decide +kernel
theorem dX7_truckOf_57 : decode cX7_truckOf 57 = .ok (.invokevirtual 144, 3) := by decide +kernel
theorem dX7_truckOf_60 : decode cX7_truckOf 60 = .ok (.ifCond .eq 18, 3) := by decide +kernel
theorem dX7_truckOf_63 : decode cX7_truckOf 63 = .ok (.aload_n 0, 1) := by decide +kernel
theorem dX7_truckOf_64 : decode cX7_truckOf 64 = .ok (.iload_n 1, 1) := by decide +kernel
theorem dX7_truckOf_65 : decode cX7_truckOf 65 = .ok (.iload_n 2, 1) := by decide +kernel
theorem dX7_truckOf_66 : decode cX7_truckOf 66 = .ok (.aload_n 0, 1) := by decide +kernel
theorem dX7_truckOf_67 : decode cX7_truckOf 67 = .ok (.iload_n 1, 1) := by decide +kernel
theorem dX7_truckOf_68 : decode cX7_truckOf 68 = .ok (.iconst 2, 1) := by decide +kernel
theorem dX7_truckOf_69 : decode cX7_truckOf 69 = .ok (.invokevirtual 81, 3) := by decide +kernel
theorem dX7_truckOf_72 : decode cX7_truckOf 72 = .ok (.invokevirtual 147, 3) := by decide +kernel
theorem dX7_truckOf_75 : decode cX7_truckOf 75 = .ok (.goto 4, 3) := by decide +kernel
theorem dX7_truckOf_78 : decode cX7_truckOf 78 = .ok (.iconst (-1), 1) := by decide +kernel
theorem dX7_truckOf_79 : decode cX7_truckOf 79 = .ok (.ireturn, 1) := by decide +kernel
theorem dX7_load_0 : decode cX7_load 0 = .ok (.aload_n 0, 1) := by decide +kernel
theorem dX7_load_1 : decode cX7_load 1 = .ok (.aload_n 0, 1) := by decide +kernel
theorem dX7_load_2 : decode cX7_load 2 = .ok (.iload_n 1, 1) := by decide +kernel
theorem dX7_load_3 : decode cX7_load 3 = .ok (.iload_n 2, 1) := by decide +kernel
theorem dX7_load_4 : decode cX7_load 4 = .ok (.invokevirtual 181, 3) := by decide +kernel
theorem dX7_load_7 : decode cX7_load 7 = .ok (.ifCond .eq 7, 3) := by decide +kernel
theorem dX7_load_10 : decode cX7_load 10 = .ok (.iconst 0, 1) := by decide +kernel
theorem dX7_load_11 : decode cX7_load 11 = .ok (.goto 4, 3) := by decide +kernel
theorem dX7_load_14 : decode cX7_load 14 = .ok (.iconst 1, 1) := by decide +kernel
theorem dX7_load_15 : decode cX7_load 15 = .ok (.putfield 45, 3) := by decide +kernel
theorem dX7_load_18 : decode cX7_load 18 = .ok (.aload_n 0, 1) := by decide +kernel
theorem dX7_load_19 : decode cX7_load 19 = .ok (.getfield 45, 3) := by decide +kernel
theorem dX7_load_22 : decode cX7_load 22 = .ok (.ifCond .le 7, 3) := by decide +kernel
theorem dX7_load_25 : decode cX7_load 25 = .ok (.fconst 0, 1) := by decide +kernel
theorem dX7_load_26 : decode cX7_load 26 = .ok (.goto 9, 3) := by decide +kernel
theorem dX7_load_29 : decode cX7_load 29 = .ok (.aload_n 0, 1) := by decide +kernel
theorem dX7_load_30 : decode cX7_load 30 = .ok (.iload_n 1, 1) := by decide +kernel
theorem dX7_load_31 : decode cX7_load 31 = .ok (.iload_n 2, 1) := by decide +kernel
theorem dX7_load_32 : decode cX7_load 32 = .ok (.invokevirtual 150, 3) := by decide +kernel
theorem dX7_load_35 : decode cX7_load 35 = .ok (.freturn, 1) := by decide +kernel
theorem dX7_at_0 : decode cX7_at 0 = .ok (.aload_n 0, 1) := by decide +kernel
theorem dX7_at_1 : decode cX7_at 1 = .ok (.iload_n 1, 1) := by decide +kernel
theorem dX7_at_2 : decode cX7_at 2 = .ok (.invokestatic 101, 3) := by decide +kernel
theorem dX7_at_5 : decode cX7_at 5 = .ok (.ifCond .ne 7, 3) := by decide +kernel
theorem dX7_at_8 : decode cX7_at 8 = .ok (.iconst 1, 1) := by decide +kernel
theorem dX7_at_9 : decode cX7_at 9 = .ok (.goto 17, 3) := by decide +kernel
theorem dX7_at_12 : decode cX7_at 12 = .ok (.aload_n 0, 1) := by decide +kernel
theorem dX7_at_13 : decode cX7_at 13 = .ok (.iload_n 1, 1) := by decide +kernel
theorem dX7_at_14 : decode cX7_at 14 = .ok (.iconst (-1), 1) := by decide +kernel
theorem dX7_at_15 : decode cX7_at 15 = .ok (.invokevirtual 120, 3) := by decide +kernel
theorem dX7_at_18 : decode cX7_at 18 = .ok (.ifCond .ge 7, 3) := by decide +kernel
theorem dX7_at_21 : decode cX7_at 21 = .ok (.iconst 2, 1) := by decide +kernel
theorem dX7_at_22 : decode cX7_at 22 = .ok (.goto 4, 3) := by decide +kernel
theorem dX7_at_25 : decode cX7_at 25 = .ok (.iconst 0, 1) := by decide +kernel
theorem dX7_at_26 : decode cX7_at 26 = .ok (.putfield 45, 3) := by decide +kernel
theorem dX7_at_29 : decode cX7_at 29 = .ok (.aload_n 0, 1) := by decide +kernel
theorem dX7_at_30 : decode cX7_at 30 = .ok (.getfield 45, 3) := by decide +kernel
theorem dX7_at_33 : decode cX7_at 33 = .ok (.ifCond .le 7, 3) := by decide +kernel
theorem dX7_at_36 : decode cX7_at 36 = .ok (.iconst 0, 1) := by decide +kernel
theorem dX7_at_37 : decode cX7_at 37 = .ok (.goto 9, 3) := by decide +kernel
theorem dX7_at_40 : decode cX7_at 40 = .ok (.aload_n 0, 1) := by decide +kernel
theorem dX7_at_41 : decode cX7_at 41 = .ok (.iload_n 1, 1) := by decide +kernel
theorem dX7_at_42 : decode cX7_at 42 = .ok (.iconst (-1), 1) := by decide +kernel
theorem dX7_at_43 : decode cX7_at 43 = .ok (.invokevirtual 120, 3) := by decide +kernel
theorem dX7_at_46 : decode cX7_at 46 = .ok (.ireturn, 1) := by decide +kernel
theorem dX7_rolls_0 : decode cX7_rolls 0 = .ok (.aload_n 0, 1) := by decide +kernel
theorem dX7_rolls_1 : decode cX7_rolls 1 = .ok (.aload_n 0, 1) := by decide +kernel
theorem dX7_rolls_2 : decode cX7_rolls 2 = .ok (.iload_n 1, 1) := by decide +kernel
theorem dX7_rolls_3 : decode cX7_rolls 3 = .ok (.invokevirtual 134, 3) := by decide +kernel
theorem dX7_rolls_6 : decode cX7_rolls 6 = .ok (.ifCond .eq 7, 3) := by decide +kernel
theorem dX7_rolls_9 : decode cX7_rolls 9 = .ok (.iconst 0, 1) := by decide +kernel
theorem dX7_rolls_10 : decode cX7_rolls 10 = .ok (.goto 4, 3) := by decide +kernel
theorem dX7_rolls_13 : decode cX7_rolls 13 = .ok (.iconst 1, 1) := by decide +kernel
theorem dX7_rolls_14 : decode cX7_rolls 14 = .ok (.putfield 45, 3) := by decide +kernel
theorem dX7_rolls_17 : decode cX7_rolls 17 = .ok (.aload_n 0, 1) := by decide +kernel
theorem dX7_rolls_18 : decode cX7_rolls 18 = .ok (.getfield 45, 3) := by decide +kernel
theorem dX7_rolls_21 : decode cX7_rolls 21 = .ok (.ifCond .le 5, 3) := by decide +kernel
theorem dX7_rolls_24 : decode cX7_rolls 24 = .ok (.iconst 0, 1) := by decide +kernel
theorem dX7_rolls_25 : decode cX7_rolls 25 = .ok (.ireturn, 1) := by decide +kernel
theorem dX7_rolls_26 : decode cX7_rolls 26 = .ok (.aload_n 0, 1) := by decide +kernel
theorem dX7_rolls_27 : decode cX7_rolls 27 = .ok (.getfield 9, 3) := by decide +kernel
theorem dX7_rolls_30 : decode cX7_rolls 30 = .ok (.iconst 0, 1) := by decide +kernel
theorem dX7_rolls_31 : decode cX7_rolls 31 = .ok (.aload_n 0, 1) := by decide +kernel
theorem dX7_rolls_32 : decode cX7_rolls 32 = .ok (.getfield 16, 3) := by decide +kernel
theorem dX7_rolls_35 : decode cX7_rolls 35 = .ok (.iconst 0, 1) := by decide +kernel
theorem dX7_rolls_36 : decode cX7_rolls 36 = .ok (.sipush 164, 3) := by decide +kernel
theorem dX7_rolls_39 : decode cX7_rolls 39 = .ok (.invokestatic 48, 3) := by decide +kernel
theorem dX7_rolls_42 : decode cX7_rolls 42 = .ok (.iconst 0, 1) := by decide +kernel
theorem dX7_rolls_43 : decode cX7_rolls 43 = .ok (.istore_n 2, 1) := by decide +kernel
theorem dX7_rolls_44 : decode cX7_rolls 44 = .ok (.aload_n 0, 1) := by decide +kernel
theorem dX7_rolls_45 : decode cX7_rolls 45 = .ok (.iload_n 1, 1) := by decide +kernel
theorem dX7_rolls_46 : decode cX7_rolls 46 = .ok (.invokevirtual 171, 3) := by decide +kernel
theorem dX7_rolls_49 : decode cX7_rolls 49 = .ok (.ifCond .ne 23, 3) := by decide +kernel
theorem dX7_rolls_52 : decode cX7_rolls 52 = .ok (.aload_n 0, 1) := by decide +kernel
theorem dX7_rolls_53 : decode cX7_rolls 53 = .ok (.iload_n 1, 1) := by decide +kernel
theorem dX7_rolls_54 : decode cX7_rolls 54 = .ok (.aload_n 0, 1) := by decide +kernel
theorem dX7_rolls_55 : decode cX7_rolls 55 = .ok (.iload_n 1, 1) := by decide +kernel
theorem dX7_rolls_56 : decode cX7_rolls 56 = .ok (.iconst 2, 1) := by decide +kernel
theorem dX7_rolls_57 : decode cX7_rolls 57 = .ok (.invokevirtual 81, 3) := by decide +kernel
theorem dX7_rolls_60 : decode cX7_rolls 60 = .ok (.iconst 1, 1) := by decide +kernel
theorem dX7_rolls_61 : decode cX7_rolls 61 = .ok (.iadd, 1) := by decide +kernel
theorem dX7_rolls_62 : decode cX7_rolls 62 = .ok (.invokevirtual 162, 3) := by decide +kernel
theorem dX7_rolls_65 : decode cX7_rolls 65 = .ok (.istore_n 3, 1) := by decide +kernel
theorem dX7_rolls_66 : decode cX7_rolls 66 = .ok (.iinc 2 1, 3) := by decide +kernel
theorem dX7_rolls_69 : decode cX7_rolls 69 = .ok (.goto (-25), 3) := by decide +kernel
theorem dX7_rolls_72 : decode cX7_rolls 72 = .ok (.aload_n 0, 1) := by decide +kernel
theorem dX7_rolls_73 : decode cX7_rolls 73 = .ok (.getfield 16, 3) := by decide +kernel
theorem dX7_rolls_76 : decode cX7_rolls 76 = .ok (.iconst 0, 1) := by decide +kernel
theorem dX7_rolls_77 : decode cX7_rolls 77 = .ok (.aload_n 0, 1) := by decide +kernel
theorem dX7_rolls_78 : decode cX7_rolls 78 = .ok (.getfield 9, 3) := by decide +kernel
theorem dX7_rolls_81 : decode cX7_rolls 81 = .ok (.iconst 0, 1) := by decide +kernel
theorem dX7_rolls_82 : decode cX7_rolls 82 = .ok (.sipush 164, 3) := by decide +kernel
theorem dX7_rolls_85 : decode cX7_rolls 85 = .ok (.invokestatic 48, 3) := by decide +kernel
theorem dX7_rolls_88 : decode cX7_rolls 88 = .ok (.iload_n 2, 1) := by decide +kernel
theorem dX7_rolls_89 : decode cX7_rolls 89 = .ok (.ireturn, 1) := by decide +kernel
theorem dX7_rollsAgain_0 : decode cX7_rollsAgain 0 = .ok (.aload_n 0, 1) := by decide +kernel
theorem dX7_rollsAgain_1 : decode cX7_rollsAgain 1 = .ok (.iload_n 1, 1) := by decide +kernel
theorem dX7_rollsAgain_2 : decode cX7_rollsAgain 2 = .ok (.invokevirtual 184, 3) := by decide +kernel
theorem dX7_rollsAgain_5 : decode cX7_rollsAgain 5 = .ok (.ireturn, 1) := by decide +kernel
theorem dX7_iceBehind_0 : decode cX7_iceBehind 0 = .ok (.aload_n 0, 1) := by decide +kernel
theorem dX7_iceBehind_1 : decode cX7_iceBehind 1 = .ok (.getfield 9, 3) := by decide +kernel
theorem dX7_iceBehind_4 : decode cX7_iceBehind 4 = .ok (.iconst 5, 1) := by decide +kernel
theorem dX7_iceBehind_5 : decode cX7_iceBehind 5 = .ok (.iaload, 1) := by decide +kernel
theorem dX7_iceBehind_6 : decode cX7_iceBehind 6 = .ok (.invokestatic 187, 3) := by decide +kernel
theorem dX7_iceBehind_9 : decode cX7_iceBehind 9 = .ok (.i2f, 1) := by decide +kernel
theorem dX7_iceBehind_10 : decode cX7_iceBehind 10 = .ok (.fstore_n 2, 1) := by decide +kernel
theorem dX7_iceBehind_11 : decode cX7_iceBehind 11 = .ok (.aload_n 0, 1) := by decide +kernel
theorem dX7_iceBehind_12 : decode cX7_iceBehind 12 = .ok (.getfield 9, 3) := by decide +kernel
theorem dX7_iceBehind_15 : decode cX7_iceBehind 15 = .ok (.iconst 5, 1) := by decide +kernel
theorem dX7_iceBehind_16 : decode cX7_iceBehind 16 = .ok (.iaload, 1) := by decide +kernel
theorem dX7_iceBehind_17 : decode cX7_iceBehind 17 = .ok (.ifCond .ge 17, 3) := by decide +kernel
theorem dX7_iceBehind_20 : decode cX7_iceBehind 20 = .ok (.fload_n 1, 1) := by decide +kernel
theorem dX7_iceBehind_21 : decode cX7_iceBehind 21 = .ok (.fload_n 2, 1) := by decide +kernel
theorem dX7_iceBehind_22 : decode cX7_iceBehind 22 = .ok (.ldc 190, 2) := by decide +kernel
theorem dX7_iceBehind_24 : decode cX7_iceBehind 24 = .ok (.fmul, 1) := by decide +kernel
theorem dX7_iceBehind_25 : decode cX7_iceBehind 25 = .ok (.fload_n 1, 1) := by decide +kernel
theorem dX7_iceBehind_26 : decode cX7_iceBehind 26 = .ok (.ldc 191, 2) := by decide +kernel
theorem dX7_iceBehind_28 : decode cX7_iceBehind 28 = .ok (.fadd, 1) := by decide +kernel
theorem dX7_iceBehind_29 : decode cX7_iceBehind 29 = .ok (.fdiv, 1) := by decide +kernel
theorem dX7_iceBehind_30 : decode cX7_iceBehind 30 = .ok (.fadd, 1) := by decide +kernel
theorem dX7_iceBehind_31 : decode cX7_iceBehind 31 = .ok (.goto 9, 3) := by decide +kernel
theorem dX7_iceBehind_34 : decode cX7_iceBehind 34 = .ok (.fload_n 1, 1) := by decide +kernel
theorem dX7_iceBehind_35 : decode cX7_iceBehind 35 = .ok (.ldc 192, 2) := by decide +kernel
theorem dX7_iceBehind_37 : decode cX7_iceBehind 37 = .ok (.fload_n 2, 1) := by decide +kernel
theorem dX7_iceBehind_38 : decode cX7_iceBehind 38 = .ok (.fmul, 1) := by decide +kernel
theorem dX7_iceBehind_39 : decode cX7_iceBehind 39 = .ok (.fsub, 1) := by decide +kernel
theorem dX7_iceBehind_40 : decode cX7_iceBehind 40 = .ok (.fstore_n 3, 1) := by decide +kernel
theorem dX7_iceBehind_41 : decode cX7_iceBehind 41 = .ok (.fload_n 3, 1) := by decide +kernel
theorem dX7_iceBehind_42 : decode cX7_iceBehind 42 = .ok (.fconst 0, 1) := by decide +kernel
theorem dX7_iceBehind_43 : decode cX7_iceBehind 43 = .ok (.fcmp .g, 1) := by decide +kernel
theorem dX7_iceBehind_44 : decode cX7_iceBehind 44 = .ok (.ifCond .ge 7, 3) := by decide +kernel
theorem dX7_iceBehind_47 : decode cX7_iceBehind 47 = .ok (.fconst 0, 1) := by decide +kernel
theorem dX7_iceBehind_48 : decode cX7_iceBehind 48 = .ok (.goto 16, 3) := by decide +kernel
theorem dX7_iceBehind_51 : decode cX7_iceBehind 51 = .ok (.fload_n 3, 1) := by decide +kernel
theorem dX7_iceBehind_52 : decode cX7_iceBehind 52 = .ok (.ldc 193, 2) := by decide +kernel
theorem dX7_iceBehind_54 : decode cX7_iceBehind 54 = .ok (.fcmp .l, 1) := by decide +kernel
theorem dX7_iceBehind_55 : decode cX7_iceBehind 55 = .ok (.ifCond .le 8, 3) := by decide +kernel
theorem dX7_iceBehind_58 : decode cX7_iceBehind 58 = .ok (.ldc 193, 2) := by decide +kernel
theorem dX7_iceBehind_60 : decode cX7_iceBehind 60 = .ok (.goto 4, 3) := by decide +kernel
theorem dX7_iceBehind_63 : decode cX7_iceBehind 63 = .ok (.fload_n 3, 1) := by decide +kernel
theorem dX7_iceBehind_64 : decode cX7_iceBehind 64 = .ok (.freturn, 1) := by decide +kernel
theorem dX7_iceIn_0 : decode cX7_iceIn 0 = .ok (.aload_n 0, 1) := by decide +kernel
theorem dX7_iceIn_1 : decode cX7_iceIn 1 = .ok (.iload_n 1, 1) := by decide +kernel
theorem dX7_iceIn_2 : decode cX7_iceIn 2 = .ok (.invokestatic 101, 3) := by decide +kernel
theorem dX7_iceIn_5 : decode cX7_iceIn 5 = .ok (.ifCond .ne 7, 3) := by decide +kernel
theorem dX7_iceIn_8 : decode cX7_iceIn 8 = .ok (.iconst 1, 1) := by decide +kernel
theorem dX7_iceIn_9 : decode cX7_iceIn 9 = .ok (.goto 18, 3) := by decide +kernel
theorem dX7_iceIn_12 : decode cX7_iceIn 12 = .ok (.iload_n 2, 1) := by decide +kernel
theorem dX7_iceIn_13 : decode cX7_iceIn 13 = .ok (.iconst 0, 1) := by decide +kernel
theorem dX7_iceIn_14 : decode cX7_iceIn 14 = .ok (.bipush 60, 2) := by decide +kernel
theorem dX7_iceIn_16 : decode cX7_iceIn 16 = .ok (.invokestatic 84, 3) := by decide +kernel
theorem dX7_iceIn_19 : decode cX7_iceIn 19 = .ok (.ifCond .ne 7, 3) := by decide +kernel
theorem dX7_iceIn_22 : decode cX7_iceIn 22 = .ok (.iconst 2, 1) := by decide +kernel
theorem dX7_iceIn_23 : decode cX7_iceIn 23 = .ok (.goto 4, 3) := by decide +kernel
theorem dX7_iceIn_26 : decode cX7_iceIn 26 = .ok (.iconst 0, 1) := by decide +kernel
theorem dX7_iceIn_27 : decode cX7_iceIn 27 = .ok (.putfield 45, 3) := by decide +kernel
theorem dX7_iceIn_30 : decode cX7_iceIn 30 = .ok (.aload_n 0, 1) := by decide +kernel
theorem dX7_iceIn_31 : decode cX7_iceIn 31 = .ok (.getfield 45, 3) := by decide +kernel
theorem dX7_iceIn_34 : decode cX7_iceIn 34 = .ok (.ifCond .le 5, 3) := by decide +kernel
theorem dX7_iceIn_37 : decode cX7_iceIn 37 = .ok (.iconst 0, 1) := by decide +kernel
theorem dX7_iceIn_38 : decode cX7_iceIn 38 = .ok (.ireturn, 1) := by decide +kernel
theorem dX7_iceIn_39 : decode cX7_iceIn 39 = .ok (.aload_n 0, 1) := by decide +kernel
theorem dX7_iceIn_40 : decode cX7_iceIn 40 = .ok (.iload_n 1, 1) := by decide +kernel
theorem dX7_iceIn_41 : decode cX7_iceIn 41 = .ok (.invokevirtual 114, 3) := by decide +kernel
theorem dX7_iceIn_44 : decode cX7_iceIn 44 = .ok (.fstore_n 3, 1) := by decide +kernel
theorem dX7_iceIn_45 : decode cX7_iceIn 45 = .ok (.iconst 0, 1) := by decide +kernel
theorem dX7_iceIn_46 : decode cX7_iceIn 46 = .ok (.istore 4, 2) := by decide +kernel
theorem dX7_iceIn_48 : decode cX7_iceIn 48 = .ok (.iload 4, 2) := by decide +kernel
theorem dX7_iceIn_50 : decode cX7_iceIn 50 = .ok (.iload_n 2, 1) := by decide +kernel
theorem dX7_iceIn_51 : decode cX7_iceIn 51 = .ok (.if_icmp .ge 15, 3) := by decide +kernel
theorem dX7_iceIn_54 : decode cX7_iceIn 54 = .ok (.aload_n 0, 1) := by decide +kernel
theorem dX7_iceIn_55 : decode cX7_iceIn 55 = .ok (.fload_n 3, 1) := by decide +kernel
theorem dX7_iceIn_56 : decode cX7_iceIn 56 = .ok (.invokevirtual 194, 3) := by decide +kernel
theorem dX7_iceIn_59 : decode cX7_iceIn 59 = .ok (.fstore_n 3, 1) := by decide +kernel
theorem dX7_iceIn_60 : decode cX7_iceIn 60 = .ok (.iinc 4 1, 3) := by decide +kernel
theorem dX7_iceIn_63 : decode cX7_iceIn 63 = .ok (.goto (-15), 3) := by decide +kernel
theorem dX7_iceIn_66 : decode cX7_iceIn 66 = .ok (.fload_n 3, 1) := by decide +kernel
theorem dX7_iceIn_67 : decode cX7_iceIn 67 = .ok (.invokestatic 77, 3) := by decide +kernel
theorem dX7_iceIn_70 : decode cX7_iceIn 70 = .ok (.ireturn, 1) := by decide +kernel
theorem dX7_bearsIn_0 : decode cX7_bearsIn 0 = .ok (.aload_n 0, 1) := by decide +kernel
theorem dX7_bearsIn_1 : decode cX7_bearsIn 1 = .ok (.iload_n 1, 1) := by decide +kernel
theorem dX7_bearsIn_2 : decode cX7_bearsIn 2 = .ok (.invokestatic 101, 3) := by decide +kernel
theorem dX7_bearsIn_5 : decode cX7_bearsIn 5 = .ok (.ifCond .ne 7, 3) := by decide +kernel
theorem dX7_bearsIn_8 : decode cX7_bearsIn 8 = .ok (.iconst 1, 1) := by decide +kernel
theorem dX7_bearsIn_9 : decode cX7_bearsIn 9 = .ok (.goto 18, 3) := by decide +kernel
theorem dX7_bearsIn_12 : decode cX7_bearsIn 12 = .ok (.iload_n 2, 1) := by decide +kernel
theorem dX7_bearsIn_13 : decode cX7_bearsIn 13 = .ok (.iconst 1, 1) := by decide +kernel
theorem dX7_bearsIn_14 : decode cX7_bearsIn 14 = .ok (.bipush 99, 2) := by decide +kernel
theorem dX7_bearsIn_16 : decode cX7_bearsIn 16 = .ok (.invokestatic 84, 3) := by decide +kernel
theorem dX7_bearsIn_19 : decode cX7_bearsIn 19 = .ok (.ifCond .ne 7, 3) := by decide +kernel
theorem dX7_bearsIn_22 : decode cX7_bearsIn 22 = .ok (.iconst 2, 1) := by decide +kernel
theorem dX7_bearsIn_23 : decode cX7_bearsIn 23 = .ok (.goto 4, 3) := by decide +kernel
theorem dX7_bearsIn_26 : decode cX7_bearsIn 26 = .ok (.iconst 0, 1) := by decide +kernel
theorem dX7_bearsIn_27 : decode cX7_bearsIn 27 = .ok (.putfield 45, 3) := by decide +kernel
theorem dX7_bearsIn_30 : decode cX7_bearsIn 30 = .ok (.aload_n 0, 1) := by decide +kernel
theorem dX7_bearsIn_31 : decode cX7_bearsIn 31 = .ok (.getfield 45, 3) := by decide +kernel
theorem dX7_bearsIn_34 : decode cX7_bearsIn 34 = .ok (.ifCond .le 5, 3) := by decide +kernel
theorem dX7_bearsIn_37 : decode cX7_bearsIn 37 = .ok (.iconst 0, 1) := by decide +kernel
theorem dX7_bearsIn_38 : decode cX7_bearsIn 38 = .ok (.ireturn, 1) := by decide +kernel
theorem dX7_bearsIn_39 : decode cX7_bearsIn 39 = .ok (.aload_n 0, 1) := by decide +kernel
theorem dX7_bearsIn_40 : decode cX7_bearsIn 40 = .ok (.iload_n 1, 1) := by decide +kernel
theorem dX7_bearsIn_41 : decode cX7_bearsIn 41 = .ok (.invokevirtual 114, 3) := by decide +kernel
theorem dX7_bearsIn_44 : decode cX7_bearsIn 44 = .ok (.fstore_n 3, 1) := by decide +kernel
theorem dX7_bearsIn_45 : decode cX7_bearsIn 45 = .ok (.iconst 0, 1) := by decide +kernel
theorem dX7_bearsIn_46 : decode cX7_bearsIn 46 = .ok (.istore 4, 2) := by decide +kernel
theorem dX7_bearsIn_48 : decode cX7_bearsIn 48 = .ok (.iload 4, 2) := by decide +kernel
theorem dX7_bearsIn_50 : decode cX7_bearsIn 50 = .ok (.bipush 90, 2) := by decide +kernel
theorem dX7_bearsIn_52 : decode cX7_bearsIn 52 = .ok (.if_icmp .gt 27, 3) := by decide +kernel
theorem dX7_bearsIn_55 : decode cX7_bearsIn 55 = .ok (.fload_n 3, 1) := by decide +kernel
theorem dX7_bearsIn_56 : decode cX7_bearsIn 56 = .ok (.fload_n 3, 1) := by decide +kernel
theorem dX7_bearsIn_57 : decode cX7_bearsIn 57 = .ok (.fmul, 1) := by decide +kernel
theorem dX7_bearsIn_58 : decode cX7_bearsIn 58 = .ok (.ldc 113, 2) := by decide +kernel
theorem dX7_bearsIn_60 : decode cX7_bearsIn 60 = .ok (.fmul, 1) := by decide +kernel
theorem dX7_bearsIn_61 : decode cX7_bearsIn 61 = .ok (.iload_n 2, 1) := by decide +kernel
theorem dX7_bearsIn_62 : decode cX7_bearsIn 62 = .ok (.i2f, 1) := by decide +kernel
theorem dX7_bearsIn_63 : decode cX7_bearsIn 63 = .ok (.fcmp .g, 1) := by decide +kernel
theorem dX7_bearsIn_64 : decode cX7_bearsIn 64 = .ok (.ifCond .ge 15, 3) := by decide +kernel
theorem dX7_bearsIn_67 : decode cX7_bearsIn 67 = .ok (.aload_n 0, 1) := by decide +kernel
theorem dX7_bearsIn_68 : decode cX7_bearsIn 68 = .ok (.fload_n 3, 1) := by decide +kernel
theorem dX7_bearsIn_69 : decode cX7_bearsIn 69 = .ok (.invokevirtual 194, 3) := by decide +kernel
theorem dX7_bearsIn_72 : decode cX7_bearsIn 72 = .ok (.fstore_n 3, 1) := by decide +kernel
theorem dX7_bearsIn_73 : decode cX7_bearsIn 73 = .ok (.iinc 4 1, 3) := by decide +kernel
theorem dX7_bearsIn_76 : decode cX7_bearsIn 76 = .ok (.goto (-28), 3) := by decide +kernel
theorem dX7_bearsIn_79 : decode cX7_bearsIn 79 = .ok (.iload 4, 2) := by decide +kernel
theorem dX7_bearsIn_81 : decode cX7_bearsIn 81 = .ok (.bipush 90, 2) := by decide +kernel
theorem dX7_bearsIn_83 : decode cX7_bearsIn 83 = .ok (.if_icmp .le 11, 3) := by decide +kernel
theorem dX7_bearsIn_86 : decode cX7_bearsIn 86 = .ok (.aload_n 0, 1) := by decide +kernel
theorem dX7_bearsIn_87 : decode cX7_bearsIn 87 = .ok (.iconst 3, 1) := by decide +kernel
theorem dX7_bearsIn_88 : decode cX7_bearsIn 88 = .ok (.invokevirtual 88, 3) := by decide +kernel
theorem dX7_bearsIn_91 : decode cX7_bearsIn 91 = .ok (.goto 5, 3) := by decide +kernel
theorem dX7_bearsIn_94 : decode cX7_bearsIn 94 = .ok (.iload 4, 2) := by decide +kernel
theorem dX7_bearsIn_96 : decode cX7_bearsIn 96 = .ok (.ireturn, 1) := by decide +kernel
theorem dX7_goodMany_0 : decode cX7_goodMany 0 = .ok (.iconst 0, 1) := by decide +kernel
theorem dX7_goodMany_1 : decode cX7_goodMany 1 = .ok (.istore_n 1, 1) := by decide +kernel
theorem dX7_goodMany_2 : decode cX7_goodMany 2 = .ok (.iconst 0, 1) := by decide +kernel
theorem dX7_goodMany_3 : decode cX7_goodMany 3 = .ok (.istore_n 2, 1) := by decide +kernel
theorem dX7_goodMany_4 : decode cX7_goodMany 4 = .ok (.iload_n 2, 1) := by decide +kernel
theorem dX7_goodMany_5 : decode cX7_goodMany 5 = .ok (.bipush 12, 2) := by decide +kernel
theorem dX7_goodMany_7 : decode cX7_goodMany 7 = .ok (.if_icmp .ge 25, 3) := by decide +kernel
theorem dX7_goodMany_10 : decode cX7_goodMany 10 = .ok (.iload_n 1, 1) := by decide +kernel
theorem dX7_goodMany_11 : decode cX7_goodMany 11 = .ok (.aload_n 0, 1) := by decide +kernel
theorem dX7_goodMany_12 : decode cX7_goodMany 12 = .ok (.iload_n 2, 1) := by decide +kernel
theorem dX7_goodMany_13 : decode cX7_goodMany 13 = .ok (.invokevirtual 108, 3) := by decide +kernel
theorem dX7_goodMany_16 : decode cX7_goodMany 16 = .ok (.ifCond .eq 7, 3) := by decide +kernel
theorem dX7_goodMany_19 : decode cX7_goodMany 19 = .ok (.iconst 1, 1) := by decide +kernel
theorem dX7_goodMany_20 : decode cX7_goodMany 20 = .ok (.goto 4, 3) := by decide +kernel
theorem dX7_goodMany_23 : decode cX7_goodMany 23 = .ok (.iconst 0, 1) := by decide +kernel
theorem dX7_goodMany_24 : decode cX7_goodMany 24 = .ok (.iadd, 1) := by decide +kernel
theorem dX7_goodMany_25 : decode cX7_goodMany 25 = .ok (.istore_n 1, 1) := by decide +kernel
theorem dX7_goodMany_26 : decode cX7_goodMany 26 = .ok (.iinc 2 1, 3) := by decide +kernel
theorem dX7_goodMany_29 : decode cX7_goodMany 29 = .ok (.goto (-25), 3) := by decide +kernel
theorem dX7_goodMany_32 : decode cX7_goodMany 32 = .ok (.iload_n 1, 1) := by decide +kernel
theorem dX7_goodMany_33 : decode cX7_goodMany 33 = .ok (.ireturn, 1) := by decide +kernel
theorem dX7_goDay_0 : decode cX7_goDay 0 = .ok (.iconst 0, 1) := by decide +kernel
theorem dX7_goDay_1 : decode cX7_goDay 1 = .ok (.istore_n 1, 1) := by decide +kernel
theorem dX7_goDay_2 : decode cX7_goDay 2 = .ok (.iload_n 1, 1) := by decide +kernel
theorem dX7_goDay_3 : decode cX7_goDay 3 = .ok (.bipush 12, 2) := by decide +kernel
theorem dX7_goDay_5 : decode cX7_goDay 5 = .ok (.if_icmp .ge 61, 3) := by decide +kernel
theorem dX7_goDay_8 : decode cX7_goDay 8 = .ok (.aload_n 0, 1) := by decide +kernel
theorem dX7_goDay_9 : decode cX7_goDay 9 = .ok (.iload_n 1, 1) := by decide +kernel
theorem dX7_goDay_10 : decode cX7_goDay 10 = .ok (.aload_n 0, 1) := by decide +kernel
theorem dX7_goDay_11 : decode cX7_goDay 11 = .ok (.aload_n 0, 1) := by decide +kernel
theorem dX7_goDay_12 : decode cX7_goDay 12 = .ok (.iload_n 1, 1) := by decide +kernel
theorem dX7_goDay_13 : decode cX7_goDay 13 = .ok (.invokevirtual 114, 3) := by decide +kernel
theorem dX7_goDay_16 : decode cX7_goDay 16 = .ok (.invokevirtual 194, 3) := by decide +kernel
theorem dX7_goDay_19 : decode cX7_goDay 19 = .ok (.invokevirtual 37, 3) := by decide +kernel
theorem dX7_goDay_22 : decode cX7_goDay 22 = .ok (.aload_n 0, 1) := by decide +kernel
theorem dX7_goDay_23 : decode cX7_goDay 23 = .ok (.iload_n 1, 1) := by decide +kernel
theorem dX7_goDay_24 : decode cX7_goDay 24 = .ok (.iconst 1, 1) := by decide +kernel
theorem dX7_goDay_25 : decode cX7_goDay 25 = .ok (.aload_n 0, 1) := by decide +kernel
theorem dX7_goDay_26 : decode cX7_goDay 26 = .ok (.getfield 9, 3) := by decide +kernel
theorem dX7_goDay_29 : decode cX7_goDay 29 = .ok (.iconst 5, 1) := by decide +kernel
theorem dX7_goDay_30 : decode cX7_goDay 30 = .ok (.iaload, 1) := by decide +kernel
theorem dX7_goDay_31 : decode cX7_goDay 31 = .ok (.bipush (-20), 2) := by decide +kernel
theorem dX7_goDay_33 : decode cX7_goDay 33 = .ok (.if_icmp .ge 18, 3) := by decide +kernel
theorem dX7_goDay_36 : decode cX7_goDay 36 = .ok (.iconst 0, 1) := by decide +kernel
theorem dX7_goDay_37 : decode cX7_goDay 37 = .ok (.aload_n 0, 1) := by decide +kernel
theorem dX7_goDay_38 : decode cX7_goDay 38 = .ok (.iload_n 1, 1) := by decide +kernel
theorem dX7_goDay_39 : decode cX7_goDay 39 = .ok (.iconst 1, 1) := by decide +kernel
theorem dX7_goDay_40 : decode cX7_goDay 40 = .ok (.invokevirtual 67, 3) := by decide +kernel
theorem dX7_goDay_43 : decode cX7_goDay 43 = .ok (.iconst 1, 1) := by decide +kernel
theorem dX7_goDay_44 : decode cX7_goDay 44 = .ok (.isub, 1) := by decide +kernel
theorem dX7_goDay_45 : decode cX7_goDay 45 = .ok (.invokestatic 198, 3) := by decide +kernel
theorem dX7_goDay_48 : decode cX7_goDay 48 = .ok (.goto 9, 3) := by decide +kernel
theorem dX7_goDay_51 : decode cX7_goDay 51 = .ok (.aload_n 0, 1) := by decide +kernel
theorem dX7_goDay_52 : decode cX7_goDay 52 = .ok (.iload_n 1, 1) := by decide +kernel
theorem dX7_goDay_53 : decode cX7_goDay 53 = .ok (.iconst 1, 1) := by decide +kernel
theorem dX7_goDay_54 : decode cX7_goDay 54 = .ok (.invokevirtual 67, 3) := by decide +kernel
theorem dX7_goDay_57 : decode cX7_goDay 57 = .ok (.invokevirtual 41, 3) := by decide +kernel
theorem dX7_goDay_60 : decode cX7_goDay 60 = .ok (.iinc 1 1, 3) := by decide +kernel
theorem dX7_goDay_63 : decode cX7_goDay 63 = .ok (.goto (-61), 3) := by decide +kernel
theorem dX7_goDay_66 : decode cX7_goDay 66 = .ok (.aload_n 0, 1) := by decide +kernel
theorem dX7_goDay_67 : decode cX7_goDay 67 = .ok (.getfield 9, 3) := by decide +kernel
theorem dX7_goDay_70 : decode cX7_goDay 70 = .ok (.iconst 0, 1) := by decide +kernel
theorem dX7_goDay_71 : decode cX7_goDay 71 = .ok (.dup2, 1) := by decide +kernel
theorem dX7_goDay_72 : decode cX7_goDay 72 = .ok (.iaload, 1) := by decide +kernel
theorem dX7_goDay_73 : decode cX7_goDay 73 = .ok (.iconst 1, 1) := by decide +kernel
theorem dX7_goDay_74 : decode cX7_goDay 74 = .ok (.iadd, 1) := by decide +kernel
theorem dX7_goDay_75 : decode cX7_goDay 75 = .ok (.iastore, 1) := by decide +kernel
theorem dX7_goDay_76 : decode cX7_goDay 76 = .ok (.return_, 1) := by decide +kernel
theorem dX7_doPass_0 : decode cX7_doPass 0 = .ok (.iload_n 1, 1) := by decide +kernel
theorem dX7_doPass_1 : decode cX7_doPass 1 = .ok (.iconst 1, 1) := by decide +kernel
theorem dX7_doPass_2 : decode cX7_doPass 2 = .ok (.bipush 30, 2) := by decide +kernel
theorem dX7_doPass_4 : decode cX7_doPass 4 = .ok (.invokestatic 84, 3) := by decide +kernel
theorem dX7_doPass_7 : decode cX7_doPass 7 = .ok (.ifCond .ne 9, 3) := by decide +kernel
theorem dX7_doPass_10 : decode cX7_doPass 10 = .ok (.aload_n 0, 1) := by decide +kernel
theorem dX7_doPass_11 : decode cX7_doPass 11 = .ok (.iconst 1, 1) := by decide +kernel
theorem dX7_doPass_12 : decode cX7_doPass 12 = .ok (.invokevirtual 88, 3) := by decide +kernel
theorem dX7_doPass_15 : decode cX7_doPass 15 = .ok (.ireturn, 1) := by decide +kernel
theorem dX7_doPass_16 : decode cX7_doPass 16 = .ok (.aload_n 0, 1) := by decide +kernel
theorem dX7_doPass_17 : decode cX7_doPass 17 = .ok (.invokevirtual 201, 3) := by decide +kernel
theorem dX7_doPass_20 : decode cX7_doPass 20 = .ok (.istore_n 2, 1) := by decide +kernel
theorem dX7_doPass_21 : decode cX7_doPass 21 = .ok (.iconst 0, 1) := by decide +kernel
theorem dX7_doPass_22 : decode cX7_doPass 22 = .ok (.istore_n 3, 1) := by decide +kernel
theorem dX7_doPass_23 : decode cX7_doPass 23 = .ok (.iload_n 3, 1) := by decide +kernel
theorem dX7_doPass_24 : decode cX7_doPass 24 = .ok (.iload_n 1, 1) := by decide +kernel
theorem dX7_doPass_25 : decode cX7_doPass 25 = .ok (.if_icmp .ge 13, 3) := by decide +kernel
theorem dX7_doPass_28 : decode cX7_doPass 28 = .ok (.aload_n 0, 1) := by decide +kernel
theorem dX7_doPass_29 : decode cX7_doPass 29 = .ok (.invokevirtual 205, 3) := by decide +kernel
theorem dX7_doPass_32 : decode cX7_doPass 32 = .ok (.iinc 3 1, 3) := by decide +kernel
theorem dX7_doPass_35 : decode cX7_doPass 35 = .ok (.goto (-12), 3) := by decide +kernel
theorem dX7_doPass_38 : decode cX7_doPass 38 = .ok (.iload_n 2, 1) := by decide +kernel
theorem dX7_doPass_39 : decode cX7_doPass 39 = .ok (.aload_n 0, 1) := by decide +kernel
theorem dX7_doPass_40 : decode cX7_doPass 40 = .ok (.invokevirtual 201, 3) := by decide +kernel
theorem dX7_doPass_43 : decode cX7_doPass 43 = .ok (.isub, 1) := by decide +kernel
theorem dX7_doPass_44 : decode cX7_doPass 44 = .ok (.ireturn, 1) := by decide +kernel
theorem dX7_pass_0 : decode cX7_pass 0 = .ok (.aload_n 0, 1) := by decide +kernel
theorem dX7_pass_1 : decode cX7_pass 1 = .ok (.invokevirtual 92, 3) := by decide +kernel
theorem dX7_pass_4 : decode cX7_pass 4 = .ok (.aload_n 0, 1) := by decide +kernel
theorem dX7_pass_5 : decode cX7_pass 5 = .ok (.aload_n 0, 1) := by decide +kernel
theorem dX7_pass_6 : decode cX7_pass 6 = .ok (.iload_n 1, 1) := by decide +kernel
theorem dX7_pass_7 : decode cX7_pass 7 = .ok (.invokevirtual 208, 3) := by decide +kernel
theorem dX7_pass_10 : decode cX7_pass 10 = .ok (.invokevirtual 98, 3) := by decide +kernel
theorem dX7_pass_13 : decode cX7_pass 13 = .ok (.ireturn, 1) := by decide +kernel
theorem dX7_append_0 : decode cX7_append 0 = .ok (.aload_n 0, 1) := by decide +kernel
theorem dX7_append_1 : decode cX7_append 1 = .ok (.aload_n 0, 1) := by decide +kernel
theorem dX7_append_2 : decode cX7_append 2 = .ok (.getfield 211, 3) := by decide +kernel
theorem dX7_append_5 : decode cX7_append 5 = .ok (.bipush 60, 2) := by decide +kernel
theorem dX7_append_7 : decode cX7_append 7 = .ok (.if_icmp .ne 7, 3) := by decide +kernel
theorem dX7_append_10 : decode cX7_append 10 = .ok (.iconst 1, 1) := by decide +kernel
theorem dX7_append_11 : decode cX7_append 11 = .ok (.goto 4, 3) := by decide +kernel
theorem dX7_append_14 : decode cX7_append 14 = .ok (.iconst 0, 1) := by decide +kernel
theorem dX7_append_15 : decode cX7_append 15 = .ok (.putfield 45, 3) := by decide +kernel
theorem dX7_append_18 : decode cX7_append 18 = .ok (.aload_n 0, 1) := by decide +kernel
theorem dX7_append_19 : decode cX7_append 19 = .ok (.getfield 45, 3) := by decide +kernel
theorem dX7_append_22 : decode cX7_append 22 = .ok (.ifCond .le 5, 3) := by decide +kernel
theorem dX7_append_25 : decode cX7_append 25 = .ok (.iconst 0, 1) := by decide +kernel
theorem dX7_append_26 : decode cX7_append 26 = .ok (.ireturn, 1) := by decide +kernel
theorem dX7_append_27 : decode cX7_append 27 = .ok (.aload_n 0, 1) := by decide +kernel
theorem dX7_append_28 : decode cX7_append 28 = .ok (.getfield 25, 3) := by decide +kernel
theorem dX7_append_31 : decode cX7_append 31 = .ok (.aload_n 0, 1) := by decide +kernel
theorem dX7_append_32 : decode cX7_append 32 = .ok (.getfield 211, 3) := by decide +kernel
theorem dX7_append_35 : decode cX7_append 35 = .ok (.iload_n 1, 1) := by decide +kernel
theorem dX7_append_36 : decode cX7_append 36 = .ok (.castore, 1) := by decide +kernel
theorem dX7_append_37 : decode cX7_append 37 = .ok (.aload_n 0, 1) := by decide +kernel
theorem dX7_append_38 : decode cX7_append 38 = .ok (.dup, 1) := by decide +kernel
theorem dX7_append_39 : decode cX7_append 39 = .ok (.getfield 211, 3) := by decide +kernel
theorem dX7_append_42 : decode cX7_append 42 = .ok (.iconst 1, 1) := by decide +kernel
theorem dX7_append_43 : decode cX7_append 43 = .ok (.iadd, 1) := by decide +kernel
theorem dX7_append_44 : decode cX7_append 44 = .ok (.putfield 211, 3) := by decide +kernel
theorem dX7_append_47 : decode cX7_append 47 = .ok (.aload_n 0, 1) := by decide +kernel
theorem dX7_append_48 : decode cX7_append 48 = .ok (.getfield 211, 3) := by decide +kernel
theorem dX7_append_51 : decode cX7_append 51 = .ok (.ireturn, 1) := by decide +kernel
theorem dX7_isHere_0 : decode cX7_isHere 0 = .ok (.aload_n 0, 1) := by decide +kernel
theorem dX7_isHere_1 : decode cX7_isHere 1 = .ok (.getfield 214, 3) := by decide +kernel
theorem dX7_isHere_4 : decode cX7_isHere 4 = .ok (.ifCond .ne 35, 3) := by decide +kernel
theorem dX7_isHere_7 : decode cX7_isHere 7 = .ok (.aload_n 0, 1) := by decide +kernel
theorem dX7_isHere_8 : decode cX7_isHere 8 = .ok (.getfield 217, 3) := by decide +kernel
theorem dX7_isHere_11 : decode cX7_isHere 11 = .ok (.aload_n 0, 1) := by decide +kernel
theorem dX7_isHere_12 : decode cX7_isHere 12 = .ok (.getfield 211, 3) := by decide +kernel
theorem dX7_isHere_15 : decode cX7_isHere 15 = .ok (.if_icmp .ge 24, 3) := by decide +kernel
theorem dX7_isHere_18 : decode cX7_isHere 18 = .ok (.aload_n 0, 1) := by decide +kernel
theorem dX7_isHere_19 : decode cX7_isHere 19 = .ok (.getfield 25, 3) := by decide +kernel
theorem dX7_isHere_22 : decode cX7_isHere 22 = .ok (.aload_n 0, 1) := by decide +kernel
theorem dX7_isHere_23 : decode cX7_isHere 23 = .ok (.getfield 217, 3) := by decide +kernel
theorem dX7_isHere_26 : decode cX7_isHere 26 = .ok (.caload, 1) := by decide +kernel
theorem dX7_isHere_27 : decode cX7_isHere 27 = .ok (.iload_n 1, 1) := by decide +kernel
theorem dX7_isHere_28 : decode cX7_isHere 28 = .ok (.iload_n 2, 1) := by decide +kernel
theorem dX7_isHere_29 : decode cX7_isHere 29 = .ok (.invokestatic 84, 3) := by decide +kernel
theorem dX7_isHere_32 : decode cX7_isHere 32 = .ok (.ifCond .eq 7, 3) := by decide +kernel
theorem dX7_isHere_35 : decode cX7_isHere 35 = .ok (.iconst 1, 1) := by decide +kernel
theorem dX7_isHere_36 : decode cX7_isHere 36 = .ok (.goto 4, 3) := by decide +kernel
theorem dX7_isHere_39 : decode cX7_isHere 39 = .ok (.iconst 0, 1) := by decide +kernel
theorem dX7_isHere_40 : decode cX7_isHere 40 = .ok (.ireturn, 1) := by decide +kernel
theorem dX7_sign1_0 : decode cX7_sign1 0 = .ok (.aload_n 0, 1) := by decide +kernel
theorem dX7_sign1_1 : decode cX7_sign1 1 = .ok (.aload_n 0, 1) := by decide +kernel
theorem dX7_sign1_2 : decode cX7_sign1 2 = .ok (.iload_n 1, 1) := by decide +kernel
theorem dX7_sign1_3 : decode cX7_sign1 3 = .ok (.iload_n 2, 1) := by decide +kernel
theorem dX7_sign1_4 : decode cX7_sign1 4 = .ok (.invokevirtual 220, 3) := by decide +kernel
theorem dX7_sign1_7 : decode cX7_sign1 7 = .ok (.ifCond .ne 7, 3) := by decide +kernel
theorem dX7_sign1_10 : decode cX7_sign1 10 = .ok (.iconst 1, 1) := by decide +kernel
theorem dX7_sign1_11 : decode cX7_sign1 11 = .ok (.goto 4, 3) := by decide +kernel
theorem dX7_sign1_14 : decode cX7_sign1 14 = .ok (.iconst 0, 1) := by decide +kernel
theorem dX7_sign1_15 : decode cX7_sign1 15 = .ok (.putfield 214, 3) := by decide +kernel
theorem dX7_sign1_18 : decode cX7_sign1 18 = .ok (.aload_n 0, 1) := by decide +kernel
theorem dX7_sign1_19 : decode cX7_sign1 19 = .ok (.getfield 214, 3) := by decide +kernel
theorem dX7_sign1_22 : decode cX7_sign1 22 = .ok (.ifCond .eq 5, 3) := by decide +kernel
theorem dX7_sign1_25 : decode cX7_sign1 25 = .ok (.iconst 0, 1) := by decide +kernel
theorem dX7_sign1_26 : decode cX7_sign1 26 = .ok (.ireturn, 1) := by decide +kernel
theorem dX7_sign1_27 : decode cX7_sign1 27 = .ok (.aload_n 0, 1) := by decide +kernel
theorem dX7_sign1_28 : decode cX7_sign1 28 = .ok (.dup, 1) := by decide +kernel
theorem dX7_sign1_29 : decode cX7_sign1 29 = .ok (.getfield 217, 3) := by decide +kernel
theorem dX7_sign1_32 : decode cX7_sign1 32 = .ok (.iconst 1, 1) := by decide +kernel
theorem dX7_sign1_33 : decode cX7_sign1 33 = .ok (.iadd, 1) := by decide +kernel
theorem dX7_sign1_34 : decode cX7_sign1 34 = .ok (.putfield 217, 3) := by decide +kernel
theorem dX7_sign1_37 : decode cX7_sign1 37 = .ok (.aload_n 0, 1) := by decide +kernel
theorem dX7_sign1_38 : decode cX7_sign1 38 = .ok (.getfield 25, 3) := by decide +kernel
theorem dX7_sign1_41 : decode cX7_sign1 41 = .ok (.aload_n 0, 1) := by decide +kernel
theorem dX7_sign1_42 : decode cX7_sign1 42 = .ok (.getfield 217, 3) := by decide +kernel
theorem dX7_sign1_45 : decode cX7_sign1 45 = .ok (.iconst 1, 1) := by decide +kernel
theorem dX7_sign1_46 : decode cX7_sign1 46 = .ok (.isub, 1) := by decide +kernel
theorem dX7_sign1_47 : decode cX7_sign1 47 = .ok (.caload, 1) := by decide +kernel
theorem dX7_sign1_48 : decode cX7_sign1 48 = .ok (.iload_n 1, 1) := by decide +kernel
theorem dX7_sign1_49 : decode cX7_sign1 49 = .ok (.isub, 1) := by decide +kernel
theorem dX7_sign1_50 : decode cX7_sign1 50 = .ok (.ireturn, 1) := by decide +kernel
theorem dX7_digit_0 : decode cX7_digit 0 = .ok (.aload_n 0, 1) := by decide +kernel
theorem dX7_digit_1 : decode cX7_digit 1 = .ok (.bipush 48, 2) := by decide +kernel
theorem dX7_digit_3 : decode cX7_digit 3 = .ok (.bipush 57, 2) := by decide +kernel
theorem dX7_digit_5 : decode cX7_digit 5 = .ok (.invokevirtual 224, 3) := by decide +kernel
theorem dX7_digit_8 : decode cX7_digit 8 = .ok (.ireturn, 1) := by decide +kernel
theorem dX7_number_0 : decode cX7_number 0 = .ok (.aload_n 0, 1) := by decide +kernel
theorem dX7_number_1 : decode cX7_number 1 = .ok (.invokevirtual 228, 3) := by decide +kernel
theorem dX7_number_4 : decode cX7_number 4 = .ok (.istore_n 1, 1) := by decide +kernel
theorem dX7_number_5 : decode cX7_number 5 = .ok (.aload_n 0, 1) := by decide +kernel
theorem dX7_number_6 : decode cX7_number 6 = .ok (.bipush 48, 2) := by decide +kernel
theorem dX7_number_8 : decode cX7_number 8 = .ok (.bipush 57, 2) := by decide +kernel
theorem dX7_number_10 : decode cX7_number 10 = .ok (.invokevirtual 220, 3) := by decide +kernel
theorem dX7_number_13 : decode cX7_number 13 = .ok (.ifCond .eq 15, 3) := by decide +kernel
theorem dX7_number_16 : decode cX7_number 16 = .ok (.bipush 10, 2) := by decide +kernel
theorem dX7_number_18 : decode cX7_number 18 = .ok (.iload_n 1, 1) := by decide +kernel
theorem dX7_number_19 : decode cX7_number 19 = .ok (.imul, 1) := by decide +kernel
theorem dX7_number_20 : decode cX7_number 20 = .ok (.aload_n 0, 1) := by decide +kernel
theorem dX7_number_21 : decode cX7_number 21 = .ok (.invokevirtual 228, 3) := by decide +kernel
theorem dX7_number_24 : decode cX7_number 24 = .ok (.iadd, 1) := by decide +kernel
theorem dX7_number_25 : decode cX7_number 25 = .ok (.goto 4, 3) := by decide +kernel
theorem dX7_number_28 : decode cX7_number 28 = .ok (.iload_n 1, 1) := by decide +kernel
theorem dX7_number_29 : decode cX7_number 29 = .ok (.ireturn, 1) := by decide +kernel
theorem dX7_digitBehind_0 : decode cX7_digitBehind 0 = .ok (.aload_n 0, 1) := by decide +kernel
theorem dX7_digitBehind_1 : decode cX7_digitBehind 1 = .ok (.iload_n 1, 1) := by decide +kernel
theorem dX7_digitBehind_2 : decode cX7_digitBehind 2 = .ok (.iload_n 1, 1) := by decide +kernel
theorem dX7_digitBehind_3 : decode cX7_digitBehind 3 = .ok (.invokevirtual 224, 3) := by decide +kernel
theorem dX7_digitBehind_6 : decode cX7_digitBehind 6 = .ok (.istore_n 2, 1) := by decide +kernel
theorem dX7_digitBehind_7 : decode cX7_digitBehind 7 = .ok (.aload_n 0, 1) := by decide +kernel
theorem dX7_digitBehind_8 : decode cX7_digitBehind 8 = .ok (.invokevirtual 228, 3) := by decide +kernel
theorem dX7_digitBehind_11 : decode cX7_digitBehind 11 = .ok (.ireturn, 1) := by decide +kernel
theorem dX7_signed_0 : decode cX7_signed 0 = .ok (.aload_n 0, 1) := by decide +kernel
theorem dX7_signed_1 : decode cX7_signed 1 = .ok (.bipush 45, 2) := by decide +kernel
theorem dX7_signed_3 : decode cX7_signed 3 = .ok (.bipush 45, 2) := by decide +kernel
theorem dX7_signed_5 : decode cX7_signed 5 = .ok (.invokevirtual 220, 3) := by decide +kernel
theorem dX7_signed_8 : decode cX7_signed 8 = .ok (.istore_n 1, 1) := by decide +kernel
theorem dX7_signed_9 : decode cX7_signed 9 = .ok (.aload_n 0, 1) := by decide +kernel
theorem dX7_signed_10 : decode cX7_signed 10 = .ok (.dup, 1) := by decide +kernel
theorem dX7_signed_11 : decode cX7_signed 11 = .ok (.getfield 217, 3) := by decide +kernel
theorem dX7_signed_14 : decode cX7_signed 14 = .ok (.iload_n 1, 1) := by decide +kernel
theorem dX7_signed_15 : decode cX7_signed 15 = .ok (.ifCond .eq 7, 3) := by decide +kernel
theorem dX7_signed_18 : decode cX7_signed 18 = .ok (.iconst 1, 1) := by decide +kernel
theorem dX7_signed_19 : decode cX7_signed 19 = .ok (.goto 4, 3) := by decide +kernel
theorem dX7_signed_22 : decode cX7_signed 22 = .ok (.iconst 0, 1) := by decide +kernel
theorem dX7_signed_23 : decode cX7_signed 23 = .ok (.iadd, 1) := by decide +kernel
theorem dX7_signed_24 : decode cX7_signed 24 = .ok (.putfield 217, 3) := by decide +kernel
theorem dX7_signed_27 : decode cX7_signed 27 = .ok (.aload_n 0, 1) := by decide +kernel
theorem dX7_signed_28 : decode cX7_signed 28 = .ok (.invokevirtual 231, 3) := by decide +kernel
theorem dX7_signed_31 : decode cX7_signed 31 = .ok (.istore_n 2, 1) := by decide +kernel
theorem dX7_signed_32 : decode cX7_signed 32 = .ok (.iload_n 1, 1) := by decide +kernel
theorem dX7_signed_33 : decode cX7_signed 33 = .ok (.ifCond .eq 8, 3) := by decide +kernel
theorem dX7_signed_36 : decode cX7_signed 36 = .ok (.iload_n 2, 1) := by decide +kernel
theorem dX7_signed_37 : decode cX7_signed 37 = .ok (.ineg, 1) := by decide +kernel
theorem dX7_signed_38 : decode cX7_signed 38 = .ok (.goto 4, 3) := by decide +kernel
theorem dX7_signed_41 : decode cX7_signed 41 = .ok (.iload_n 2, 1) := by decide +kernel
theorem dX7_signed_42 : decode cX7_signed 42 = .ok (.ireturn, 1) := by decide +kernel
theorem dX7_readOrder_0 : decode cX7_readOrder 0 = .ok (.iconst 4, 1) := by decide +kernel
theorem dX7_readOrder_1 : decode cX7_readOrder 1 = .ok (.aload_n 0, 1) := by decide +kernel
theorem dX7_readOrder_2 : decode cX7_readOrder 2 = .ok (.getfield 234, 3) := by decide +kernel
theorem dX7_readOrder_5 : decode cX7_readOrder 5 = .ok (.imul, 1) := by decide +kernel
theorem dX7_readOrder_6 : decode cX7_readOrder 6 = .ok (.istore_n 1, 1) := by decide +kernel
theorem dX7_readOrder_7 : decode cX7_readOrder 7 = .ok (.aload_n 0, 1) := by decide +kernel
theorem dX7_readOrder_8 : decode cX7_readOrder 8 = .ok (.getfield 214, 3) := by decide +kernel
theorem dX7_readOrder_11 : decode cX7_readOrder 11 = .ok (.ifCond .ne 14, 3) := by decide +kernel
theorem dX7_readOrder_14 : decode cX7_readOrder 14 = .ok (.aload_n 0, 1) := by decide +kernel
theorem dX7_readOrder_15 : decode cX7_readOrder 15 = .ok (.getfield 217, 3) := by decide +kernel
theorem dX7_readOrder_18 : decode cX7_readOrder 18 = .ok (.aload_n 0, 1) := by decide +kernel
theorem dX7_readOrder_19 : decode cX7_readOrder 19 = .ok (.getfield 211, 3) := by decide +kernel
theorem dX7_readOrder_22 : decode cX7_readOrder 22 = .ok (.if_icmp .ne 8, 3) := by decide +kernel
theorem dX7_readOrder_25 : decode cX7_readOrder 25 = .ok (.bipush 32, 2) := by decide +kernel
theorem dX7_readOrder_27 : decode cX7_readOrder 27 = .ok (.goto 12, 3) := by decide +kernel
theorem dX7_readOrder_30 : decode cX7_readOrder 30 = .ok (.aload_n 0, 1) := by decide +kernel
theorem dX7_readOrder_31 : decode cX7_readOrder 31 = .ok (.getfield 25, 3) := by decide +kernel
theorem dX7_readOrder_34 : decode cX7_readOrder 34 = .ok (.aload_n 0, 1) := by decide +kernel
theorem dX7_readOrder_35 : decode cX7_readOrder 35 = .ok (.getfield 217, 3) := by decide +kernel
theorem dX7_readOrder_38 : decode cX7_readOrder 38 = .ok (.caload, 1) := by decide +kernel
theorem dX7_readOrder_39 : decode cX7_readOrder 39 = .ok (.istore_n 2, 1) := by decide +kernel
theorem dX7_readOrder_40 : decode cX7_readOrder 40 = .ok (.aload_n 0, 1) := by decide +kernel
theorem dX7_readOrder_41 : decode cX7_readOrder 41 = .ok (.ldc 237, 2) := by decide +kernel
theorem dX7_readOrder_43 : decode cX7_readOrder 43 = .ok (.iload_n 2, 1) := by decide +kernel
theorem dX7_readOrder_44 : decode cX7_readOrder 44 = .ok (.invokevirtual 239, 3) := by decide +kernel
theorem dX7_readOrder_47 : decode cX7_readOrder 47 = .ok (.ifCond .ge 7, 3) := by decide +kernel
theorem dX7_readOrder_50 : decode cX7_readOrder 50 = .ok (.iconst 1, 1) := by decide +kernel
theorem dX7_readOrder_51 : decode cX7_readOrder 51 = .ok (.goto 4, 3) := by decide +kernel
theorem dX7_readOrder_54 : decode cX7_readOrder 54 = .ok (.iconst 0, 1) := by decide +kernel
theorem dX7_readOrder_55 : decode cX7_readOrder 55 = .ok (.putfield 214, 3) := by decide +kernel
theorem dX7_readOrder_58 : decode cX7_readOrder 58 = .ok (.aload_n 0, 1) := by decide +kernel
theorem dX7_readOrder_59 : decode cX7_readOrder 59 = .ok (.getfield 214, 3) := by decide +kernel
theorem dX7_readOrder_62 : decode cX7_readOrder 62 = .ok (.ifCond .eq 4, 3) := by decide +kernel
theorem dX7_readOrder_65 : decode cX7_readOrder 65 = .ok (.return_, 1) := by decide +kernel
theorem dX7_readOrder_66 : decode cX7_readOrder 66 = .ok (.aload_n 0, 1) := by decide +kernel
theorem dX7_readOrder_67 : decode cX7_readOrder 67 = .ok (.dup, 1) := by decide +kernel
theorem dX7_readOrder_68 : decode cX7_readOrder 68 = .ok (.getfield 217, 3) := by decide +kernel
theorem dX7_readOrder_71 : decode cX7_readOrder 71 = .ok (.iconst 1, 1) := by decide +kernel
theorem dX7_readOrder_72 : decode cX7_readOrder 72 = .ok (.iadd, 1) := by decide +kernel
theorem dX7_readOrder_73 : decode cX7_readOrder 73 = .ok (.putfield 217, 3) := by decide +kernel
theorem dX7_readOrder_76 : decode cX7_readOrder 76 = .ok (.aload_n 0, 1) := by decide +kernel
theorem dX7_readOrder_77 : decode cX7_readOrder 77 = .ok (.getfield 33, 3) := by decide +kernel
theorem dX7_readOrder_80 : decode cX7_readOrder 80 = .ok (.iload_n 1, 1) := by decide +kernel
theorem dX7_readOrder_81 : decode cX7_readOrder 81 = .ok (.iload_n 2, 1) := by decide +kernel
theorem dX7_readOrder_82 : decode cX7_readOrder 82 = .ok (.iastore, 1) := by decide +kernel
theorem dX7_readOrder_83 : decode cX7_readOrder 83 = .ok (.aload_n 0, 1) := by decide +kernel
theorem dX7_readOrder_84 : decode cX7_readOrder 84 = .ok (.getfield 33, 3) := by decide +kernel
theorem dX7_readOrder_87 : decode cX7_readOrder 87 = .ok (.iload_n 1, 1) := by decide +kernel
theorem dX7_readOrder_88 : decode cX7_readOrder 88 = .ok (.iconst 1, 1) := by decide +kernel
theorem dX7_readOrder_89 : decode cX7_readOrder 89 = .ok (.iadd, 1) := by decide +kernel
theorem dX7_readOrder_90 : decode cX7_readOrder 90 = .ok (.iload_n 2, 1) := by decide +kernel
theorem dX7_readOrder_91 : decode cX7_readOrder 91 = .ok (.bipush 116, 2) := by decide +kernel
theorem dX7_readOrder_93 : decode cX7_readOrder 93 = .ok (.if_icmp .ne 10, 3) := by decide +kernel
theorem dX7_readOrder_96 : decode cX7_readOrder 96 = .ok (.aload_n 0, 1) := by decide +kernel
theorem dX7_readOrder_97 : decode cX7_readOrder 97 = .ok (.invokevirtual 244, 3) := by decide +kernel
theorem dX7_readOrder_100 : decode cX7_readOrder 100 = .ok (.goto 26, 3) := by decide +kernel
theorem dX7_readOrder_103 : decode cX7_readOrder 103 = .ok (.iload_n 2, 1) := by decide +kernel
theorem dX7_readOrder_104 : decode cX7_readOrder 104 = .ok (.bipush 100, 2) := by decide +kernel
theorem dX7_readOrder_106 : decode cX7_readOrder 106 = .ok (.if_icmp .eq 9, 3) := by decide +kernel
theorem dX7_readOrder_109 : decode cX7_readOrder 109 = .ok (.iload_n 2, 1) := by decide +kernel
theorem dX7_readOrder_110 : decode cX7_readOrder 110 = .ok (.bipush 112, 2) := by decide +kernel
theorem dX7_readOrder_112 : decode cX7_readOrder 112 = .ok (.if_icmp .ne 10, 3) := by decide +kernel
theorem dX7_readOrder_115 : decode cX7_readOrder 115 = .ok (.aload_n 0, 1) := by decide +kernel
theorem dX7_readOrder_116 : decode cX7_readOrder 116 = .ok (.invokevirtual 231, 3) := by decide +kernel
theorem dX7_readOrder_119 : decode cX7_readOrder 119 = .ok (.goto 7, 3) := by decide +kernel
theorem dX7_readOrder_122 : decode cX7_readOrder 122 = .ok (.aload_n 0, 1) := by decide +kernel
theorem dX7_readOrder_123 : decode cX7_readOrder 123 = .ok (.invokevirtual 228, 3) := by decide +kernel
theorem dX7_readOrder_126 : decode cX7_readOrder 126 = .ok (.iastore, 1) := by decide +kernel
theorem dX7_readOrder_127 : decode cX7_readOrder 127 = .ok (.aload_n 0, 1) := by decide +kernel
theorem dX7_readOrder_128 : decode cX7_readOrder 128 = .ok (.getfield 33, 3) := by decide +kernel
theorem dX7_readOrder_131 : decode cX7_readOrder 131 = .ok (.iload_n 1, 1) := by decide +kernel
theorem dX7_readOrder_132 : decode cX7_readOrder 132 = .ok (.iconst 2, 1) := by decide +kernel
theorem dX7_readOrder_133 : decode cX7_readOrder 133 = .ok (.iadd, 1) := by decide +kernel
theorem dX7_readOrder_134 : decode cX7_readOrder 134 = .ok (.iload_n 2, 1) := by decide +kernel
theorem dX7_readOrder_135 : decode cX7_readOrder 135 = .ok (.bipush 106, 2) := by decide +kernel
theorem dX7_readOrder_137 : decode cX7_readOrder 137 = .ok (.if_icmp .ne 12, 3) := by decide +kernel
theorem dX7_readOrder_140 : decode cX7_readOrder 140 = .ok (.aload_n 0, 1) := by decide +kernel
theorem dX7_readOrder_141 : decode cX7_readOrder 141 = .ok (.bipush 58, 2) := by decide +kernel
theorem dX7_readOrder_143 : decode cX7_readOrder 143 = .ok (.invokevirtual 247, 3) := by decide +kernel
theorem dX7_readOrder_146 : decode cX7_readOrder 146 = .ok (.goto 4, 3) := by decide +kernel
theorem dX7_readOrder_149 : decode cX7_readOrder 149 = .ok (.iconst 0, 1) := by decide +kernel
theorem dX7_readOrder_150 : decode cX7_readOrder 150 = .ok (.iastore, 1) := by decide +kernel
theorem dX7_readOrder_151 : decode cX7_readOrder 151 = .ok (.aload_n 0, 1) := by decide +kernel
theorem dX7_readOrder_152 : decode cX7_readOrder 152 = .ok (.getfield 33, 3) := by decide +kernel
theorem dX7_readOrder_155 : decode cX7_readOrder 155 = .ok (.iload_n 1, 1) := by decide +kernel
theorem dX7_readOrder_156 : decode cX7_readOrder 156 = .ok (.iconst 3, 1) := by decide +kernel
theorem dX7_readOrder_157 : decode cX7_readOrder 157 = .ok (.iadd, 1) := by decide +kernel
theorem dX7_readOrder_158 : decode cX7_readOrder 158 = .ok (.iload_n 2, 1) := by decide +kernel
theorem dX7_readOrder_159 : decode cX7_readOrder 159 = .ok (.bipush 106, 2) := by decide +kernel
theorem dX7_readOrder_161 : decode cX7_readOrder 161 = .ok (.if_icmp .ne 12, 3) := by decide +kernel
theorem dX7_readOrder_164 : decode cX7_readOrder 164 = .ok (.aload_n 0, 1) := by decide +kernel
theorem dX7_readOrder_165 : decode cX7_readOrder 165 = .ok (.bipush 46, 2) := by decide +kernel
theorem dX7_readOrder_167 : decode cX7_readOrder 167 = .ok (.invokevirtual 247, 3) := by decide +kernel
theorem dX7_readOrder_170 : decode cX7_readOrder 170 = .ok (.goto 4, 3) := by decide +kernel
theorem dX7_readOrder_173 : decode cX7_readOrder 173 = .ok (.iconst 0, 1) := by decide +kernel
theorem dX7_readOrder_174 : decode cX7_readOrder 174 = .ok (.iastore, 1) := by decide +kernel
theorem dX7_readOrder_175 : decode cX7_readOrder 175 = .ok (.aload_n 0, 1) := by decide +kernel
theorem dX7_readOrder_176 : decode cX7_readOrder 176 = .ok (.dup, 1) := by decide +kernel
theorem dX7_readOrder_177 : decode cX7_readOrder 177 = .ok (.getfield 234, 3) := by decide +kernel
theorem dX7_readOrder_180 : decode cX7_readOrder 180 = .ok (.iconst 1, 1) := by decide +kernel
theorem dX7_readOrder_181 : decode cX7_readOrder 181 = .ok (.iadd, 1) := by decide +kernel
theorem dX7_readOrder_182 : decode cX7_readOrder 182 = .ok (.putfield 234, 3) := by decide +kernel
theorem dX7_readOrder_185 : decode cX7_readOrder 185 = .ok (.return_, 1) := by decide +kernel
theorem dX7_does_0 : decode cX7_does 0 = .ok (.aload_n 0, 1) := by decide +kernel
theorem dX7_does_1 : decode cX7_does 1 = .ok (.getfield 33, 3) := by decide +kernel
theorem dX7_does_4 : decode cX7_does 4 = .ok (.iconst 4, 1) := by decide +kernel
theorem dX7_does_5 : decode cX7_does 5 = .ok (.iload_n 1, 1) := by decide +kernel
theorem dX7_does_6 : decode cX7_does 6 = .ok (.imul, 1) := by decide +kernel
theorem dX7_does_7 : decode cX7_does 7 = .ok (.iconst 1, 1) := by decide +kernel
theorem dX7_does_8 : decode cX7_does 8 = .ok (.iadd, 1) := by decide +kernel
theorem dX7_does_9 : decode cX7_does 9 = .ok (.iaload, 1) := by decide +kernel
theorem dX7_does_10 : decode cX7_does 10 = .ok (.istore_n 2, 1) := by decide +kernel
theorem dX7_does_11 : decode cX7_does 11 = .ok (.aload_n 0, 1) := by decide +kernel
theorem dX7_does_12 : decode cX7_does 12 = .ok (.getfield 33, 3) := by decide +kernel
theorem dX7_does_15 : decode cX7_does 15 = .ok (.iconst 4, 1) := by decide +kernel
theorem dX7_does_16 : decode cX7_does 16 = .ok (.iload_n 1, 1) := by decide +kernel
theorem dX7_does_17 : decode cX7_does 17 = .ok (.imul, 1) := by decide +kernel
theorem dX7_does_18 : decode cX7_does 18 = .ok (.iaload, 1) := by decide +kernel
theorem dX7_does_19 : decode cX7_does 19 = .ok (.lookupswitch 115 #[(100, 49), (106, 86), (114, 67), (115, 58), (116, 76)], 49) := by decide +kernel
theorem dX7_does_68 : decode cX7_does 68 = .ok (.aload_n 0, 1) := by decide +kernel
theorem dX7_does_69 : decode cX7_does 69 = .ok (.iload_n 2, 1) := by decide +kernel
theorem dX7_does_70 : decode cX7_does 70 = .ok (.invokevirtual 105, 3) := by decide +kernel
theorem dX7_does_73 : decode cX7_does 73 = .ok (.istore_n 3, 1) := by decide +kernel
theorem dX7_does_74 : decode cX7_does 74 = .ok (.goto 66, 3) := by decide +kernel
theorem dX7_does_77 : decode cX7_does 77 = .ok (.aload_n 0, 1) := by decide +kernel
theorem dX7_does_78 : decode cX7_does 78 = .ok (.iload_n 2, 1) := by decide +kernel
theorem dX7_does_79 : decode cX7_does 79 = .ok (.invokevirtual 165, 3) := by decide +kernel
theorem dX7_does_82 : decode cX7_does 82 = .ok (.istore_n 3, 1) := by decide +kernel
theorem dX7_does_83 : decode cX7_does 83 = .ok (.goto 57, 3) := by decide +kernel
theorem dX7_does_86 : decode cX7_does 86 = .ok (.aload_n 0, 1) := by decide +kernel
theorem dX7_does_87 : decode cX7_does 87 = .ok (.iload_n 2, 1) := by decide +kernel
theorem dX7_does_88 : decode cX7_does 88 = .ok (.invokevirtual 174, 3) := by decide +kernel
theorem dX7_does_91 : decode cX7_does 91 = .ok (.istore_n 3, 1) := by decide +kernel
theorem dX7_does_92 : decode cX7_does 92 = .ok (.goto 48, 3) := by decide +kernel
theorem dX7_does_95 : decode cX7_does 95 = .ok (.aload_n 0, 1) := by decide +kernel
theorem dX7_does_96 : decode cX7_does 96 = .ok (.iconst 0, 1) := by decide +kernel
theorem dX7_does_97 : decode cX7_does 97 = .ok (.iload_n 2, 1) := by decide +kernel
theorem dX7_does_98 : decode cX7_does 98 = .ok (.invokevirtual 95, 3) := by decide +kernel
theorem dX7_does_101 : decode cX7_does 101 = .ok (.istore_n 3, 1) := by decide +kernel
theorem dX7_does_102 : decode cX7_does 102 = .ok (.goto 38, 3) := by decide +kernel
theorem dX7_does_105 : decode cX7_does 105 = .ok (.aload_n 0, 1) := by decide +kernel
theorem dX7_does_106 : decode cX7_does 106 = .ok (.iload_n 2, 1) := by decide +kernel
theorem dX7_does_107 : decode cX7_does 107 = .ok (.aload_n 0, 1) := by decide +kernel
theorem dX7_does_108 : decode cX7_does 108 = .ok (.getfield 33, 3) := by decide +kernel
theorem dX7_does_111 : decode cX7_does 111 = .ok (.iconst 4, 1) := by decide +kernel
theorem dX7_does_112 : decode cX7_does 112 = .ok (.iload_n 1, 1) := by decide +kernel
theorem dX7_does_113 : decode cX7_does 113 = .ok (.imul, 1) := by decide +kernel
theorem dX7_does_114 : decode cX7_does 114 = .ok (.iconst 2, 1) := by decide +kernel
theorem dX7_does_115 : decode cX7_does 115 = .ok (.iadd, 1) := by decide +kernel
theorem dX7_does_116 : decode cX7_does 116 = .ok (.iaload, 1) := by decide +kernel
theorem dX7_does_117 : decode cX7_does 117 = .ok (.aload_n 0, 1) := by decide +kernel
theorem dX7_does_118 : decode cX7_does 118 = .ok (.getfield 33, 3) := by decide +kernel
theorem dX7_does_121 : decode cX7_does 121 = .ok (.iconst 4, 1) := by decide +kernel
theorem dX7_does_122 : decode cX7_does 122 = .ok (.iload_n 1, 1) := by decide +kernel
theorem dX7_does_123 : decode cX7_does 123 = .ok (.imul, 1) := by decide +kernel
theorem dX7_does_124 : decode cX7_does 124 = .ok (.iconst 3, 1) := by decide +kernel
theorem dX7_does_125 : decode cX7_does 125 = .ok (.iadd, 1) := by decide +kernel
theorem dX7_does_126 : decode cX7_does 126 = .ok (.iaload, 1) := by decide +kernel
theorem dX7_does_127 : decode cX7_does 127 = .ok (.invokevirtual 137, 3) := by decide +kernel
theorem dX7_does_130 : decode cX7_does 130 = .ok (.istore_n 3, 1) := by decide +kernel
theorem dX7_does_131 : decode cX7_does 131 = .ok (.goto 9, 3) := by decide +kernel
theorem dX7_does_134 : decode cX7_does 134 = .ok (.aload_n 0, 1) := by decide +kernel
theorem dX7_does_135 : decode cX7_does 135 = .ok (.iload_n 2, 1) := by decide +kernel
theorem dX7_does_136 : decode cX7_does 136 = .ok (.invokevirtual 208, 3) := by decide +kernel
theorem dX7_does_139 : decode cX7_does 139 = .ok (.istore_n 3, 1) := by decide +kernel
theorem dX7_does_140 : decode cX7_does 140 = .ok (.return_, 1) := by decide +kernel
theorem dX7_read_0 : decode cX7_read 0 = .ok (.aload_n 0, 1) := by decide +kernel
theorem dX7_read_1 : decode cX7_read 1 = .ok (.iconst 0, 1) := by decide +kernel
theorem dX7_read_2 : decode cX7_read 2 = .ok (.putfield 217, 3) := by decide +kernel
theorem dX7_read_5 : decode cX7_read 5 = .ok (.aload_n 0, 1) := by decide +kernel
theorem dX7_read_6 : decode cX7_read 6 = .ok (.iconst 0, 1) := by decide +kernel
theorem dX7_read_7 : decode cX7_read 7 = .ok (.putfield 214, 3) := by decide +kernel
theorem dX7_read_10 : decode cX7_read 10 = .ok (.aload_n 0, 1) := by decide +kernel
theorem dX7_read_11 : decode cX7_read 11 = .ok (.iconst 0, 1) := by decide +kernel
theorem dX7_read_12 : decode cX7_read 12 = .ok (.putfield 234, 3) := by decide +kernel
theorem dX7_read_15 : decode cX7_read 15 = .ok (.aload_n 0, 1) := by decide +kernel
theorem dX7_read_16 : decode cX7_read 16 = .ok (.invokevirtual 251, 3) := by decide +kernel
theorem dX7_read_19 : decode cX7_read 19 = .ok (.aload_n 0, 1) := by decide +kernel
theorem dX7_read_20 : decode cX7_read 20 = .ok (.bipush 59, 2) := by decide +kernel
theorem dX7_read_22 : decode cX7_read 22 = .ok (.bipush 59, 2) := by decide +kernel
theorem dX7_read_24 : decode cX7_read 24 = .ok (.invokevirtual 220, 3) := by decide +kernel
theorem dX7_read_27 : decode cX7_read 27 = .ok (.ifCond .eq 20, 3) := by decide +kernel
theorem dX7_read_30 : decode cX7_read 30 = .ok (.aload_n 0, 1) := by decide +kernel
theorem dX7_read_31 : decode cX7_read 31 = .ok (.dup, 1) := by decide +kernel
theorem dX7_read_32 : decode cX7_read 32 = .ok (.getfield 217, 3) := by decide +kernel
theorem dX7_read_35 : decode cX7_read 35 = .ok (.iconst 1, 1) := by decide +kernel
theorem dX7_read_36 : decode cX7_read 36 = .ok (.iadd, 1) := by decide +kernel
theorem dX7_read_37 : decode cX7_read 37 = .ok (.putfield 217, 3) := by decide +kernel
theorem dX7_read_40 : decode cX7_read 40 = .ok (.aload_n 0, 1) := by decide +kernel
theorem dX7_read_41 : decode cX7_read 41 = .ok (.invokevirtual 251, 3) := by decide +kernel
theorem dX7_read_44 : decode cX7_read 44 = .ok (.goto (-25), 3) := by decide +kernel
theorem dX7_read_47 : decode cX7_read 47 = .ok (.aload_n 0, 1) := by decide +kernel
theorem dX7_read_48 : decode cX7_read 48 = .ok (.aload_n 0, 1) := by decide +kernel
theorem dX7_read_49 : decode cX7_read 49 = .ok (.getfield 214, 3) := by decide +kernel
theorem dX7_read_52 : decode cX7_read 52 = .ok (.ifCond .ne 14, 3) := by decide +kernel
theorem dX7_read_55 : decode cX7_read 55 = .ok (.aload_n 0, 1) := by decide +kernel
theorem dX7_read_56 : decode cX7_read 56 = .ok (.getfield 217, 3) := by decide +kernel
theorem dX7_read_59 : decode cX7_read 59 = .ok (.aload_n 0, 1) := by decide +kernel
theorem dX7_read_60 : decode cX7_read 60 = .ok (.getfield 211, 3) := by decide +kernel
theorem dX7_read_63 : decode cX7_read 63 = .ok (.if_icmp .ge 7, 3) := by decide +kernel
theorem dX7_read_66 : decode cX7_read 66 = .ok (.iconst 1, 1) := by decide +kernel
theorem dX7_read_67 : decode cX7_read 67 = .ok (.goto 4, 3) := by decide +kernel
theorem dX7_read_70 : decode cX7_read 70 = .ok (.iconst 0, 1) := by decide +kernel
theorem dX7_read_71 : decode cX7_read 71 = .ok (.putfield 214, 3) := by decide +kernel
theorem dX7_read_74 : decode cX7_read 74 = .ok (.aload_n 0, 1) := by decide +kernel
theorem dX7_read_75 : decode cX7_read 75 = .ok (.aload_n 0, 1) := by decide +kernel
theorem dX7_read_76 : decode cX7_read 76 = .ok (.getfield 214, 3) := by decide +kernel
theorem dX7_read_79 : decode cX7_read 79 = .ok (.ifCond .eq 10, 3) := by decide +kernel
theorem dX7_read_82 : decode cX7_read 82 = .ok (.aload_n 0, 1) := by decide +kernel
theorem dX7_read_83 : decode cX7_read 83 = .ok (.getfield 217, 3) := by decide +kernel
theorem dX7_read_86 : decode cX7_read 86 = .ok (.goto 4, 3) := by decide +kernel
theorem dX7_read_89 : decode cX7_read 89 = .ok (.iconst (-1), 1) := by decide +kernel
theorem dX7_read_90 : decode cX7_read 90 = .ok (.putfield 29, 3) := by decide +kernel
theorem dX7_read_93 : decode cX7_read 93 = .ok (.aload_n 0, 1) := by decide +kernel
theorem dX7_read_94 : decode cX7_read 94 = .ok (.iconst 0, 1) := by decide +kernel
theorem dX7_read_95 : decode cX7_read 95 = .ok (.putfield 211, 3) := by decide +kernel
theorem dX7_read_98 : decode cX7_read 98 = .ok (.aload_n 0, 1) := by decide +kernel
theorem dX7_read_99 : decode cX7_read 99 = .ok (.getfield 214, 3) := by decide +kernel
theorem dX7_read_102 : decode cX7_read 102 = .ok (.ifCond .eq 9, 3) := by decide +kernel
theorem dX7_read_105 : decode cX7_read 105 = .ok (.aload_n 0, 1) := by decide +kernel
theorem dX7_read_106 : decode cX7_read 106 = .ok (.iconst 1, 1) := by decide +kernel
theorem dX7_read_107 : decode cX7_read 107 = .ok (.invokevirtual 88, 3) := by decide +kernel
theorem dX7_read_110 : decode cX7_read 110 = .ok (.ireturn, 1) := by decide +kernel
theorem dX7_read_111 : decode cX7_read 111 = .ok (.aload_n 0, 1) := by decide +kernel
theorem dX7_read_112 : decode cX7_read 112 = .ok (.invokevirtual 92, 3) := by decide +kernel
theorem dX7_read_115 : decode cX7_read 115 = .ok (.iconst 0, 1) := by decide +kernel
theorem dX7_read_116 : decode cX7_read 116 = .ok (.istore_n 1, 1) := by decide +kernel
theorem dX7_read_117 : decode cX7_read 117 = .ok (.iload_n 1, 1) := by decide +kernel
theorem dX7_read_118 : decode cX7_read 118 = .ok (.aload_n 0, 1) := by decide +kernel
theorem dX7_read_119 : decode cX7_read 119 = .ok (.getfield 234, 3) := by decide +kernel
theorem dX7_read_122 : decode cX7_read 122 = .ok (.if_icmp .ge 48, 3) := by decide +kernel
theorem dX7_read_125 : decode cX7_read 125 = .ok (.aload_n 0, 1) := by decide +kernel
theorem dX7_read_126 : decode cX7_read 126 = .ok (.iconst 0, 1) := by decide +kernel
theorem dX7_read_127 : decode cX7_read 127 = .ok (.putfield 63, 3) := by decide +kernel
theorem dX7_read_130 : decode cX7_read 130 = .ok (.aload_n 0, 1) := by decide +kernel
theorem dX7_read_131 : decode cX7_read 131 = .ok (.iload_n 1, 1) := by decide +kernel
theorem dX7_read_132 : decode cX7_read 132 = .ok (.invokevirtual 254, 3) := by decide +kernel
theorem dX7_read_135 : decode cX7_read 135 = .ok (.aload_n 0, 1) := by decide +kernel
theorem dX7_read_136 : decode cX7_read 136 = .ok (.getfield 45, 3) := by decide +kernel
theorem dX7_read_139 : decode cX7_read 139 = .ok (.ifCond .le 25, 3) := by decide +kernel
theorem dX7_read_142 : decode cX7_read 142 = .ok (.aload_n 0, 1) := by decide +kernel
theorem dX7_read_143 : decode cX7_read 143 = .ok (.aload_n 0, 1) := by decide +kernel
theorem dX7_read_144 : decode cX7_read 144 = .ok (.getfield 63, 3) := by decide +kernel
theorem dX7_read_147 : decode cX7_read 147 = .ok (.ifCond .eq 7, 3) := by decide +kernel
theorem dX7_read_150 : decode cX7_read 150 = .ok (.iconst 2, 1) := by decide +kernel
theorem dX7_read_151 : decode cX7_read 151 = .ok (.goto 4, 3) := by decide +kernel
theorem dX7_read_154 : decode cX7_read 154 = .ok (.iconst 1, 1) := by decide +kernel
theorem dX7_read_155 : decode cX7_read 155 = .ok (.putfield 45, 3) := by decide +kernel
theorem dX7_read_158 : decode cX7_read 158 = .ok (.aload_n 0, 1) := by decide +kernel
theorem dX7_read_159 : decode cX7_read 159 = .ok (.iconst 0, 1) := by decide +kernel
theorem dX7_read_160 : decode cX7_read 160 = .ok (.invokevirtual 98, 3) := by decide +kernel
theorem dX7_read_163 : decode cX7_read 163 = .ok (.ireturn, 1) := by decide +kernel
theorem dX7_read_164 : decode cX7_read 164 = .ok (.iinc 1 1, 3) := by decide +kernel
theorem dX7_read_167 : decode cX7_read 167 = .ok (.goto (-50), 3) := by decide +kernel
theorem dX7_read_170 : decode cX7_read 170 = .ok (.aload_n 0, 1) := by decide +kernel
theorem dX7_read_171 : decode cX7_read 171 = .ok (.aload_n 0, 1) := by decide +kernel
theorem dX7_read_172 : decode cX7_read 172 = .ok (.getfield 234, 3) := by decide +kernel
theorem dX7_read_175 : decode cX7_read 175 = .ok (.invokevirtual 98, 3) := by decide +kernel
theorem dX7_read_178 : decode cX7_read 178 = .ok (.ireturn, 1) := by decide +kernel
theorem dX7_errorPosition_0 : decode cX7_errorPosition 0 = .ok (.aload_n 0, 1) := by decide +kernel
theorem dX7_errorPosition_1 : decode cX7_errorPosition 1 = .ok (.iconst 0, 1) := by decide +kernel
theorem dX7_errorPosition_2 : decode cX7_errorPosition 2 = .ok (.putfield 45, 3) := by decide +kernel
theorem dX7_errorPosition_5 : decode cX7_errorPosition 5 = .ok (.aload_n 0, 1) := by decide +kernel
theorem dX7_errorPosition_6 : decode cX7_errorPosition 6 = .ok (.getfield 29, 3) := by decide +kernel
theorem dX7_errorPosition_9 : decode cX7_errorPosition 9 = .ok (.ireturn, 1) := by decide +kernel
theorem dX7_overConvoys_0 : decode cX7_overConvoys 0 = .ok (.iconst 0, 1) := by decide +kernel
theorem dX7_overConvoys_1 : decode cX7_overConvoys 1 = .ok (.istore_n 2, 1) := by decide +kernel
theorem dX7_overConvoys_2 : decode cX7_overConvoys 2 = .ok (.iconst 0, 1) := by decide +kernel
theorem dX7_overConvoys_3 : decode cX7_overConvoys 3 = .ok (.istore_n 3, 1) := by decide +kernel
theorem dX7_overConvoys_4 : decode cX7_overConvoys 4 = .ok (.iload_n 3, 1) := by decide +kernel
theorem dX7_overConvoys_5 : decode cX7_overConvoys 5 = .ok (.aload_n 0, 1) := by decide +kernel
theorem dX7_overConvoys_6 : decode cX7_overConvoys 6 = .ok (.getfield 9, 3) := by decide +kernel
theorem dX7_overConvoys_9 : decode cX7_overConvoys 9 = .ok (.iconst 1, 1) := by decide +kernel
theorem dX7_overConvoys_10 : decode cX7_overConvoys 10 = .ok (.iaload, 1) := by decide +kernel
theorem dX7_overConvoys_11 : decode cX7_overConvoys 11 = .ok (.if_icmp .ge 78, 3) := by decide +kernel
theorem dX7_overConvoys_14 : decode cX7_overConvoys 14 = .ok (.iload_n 2, 1) := by decide +kernel
theorem dX7_overConvoys_15 : decode cX7_overConvoys 15 = .ok (.iload_n 1, 1) := by decide +kernel
theorem dX7_overConvoys_16 : decode cX7_overConvoys 16 = .ok (.iconst 3, 1) := by decide +kernel
theorem dX7_overConvoys_17 : decode cX7_overConvoys 17 = .ok (.if_icmp .ne 27, 3) := by decide +kernel
theorem dX7_overConvoys_20 : decode cX7_overConvoys 20 = .ok (.aload_n 0, 1) := by decide +kernel
theorem dX7_overConvoys_21 : decode cX7_overConvoys 21 = .ok (.iload_n 3, 1) := by decide +kernel
theorem dX7_overConvoys_22 : decode cX7_overConvoys 22 = .ok (.invokevirtual 144, 3) := by decide +kernel
theorem dX7_overConvoys_25 : decode cX7_overConvoys 25 = .ok (.ifCond .eq 15, 3) := by decide +kernel
theorem dX7_overConvoys_28 : decode cX7_overConvoys 28 = .ok (.aload_n 0, 1) := by decide +kernel
theorem dX7_overConvoys_29 : decode cX7_overConvoys 29 = .ok (.iload_n 3, 1) := by decide +kernel
theorem dX7_overConvoys_30 : decode cX7_overConvoys 30 = .ok (.invokevirtual 168, 3) := by decide +kernel
theorem dX7_overConvoys_33 : decode cX7_overConvoys 33 = .ok (.ifCond .ne 7, 3) := by decide +kernel
theorem dX7_overConvoys_36 : decode cX7_overConvoys 36 = .ok (.iconst 1, 1) := by decide +kernel
theorem dX7_overConvoys_37 : decode cX7_overConvoys 37 = .ok (.goto 44, 3) := by decide +kernel
theorem dX7_overConvoys_40 : decode cX7_overConvoys 40 = .ok (.iconst 0, 1) := by decide +kernel
theorem dX7_overConvoys_41 : decode cX7_overConvoys 41 = .ok (.goto 40, 3) := by decide +kernel
theorem dX7_overConvoys_44 : decode cX7_overConvoys 44 = .ok (.iload_n 1, 1) := by decide +kernel
theorem dX7_overConvoys_45 : decode cX7_overConvoys 45 = .ok (.iconst 4, 1) := by decide +kernel
theorem dX7_overConvoys_46 : decode cX7_overConvoys 46 = .ok (.if_icmp .ne 19, 3) := by decide +kernel
theorem dX7_overConvoys_49 : decode cX7_overConvoys 49 = .ok (.aload_n 0, 1) := by decide +kernel
theorem dX7_overConvoys_50 : decode cX7_overConvoys 50 = .ok (.iload_n 3, 1) := by decide +kernel
theorem dX7_overConvoys_51 : decode cX7_overConvoys 51 = .ok (.invokevirtual 168, 3) := by decide +kernel
theorem dX7_overConvoys_54 : decode cX7_overConvoys 54 = .ok (.ifCond .eq 7, 3) := by decide +kernel
theorem dX7_overConvoys_57 : decode cX7_overConvoys 57 = .ok (.iconst 1, 1) := by decide +kernel
theorem dX7_overConvoys_58 : decode cX7_overConvoys 58 = .ok (.goto 23, 3) := by decide +kernel
theorem dX7_overConvoys_61 : decode cX7_overConvoys 61 = .ok (.iconst 0, 1) := by decide +kernel
theorem dX7_overConvoys_62 : decode cX7_overConvoys 62 = .ok (.goto 19, 3) := by decide +kernel
theorem dX7_overConvoys_65 : decode cX7_overConvoys 65 = .ok (.aload_n 0, 1) := by decide +kernel
theorem dX7_overConvoys_66 : decode cX7_overConvoys 66 = .ok (.iload_n 3, 1) := by decide +kernel
theorem dX7_overConvoys_67 : decode cX7_overConvoys 67 = .ok (.iload_n 1, 1) := by decide +kernel
theorem dX7_overConvoys_68 : decode cX7_overConvoys 68 = .ok (.bipush 6, 2) := by decide +kernel
theorem dX7_overConvoys_70 : decode cX7_overConvoys 70 = .ok (.if_icmp .ne 7, 3) := by decide +kernel
theorem dX7_overConvoys_73 : decode cX7_overConvoys 73 = .ok (.iconst 1, 1) := by decide +kernel
theorem dX7_overConvoys_74 : decode cX7_overConvoys 74 = .ok (.goto 4, 3) := by decide +kernel
theorem dX7_overConvoys_77 : decode cX7_overConvoys 77 = .ok (.iconst 0, 1) := by decide +kernel
theorem dX7_overConvoys_78 : decode cX7_overConvoys 78 = .ok (.invokevirtual 177, 3) := by decide +kernel
theorem dX7_overConvoys_81 : decode cX7_overConvoys 81 = .ok (.iadd, 1) := by decide +kernel
theorem dX7_overConvoys_82 : decode cX7_overConvoys 82 = .ok (.istore_n 2, 1) := by decide +kernel
theorem dX7_overConvoys_83 : decode cX7_overConvoys 83 = .ok (.iinc 3 1, 3) := by decide +kernel
theorem dX7_overConvoys_86 : decode cX7_overConvoys 86 = .ok (.goto (-82), 3) := by decide +kernel
theorem dX7_overConvoys_89 : decode cX7_overConvoys 89 = .ok (.iload_n 2, 1) := by decide +kernel
theorem dX7_overConvoys_90 : decode cX7_overConvoys 90 = .ok (.ireturn, 1) := by decide +kernel
theorem dX7_waitingTonnes_0 : decode cX7_waitingTonnes 0 = .ok (.iconst 0, 1) := by decide +kernel
theorem dX7_waitingTonnes_1 : decode cX7_waitingTonnes 1 = .ok (.istore_n 1, 1) := by decide +kernel
theorem dX7_waitingTonnes_2 : decode cX7_waitingTonnes 2 = .ok (.iconst 0, 1) := by decide +kernel
theorem dX7_waitingTonnes_3 : decode cX7_waitingTonnes 3 = .ok (.istore_n 2, 1) := by decide +kernel
theorem dX7_waitingTonnes_4 : decode cX7_waitingTonnes 4 = .ok (.iload_n 2, 1) := by decide +kernel
theorem dX7_waitingTonnes_5 : decode cX7_waitingTonnes 5 = .ok (.bipush 10, 2) := by decide +kernel
theorem dX7_waitingTonnes_7 : decode cX7_waitingTonnes 7 = .ok (.if_icmp .ge 23, 3) := by decide +kernel
theorem dX7_waitingTonnes_10 : decode cX7_waitingTonnes 10 = .ok (.iload_n 1, 1) := by decide +kernel
theorem dX7_waitingTonnes_11 : decode cX7_waitingTonnes 11 = .ok (.aload_n 0, 1) := by decide +kernel
theorem dX7_waitingTonnes_12 : decode cX7_waitingTonnes 12 = .ok (.getfield 9, 3) := by decide +kernel
theorem dX7_waitingTonnes_15 : decode cX7_waitingTonnes 15 = .ok (.bipush 80, 2) := by decide +kernel
theorem dX7_waitingTonnes_17 : decode cX7_waitingTonnes 17 = .ok (.iconst 2, 1) := by decide +kernel
theorem dX7_waitingTonnes_18 : decode cX7_waitingTonnes 18 = .ok (.iload_n 2, 1) := by decide +kernel
theorem dX7_waitingTonnes_19 : decode cX7_waitingTonnes 19 = .ok (.imul, 1) := by decide +kernel
theorem dX7_waitingTonnes_20 : decode cX7_waitingTonnes 20 = .ok (.iadd, 1) := by decide +kernel
theorem dX7_waitingTonnes_21 : decode cX7_waitingTonnes 21 = .ok (.iaload, 1) := by decide +kernel
theorem dX7_waitingTonnes_22 : decode cX7_waitingTonnes 22 = .ok (.iadd, 1) := by decide +kernel
theorem dX7_waitingTonnes_23 : decode cX7_waitingTonnes 23 = .ok (.istore_n 1, 1) := by decide +kernel
theorem dX7_waitingTonnes_24 : decode cX7_waitingTonnes 24 = .ok (.iinc 2 1, 3) := by decide +kernel
theorem dX7_waitingTonnes_27 : decode cX7_waitingTonnes 27 = .ok (.goto (-23), 3) := by decide +kernel
theorem dX7_waitingTonnes_30 : decode cX7_waitingTonnes 30 = .ok (.iconst 0, 1) := by decide +kernel
theorem dX7_waitingTonnes_31 : decode cX7_waitingTonnes 31 = .ok (.istore_n 2, 1) := by decide +kernel
theorem dX7_waitingTonnes_32 : decode cX7_waitingTonnes 32 = .ok (.iload_n 2, 1) := by decide +kernel
theorem dX7_waitingTonnes_33 : decode cX7_waitingTonnes 33 = .ok (.aload_n 0, 1) := by decide +kernel
theorem dX7_waitingTonnes_34 : decode cX7_waitingTonnes 34 = .ok (.getfield 9, 3) := by decide +kernel
theorem dX7_waitingTonnes_37 : decode cX7_waitingTonnes 37 = .ok (.iconst 1, 1) := by decide +kernel
theorem dX7_waitingTonnes_38 : decode cX7_waitingTonnes 38 = .ok (.iaload, 1) := by decide +kernel
theorem dX7_waitingTonnes_39 : decode cX7_waitingTonnes 39 = .ok (.if_icmp .ge 78, 3) := by decide +kernel
theorem dX7_waitingTonnes_42 : decode cX7_waitingTonnes 42 = .ok (.iconst 0, 1) := by decide +kernel
theorem dX7_waitingTonnes_43 : decode cX7_waitingTonnes 43 = .ok (.istore_n 3, 1) := by decide +kernel
theorem dX7_waitingTonnes_44 : decode cX7_waitingTonnes 44 = .ok (.iload_n 3, 1) := by decide +kernel
theorem dX7_waitingTonnes_45 : decode cX7_waitingTonnes 45 = .ok (.aload_n 0, 1) := by decide +kernel
theorem dX7_waitingTonnes_46 : decode cX7_waitingTonnes 46 = .ok (.iload_n 2, 1) := by decide +kernel
theorem dX7_waitingTonnes_47 : decode cX7_waitingTonnes 47 = .ok (.iconst 1, 1) := by decide +kernel
theorem dX7_waitingTonnes_48 : decode cX7_waitingTonnes 48 = .ok (.invokevirtual 81, 3) := by decide +kernel
theorem dX7_waitingTonnes_51 : decode cX7_waitingTonnes 51 = .ok (.if_icmp .ge 60, 3) := by decide +kernel
theorem dX7_waitingTonnes_54 : decode cX7_waitingTonnes 54 = .ok (.aload_n 0, 1) := by decide +kernel
theorem dX7_waitingTonnes_55 : decode cX7_waitingTonnes 55 = .ok (.iload_n 2, 1) := by decide +kernel
theorem dX7_waitingTonnes_56 : decode cX7_waitingTonnes 56 = .ok (.invokevirtual 144, 3) := by decide +kernel
theorem dX7_waitingTonnes_59 : decode cX7_waitingTonnes 59 = .ok (.ifCond .eq 24, 3) := by decide +kernel
theorem dX7_waitingTonnes_62 : decode cX7_waitingTonnes 62 = .ok (.aload_n 0, 1) := by decide +kernel
theorem dX7_waitingTonnes_63 : decode cX7_waitingTonnes 63 = .ok (.iload_n 2, 1) := by decide +kernel
theorem dX7_waitingTonnes_64 : decode cX7_waitingTonnes 64 = .ok (.iload_n 3, 1) := by decide +kernel
theorem dX7_waitingTonnes_65 : decode cX7_waitingTonnes 65 = .ok (.aload_n 0, 1) := by decide +kernel
theorem dX7_waitingTonnes_66 : decode cX7_waitingTonnes 66 = .ok (.iload_n 2, 1) := by decide +kernel
theorem dX7_waitingTonnes_67 : decode cX7_waitingTonnes 67 = .ok (.iconst 2, 1) := by decide +kernel
theorem dX7_waitingTonnes_68 : decode cX7_waitingTonnes 68 = .ok (.invokevirtual 81, 3) := by decide +kernel
theorem dX7_waitingTonnes_71 : decode cX7_waitingTonnes 71 = .ok (.invokevirtual 147, 3) := by decide +kernel
theorem dX7_waitingTonnes_74 : decode cX7_waitingTonnes 74 = .ok (.bipush 12, 2) := by decide +kernel
theorem dX7_waitingTonnes_76 : decode cX7_waitingTonnes 76 = .ok (.if_icmp .lt 7, 3) := by decide +kernel
theorem dX7_waitingTonnes_79 : decode cX7_waitingTonnes 79 = .ok (.iconst 1, 1) := by decide +kernel
theorem dX7_waitingTonnes_80 : decode cX7_waitingTonnes 80 = .ok (.goto 4, 3) := by decide +kernel
theorem dX7_waitingTonnes_83 : decode cX7_waitingTonnes 83 = .ok (.iconst 0, 1) := by decide +kernel
theorem dX7_waitingTonnes_84 : decode cX7_waitingTonnes 84 = .ok (.istore 4, 2) := by decide +kernel
theorem dX7_waitingTonnes_86 : decode cX7_waitingTonnes 86 = .ok (.iload_n 1, 1) := by decide +kernel
theorem dX7_waitingTonnes_87 : decode cX7_waitingTonnes 87 = .ok (.iload 4, 2) := by decide +kernel
theorem dX7_waitingTonnes_89 : decode cX7_waitingTonnes 89 = .ok (.ifCond .eq 7, 3) := by decide +kernel
theorem dX7_waitingTonnes_92 : decode cX7_waitingTonnes 92 = .ok (.iconst 0, 1) := by decide +kernel
theorem dX7_waitingTonnes_93 : decode cX7_waitingTonnes 93 = .ok (.goto 10, 3) := by decide +kernel
theorem dX7_waitingTonnes_96 : decode cX7_waitingTonnes 96 = .ok (.aload_n 0, 1) := by decide +kernel
theorem dX7_waitingTonnes_97 : decode cX7_waitingTonnes 97 = .ok (.iload_n 2, 1) := by decide +kernel
theorem dX7_waitingTonnes_98 : decode cX7_waitingTonnes 98 = .ok (.iload_n 3, 1) := by decide +kernel
theorem dX7_waitingTonnes_99 : decode cX7_waitingTonnes 99 = .ok (.iconst 1, 1) := by decide +kernel
theorem dX7_waitingTonnes_100 : decode cX7_waitingTonnes 100 = .ok (.invokevirtual 140, 3) := by decide +kernel
theorem dX7_waitingTonnes_103 : decode cX7_waitingTonnes 103 = .ok (.iadd, 1) := by decide +kernel
theorem dX7_waitingTonnes_104 : decode cX7_waitingTonnes 104 = .ok (.istore_n 1, 1) := by decide +kernel
theorem dX7_waitingTonnes_105 : decode cX7_waitingTonnes 105 = .ok (.iinc 3 1, 3) := by decide +kernel
theorem dX7_waitingTonnes_108 : decode cX7_waitingTonnes 108 = .ok (.goto (-64), 3) := by decide +kernel
theorem dX7_waitingTonnes_111 : decode cX7_waitingTonnes 111 = .ok (.iinc 2 1, 3) := by decide +kernel
theorem dX7_waitingTonnes_114 : decode cX7_waitingTonnes 114 = .ok (.goto (-82), 3) := by decide +kernel
theorem dX7_waitingTonnes_117 : decode cX7_waitingTonnes 117 = .ok (.iload_n 1, 1) := by decide +kernel
theorem dX7_waitingTonnes_118 : decode cX7_waitingTonnes 118 = .ok (.ireturn, 1) := by decide +kernel
theorem dX7_inRows_0 : decode cX7_inRows 0 = .ok (.iconst 0, 1) := by decide +kernel
theorem dX7_inRows_1 : decode cX7_inRows 1 = .ok (.istore_n 1, 1) := by decide +kernel
theorem dX7_inRows_2 : decode cX7_inRows 2 = .ok (.iconst 0, 1) := by decide +kernel
theorem dX7_inRows_3 : decode cX7_inRows 3 = .ok (.istore_n 2, 1) := by decide +kernel
theorem dX7_inRows_4 : decode cX7_inRows 4 = .ok (.iload_n 2, 1) := by decide +kernel
theorem dX7_inRows_5 : decode cX7_inRows 5 = .ok (.bipush 10, 2) := by decide +kernel
theorem dX7_inRows_7 : decode cX7_inRows 7 = .ok (.if_icmp .ge 31, 3) := by decide +kernel
theorem dX7_inRows_10 : decode cX7_inRows 10 = .ok (.iload_n 1, 1) := by decide +kernel
theorem dX7_inRows_11 : decode cX7_inRows 11 = .ok (.aload_n 0, 1) := by decide +kernel
theorem dX7_inRows_12 : decode cX7_inRows 12 = .ok (.getfield 9, 3) := by decide +kernel
theorem dX7_inRows_15 : decode cX7_inRows 15 = .ok (.bipush 80, 2) := by decide +kernel
theorem dX7_inRows_17 : decode cX7_inRows 17 = .ok (.iconst 2, 1) := by decide +kernel
theorem dX7_inRows_18 : decode cX7_inRows 18 = .ok (.iload_n 2, 1) := by decide +kernel
theorem dX7_inRows_19 : decode cX7_inRows 19 = .ok (.imul, 1) := by decide +kernel
theorem dX7_inRows_20 : decode cX7_inRows 20 = .ok (.iadd, 1) := by decide +kernel
theorem dX7_inRows_21 : decode cX7_inRows 21 = .ok (.iaload, 1) := by decide +kernel
theorem dX7_inRows_22 : decode cX7_inRows 22 = .ok (.ifCond .le 7, 3) := by decide +kernel
theorem dX7_inRows_25 : decode cX7_inRows 25 = .ok (.iconst 1, 1) := by decide +kernel
theorem dX7_inRows_26 : decode cX7_inRows 26 = .ok (.goto 4, 3) := by decide +kernel
theorem dX7_inRows_29 : decode cX7_inRows 29 = .ok (.iconst 0, 1) := by decide +kernel
theorem dX7_inRows_30 : decode cX7_inRows 30 = .ok (.iadd, 1) := by decide +kernel
theorem dX7_inRows_31 : decode cX7_inRows 31 = .ok (.istore_n 1, 1) := by decide +kernel
theorem dX7_inRows_32 : decode cX7_inRows 32 = .ok (.iinc 2 1, 3) := by decide +kernel
theorem dX7_inRows_35 : decode cX7_inRows 35 = .ok (.goto (-31), 3) := by decide +kernel
theorem dX7_inRows_38 : decode cX7_inRows 38 = .ok (.iload_n 1, 1) := by decide +kernel
theorem dX7_inRows_39 : decode cX7_inRows 39 = .ok (.ireturn, 1) := by decide +kernel
theorem dX7_allCracks_0 : decode cX7_allCracks 0 = .ok (.iconst 0, 1) := by decide +kernel
theorem dX7_allCracks_1 : decode cX7_allCracks 1 = .ok (.istore_n 1, 1) := by decide +kernel
theorem dX7_allCracks_2 : decode cX7_allCracks 2 = .ok (.iconst 0, 1) := by decide +kernel
theorem dX7_allCracks_3 : decode cX7_allCracks 3 = .ok (.istore_n 2, 1) := by decide +kernel
theorem dX7_allCracks_4 : decode cX7_allCracks 4 = .ok (.iload_n 2, 1) := by decide +kernel
theorem dX7_allCracks_5 : decode cX7_allCracks 5 = .ok (.bipush 12, 2) := by decide +kernel
theorem dX7_allCracks_7 : decode cX7_allCracks 7 = .ok (.if_icmp .ge 18, 3) := by decide +kernel
theorem dX7_allCracks_10 : decode cX7_allCracks 10 = .ok (.iload_n 1, 1) := by decide +kernel
theorem dX7_allCracks_11 : decode cX7_allCracks 11 = .ok (.aload_n 0, 1) := by decide +kernel
theorem dX7_allCracks_12 : decode cX7_allCracks 12 = .ok (.iload_n 2, 1) := by decide +kernel
theorem dX7_allCracks_13 : decode cX7_allCracks 13 = .ok (.iconst 1, 1) := by decide +kernel
theorem dX7_allCracks_14 : decode cX7_allCracks 14 = .ok (.invokevirtual 67, 3) := by decide +kernel
theorem dX7_allCracks_17 : decode cX7_allCracks 17 = .ok (.iadd, 1) := by decide +kernel
theorem dX7_allCracks_18 : decode cX7_allCracks 18 = .ok (.istore_n 1, 1) := by decide +kernel
theorem dX7_allCracks_19 : decode cX7_allCracks 19 = .ok (.iinc 2 1, 3) := by decide +kernel
theorem dX7_allCracks_22 : decode cX7_allCracks 22 = .ok (.goto (-18), 3) := by decide +kernel
theorem dX7_allCracks_25 : decode cX7_allCracks 25 = .ok (.iload_n 1, 1) := by decide +kernel
theorem dX7_allCracks_26 : decode cX7_allCracks 26 = .ok (.ireturn, 1) := by decide +kernel
theorem dX7_account_0 : decode cX7_account 0 = .ok (.aload_n 0, 1) := by decide +kernel
theorem dX7_account_1 : decode cX7_account 1 = .ok (.iload_n 1, 1) := by decide +kernel
theorem dX7_account_2 : decode cX7_account 2 = .ok (.iconst 0, 1) := by decide +kernel
theorem dX7_account_3 : decode cX7_account 3 = .ok (.bipush 14, 2) := by decide +kernel
theorem dX7_account_5 : decode cX7_account 5 = .ok (.invokestatic 84, 3) := by decide +kernel
theorem dX7_account_8 : decode cX7_account 8 = .ok (.ifCond .eq 7, 3) := by decide +kernel
theorem dX7_account_11 : decode cX7_account 11 = .ok (.iconst 0, 1) := by decide +kernel
theorem dX7_account_12 : decode cX7_account 12 = .ok (.goto 4, 3) := by decide +kernel
theorem dX7_account_15 : decode cX7_account 15 = .ok (.iconst 1, 1) := by decide +kernel
theorem dX7_account_16 : decode cX7_account 16 = .ok (.putfield 45, 3) := by decide +kernel
theorem dX7_account_19 : decode cX7_account 19 = .ok (.aload_n 0, 1) := by decide +kernel
theorem dX7_account_20 : decode cX7_account 20 = .ok (.getfield 45, 3) := by decide +kernel
theorem dX7_account_23 : decode cX7_account 23 = .ok (.ifCond .le 5, 3) := by decide +kernel
theorem dX7_account_26 : decode cX7_account 26 = .ok (.iconst 0, 1) := by decide +kernel
theorem dX7_account_27 : decode cX7_account 27 = .ok (.ireturn, 1) := by decide +kernel
theorem dX7_account_28 : decode cX7_account 28 = .ok (.iload_n 1, 1) := by decide +kernel
theorem dX7_account_29 : decode cX7_account 29 = .ok (.tableswitch 137 0 13 #[71, 78, 83, 90, 90, 90, 90, 96, 103, 108, 113, 118, 125, 132], 71) := by decide +kernel
theorem dX7_account_100 : decode cX7_account 100 = .ok (.aload_n 0, 1) := by decide +kernel
theorem dX7_account_101 : decode cX7_account 101 = .ok (.getfield 9, 3) := by decide +kernel
theorem dX7_account_104 : decode cX7_account 104 = .ok (.iconst 0, 1) := by decide +kernel
theorem dX7_account_105 : decode cX7_account 105 = .ok (.iaload, 1) := by decide +kernel
theorem dX7_account_106 : decode cX7_account 106 = .ok (.ireturn, 1) := by decide +kernel
theorem dX7_account_107 : decode cX7_account 107 = .ok (.aload_n 0, 1) := by decide +kernel
theorem dX7_account_108 : decode cX7_account 108 = .ok (.invokevirtual 258, 3) := by decide +kernel
theorem dX7_account_111 : decode cX7_account 111 = .ok (.ireturn, 1) := by decide +kernel
theorem dX7_account_112 : decode cX7_account 112 = .ok (.aload_n 0, 1) := by decide +kernel
theorem dX7_account_113 : decode cX7_account 113 = .ok (.getfield 9, 3) := by decide +kernel
theorem dX7_account_116 : decode cX7_account 116 = .ok (.iconst 1, 1) := by decide +kernel
theorem dX7_account_117 : decode cX7_account 117 = .ok (.iaload, 1) := by decide +kernel
theorem dX7_account_118 : decode cX7_account 118 = .ok (.ireturn, 1) := by decide +kernel
theorem dX7_account_119 : decode cX7_account 119 = .ok (.aload_n 0, 1) := by decide +kernel
theorem dX7_account_120 : decode cX7_account 120 = .ok (.iload_n 1, 1) := by decide +kernel
theorem dX7_account_121 : decode cX7_account 121 = .ok (.invokevirtual 261, 3) := by decide +kernel
theorem dX7_account_124 : decode cX7_account 124 = .ok (.ireturn, 1) := by decide +kernel
theorem dX7_account_125 : decode cX7_account 125 = .ok (.aload_n 0, 1) := by decide +kernel
theorem dX7_account_126 : decode cX7_account 126 = .ok (.getfield 9, 3) := by decide +kernel
theorem dX7_account_129 : decode cX7_account 129 = .ok (.iconst 4, 1) := by decide +kernel
theorem dX7_account_130 : decode cX7_account 130 = .ok (.iaload, 1) := by decide +kernel
theorem dX7_account_131 : decode cX7_account 131 = .ok (.ireturn, 1) := by decide +kernel
theorem dX7_account_132 : decode cX7_account 132 = .ok (.aload_n 0, 1) := by decide +kernel
theorem dX7_account_133 : decode cX7_account 133 = .ok (.invokevirtual 264, 3) := by decide +kernel
theorem dX7_account_136 : decode cX7_account 136 = .ok (.ireturn, 1) := by decide +kernel
theorem dX7_account_137 : decode cX7_account 137 = .ok (.aload_n 0, 1) := by decide +kernel
theorem dX7_account_138 : decode cX7_account 138 = .ok (.invokevirtual 267, 3) := by decide +kernel
theorem dX7_account_141 : decode cX7_account 141 = .ok (.ireturn, 1) := by decide +kernel
theorem dX7_account_142 : decode cX7_account 142 = .ok (.aload_n 0, 1) := by decide +kernel
theorem dX7_account_143 : decode cX7_account 143 = .ok (.invokevirtual 201, 3) := by decide +kernel
theorem dX7_account_146 : decode cX7_account 146 = .ok (.ireturn, 1) := by decide +kernel
theorem dX7_account_147 : decode cX7_account 147 = .ok (.aload_n 0, 1) := by decide +kernel
theorem dX7_account_148 : decode cX7_account 148 = .ok (.getfield 9, 3) := by decide +kernel
theorem dX7_account_151 : decode cX7_account 151 = .ok (.iconst 2, 1) := by decide +kernel
theorem dX7_account_152 : decode cX7_account 152 = .ok (.iaload, 1) := by decide +kernel
theorem dX7_account_153 : decode cX7_account 153 = .ok (.ireturn, 1) := by decide +kernel
theorem dX7_account_154 : decode cX7_account 154 = .ok (.aload_n 0, 1) := by decide +kernel
theorem dX7_account_155 : decode cX7_account 155 = .ok (.getfield 9, 3) := by decide +kernel
theorem dX7_account_158 : decode cX7_account 158 = .ok (.iconst 3, 1) := by decide +kernel
theorem dX7_account_159 : decode cX7_account 159 = .ok (.iaload, 1) := by decide +kernel
theorem dX7_account_160 : decode cX7_account 160 = .ok (.ireturn, 1) := by decide +kernel
theorem dX7_account_161 : decode cX7_account 161 = .ok (.aload_n 0, 1) := by decide +kernel
theorem dX7_account_162 : decode cX7_account 162 = .ok (.getfield 211, 3) := by decide +kernel
theorem dX7_account_165 : decode cX7_account 165 = .ok (.ireturn, 1) := by decide +kernel
theorem dX7_account_166 : decode cX7_account 166 = .ok (.aload_n 0, 1) := by decide +kernel
theorem dX7_account_167 : decode cX7_account 167 = .ok (.getfield 54, 3) := by decide +kernel
theorem dX7_account_170 : decode cX7_account 170 = .ok (.ireturn, 1) := by decide +kernel
theorem dX7_isWell_0 : decode cX7_isWell 0 = .ok (.aload_n 0, 1) := by decide +kernel
theorem dX7_isWell_1 : decode cX7_isWell 1 = .ok (.iconst 0, 1) := by decide +kernel
theorem dX7_isWell_2 : decode cX7_isWell 2 = .ok (.putfield 45, 3) := by decide +kernel
theorem dX7_isWell_5 : decode cX7_isWell 5 = .ok (.aload_n 0, 1) := by decide +kernel
theorem dX7_isWell_6 : decode cX7_isWell 6 = .ok (.getfield 9, 3) := by decide +kernel
theorem dX7_isWell_9 : decode cX7_isWell 9 = .ok (.iconst 3, 1) := by decide +kernel
theorem dX7_isWell_10 : decode cX7_isWell 10 = .ok (.iaload, 1) := by decide +kernel
theorem dX7_isWell_11 : decode cX7_isWell 11 = .ok (.aload_n 0, 1) := by decide +kernel
theorem dX7_isWell_12 : decode cX7_isWell 12 = .ok (.getfield 9, 3) := by decide +kernel
theorem dX7_isWell_15 : decode cX7_isWell 15 = .ok (.iconst 4, 1) := by decide +kernel
theorem dX7_isWell_16 : decode cX7_isWell 16 = .ok (.iaload, 1) := by decide +kernel
theorem dX7_isWell_17 : decode cX7_isWell 17 = .ok (.aload_n 0, 1) := by decide +kernel
theorem dX7_isWell_18 : decode cX7_isWell 18 = .ok (.invokevirtual 264, 3) := by decide +kernel
theorem dX7_isWell_21 : decode cX7_isWell 21 = .ok (.iadd, 1) := by decide +kernel
theorem dX7_isWell_22 : decode cX7_isWell 22 = .ok (.if_icmp .ne 7, 3) := by decide +kernel
theorem dX7_isWell_25 : decode cX7_isWell 25 = .ok (.iconst 1, 1) := by decide +kernel
theorem dX7_isWell_26 : decode cX7_isWell 26 = .ok (.goto 4, 3) := by decide +kernel
theorem dX7_isWell_29 : decode cX7_isWell 29 = .ok (.iconst 0, 1) := by decide +kernel
theorem dX7_isWell_30 : decode cX7_isWell 30 = .ok (.istore_n 1, 1) := by decide +kernel
theorem dX7_isWell_31 : decode cX7_isWell 31 = .ok (.iconst 0, 1) := by decide +kernel
theorem dX7_isWell_32 : decode cX7_isWell 32 = .ok (.istore_n 2, 1) := by decide +kernel
theorem dX7_isWell_33 : decode cX7_isWell 33 = .ok (.iload_n 2, 1) := by decide +kernel
theorem dX7_isWell_34 : decode cX7_isWell 34 = .ok (.bipush 12, 2) := by decide +kernel
theorem dX7_isWell_36 : decode cX7_isWell 36 = .ok (.if_icmp .ge 63, 3) := by decide +kernel
theorem dX7_isWell_39 : decode cX7_isWell 39 = .ok (.aload_n 0, 1) := by decide +kernel
theorem dX7_isWell_40 : decode cX7_isWell 40 = .ok (.iload_n 2, 1) := by decide +kernel
theorem dX7_isWell_41 : decode cX7_isWell 41 = .ok (.iconst (-1), 1) := by decide +kernel
theorem dX7_isWell_42 : decode cX7_isWell 42 = .ok (.invokevirtual 120, 3) := by decide +kernel
theorem dX7_isWell_45 : decode cX7_isWell 45 = .ok (.istore_n 3, 1) := by decide +kernel
theorem dX7_isWell_46 : decode cX7_isWell 46 = .ok (.iload_n 1, 1) := by decide +kernel
theorem dX7_isWell_47 : decode cX7_isWell 47 = .ok (.ifCond .eq 44, 3) := by decide +kernel
theorem dX7_isWell_50 : decode cX7_isWell 50 = .ok (.aload_n 0, 1) := by decide +kernel
theorem dX7_isWell_51 : decode cX7_isWell 51 = .ok (.iload_n 2, 1) := by decide +kernel
theorem dX7_isWell_52 : decode cX7_isWell 52 = .ok (.invokevirtual 114, 3) := by decide +kernel
theorem dX7_isWell_55 : decode cX7_isWell 55 = .ok (.fconst 0, 1) := by decide +kernel
theorem dX7_isWell_56 : decode cX7_isWell 56 = .ok (.fcmp .l, 1) := by decide +kernel
theorem dX7_isWell_57 : decode cX7_isWell 57 = .ok (.ifCond .lt 34, 3) := by decide +kernel
theorem dX7_isWell_60 : decode cX7_isWell 60 = .ok (.aload_n 0, 1) := by decide +kernel
theorem dX7_isWell_61 : decode cX7_isWell 61 = .ok (.iload_n 2, 1) := by decide +kernel
theorem dX7_isWell_62 : decode cX7_isWell 62 = .ok (.invokevirtual 114, 3) := by decide +kernel
theorem dX7_isWell_65 : decode cX7_isWell 65 = .ok (.ldc 193, 2) := by decide +kernel
theorem dX7_isWell_67 : decode cX7_isWell 67 = .ok (.fcmp .g, 1) := by decide +kernel
theorem dX7_isWell_68 : decode cX7_isWell 68 = .ok (.ifCond .gt 23, 3) := by decide +kernel
theorem dX7_isWell_71 : decode cX7_isWell 71 = .ok (.iload_n 3, 1) := by decide +kernel
theorem dX7_isWell_72 : decode cX7_isWell 72 = .ok (.ifCond .lt 15, 3) := by decide +kernel
theorem dX7_isWell_75 : decode cX7_isWell 75 = .ok (.aload_n 0, 1) := by decide +kernel
theorem dX7_isWell_76 : decode cX7_isWell 76 = .ok (.iload_n 2, 1) := by decide +kernel
theorem dX7_isWell_77 : decode cX7_isWell 77 = .ok (.iload_n 3, 1) := by decide +kernel
theorem dX7_isWell_78 : decode cX7_isWell 78 = .ok (.bipush 10, 2) := by decide +kernel
theorem dX7_isWell_80 : decode cX7_isWell 80 = .ok (.idiv, 1) := by decide +kernel
theorem dX7_isWell_81 : decode cX7_isWell 81 = .ok (.invokevirtual 120, 3) := by decide +kernel
theorem dX7_isWell_84 : decode cX7_isWell 84 = .ok (.ifCond .ge 7, 3) := by decide +kernel
theorem dX7_isWell_87 : decode cX7_isWell 87 = .ok (.iconst 1, 1) := by decide +kernel
theorem dX7_isWell_88 : decode cX7_isWell 88 = .ok (.goto 4, 3) := by decide +kernel
theorem dX7_isWell_91 : decode cX7_isWell 91 = .ok (.iconst 0, 1) := by decide +kernel
theorem dX7_isWell_92 : decode cX7_isWell 92 = .ok (.istore_n 1, 1) := by decide +kernel
theorem dX7_isWell_93 : decode cX7_isWell 93 = .ok (.iinc 2 1, 3) := by decide +kernel
theorem dX7_isWell_96 : decode cX7_isWell 96 = .ok (.goto (-63), 3) := by decide +kernel
theorem dX7_isWell_99 : decode cX7_isWell 99 = .ok (.iload_n 1, 1) := by decide +kernel
theorem dX7_isWell_100 : decode cX7_isWell 100 = .ok (.ireturn, 1) := by decide +kernel
theorem dX7_meanBits_0 : decode cX7_meanBits 0 = .ok (.aload_n 0, 1) := by decide +kernel
theorem dX7_meanBits_1 : decode cX7_meanBits 1 = .ok (.iconst 0, 1) := by decide +kernel
theorem dX7_meanBits_2 : decode cX7_meanBits 2 = .ok (.putfield 45, 3) := by decide +kernel
theorem dX7_meanBits_5 : decode cX7_meanBits 5 = .ok (.dconst 0, 1) := by decide +kernel
theorem dX7_meanBits_6 : decode cX7_meanBits 6 = .ok (.dstore_n 1, 1) := by decide +kernel
theorem dX7_meanBits_7 : decode cX7_meanBits 7 = .ok (.iconst 0, 1) := by decide +kernel
theorem dX7_meanBits_8 : decode cX7_meanBits 8 = .ok (.istore_n 3, 1) := by decide +kernel
theorem dX7_meanBits_9 : decode cX7_meanBits 9 = .ok (.iload_n 3, 1) := by decide +kernel
theorem dX7_meanBits_10 : decode cX7_meanBits 10 = .ok (.bipush 12, 2) := by decide +kernel
theorem dX7_meanBits_12 : decode cX7_meanBits 12 = .ok (.if_icmp .ge 18, 3) := by decide +kernel
theorem dX7_meanBits_15 : decode cX7_meanBits 15 = .ok (.dload_n 1, 1) := by decide +kernel
theorem dX7_meanBits_16 : decode cX7_meanBits 16 = .ok (.aload_n 0, 1) := by decide +kernel
theorem dX7_meanBits_17 : decode cX7_meanBits 17 = .ok (.iload_n 3, 1) := by decide +kernel
theorem dX7_meanBits_18 : decode cX7_meanBits 18 = .ok (.invokevirtual 114, 3) := by decide +kernel
theorem dX7_meanBits_21 : decode cX7_meanBits 21 = .ok (.f2d, 1) := by decide +kernel
theorem dX7_meanBits_22 : decode cX7_meanBits 22 = .ok (.dadd, 1) := by decide +kernel
theorem dX7_meanBits_23 : decode cX7_meanBits 23 = .ok (.dstore_n 1, 1) := by decide +kernel
theorem dX7_meanBits_24 : decode cX7_meanBits 24 = .ok (.iinc 3 1, 3) := by decide +kernel
theorem dX7_meanBits_27 : decode cX7_meanBits 27 = .ok (.goto (-18), 3) := by decide +kernel
theorem dX7_meanBits_30 : decode cX7_meanBits 30 = .ok (.dload_n 1, 1) := by decide +kernel
theorem dX7_meanBits_31 : decode cX7_meanBits 31 = .ok (.ldc2_w 270, 3) := by decide +kernel
theorem dX7_meanBits_34 : decode cX7_meanBits 34 = .ok (.ddiv, 1) := by decide +kernel
theorem dX7_meanBits_35 : decode cX7_meanBits 35 = .ok (.invokestatic 272, 3) := by decide +kernel
theorem dX7_meanBits_38 : decode cX7_meanBits 38 = .ok (.lreturn, 1) := by decide +kernel
theorem dX7_share_0 : decode cX7_share 0 = .ok (.aload_n 0, 1) := by decide +kernel
theorem dX7_share_1 : decode cX7_share 1 = .ok (.aload_n 0, 1) := by decide +kernel
theorem dX7_share_2 : decode cX7_share 2 = .ok (.getfield 9, 3) := by decide +kernel
theorem dX7_share_5 : decode cX7_share 5 = .ok (.iconst 3, 1) := by decide +kernel
theorem dX7_share_6 : decode cX7_share 6 = .ok (.iaload, 1) := by decide +kernel
theorem dX7_share_7 : decode cX7_share 7 = .ok (.ifCond .ne 7, 3) := by decide +kernel
theorem dX7_share_10 : decode cX7_share 10 = .ok (.iconst 1, 1) := by decide +kernel
theorem dX7_share_11 : decode cX7_share 11 = .ok (.goto 4, 3) := by decide +kernel
theorem dX7_share_14 : decode cX7_share 14 = .ok (.iconst 0, 1) := by decide +kernel
theorem dX7_share_15 : decode cX7_share 15 = .ok (.putfield 45, 3) := by decide +kernel
theorem dX7_share_18 : decode cX7_share 18 = .ok (.aload_n 0, 1) := by decide +kernel
theorem dX7_share_19 : decode cX7_share 19 = .ok (.getfield 45, 3) := by decide +kernel
theorem dX7_share_22 : decode cX7_share 22 = .ok (.ifCond .le 7, 3) := by decide +kernel
theorem dX7_share_25 : decode cX7_share 25 = .ok (.fconst 0, 1) := by decide +kernel
theorem dX7_share_26 : decode cX7_share 26 = .ok (.goto 18, 3) := by decide +kernel
theorem dX7_share_29 : decode cX7_share 29 = .ok (.aload_n 0, 1) := by decide +kernel
theorem dX7_share_30 : decode cX7_share 30 = .ok (.getfield 9, 3) := by decide +kernel
theorem dX7_share_33 : decode cX7_share 33 = .ok (.iconst 4, 1) := by decide +kernel
theorem dX7_share_34 : decode cX7_share 34 = .ok (.iaload, 1) := by decide +kernel
theorem dX7_share_35 : decode cX7_share 35 = .ok (.i2f, 1) := by decide +kernel
theorem dX7_share_36 : decode cX7_share 36 = .ok (.aload_n 0, 1) := by decide +kernel
theorem dX7_share_37 : decode cX7_share 37 = .ok (.getfield 9, 3) := by decide +kernel
theorem dX7_share_40 : decode cX7_share 40 = .ok (.iconst 3, 1) := by decide +kernel
theorem dX7_share_41 : decode cX7_share 41 = .ok (.iaload, 1) := by decide +kernel
theorem dX7_share_42 : decode cX7_share 42 = .ok (.i2f, 1) := by decide +kernel
theorem dX7_share_43 : decode cX7_share 43 = .ok (.fdiv, 1) := by decide +kernel
theorem dX7_share_44 : decode cX7_share 44 = .ok (.freturn, 1) := by decide +kernel
theorem dX7_undo_0 : decode cX7_undo 0 = .ok (.aload_n 0, 1) := by decide +kernel
theorem dX7_undo_1 : decode cX7_undo 1 = .ok (.aload_n 0, 1) := by decide +kernel
theorem dX7_undo_2 : decode cX7_undo 2 = .ok (.getfield 54, 3) := by decide +kernel
theorem dX7_undo_5 : decode cX7_undo 5 = .ok (.ifCond .ne 7, 3) := by decide +kernel
theorem dX7_undo_8 : decode cX7_undo 8 = .ok (.iconst 1, 1) := by decide +kernel
theorem dX7_undo_9 : decode cX7_undo 9 = .ok (.goto 4, 3) := by decide +kernel
theorem dX7_undo_12 : decode cX7_undo 12 = .ok (.iconst 0, 1) := by decide +kernel
theorem dX7_undo_13 : decode cX7_undo 13 = .ok (.putfield 45, 3) := by decide +kernel
theorem dX7_undo_16 : decode cX7_undo 16 = .ok (.aload_n 0, 1) := by decide +kernel
theorem dX7_undo_17 : decode cX7_undo 17 = .ok (.getfield 45, 3) := by decide +kernel
theorem dX7_undo_20 : decode cX7_undo 20 = .ok (.ifCond .le 5, 3) := by decide +kernel
theorem dX7_undo_23 : decode cX7_undo 23 = .ok (.iconst 0, 1) := by decide +kernel
theorem dX7_undo_24 : decode cX7_undo 24 = .ok (.ireturn, 1) := by decide +kernel
theorem dX7_undo_25 : decode cX7_undo 25 = .ok (.aload_n 0, 1) := by decide +kernel
theorem dX7_undo_26 : decode cX7_undo 26 = .ok (.dup, 1) := by decide +kernel
theorem dX7_undo_27 : decode cX7_undo 27 = .ok (.getfield 54, 3) := by decide +kernel
theorem dX7_undo_30 : decode cX7_undo 30 = .ok (.iconst 1, 1) := by decide +kernel
theorem dX7_undo_31 : decode cX7_undo 31 = .ok (.isub, 1) := by decide +kernel
theorem dX7_undo_32 : decode cX7_undo 32 = .ok (.putfield 54, 3) := by decide +kernel
theorem dX7_undo_35 : decode cX7_undo 35 = .ok (.aload_n 0, 1) := by decide +kernel
theorem dX7_undo_36 : decode cX7_undo 36 = .ok (.getfield 22, 3) := by decide +kernel
theorem dX7_undo_39 : decode cX7_undo 39 = .ok (.sipush 164, 3) := by decide +kernel
theorem dX7_undo_42 : decode cX7_undo 42 = .ok (.aload_n 0, 1) := by decide +kernel
theorem dX7_undo_43 : decode cX7_undo 43 = .ok (.getfield 54, 3) := by decide +kernel
theorem dX7_undo_46 : decode cX7_undo 46 = .ok (.imul, 1) := by decide +kernel
theorem dX7_undo_47 : decode cX7_undo 47 = .ok (.aload_n 0, 1) := by decide +kernel
theorem dX7_undo_48 : decode cX7_undo 48 = .ok (.getfield 9, 3) := by decide +kernel
theorem dX7_undo_51 : decode cX7_undo 51 = .ok (.iconst 0, 1) := by decide +kernel
theorem dX7_undo_52 : decode cX7_undo 52 = .ok (.sipush 164, 3) := by decide +kernel
theorem dX7_undo_55 : decode cX7_undo 55 = .ok (.invokestatic 48, 3) := by decide +kernel
theorem dX7_undo_58 : decode cX7_undo 58 = .ok (.aload_n 0, 1) := by decide +kernel
theorem dX7_undo_59 : decode cX7_undo 59 = .ok (.getfield 54, 3) := by decide +kernel
theorem dX7_undo_62 : decode cX7_undo 62 = .ok (.ireturn, 1) := by decide +kernel
theorem dX7_save_0 : decode cX7_save 0 = .ok (.aload_n 0, 1) := by decide +kernel
theorem dX7_save_1 : decode cX7_save 1 = .ok (.iconst 0, 1) := by decide +kernel
theorem dX7_save_2 : decode cX7_save 2 = .ok (.putfield 45, 3) := by decide +kernel
theorem dX7_save_5 : decode cX7_save 5 = .ok (.aload_n 0, 1) := by decide +kernel
theorem dX7_save_6 : decode cX7_save 6 = .ok (.getfield 9, 3) := by decide +kernel
theorem dX7_save_9 : decode cX7_save 9 = .ok (.iconst 0, 1) := by decide +kernel
theorem dX7_save_10 : decode cX7_save 10 = .ok (.aload_n 0, 1) := by decide +kernel
theorem dX7_save_11 : decode cX7_save 11 = .ok (.getfield 19, 3) := by decide +kernel
theorem dX7_save_14 : decode cX7_save 14 = .ok (.iconst 0, 1) := by decide +kernel
theorem dX7_save_15 : decode cX7_save 15 = .ok (.sipush 164, 3) := by decide +kernel
theorem dX7_save_18 : decode cX7_save 18 = .ok (.invokestatic 48, 3) := by decide +kernel
theorem dX7_save_21 : decode cX7_save 21 = .ok (.aload_n 0, 1) := by decide +kernel
theorem dX7_save_22 : decode cX7_save 22 = .ok (.iconst 1, 1) := by decide +kernel
theorem dX7_save_23 : decode cX7_save 23 = .ok (.putfield 278, 3) := by decide +kernel
theorem dX7_save_26 : decode cX7_save 26 = .ok (.aload_n 0, 1) := by decide +kernel
theorem dX7_save_27 : decode cX7_save 27 = .ok (.getfield 9, 3) := by decide +kernel
theorem dX7_save_30 : decode cX7_save 30 = .ok (.iconst 1, 1) := by decide +kernel
theorem dX7_save_31 : decode cX7_save 31 = .ok (.iaload, 1) := by decide +kernel
theorem dX7_save_32 : decode cX7_save 32 = .ok (.ireturn, 1) := by decide +kernel
theorem dX7_restore_0 : decode cX7_restore 0 = .ok (.aload_n 0, 1) := by decide +kernel
theorem dX7_restore_1 : decode cX7_restore 1 = .ok (.aload_n 0, 1) := by decide +kernel
theorem dX7_restore_2 : decode cX7_restore 2 = .ok (.getfield 278, 3) := by decide +kernel
theorem dX7_restore_5 : decode cX7_restore 5 = .ok (.ifCond .eq 7, 3) := by decide +kernel
theorem dX7_restore_8 : decode cX7_restore 8 = .ok (.iconst 0, 1) := by decide +kernel
theorem dX7_restore_9 : decode cX7_restore 9 = .ok (.goto 4, 3) := by decide +kernel
theorem dX7_restore_12 : decode cX7_restore 12 = .ok (.iconst 1, 1) := by decide +kernel
theorem dX7_restore_13 : decode cX7_restore 13 = .ok (.putfield 45, 3) := by decide +kernel
theorem dX7_restore_16 : decode cX7_restore 16 = .ok (.aload_n 0, 1) := by decide +kernel
theorem dX7_restore_17 : decode cX7_restore 17 = .ok (.getfield 45, 3) := by decide +kernel
theorem dX7_restore_20 : decode cX7_restore 20 = .ok (.ifCond .le 5, 3) := by decide +kernel
theorem dX7_restore_23 : decode cX7_restore 23 = .ok (.iconst 0, 1) := by decide +kernel
theorem dX7_restore_24 : decode cX7_restore 24 = .ok (.ireturn, 1) := by decide +kernel
theorem dX7_restore_25 : decode cX7_restore 25 = .ok (.aload_n 0, 1) := by decide +kernel
theorem dX7_restore_26 : decode cX7_restore 26 = .ok (.getfield 19, 3) := by decide +kernel
theorem dX7_restore_29 : decode cX7_restore 29 = .ok (.iconst 0, 1) := by decide +kernel
theorem dX7_restore_30 : decode cX7_restore 30 = .ok (.aload_n 0, 1) := by decide +kernel
theorem dX7_restore_31 : decode cX7_restore 31 = .ok (.getfield 9, 3) := by decide +kernel
theorem dX7_restore_34 : decode cX7_restore 34 = .ok (.iconst 0, 1) := by decide +kernel
theorem dX7_restore_35 : decode cX7_restore 35 = .ok (.sipush 164, 3) := by decide +kernel
theorem dX7_restore_38 : decode cX7_restore 38 = .ok (.invokestatic 48, 3) := by decide +kernel
theorem dX7_restore_41 : decode cX7_restore 41 = .ok (.aload_n 0, 1) := by decide +kernel
theorem dX7_restore_42 : decode cX7_restore 42 = .ok (.iconst 0, 1) := by decide +kernel
theorem dX7_restore_43 : decode cX7_restore 43 = .ok (.putfield 54, 3) := by decide +kernel
theorem dX7_restore_46 : decode cX7_restore 46 = .ok (.aload_n 0, 1) := by decide +kernel
theorem dX7_restore_47 : decode cX7_restore 47 = .ok (.getfield 9, 3) := by decide +kernel
theorem dX7_restore_50 : decode cX7_restore 50 = .ok (.iconst 1, 1) := by decide +kernel
theorem dX7_restore_51 : decode cX7_restore 51 = .ok (.iaload, 1) := by decide +kernel
theorem dX7_restore_52 : decode cX7_restore 52 = .ok (.ireturn, 1) := by decide +kernel
theorem dJx00060_init_a7421_0 : decode cJx00060_init_a7421 0 = .ok (.aload_n 0, 1) := by decide +kernel
theorem dJx00060_init_a7421_1 : decode cJx00060_init_a7421 1 = .ok (.aload_n 1, 1) := by decide +kernel
theorem dJx00060_init_a7421_2 : decode cJx00060_init_a7421 2 = .ok (.invokespecial 7, 3) := by decide +kernel
theorem dJx00060_init_a7421_5 : decode cJx00060_init_a7421 5 = .ok (.return_, 1) := by decide +kernel
theorem dJ11_isValidCodePoint_9a6ad_0 : decode cJ11_isValidCodePoint_9a6ad 0 = .ok (.iload_n 0, 1) := by decide +kernel
theorem dJ11_isValidCodePoint_9a6ad_1 : decode cJ11_isValidCodePoint_9a6ad 1 = .ok (.bipush 16, 2) := by decide +kernel
theorem dJ11_isValidCodePoint_9a6ad_3 : decode cJ11_isValidCodePoint_9a6ad 3 = .ok (.iushr, 1) := by decide +kernel
theorem dJ11_isValidCodePoint_9a6ad_4 : decode cJ11_isValidCodePoint_9a6ad 4 = .ok (.istore_n 1, 1) := by decide +kernel
theorem dJ11_isValidCodePoint_9a6ad_5 : decode cJ11_isValidCodePoint_9a6ad 5 = .ok (.iload_n 1, 1) := by decide +kernel
theorem dJ11_isValidCodePoint_9a6ad_6 : decode cJ11_isValidCodePoint_9a6ad 6 = .ok (.bipush 17, 2) := by decide +kernel
theorem dJ11_isValidCodePoint_9a6ad_8 : decode cJ11_isValidCodePoint_9a6ad 8 = .ok (.if_icmp .ge 7, 3) := by decide +kernel
theorem dJ11_isValidCodePoint_9a6ad_11 : decode cJ11_isValidCodePoint_9a6ad 11 = .ok (.iconst 1, 1) := by decide +kernel
theorem dJ11_isValidCodePoint_9a6ad_12 : decode cJ11_isValidCodePoint_9a6ad 12 = .ok (.goto 4, 3) := by decide +kernel
theorem dJ11_isValidCodePoint_9a6ad_15 : decode cJ11_isValidCodePoint_9a6ad 15 = .ok (.iconst 0, 1) := by decide +kernel
theorem dJ11_isValidCodePoint_9a6ad_16 : decode cJ11_isValidCodePoint_9a6ad 16 = .ok (.ireturn, 1) := by decide +kernel
theorem dJ11_highSurrogate_5068e_0 : decode cJ11_highSurrogate_5068e 0 = .ok (.iload_n 0, 1) := by decide +kernel
theorem dJ11_highSurrogate_5068e_1 : decode cJ11_highSurrogate_5068e 1 = .ok (.bipush 10, 2) := by decide +kernel
theorem dJ11_highSurrogate_5068e_3 : decode cJ11_highSurrogate_5068e 3 = .ok (.iushr, 1) := by decide +kernel
theorem dJ11_highSurrogate_5068e_4 : decode cJ11_highSurrogate_5068e 4 = .ok (.ldc 110, 2) := by decide +kernel
theorem dJ11_highSurrogate_5068e_6 : decode cJ11_highSurrogate_5068e 6 = .ok (.iadd, 1) := by decide +kernel
theorem dJ11_highSurrogate_5068e_7 : decode cJ11_highSurrogate_5068e 7 = .ok (.i2c, 1) := by decide +kernel
theorem dJ11_highSurrogate_5068e_8 : decode cJ11_highSurrogate_5068e 8 = .ok (.ireturn, 1) := by decide +kernel
theorem dJ11_lowSurrogate_5068e_0 : decode cJ11_lowSurrogate_5068e 0 = .ok (.iload_n 0, 1) := by decide +kernel
theorem dJ11_lowSurrogate_5068e_1 : decode cJ11_lowSurrogate_5068e 1 = .ok (.sipush 1023, 3) := by decide +kernel
theorem dJ11_lowSurrogate_5068e_4 : decode cJ11_lowSurrogate_5068e 4 = .ok (.iand, 1) := by decide +kernel
theorem dJ11_lowSurrogate_5068e_5 : decode cJ11_lowSurrogate_5068e 5 = .ok (.ldc 76, 2) := by decide +kernel
theorem dJ11_lowSurrogate_5068e_7 : decode cJ11_lowSurrogate_5068e 7 = .ok (.iadd, 1) := by decide +kernel
theorem dJ11_lowSurrogate_5068e_8 : decode cJ11_lowSurrogate_5068e 8 = .ok (.i2c, 1) := by decide +kernel
theorem dJ11_lowSurrogate_5068e_9 : decode cJ11_lowSurrogate_5068e 9 = .ok (.ireturn, 1) := by decide +kernel
theorem dJxe99ae_isNaN_b9ae7_0 : decode cJxe99ae_isNaN_b9ae7 0 = .ok (.dload_n 0, 1) := by decide +kernel
theorem dJxe99ae_isNaN_b9ae7_1 : decode cJxe99ae_isNaN_b9ae7 1 = .ok (.dload_n 0, 1) := by decide +kernel
theorem dJxe99ae_isNaN_b9ae7_2 : decode cJxe99ae_isNaN_b9ae7 2 = .ok (.dcmp .l, 1) := by decide +kernel
theorem dJxe99ae_isNaN_b9ae7_3 : decode cJxe99ae_isNaN_b9ae7 3 = .ok (.ifCond .eq 7, 3) := by decide +kernel
theorem dJxe99ae_isNaN_b9ae7_6 : decode cJxe99ae_isNaN_b9ae7 6 = .ok (.iconst 1, 1) := by decide +kernel
theorem dJxe99ae_isNaN_b9ae7_7 : decode cJxe99ae_isNaN_b9ae7 7 = .ok (.goto 4, 3) := by decide +kernel
theorem dJxe99ae_isNaN_b9ae7_10 : decode cJxe99ae_isNaN_b9ae7 10 = .ok (.iconst 0, 1) := by decide +kernel
theorem dJxe99ae_isNaN_b9ae7_11 : decode cJxe99ae_isNaN_b9ae7 11 = .ok (.ireturn, 1) := by decide +kernel
theorem dJxe99ae_doubleToLongBits_ccdee_0 : decode cJxe99ae_doubleToLongBits_ccdee 0 = .ok (.dload_n 0, 1) := by decide +kernel
theorem dJxe99ae_doubleToLongBits_ccdee_1 : decode cJxe99ae_doubleToLongBits_ccdee 1 = .ok (.invokestatic 122, 3) := by decide +kernel
theorem dJxe99ae_doubleToLongBits_ccdee_4 : decode cJxe99ae_doubleToLongBits_ccdee 4 = .ok (.ifCond .ne 8, 3) := by decide +kernel
theorem dJxe99ae_doubleToLongBits_ccdee_7 : decode cJxe99ae_doubleToLongBits_ccdee 7 = .ok (.dload_n 0, 1) := by decide +kernel
theorem dJxe99ae_doubleToLongBits_ccdee_8 : decode cJxe99ae_doubleToLongBits_ccdee 8 = .ok (.invokestatic 134, 3) := by decide +kernel
theorem dJxe99ae_doubleToLongBits_ccdee_11 : decode cJxe99ae_doubleToLongBits_ccdee 11 = .ok (.lreturn, 1) := by decide +kernel
theorem dJxe99ae_doubleToLongBits_ccdee_12 : decode cJxe99ae_doubleToLongBits_ccdee 12 = .ok (.ldc2_w 137, 3) := by decide +kernel
theorem dJxe99ae_doubleToLongBits_ccdee_15 : decode cJxe99ae_doubleToLongBits_ccdee 15 = .ok (.lreturn, 1) := by decide +kernel
theorem dJxf58ca_isNaN_12338_0 : decode cJxf58ca_isNaN_12338 0 = .ok (.fload_n 0, 1) := by decide +kernel
theorem dJxf58ca_isNaN_12338_1 : decode cJxf58ca_isNaN_12338 1 = .ok (.fload_n 0, 1) := by decide +kernel
theorem dJxf58ca_isNaN_12338_2 : decode cJxf58ca_isNaN_12338 2 = .ok (.fcmp .l, 1) := by decide +kernel
theorem dJxf58ca_isNaN_12338_3 : decode cJxf58ca_isNaN_12338 3 = .ok (.ifCond .eq 7, 3) := by decide +kernel
theorem dJxf58ca_isNaN_12338_6 : decode cJxf58ca_isNaN_12338 6 = .ok (.iconst 1, 1) := by decide +kernel
theorem dJxf58ca_isNaN_12338_7 : decode cJxf58ca_isNaN_12338 7 = .ok (.goto 4, 3) := by decide +kernel
theorem dJxf58ca_isNaN_12338_10 : decode cJxf58ca_isNaN_12338 10 = .ok (.iconst 0, 1) := by decide +kernel
theorem dJxf58ca_isNaN_12338_11 : decode cJxf58ca_isNaN_12338 11 = .ok (.ireturn, 1) := by decide +kernel
theorem dJxf58ca_floatToIntBits_5c35a_0 : decode cJxf58ca_floatToIntBits_5c35a 0 = .ok (.fload_n 0, 1) := by decide +kernel
theorem dJxf58ca_floatToIntBits_5c35a_1 : decode cJxf58ca_floatToIntBits_5c35a 1 = .ok (.invokestatic 59, 3) := by decide +kernel
theorem dJxf58ca_floatToIntBits_5c35a_4 : decode cJxf58ca_floatToIntBits_5c35a 4 = .ok (.ifCond .ne 8, 3) := by decide +kernel
theorem dJxf58ca_floatToIntBits_5c35a_7 : decode cJxf58ca_floatToIntBits_5c35a 7 = .ok (.fload_n 0, 1) := by decide +kernel
theorem dJxf58ca_floatToIntBits_5c35a_8 : decode cJxf58ca_floatToIntBits_5c35a 8 = .ok (.invokestatic 74, 3) := by decide +kernel
theorem dJxf58ca_floatToIntBits_5c35a_11 : decode cJxf58ca_floatToIntBits_5c35a 11 = .ok (.ireturn, 1) := by decide +kernel
theorem dJxf58ca_floatToIntBits_5c35a_12 : decode cJxf58ca_floatToIntBits_5c35a 12 = .ok (.ldc 77, 2) := by decide +kernel
theorem dJxf58ca_floatToIntBits_5c35a_14 : decode cJxf58ca_floatToIntBits_5c35a 14 = .ok (.ireturn, 1) := by decide +kernel
theorem dJ9_abs_0f7a4_0 : decode cJ9_abs_0f7a4 0 = .ok (.iload_n 0, 1) := by decide +kernel
theorem dJ9_abs_0f7a4_1 : decode cJ9_abs_0f7a4 1 = .ok (.ifCond .ge 8, 3) := by decide +kernel
theorem dJ9_abs_0f7a4_4 : decode cJ9_abs_0f7a4 4 = .ok (.iload_n 0, 1) := by decide +kernel
theorem dJ9_abs_0f7a4_5 : decode cJ9_abs_0f7a4 5 = .ok (.ineg, 1) := by decide +kernel
theorem dJ9_abs_0f7a4_6 : decode cJ9_abs_0f7a4 6 = .ok (.goto 4, 3) := by decide +kernel
theorem dJ9_abs_0f7a4_9 : decode cJ9_abs_0f7a4 9 = .ok (.iload_n 0, 1) := by decide +kernel
theorem dJ9_abs_0f7a4_10 : decode cJ9_abs_0f7a4 10 = .ok (.ireturn, 1) := by decide +kernel
theorem dJ9_max_7cf53_0 : decode cJ9_max_7cf53 0 = .ok (.iload_n 0, 1) := by decide +kernel
theorem dJ9_max_7cf53_1 : decode cJ9_max_7cf53 1 = .ok (.iload_n 1, 1) := by decide +kernel
theorem dJ9_max_7cf53_2 : decode cJ9_max_7cf53 2 = .ok (.if_icmp .lt 7, 3) := by decide +kernel
theorem dJ9_max_7cf53_5 : decode cJ9_max_7cf53 5 = .ok (.iload_n 0, 1) := by decide +kernel
theorem dJ9_max_7cf53_6 : decode cJ9_max_7cf53 6 = .ok (.goto 4, 3) := by decide +kernel
theorem dJ9_max_7cf53_9 : decode cJ9_max_7cf53 9 = .ok (.iload_n 1, 1) := by decide +kernel
theorem dJ9_max_7cf53_10 : decode cJ9_max_7cf53 10 = .ok (.ireturn, 1) := by decide +kernel
theorem dJ9_min_7cf53_0 : decode cJ9_min_7cf53 0 = .ok (.iload_n 0, 1) := by decide +kernel
theorem dJ9_min_7cf53_1 : decode cJ9_min_7cf53 1 = .ok (.iload_n 1, 1) := by decide +kernel
theorem dJ9_min_7cf53_2 : decode cJ9_min_7cf53 2 = .ok (.if_icmp .gt 7, 3) := by decide +kernel
theorem dJ9_min_7cf53_5 : decode cJ9_min_7cf53 5 = .ok (.iload_n 0, 1) := by decide +kernel
theorem dJ9_min_7cf53_6 : decode cJ9_min_7cf53 6 = .ok (.goto 4, 3) := by decide +kernel
theorem dJ9_min_7cf53_9 : decode cJ9_min_7cf53 9 = .ok (.iload_n 1, 1) := by decide +kernel
theorem dJ9_min_7cf53_10 : decode cJ9_min_7cf53 10 = .ok (.ireturn, 1) := by decide +kernel
theorem dJ0_length_8abf5_0 : decode cJ0_length_8abf5 0 = .ok (.aload_n 0, 1) := by decide +kernel
theorem dJ0_length_8abf5_1 : decode cJ0_length_8abf5 1 = .ok (.getfield 9, 3) := by decide +kernel
theorem dJ0_length_8abf5_4 : decode cJ0_length_8abf5 4 = .ok (.arraylength, 1) := by decide +kernel
theorem dJ0_length_8abf5_5 : decode cJ0_length_8abf5 5 = .ok (.aload_n 0, 1) := by decide +kernel
theorem dJ0_length_8abf5_6 : decode cJ0_length_8abf5 6 = .ok (.invokevirtual 335, 3) := by decide +kernel
theorem dJ0_length_8abf5_9 : decode cJ0_length_8abf5 9 = .ok (.ishr, 1) := by decide +kernel
theorem dJ0_length_8abf5_10 : decode cJ0_length_8abf5 10 = .ok (.ireturn, 1) := by decide +kernel
theorem dJ0_indexOf_0f7a4_0 : decode cJ0_indexOf_0f7a4 0 = .ok (.aload_n 0, 1) := by decide +kernel
theorem dJ0_indexOf_0f7a4_1 : decode cJ0_indexOf_0f7a4 1 = .ok (.iload_n 1, 1) := by decide +kernel
theorem dJ0_indexOf_0f7a4_2 : decode cJ0_indexOf_0f7a4 2 = .ok (.iconst 0, 1) := by decide +kernel
theorem dJ0_indexOf_0f7a4_3 : decode cJ0_indexOf_0f7a4 3 = .ok (.invokevirtual 633, 3) := by decide +kernel
theorem dJ0_indexOf_0f7a4_6 : decode cJ0_indexOf_0f7a4 6 = .ok (.ireturn, 1) := by decide +kernel
theorem dJ0_indexOf_7cf53_0 : decode cJ0_indexOf_7cf53 0 = .ok (.aload_n 0, 1) := by decide +kernel
theorem dJ0_indexOf_7cf53_1 : decode cJ0_indexOf_7cf53 1 = .ok (.invokevirtual 492, 3) := by decide +kernel
theorem dJ0_indexOf_7cf53_4 : decode cJ0_indexOf_7cf53 4 = .ok (.ifCond .eq 19, 3) := by decide +kernel
theorem dJ0_indexOf_7cf53_7 : decode cJ0_indexOf_7cf53 7 = .ok (.aload_n 0, 1) := by decide +kernel
theorem dJ0_indexOf_7cf53_8 : decode cJ0_indexOf_7cf53 8 = .ok (.getfield 9, 3) := by decide +kernel
theorem dJ0_indexOf_7cf53_11 : decode cJ0_indexOf_7cf53 11 = .ok (.iload_n 1, 1) := by decide +kernel
theorem dJ0_indexOf_7cf53_12 : decode cJ0_indexOf_7cf53 12 = .ok (.iload_n 2, 1) := by decide +kernel
theorem dJ0_indexOf_7cf53_13 : decode cJ0_indexOf_7cf53 13 = .ok (.aload_n 0, 1) := by decide +kernel
theorem dJ0_indexOf_7cf53_14 : decode cJ0_indexOf_7cf53 14 = .ok (.invokevirtual 505, 3) := by decide +kernel
theorem dJ0_indexOf_7cf53_17 : decode cJ0_indexOf_7cf53 17 = .ok (.invokestatic 637, 3) := by decide +kernel
theorem dJ0_indexOf_7cf53_20 : decode cJ0_indexOf_7cf53 20 = .ok (.goto 16, 3) := by decide +kernel
theorem dJ0_indexOf_7cf53_23 : decode cJ0_indexOf_7cf53 23 = .ok (.aload_n 0, 1) := by decide +kernel
theorem dJ0_indexOf_7cf53_24 : decode cJ0_indexOf_7cf53 24 = .ok (.getfield 9, 3) := by decide +kernel
theorem dJ0_indexOf_7cf53_27 : decode cJ0_indexOf_7cf53 27 = .ok (.iload_n 1, 1) := by decide +kernel
theorem dJ0_indexOf_7cf53_28 : decode cJ0_indexOf_7cf53 28 = .ok (.iload_n 2, 1) := by decide +kernel
theorem dJ0_indexOf_7cf53_29 : decode cJ0_indexOf_7cf53 29 = .ok (.aload_n 0, 1) := by decide +kernel
theorem dJ0_indexOf_7cf53_30 : decode cJ0_indexOf_7cf53 30 = .ok (.invokevirtual 505, 3) := by decide +kernel
theorem dJ0_indexOf_7cf53_33 : decode cJ0_indexOf_7cf53 33 = .ok (.invokestatic 640, 3) := by decide +kernel
theorem dJ0_indexOf_7cf53_36 : decode cJ0_indexOf_7cf53 36 = .ok (.ireturn, 1) := by decide +kernel
theorem dJ0_coder_7d493_0 : decode cJ0_coder_7d493 0 = .ok (.getstatic 38, 3) := by decide +kernel
theorem dJ0_coder_7d493_3 : decode cJ0_coder_7d493 3 = .ok (.ifCond .eq 10, 3) := by decide +kernel
theorem dJ0_coder_7d493_6 : decode cJ0_coder_7d493 6 = .ok (.aload_n 0, 1) := by decide +kernel
theorem dJ0_coder_7d493_7 : decode cJ0_coder_7d493 7 = .ok (.getfield 15, 3) := by decide +kernel
theorem dJ0_coder_7d493_10 : decode cJ0_coder_7d493 10 = .ok (.goto 4, 3) := by decide +kernel
theorem dJ0_coder_7d493_13 : decode cJ0_coder_7d493 13 = .ok (.iconst 1, 1) := by decide +kernel
theorem dJ0_coder_7d493_14 : decode cJ0_coder_7d493 14 = .ok (.ireturn, 1) := by decide +kernel
theorem dJ0_isLatin1_aae02_0 : decode cJ0_isLatin1_aae02 0 = .ok (.getstatic 38, 3) := by decide +kernel
theorem dJ0_isLatin1_aae02_3 : decode cJ0_isLatin1_aae02 3 = .ok (.ifCond .eq 14, 3) := by decide +kernel
theorem dJ0_isLatin1_aae02_6 : decode cJ0_isLatin1_aae02 6 = .ok (.aload_n 0, 1) := by decide +kernel
theorem dJ0_isLatin1_aae02_7 : decode cJ0_isLatin1_aae02 7 = .ok (.getfield 15, 3) := by decide +kernel
theorem dJ0_isLatin1_aae02_10 : decode cJ0_isLatin1_aae02 10 = .ok (.ifCond .ne 7, 3) := by decide +kernel
theorem dJ0_isLatin1_aae02_13 : decode cJ0_isLatin1_aae02 13 = .ok (.iconst 1, 1) := by decide +kernel
theorem dJ0_isLatin1_aae02_14 : decode cJ0_isLatin1_aae02 14 = .ok (.goto 4, 3) := by decide +kernel
theorem dJ0_isLatin1_aae02_17 : decode cJ0_isLatin1_aae02 17 = .ok (.iconst 0, 1) := by decide +kernel
theorem dJ0_isLatin1_aae02_18 : decode cJ0_isLatin1_aae02 18 = .ok (.ireturn, 1) := by decide +kernel
theorem dJ0_checkBoundsBeginEnd_23922_0 : decode cJ0_checkBoundsBeginEnd_23922 0 = .ok (.iload_n 0, 1) := by decide +kernel
theorem dJ0_checkBoundsBeginEnd_23922_1 : decode cJ0_checkBoundsBeginEnd_23922 1 = .ok (.iload_n 1, 1) := by decide +kernel
theorem dJ0_checkBoundsBeginEnd_23922_2 : decode cJ0_checkBoundsBeginEnd_23922 2 = .ok (.iload_n 2, 1) := by decide +kernel
theorem dJ0_checkBoundsBeginEnd_23922_3 : decode cJ0_checkBoundsBeginEnd_23922 3 = .ok (.getstatic 1053, 3) := by decide +kernel
theorem dJ0_checkBoundsBeginEnd_23922_6 : decode cJ0_checkBoundsBeginEnd_23922 6 = .ok (.invokestatic 1062, 3) := by decide +kernel
theorem dJ0_checkBoundsBeginEnd_23922_9 : decode cJ0_checkBoundsBeginEnd_23922 9 = .ok (.pop, 1) := by decide +kernel
theorem dJ0_checkBoundsBeginEnd_23922_10 : decode cJ0_checkBoundsBeginEnd_23922 10 = .ok (.return_, 1) := by decide +kernel
theorem dJ1_canEncode_9a6ad_0 : decode cJ1_canEncode_9a6ad 0 = .ok (.iload_n 0, 1) := by decide +kernel
theorem dJ1_canEncode_9a6ad_1 : decode cJ1_canEncode_9a6ad 1 = .ok (.ifCond .lt 14, 3) := by decide +kernel
theorem dJ1_canEncode_9a6ad_4 : decode cJ1_canEncode_9a6ad 4 = .ok (.iload_n 0, 1) := by decide +kernel
theorem dJ1_canEncode_9a6ad_5 : decode cJ1_canEncode_9a6ad 5 = .ok (.sipush 255, 3) := by decide +kernel
theorem dJ1_canEncode_9a6ad_8 : decode cJ1_canEncode_9a6ad 8 = .ok (.if_icmp .gt 7, 3) := by decide +kernel
theorem dJ1_canEncode_9a6ad_11 : decode cJ1_canEncode_9a6ad 11 = .ok (.iconst 1, 1) := by decide +kernel
theorem dJ1_canEncode_9a6ad_12 : decode cJ1_canEncode_9a6ad 12 = .ok (.goto 4, 3) := by decide +kernel
theorem dJ1_canEncode_9a6ad_15 : decode cJ1_canEncode_9a6ad 15 = .ok (.iconst 0, 1) := by decide +kernel
theorem dJ1_canEncode_9a6ad_16 : decode cJ1_canEncode_9a6ad 16 = .ok (.ireturn, 1) := by decide +kernel
theorem dJ1_indexOf_4cfef_0 : decode cJ1_indexOf_4cfef 0 = .ok (.iload_n 1, 1) := by decide +kernel
theorem dJ1_indexOf_4cfef_1 : decode cJ1_indexOf_4cfef 1 = .ok (.invokestatic 88, 3) := by decide +kernel
theorem dJ1_indexOf_4cfef_4 : decode cJ1_indexOf_4cfef 4 = .ok (.ifCond .ne 5, 3) := by decide +kernel
theorem dJ1_indexOf_4cfef_7 : decode cJ1_indexOf_4cfef 7 = .ok (.iconst (-1), 1) := by decide +kernel
theorem dJ1_indexOf_4cfef_8 : decode cJ1_indexOf_4cfef 8 = .ok (.ireturn, 1) := by decide +kernel
theorem dJ1_indexOf_4cfef_9 : decode cJ1_indexOf_4cfef 9 = .ok (.iload_n 2, 1) := by decide +kernel
theorem dJ1_indexOf_4cfef_10 : decode cJ1_indexOf_4cfef 10 = .ok (.iconst 0, 1) := by decide +kernel
theorem dJ1_indexOf_4cfef_11 : decode cJ1_indexOf_4cfef 11 = .ok (.invokestatic 92, 3) := by decide +kernel
theorem dJ1_indexOf_4cfef_14 : decode cJ1_indexOf_4cfef 14 = .ok (.istore_n 2, 1) := by decide +kernel
theorem dJ1_indexOf_4cfef_15 : decode cJ1_indexOf_4cfef 15 = .ok (.iload_n 3, 1) := by decide +kernel
theorem dJ1_indexOf_4cfef_16 : decode cJ1_indexOf_4cfef 16 = .ok (.aload_n 0, 1) := by decide +kernel
theorem dJ1_indexOf_4cfef_17 : decode cJ1_indexOf_4cfef 17 = .ok (.arraylength, 1) := by decide +kernel
theorem dJ1_indexOf_4cfef_18 : decode cJ1_indexOf_4cfef 18 = .ok (.invokestatic 38, 3) := by decide +kernel
theorem dJ1_indexOf_4cfef_21 : decode cJ1_indexOf_4cfef 21 = .ok (.istore_n 3, 1) := by decide +kernel
theorem dJ1_indexOf_4cfef_22 : decode cJ1_indexOf_4cfef 22 = .ok (.iload_n 2, 1) := by decide +kernel
theorem dJ1_indexOf_4cfef_23 : decode cJ1_indexOf_4cfef 23 = .ok (.iload_n 3, 1) := by decide +kernel
theorem dJ1_indexOf_4cfef_24 : decode cJ1_indexOf_4cfef 24 = .ok (.if_icmp .lt 5, 3) := by decide +kernel
theorem dJ1_indexOf_4cfef_27 : decode cJ1_indexOf_4cfef 27 = .ok (.iconst (-1), 1) := by decide +kernel
theorem dJ1_indexOf_4cfef_28 : decode cJ1_indexOf_4cfef 28 = .ok (.ireturn, 1) := by decide +kernel
theorem dJ1_indexOf_4cfef_29 : decode cJ1_indexOf_4cfef 29 = .ok (.aload_n 0, 1) := by decide +kernel
theorem dJ1_indexOf_4cfef_30 : decode cJ1_indexOf_4cfef 30 = .ok (.iload_n 1, 1) := by decide +kernel
theorem dJ1_indexOf_4cfef_31 : decode cJ1_indexOf_4cfef 31 = .ok (.iload_n 2, 1) := by decide +kernel
theorem dJ1_indexOf_4cfef_32 : decode cJ1_indexOf_4cfef 32 = .ok (.iload_n 3, 1) := by decide +kernel
theorem dJ1_indexOf_4cfef_33 : decode cJ1_indexOf_4cfef 33 = .ok (.invokestatic 95, 3) := by decide +kernel
theorem dJ1_indexOf_4cfef_36 : decode cJ1_indexOf_4cfef 36 = .ok (.ireturn, 1) := by decide +kernel
theorem dJ1_indexOfChar_4cfef_0 : decode cJ1_indexOfChar_4cfef 0 = .ok (.iload_n 1, 1) := by decide +kernel
theorem dJ1_indexOfChar_4cfef_1 : decode cJ1_indexOfChar_4cfef 1 = .ok (.i2b, 1) := by decide +kernel
theorem dJ1_indexOfChar_4cfef_2 : decode cJ1_indexOfChar_4cfef 2 = .ok (.istore 4, 2) := by decide +kernel
theorem dJ1_indexOfChar_4cfef_4 : decode cJ1_indexOfChar_4cfef 4 = .ok (.iload_n 2, 1) := by decide +kernel
theorem dJ1_indexOfChar_4cfef_5 : decode cJ1_indexOfChar_4cfef 5 = .ok (.istore 5, 2) := by decide +kernel
theorem dJ1_indexOfChar_4cfef_7 : decode cJ1_indexOfChar_4cfef 7 = .ok (.iload 5, 2) := by decide +kernel
theorem dJ1_indexOfChar_4cfef_9 : decode cJ1_indexOfChar_4cfef 9 = .ok (.iload_n 3, 1) := by decide +kernel
theorem dJ1_indexOfChar_4cfef_10 : decode cJ1_indexOfChar_4cfef 10 = .ok (.if_icmp .ge 21, 3) := by decide +kernel
theorem dJ1_indexOfChar_4cfef_13 : decode cJ1_indexOfChar_4cfef 13 = .ok (.aload_n 0, 1) := by decide +kernel
theorem dJ1_indexOfChar_4cfef_14 : decode cJ1_indexOfChar_4cfef 14 = .ok (.iload 5, 2) := by decide +kernel
theorem dJ1_indexOfChar_4cfef_16 : decode cJ1_indexOfChar_4cfef 16 = .ok (.baload, 1) := by decide +kernel
theorem dJ1_indexOfChar_4cfef_17 : decode cJ1_indexOfChar_4cfef 17 = .ok (.iload 4, 2) := by decide +kernel
theorem dJ1_indexOfChar_4cfef_19 : decode cJ1_indexOfChar_4cfef 19 = .ok (.if_icmp .ne 6, 3) := by decide +kernel
theorem dJ1_indexOfChar_4cfef_22 : decode cJ1_indexOfChar_4cfef 22 = .ok (.iload 5, 2) := by decide +kernel
theorem dJ1_indexOfChar_4cfef_24 : decode cJ1_indexOfChar_4cfef 24 = .ok (.ireturn, 1) := by decide +kernel
theorem dJ1_indexOfChar_4cfef_25 : decode cJ1_indexOfChar_4cfef 25 = .ok (.iinc 5 1, 3) := by decide +kernel
theorem dJ1_indexOfChar_4cfef_28 : decode cJ1_indexOfChar_4cfef 28 = .ok (.goto (-21), 3) := by decide +kernel
theorem dJ1_indexOfChar_4cfef_31 : decode cJ1_indexOfChar_4cfef 31 = .ok (.iconst (-1), 1) := by decide +kernel
theorem dJ1_indexOfChar_4cfef_32 : decode cJ1_indexOfChar_4cfef 32 = .ok (.ireturn, 1) := by decide +kernel
theorem dJ2_getChar_3b067_0 : decode cJ2_getChar_3b067 0 = .ok (.getstatic 44, 3) := by decide +kernel
theorem dJ2_getChar_3b067_3 : decode cJ2_getChar_3b067 3 = .ok (.ifCond .ne 25, 3) := by decide +kernel
theorem dJ2_getChar_3b067_6 : decode cJ2_getChar_3b067 6 = .ok (.iload_n 1, 1) := by decide +kernel
theorem dJ2_getChar_3b067_7 : decode cJ2_getChar_3b067 7 = .ok (.ifCond .lt 11, 3) := by decide +kernel
theorem dJ2_getChar_3b067_10 : decode cJ2_getChar_3b067 10 = .ok (.iload_n 1, 1) := by decide +kernel
theorem dJ2_getChar_3b067_11 : decode cJ2_getChar_3b067 11 = .ok (.aload_n 0, 1) := by decide +kernel
theorem dJ2_getChar_3b067_12 : decode cJ2_getChar_3b067 12 = .ok (.invokestatic 48, 3) := by decide +kernel
theorem dJ2_getChar_3b067_15 : decode cJ2_getChar_3b067 15 = .ok (.if_icmp .lt 13, 3) := by decide +kernel
theorem dJ2_getChar_3b067_18 : decode cJ2_getChar_3b067 18 = .ok (.new 52, 3) := by decide +kernel
theorem dJ2_getChar_3b067_21 : decode cJ2_getChar_3b067 21 = .ok (.dup, 1) := by decide +kernel
theorem dJ2_getChar_3b067_22 : decode cJ2_getChar_3b067 22 = .ok (.ldc 54, 2) := by decide +kernel
theorem dJ2_getChar_3b067_24 : decode cJ2_getChar_3b067 24 = .ok (.invokespecial 56, 3) := by decide +kernel
theorem dJ2_getChar_3b067_27 : decode cJ2_getChar_3b067 27 = .ok (.athrow, 1) := by decide +kernel
theorem dJ2_getChar_3b067_28 : decode cJ2_getChar_3b067 28 = .ok (.iload_n 1, 1) := by decide +kernel
theorem dJ2_getChar_3b067_29 : decode cJ2_getChar_3b067 29 = .ok (.iconst 1, 1) := by decide +kernel
theorem dJ2_getChar_3b067_30 : decode cJ2_getChar_3b067 30 = .ok (.ishl, 1) := by decide +kernel
theorem dJ2_getChar_3b067_31 : decode cJ2_getChar_3b067 31 = .ok (.istore_n 1, 1) := by decide +kernel
theorem dJ2_getChar_3b067_32 : decode cJ2_getChar_3b067 32 = .ok (.aload_n 0, 1) := by decide +kernel
theorem dJ2_getChar_3b067_33 : decode cJ2_getChar_3b067 33 = .ok (.iload_n 1, 1) := by decide +kernel
theorem dJ2_getChar_3b067_34 : decode cJ2_getChar_3b067 34 = .ok (.iinc 1 1, 3) := by decide +kernel
theorem dJ2_getChar_3b067_37 : decode cJ2_getChar_3b067 37 = .ok (.baload, 1) := by decide +kernel
theorem dJ2_getChar_3b067_38 : decode cJ2_getChar_3b067 38 = .ok (.sipush 255, 3) := by decide +kernel
theorem dJ2_getChar_3b067_41 : decode cJ2_getChar_3b067 41 = .ok (.iand, 1) := by decide +kernel
theorem dJ2_getChar_3b067_42 : decode cJ2_getChar_3b067 42 = .ok (.getstatic 59, 3) := by decide +kernel
theorem dJ2_getChar_3b067_45 : decode cJ2_getChar_3b067 45 = .ok (.ishl, 1) := by decide +kernel
theorem dJ2_getChar_3b067_46 : decode cJ2_getChar_3b067 46 = .ok (.aload_n 0, 1) := by decide +kernel
theorem dJ2_getChar_3b067_47 : decode cJ2_getChar_3b067 47 = .ok (.iload_n 1, 1) := by decide +kernel
theorem dJ2_getChar_3b067_48 : decode cJ2_getChar_3b067 48 = .ok (.baload, 1) := by decide +kernel
theorem dJ2_getChar_3b067_49 : decode cJ2_getChar_3b067 49 = .ok (.sipush 255, 3) := by decide +kernel
theorem dJ2_getChar_3b067_52 : decode cJ2_getChar_3b067 52 = .ok (.iand, 1) := by decide +kernel
theorem dJ2_getChar_3b067_53 : decode cJ2_getChar_3b067 53 = .ok (.getstatic 63, 3) := by decide +kernel
theorem dJ2_getChar_3b067_56 : decode cJ2_getChar_3b067 56 = .ok (.ishl, 1) := by decide +kernel
theorem dJ2_getChar_3b067_57 : decode cJ2_getChar_3b067 57 = .ok (.ior, 1) := by decide +kernel
theorem dJ2_getChar_3b067_58 : decode cJ2_getChar_3b067 58 = .ok (.i2c, 1) := by decide +kernel
theorem dJ2_getChar_3b067_59 : decode cJ2_getChar_3b067 59 = .ok (.ireturn, 1) := by decide +kernel
theorem dJ2_length_9d52b_0 : decode cJ2_length_9d52b 0 = .ok (.aload_n 0, 1) := by decide +kernel
theorem dJ2_length_9d52b_1 : decode cJ2_length_9d52b 1 = .ok (.arraylength, 1) := by decide +kernel
theorem dJ2_length_9d52b_2 : decode cJ2_length_9d52b 2 = .ok (.iconst 1, 1) := by decide +kernel
theorem dJ2_length_9d52b_3 : decode cJ2_length_9d52b 3 = .ok (.ishr, 1) := by decide +kernel
theorem dJ2_length_9d52b_4 : decode cJ2_length_9d52b 4 = .ok (.ireturn, 1) := by decide +kernel
theorem dJ2_indexOf_4cfef_0 : decode cJ2_indexOf_4cfef 0 = .ok (.iload_n 2, 1) := by decide +kernel
theorem dJ2_indexOf_4cfef_1 : decode cJ2_indexOf_4cfef 1 = .ok (.iconst 0, 1) := by decide +kernel
theorem dJ2_indexOf_4cfef_2 : decode cJ2_indexOf_4cfef 2 = .ok (.invokestatic 224, 3) := by decide +kernel
theorem dJ2_indexOf_4cfef_5 : decode cJ2_indexOf_4cfef 5 = .ok (.istore_n 2, 1) := by decide +kernel
theorem dJ2_indexOf_4cfef_6 : decode cJ2_indexOf_4cfef 6 = .ok (.iload_n 3, 1) := by decide +kernel
theorem dJ2_indexOf_4cfef_7 : decode cJ2_indexOf_4cfef 7 = .ok (.aload_n 0, 1) := by decide +kernel
theorem dJ2_indexOf_4cfef_8 : decode cJ2_indexOf_4cfef 8 = .ok (.arraylength, 1) := by decide +kernel
theorem dJ2_indexOf_4cfef_9 : decode cJ2_indexOf_4cfef 9 = .ok (.iconst 1, 1) := by decide +kernel
theorem dJ2_indexOf_4cfef_10 : decode cJ2_indexOf_4cfef 10 = .ok (.ishr, 1) := by decide +kernel
theorem dJ2_indexOf_4cfef_11 : decode cJ2_indexOf_4cfef 11 = .ok (.invokestatic 183, 3) := by decide +kernel
theorem dJ2_indexOf_4cfef_14 : decode cJ2_indexOf_4cfef 14 = .ok (.istore_n 3, 1) := by decide +kernel
theorem dJ2_indexOf_4cfef_15 : decode cJ2_indexOf_4cfef 15 = .ok (.iload_n 2, 1) := by decide +kernel
theorem dJ2_indexOf_4cfef_16 : decode cJ2_indexOf_4cfef 16 = .ok (.iload_n 3, 1) := by decide +kernel
theorem dJ2_indexOf_4cfef_17 : decode cJ2_indexOf_4cfef 17 = .ok (.if_icmp .lt 5, 3) := by decide +kernel
theorem dJ2_indexOf_4cfef_20 : decode cJ2_indexOf_4cfef 20 = .ok (.iconst (-1), 1) := by decide +kernel
theorem dJ2_indexOf_4cfef_21 : decode cJ2_indexOf_4cfef 21 = .ok (.ireturn, 1) := by decide +kernel
theorem dJ2_indexOf_4cfef_22 : decode cJ2_indexOf_4cfef 22 = .ok (.iload_n 1, 1) := by decide +kernel
theorem dJ2_indexOf_4cfef_23 : decode cJ2_indexOf_4cfef 23 = .ok (.ldc 227, 2) := by decide +kernel
theorem dJ2_indexOf_4cfef_25 : decode cJ2_indexOf_4cfef 25 = .ok (.if_icmp .ge 11, 3) := by decide +kernel
theorem dJ2_indexOf_4cfef_28 : decode cJ2_indexOf_4cfef 28 = .ok (.aload_n 0, 1) := by decide +kernel
theorem dJ2_indexOf_4cfef_29 : decode cJ2_indexOf_4cfef 29 = .ok (.iload_n 1, 1) := by decide +kernel
theorem dJ2_indexOf_4cfef_30 : decode cJ2_indexOf_4cfef 30 = .ok (.iload_n 2, 1) := by decide +kernel
theorem dJ2_indexOf_4cfef_31 : decode cJ2_indexOf_4cfef 31 = .ok (.iload_n 3, 1) := by decide +kernel
theorem dJ2_indexOf_4cfef_32 : decode cJ2_indexOf_4cfef 32 = .ok (.invokestatic 228, 3) := by decide +kernel
theorem dJ2_indexOf_4cfef_35 : decode cJ2_indexOf_4cfef 35 = .ok (.ireturn, 1) := by decide +kernel
theorem dJ2_indexOf_4cfef_36 : decode cJ2_indexOf_4cfef 36 = .ok (.aload_n 0, 1) := by decide +kernel
theorem dJ2_indexOf_4cfef_37 : decode cJ2_indexOf_4cfef 37 = .ok (.iload_n 1, 1) := by decide +kernel
theorem dJ2_indexOf_4cfef_38 : decode cJ2_indexOf_4cfef 38 = .ok (.iload_n 2, 1) := by decide +kernel
theorem dJ2_indexOf_4cfef_39 : decode cJ2_indexOf_4cfef 39 = .ok (.iload_n 3, 1) := by decide +kernel
theorem dJ2_indexOf_4cfef_40 : decode cJ2_indexOf_4cfef 40 = .ok (.invokestatic 232, 3) := by decide +kernel
theorem dJ2_indexOf_4cfef_43 : decode cJ2_indexOf_4cfef 43 = .ok (.ireturn, 1) := by decide +kernel
theorem dJ2_indexOfChar_4cfef_0 : decode cJ2_indexOfChar_4cfef 0 = .ok (.iload_n 2, 1) := by decide +kernel
theorem dJ2_indexOfChar_4cfef_1 : decode cJ2_indexOfChar_4cfef 1 = .ok (.iload_n 3, 1) := by decide +kernel
theorem dJ2_indexOfChar_4cfef_2 : decode cJ2_indexOfChar_4cfef 2 = .ok (.aload_n 0, 1) := by decide +kernel
theorem dJ2_indexOfChar_4cfef_3 : decode cJ2_indexOfChar_4cfef 3 = .ok (.invokestatic 96, 3) := by decide +kernel
theorem dJ2_indexOfChar_4cfef_6 : decode cJ2_indexOfChar_4cfef 6 = .ok (.aload_n 0, 1) := by decide +kernel
theorem dJ2_indexOfChar_4cfef_7 : decode cJ2_indexOfChar_4cfef 7 = .ok (.iload_n 1, 1) := by decide +kernel
theorem dJ2_indexOfChar_4cfef_8 : decode cJ2_indexOfChar_4cfef 8 = .ok (.iload_n 2, 1) := by decide +kernel
theorem dJ2_indexOfChar_4cfef_9 : decode cJ2_indexOfChar_4cfef 9 = .ok (.iload_n 3, 1) := by decide +kernel
theorem dJ2_indexOfChar_4cfef_10 : decode cJ2_indexOfChar_4cfef 10 = .ok (.invokestatic 244, 3) := by decide +kernel
theorem dJ2_indexOfChar_4cfef_13 : decode cJ2_indexOfChar_4cfef 13 = .ok (.ireturn, 1) := by decide +kernel
theorem dJ2_indexOfCharUnsafe_4cfef_0 : decode cJ2_indexOfCharUnsafe_4cfef 0 = .ok (.iload_n 2, 1) := by decide +kernel
theorem dJ2_indexOfCharUnsafe_4cfef_1 : decode cJ2_indexOfCharUnsafe_4cfef 1 = .ok (.istore 4, 2) := by decide +kernel
theorem dJ2_indexOfCharUnsafe_4cfef_3 : decode cJ2_indexOfCharUnsafe_4cfef 3 = .ok (.iload 4, 2) := by decide +kernel
theorem dJ2_indexOfCharUnsafe_4cfef_5 : decode cJ2_indexOfCharUnsafe_4cfef 5 = .ok (.iload_n 3, 1) := by decide +kernel
theorem dJ2_indexOfCharUnsafe_4cfef_6 : decode cJ2_indexOfCharUnsafe_4cfef 6 = .ok (.if_icmp .ge 22, 3) := by decide +kernel
theorem dJ2_indexOfCharUnsafe_4cfef_9 : decode cJ2_indexOfCharUnsafe_4cfef 9 = .ok (.aload_n 0, 1) := by decide +kernel
theorem dJ2_indexOfCharUnsafe_4cfef_10 : decode cJ2_indexOfCharUnsafe_4cfef 10 = .ok (.iload 4, 2) := by decide +kernel
theorem dJ2_indexOfCharUnsafe_4cfef_12 : decode cJ2_indexOfCharUnsafe_4cfef 12 = .ok (.invokestatic 71, 3) := by decide +kernel
theorem dJ2_indexOfCharUnsafe_4cfef_15 : decode cJ2_indexOfCharUnsafe_4cfef 15 = .ok (.iload_n 1, 1) := by decide +kernel
theorem dJ2_indexOfCharUnsafe_4cfef_16 : decode cJ2_indexOfCharUnsafe_4cfef 16 = .ok (.if_icmp .ne 6, 3) := by decide +kernel
theorem dJ2_indexOfCharUnsafe_4cfef_19 : decode cJ2_indexOfCharUnsafe_4cfef 19 = .ok (.iload 4, 2) := by decide +kernel
theorem dJ2_indexOfCharUnsafe_4cfef_21 : decode cJ2_indexOfCharUnsafe_4cfef 21 = .ok (.ireturn, 1) := by decide +kernel
theorem dJ2_indexOfCharUnsafe_4cfef_22 : decode cJ2_indexOfCharUnsafe_4cfef 22 = .ok (.iinc 4 1, 3) := by decide +kernel
theorem dJ2_indexOfCharUnsafe_4cfef_25 : decode cJ2_indexOfCharUnsafe_4cfef 25 = .ok (.goto (-22), 3) := by decide +kernel
theorem dJ2_indexOfCharUnsafe_4cfef_28 : decode cJ2_indexOfCharUnsafe_4cfef 28 = .ok (.iconst (-1), 1) := by decide +kernel
theorem dJ2_indexOfCharUnsafe_4cfef_29 : decode cJ2_indexOfCharUnsafe_4cfef 29 = .ok (.ireturn, 1) := by decide +kernel
theorem dJ2_indexOfSupplementary_4cfef_0 : decode cJ2_indexOfSupplementary_4cfef 0 = .ok (.iload_n 1, 1) := by decide +kernel
theorem dJ2_indexOfSupplementary_4cfef_1 : decode cJ2_indexOfSupplementary_4cfef 1 = .ok (.invokestatic 164, 3) := by decide +kernel
theorem dJ2_indexOfSupplementary_4cfef_4 : decode cJ2_indexOfSupplementary_4cfef 4 = .ok (.ifCond .eq 65, 3) := by decide +kernel
theorem dJ2_indexOfSupplementary_4cfef_7 : decode cJ2_indexOfSupplementary_4cfef 7 = .ok (.iload_n 1, 1) := by decide +kernel
theorem dJ2_indexOfSupplementary_4cfef_8 : decode cJ2_indexOfSupplementary_4cfef 8 = .ok (.invokestatic 157, 3) := by decide +kernel
theorem dJ2_indexOfSupplementary_4cfef_11 : decode cJ2_indexOfSupplementary_4cfef 11 = .ok (.istore 4, 2) := by decide +kernel
theorem dJ2_indexOfSupplementary_4cfef_13 : decode cJ2_indexOfSupplementary_4cfef 13 = .ok (.iload_n 1, 1) := by decide +kernel
theorem dJ2_indexOfSupplementary_4cfef_14 : decode cJ2_indexOfSupplementary_4cfef 14 = .ok (.invokestatic 161, 3) := by decide +kernel
theorem dJ2_indexOfSupplementary_4cfef_17 : decode cJ2_indexOfSupplementary_4cfef 17 = .ok (.istore 5, 2) := by decide +kernel
theorem dJ2_indexOfSupplementary_4cfef_19 : decode cJ2_indexOfSupplementary_4cfef 19 = .ok (.iload_n 2, 1) := by decide +kernel
theorem dJ2_indexOfSupplementary_4cfef_20 : decode cJ2_indexOfSupplementary_4cfef 20 = .ok (.iload_n 3, 1) := by decide +kernel
theorem dJ2_indexOfSupplementary_4cfef_21 : decode cJ2_indexOfSupplementary_4cfef 21 = .ok (.aload_n 0, 1) := by decide +kernel
theorem dJ2_indexOfSupplementary_4cfef_22 : decode cJ2_indexOfSupplementary_4cfef 22 = .ok (.invokestatic 96, 3) := by decide +kernel
theorem dJ2_indexOfSupplementary_4cfef_25 : decode cJ2_indexOfSupplementary_4cfef 25 = .ok (.iload_n 2, 1) := by decide +kernel
theorem dJ2_indexOfSupplementary_4cfef_26 : decode cJ2_indexOfSupplementary_4cfef 26 = .ok (.istore 6, 2) := by decide +kernel
theorem dJ2_indexOfSupplementary_4cfef_28 : decode cJ2_indexOfSupplementary_4cfef 28 = .ok (.iload 6, 2) := by decide +kernel
theorem dJ2_indexOfSupplementary_4cfef_30 : decode cJ2_indexOfSupplementary_4cfef 30 = .ok (.iload_n 3, 1) := by decide +kernel
theorem dJ2_indexOfSupplementary_4cfef_31 : decode cJ2_indexOfSupplementary_4cfef 31 = .ok (.iconst 1, 1) := by decide +kernel
theorem dJ2_indexOfSupplementary_4cfef_32 : decode cJ2_indexOfSupplementary_4cfef 32 = .ok (.isub, 1) := by decide +kernel
theorem dJ2_indexOfSupplementary_4cfef_33 : decode cJ2_indexOfSupplementary_4cfef 33 = .ok (.if_icmp .ge 36, 3) := by decide +kernel
theorem dJ2_indexOfSupplementary_4cfef_36 : decode cJ2_indexOfSupplementary_4cfef 36 = .ok (.aload_n 0, 1) := by decide +kernel
theorem dJ2_indexOfSupplementary_4cfef_37 : decode cJ2_indexOfSupplementary_4cfef 37 = .ok (.iload 6, 2) := by decide +kernel
theorem dJ2_indexOfSupplementary_4cfef_39 : decode cJ2_indexOfSupplementary_4cfef 39 = .ok (.invokestatic 71, 3) := by decide +kernel
theorem dJ2_indexOfSupplementary_4cfef_42 : decode cJ2_indexOfSupplementary_4cfef 42 = .ok (.iload 4, 2) := by decide +kernel
theorem dJ2_indexOfSupplementary_4cfef_44 : decode cJ2_indexOfSupplementary_4cfef 44 = .ok (.if_icmp .ne 19, 3) := by decide +kernel
theorem dJ2_indexOfSupplementary_4cfef_47 : decode cJ2_indexOfSupplementary_4cfef 47 = .ok (.aload_n 0, 1) := by decide +kernel
theorem dJ2_indexOfSupplementary_4cfef_48 : decode cJ2_indexOfSupplementary_4cfef 48 = .ok (.iload 6, 2) := by decide +kernel
theorem dJ2_indexOfSupplementary_4cfef_50 : decode cJ2_indexOfSupplementary_4cfef 50 = .ok (.iconst 1, 1) := by decide +kernel
theorem dJ2_indexOfSupplementary_4cfef_51 : decode cJ2_indexOfSupplementary_4cfef 51 = .ok (.iadd, 1) := by decide +kernel
theorem dJ2_indexOfSupplementary_4cfef_52 : decode cJ2_indexOfSupplementary_4cfef 52 = .ok (.invokestatic 71, 3) := by decide +kernel
theorem dJ2_indexOfSupplementary_4cfef_55 : decode cJ2_indexOfSupplementary_4cfef 55 = .ok (.iload 5, 2) := by decide +kernel
theorem dJ2_indexOfSupplementary_4cfef_57 : decode cJ2_indexOfSupplementary_4cfef 57 = .ok (.if_icmp .ne 6, 3) := by decide +kernel
theorem dJ2_indexOfSupplementary_4cfef_60 : decode cJ2_indexOfSupplementary_4cfef 60 = .ok (.iload 6, 2) := by decide +kernel
theorem dJ2_indexOfSupplementary_4cfef_62 : decode cJ2_indexOfSupplementary_4cfef 62 = .ok (.ireturn, 1) := by decide +kernel
theorem dJ2_indexOfSupplementary_4cfef_63 : decode cJ2_indexOfSupplementary_4cfef 63 = .ok (.iinc 6 1, 3) := by decide +kernel
theorem dJ2_indexOfSupplementary_4cfef_66 : decode cJ2_indexOfSupplementary_4cfef 66 = .ok (.goto (-38), 3) := by decide +kernel
theorem dJ2_indexOfSupplementary_4cfef_69 : decode cJ2_indexOfSupplementary_4cfef 69 = .ok (.iconst (-1), 1) := by decide +kernel
theorem dJ2_indexOfSupplementary_4cfef_70 : decode cJ2_indexOfSupplementary_4cfef 70 = .ok (.ireturn, 1) := by decide +kernel
theorem dJ2_checkBoundsBeginEnd_d044e_0 : decode cJ2_checkBoundsBeginEnd_d044e 0 = .ok (.iload_n 0, 1) := by decide +kernel
theorem dJ2_checkBoundsBeginEnd_d044e_1 : decode cJ2_checkBoundsBeginEnd_d044e 1 = .ok (.iload_n 1, 1) := by decide +kernel
theorem dJ2_checkBoundsBeginEnd_d044e_2 : decode cJ2_checkBoundsBeginEnd_d044e 2 = .ok (.aload_n 2, 1) := by decide +kernel
theorem dJ2_checkBoundsBeginEnd_d044e_3 : decode cJ2_checkBoundsBeginEnd_d044e 3 = .ok (.invokestatic 48, 3) := by decide +kernel
theorem dJ2_checkBoundsBeginEnd_d044e_6 : decode cJ2_checkBoundsBeginEnd_d044e 6 = .ok (.invokestatic 241, 3) := by decide +kernel
theorem dJ2_checkBoundsBeginEnd_d044e_9 : decode cJ2_checkBoundsBeginEnd_d044e 9 = .ok (.return_, 1) := by decide +kernel
theorem dJ3_checkFromToIndex_8c36e_0 : decode cJ3_checkFromToIndex_8c36e 0 = .ok (.iload_n 0, 1) := by decide +kernel
theorem dJ3_checkFromToIndex_8c36e_1 : decode cJ3_checkFromToIndex_8c36e 1 = .ok (.ifCond .lt 13, 3) := by decide +kernel
theorem dJ3_checkFromToIndex_8c36e_4 : decode cJ3_checkFromToIndex_8c36e 4 = .ok (.iload_n 0, 1) := by decide +kernel
theorem dJ3_checkFromToIndex_8c36e_5 : decode cJ3_checkFromToIndex_8c36e 5 = .ok (.iload_n 1, 1) := by decide +kernel
theorem dJ3_checkFromToIndex_8c36e_6 : decode cJ3_checkFromToIndex_8c36e 6 = .ok (.if_icmp .gt 8, 3) := by decide +kernel
theorem dJ3_checkFromToIndex_8c36e_9 : decode cJ3_checkFromToIndex_8c36e 9 = .ok (.iload_n 1, 1) := by decide +kernel
theorem dJ3_checkFromToIndex_8c36e_10 : decode cJ3_checkFromToIndex_8c36e 10 = .ok (.iload_n 2, 1) := by decide +kernel
theorem dJ3_checkFromToIndex_8c36e_11 : decode cJ3_checkFromToIndex_8c36e 11 = .ok (.if_icmp .le 11, 3) := by decide +kernel
theorem dJ3_checkFromToIndex_8c36e_14 : decode cJ3_checkFromToIndex_8c36e 14 = .ok (.aload_n 3, 1) := by decide +kernel
theorem dJ3_checkFromToIndex_8c36e_15 : decode cJ3_checkFromToIndex_8c36e 15 = .ok (.iload_n 0, 1) := by decide +kernel
theorem dJ3_checkFromToIndex_8c36e_16 : decode cJ3_checkFromToIndex_8c36e 16 = .ok (.iload_n 1, 1) := by decide +kernel
theorem dJ3_checkFromToIndex_8c36e_17 : decode cJ3_checkFromToIndex_8c36e 17 = .ok (.iload_n 2, 1) := by decide +kernel
theorem dJ3_checkFromToIndex_8c36e_18 : decode cJ3_checkFromToIndex_8c36e 18 = .ok (.invokestatic 99, 3) := by decide +kernel
theorem dJ3_checkFromToIndex_8c36e_21 : decode cJ3_checkFromToIndex_8c36e 21 = .ok (.athrow, 1) := by decide +kernel
theorem dJ3_checkFromToIndex_8c36e_22 : decode cJ3_checkFromToIndex_8c36e 22 = .ok (.iload_n 0, 1) := by decide +kernel
theorem dJ3_checkFromToIndex_8c36e_23 : decode cJ3_checkFromToIndex_8c36e 23 = .ok (.ireturn, 1) := by decide +kernel
theorem dL_set_0 : decode cL_set 0 = .ok (.aload_n 3, 1) := by decide +kernel
theorem dL_set_1 : decode cL_set 1 = .ok (.iconst 0, 1) := by decide +kernel
theorem dL_set_2 : decode cL_set 2 = .ok (.aload_n 0, 1) := by decide +kernel
theorem dL_set_3 : decode cL_set 3 = .ok (.iload_n 1, 1) := by decide +kernel
theorem dL_set_4 : decode cL_set 4 = .ok (.iload_n 2, 1) := by decide +kernel
theorem dL_set_5 : decode cL_set 5 = .ok (.invokevirtual 7, 3) := by decide +kernel
theorem dL_set_8 : decode cL_set 8 = .ok (.i2l, 1) := by decide +kernel
theorem dL_set_9 : decode cL_set 9 = .ok (.lastore, 1) := by decide +kernel
theorem dL_set_10 : decode cL_set 10 = .ok (.goto 7, 3) := by decide +kernel
theorem dL_set_13 : decode cL_set 13 = .ok (.astore 4, 2) := by decide +kernel
theorem dL_set_15 : decode cL_set 15 = .ok (.iconst 1, 1) := by decide +kernel
theorem dL_set_16 : decode cL_set 16 = .ok (.ireturn, 1) := by decide +kernel
theorem dL_set_17 : decode cL_set 17 = .ok (.iconst 0, 1) := by decide +kernel
theorem dL_set_18 : decode cL_set 18 = .ok (.ireturn, 1) := by decide +kernel
theorem dL_setting_0 : decode cL_setting 0 = .ok (.aload_n 2, 1) := by decide +kernel
theorem dL_setting_1 : decode cL_setting 1 = .ok (.iconst 0, 1) := by decide +kernel
theorem dL_setting_2 : decode cL_setting 2 = .ok (.aload_n 0, 1) := by decide +kernel
theorem dL_setting_3 : decode cL_setting 3 = .ok (.iload_n 1, 1) := by decide +kernel
theorem dL_setting_4 : decode cL_setting 4 = .ok (.invokevirtual 15, 3) := by decide +kernel
theorem dL_setting_7 : decode cL_setting 7 = .ok (.i2l, 1) := by decide +kernel
theorem dL_setting_8 : decode cL_setting 8 = .ok (.lastore, 1) := by decide +kernel
theorem dL_setting_9 : decode cL_setting 9 = .ok (.goto 6, 3) := by decide +kernel
theorem dL_setting_12 : decode cL_setting 12 = .ok (.astore_n 3, 1) := by decide +kernel
theorem dL_setting_13 : decode cL_setting 13 = .ok (.iconst 1, 1) := by decide +kernel
theorem dL_setting_14 : decode cL_setting 14 = .ok (.ireturn, 1) := by decide +kernel
theorem dL_setting_15 : decode cL_setting 15 = .ok (.iconst 0, 1) := by decide +kernel
theorem dL_setting_16 : decode cL_setting 16 = .ok (.ireturn, 1) := by decide +kernel
theorem dL_drill_0 : decode cL_drill 0 = .ok (.aload_n 2, 1) := by decide +kernel
theorem dL_drill_1 : decode cL_drill 1 = .ok (.iconst 0, 1) := by decide +kernel
theorem dL_drill_2 : decode cL_drill 2 = .ok (.aload_n 0, 1) := by decide +kernel
theorem dL_drill_3 : decode cL_drill 3 = .ok (.iload_n 1, 1) := by decide +kernel
theorem dL_drill_4 : decode cL_drill 4 = .ok (.invokevirtual 19, 3) := by decide +kernel
theorem dL_drill_7 : decode cL_drill 7 = .ok (.i2l, 1) := by decide +kernel
theorem dL_drill_8 : decode cL_drill 8 = .ok (.lastore, 1) := by decide +kernel
theorem dL_drill_9 : decode cL_drill 9 = .ok (.goto 6, 3) := by decide +kernel
theorem dL_drill_12 : decode cL_drill 12 = .ok (.astore_n 3, 1) := by decide +kernel
theorem dL_drill_13 : decode cL_drill 13 = .ok (.iconst 1, 1) := by decide +kernel
theorem dL_drill_14 : decode cL_drill 14 = .ok (.ireturn, 1) := by decide +kernel
theorem dL_drill_15 : decode cL_drill 15 = .ok (.iconst 0, 1) := by decide +kernel
theorem dL_drill_16 : decode cL_drill 16 = .ok (.ireturn, 1) := by decide +kernel
theorem dL_drilled_0 : decode cL_drilled 0 = .ok (.aload_n 2, 1) := by decide +kernel
theorem dL_drilled_1 : decode cL_drilled 1 = .ok (.iconst 0, 1) := by decide +kernel
theorem dL_drilled_2 : decode cL_drilled 2 = .ok (.aload_n 0, 1) := by decide +kernel
theorem dL_drilled_3 : decode cL_drilled 3 = .ok (.iload_n 1, 1) := by decide +kernel
theorem dL_drilled_4 : decode cL_drilled 4 = .ok (.invokevirtual 24, 3) := by decide +kernel
theorem dL_drilled_7 : decode cL_drilled 7 = .ok (.i2l, 1) := by decide +kernel
theorem dL_drilled_8 : decode cL_drilled 8 = .ok (.lastore, 1) := by decide +kernel
theorem dL_drilled_9 : decode cL_drilled 9 = .ok (.goto 9, 3) := by decide +kernel
theorem dL_drilled_12 : decode cL_drilled 12 = .ok (.astore_n 3, 1) := by decide +kernel
theorem dL_drilled_13 : decode cL_drilled 13 = .ok (.iconst 1, 1) := by decide +kernel
theorem dL_drilled_14 : decode cL_drilled 14 = .ok (.ireturn, 1) := by decide +kernel
theorem dL_drilled_15 : decode cL_drilled 15 = .ok (.astore_n 3, 1) := by decide +kernel
theorem dL_drilled_16 : decode cL_drilled 16 = .ok (.iconst 2, 1) := by decide +kernel
theorem dL_drilled_17 : decode cL_drilled 17 = .ok (.ireturn, 1) := by decide +kernel
theorem dL_drilled_18 : decode cL_drilled 18 = .ok (.iconst 0, 1) := by decide +kernel
theorem dL_drilled_19 : decode cL_drilled 19 = .ok (.ireturn, 1) := by decide +kernel
theorem dL_mileOf_0 : decode cL_mileOf 0 = .ok (.aload_n 3, 1) := by decide +kernel
theorem dL_mileOf_1 : decode cL_mileOf 1 = .ok (.iconst 0, 1) := by decide +kernel
theorem dL_mileOf_2 : decode cL_mileOf 2 = .ok (.aload_n 0, 1) := by decide +kernel
theorem dL_mileOf_3 : decode cL_mileOf 3 = .ok (.iload_n 1, 1) := by decide +kernel
theorem dL_mileOf_4 : decode cL_mileOf 4 = .ok (.iload_n 2, 1) := by decide +kernel
theorem dL_mileOf_5 : decode cL_mileOf 5 = .ok (.invokevirtual 29, 3) := by decide +kernel
theorem dL_mileOf_8 : decode cL_mileOf 8 = .ok (.i2l, 1) := by decide +kernel
theorem dL_mileOf_9 : decode cL_mileOf 9 = .ok (.lastore, 1) := by decide +kernel
theorem dL_mileOf_10 : decode cL_mileOf 10 = .ok (.goto 11, 3) := by decide +kernel
theorem dL_mileOf_13 : decode cL_mileOf 13 = .ok (.astore 4, 2) := by decide +kernel
theorem dL_mileOf_15 : decode cL_mileOf 15 = .ok (.iconst 1, 1) := by decide +kernel
theorem dL_mileOf_16 : decode cL_mileOf 16 = .ok (.ireturn, 1) := by decide +kernel
theorem dL_mileOf_17 : decode cL_mileOf 17 = .ok (.astore 4, 2) := by decide +kernel
theorem dL_mileOf_19 : decode cL_mileOf 19 = .ok (.iconst 2, 1) := by decide +kernel
theorem dL_mileOf_20 : decode cL_mileOf 20 = .ok (.ireturn, 1) := by decide +kernel
theorem dL_mileOf_21 : decode cL_mileOf 21 = .ok (.iconst 0, 1) := by decide +kernel
theorem dL_mileOf_22 : decode cL_mileOf 22 = .ok (.ireturn, 1) := by decide +kernel
theorem dL_ice_0 : decode cL_ice 0 = .ok (.aload_n 2, 1) := by decide +kernel
theorem dL_ice_1 : decode cL_ice 1 = .ok (.iconst 0, 1) := by decide +kernel
theorem dL_ice_2 : decode cL_ice 2 = .ok (.aload_n 0, 1) := by decide +kernel
theorem dL_ice_3 : decode cL_ice 3 = .ok (.iload_n 1, 1) := by decide +kernel
theorem dL_ice_4 : decode cL_ice 4 = .ok (.invokevirtual 32, 3) := by decide +kernel
theorem dL_ice_7 : decode cL_ice 7 = .ok (.f2d, 1) := by decide +kernel
theorem dL_ice_8 : decode cL_ice 8 = .ok (.dastore, 1) := by decide +kernel
theorem dL_ice_9 : decode cL_ice 9 = .ok (.goto 6, 3) := by decide +kernel
theorem dL_ice_12 : decode cL_ice 12 = .ok (.astore_n 3, 1) := by decide +kernel
theorem dL_ice_13 : decode cL_ice 13 = .ok (.iconst 1, 1) := by decide +kernel
theorem dL_ice_14 : decode cL_ice 14 = .ok (.ireturn, 1) := by decide +kernel
theorem dL_ice_15 : decode cL_ice 15 = .ok (.iconst 0, 1) := by decide +kernel
theorem dL_ice_16 : decode cL_ice 16 = .ok (.ireturn, 1) := by decide +kernel
theorem dL_bears_0 : decode cL_bears 0 = .ok (.aload_n 2, 1) := by decide +kernel
theorem dL_bears_1 : decode cL_bears 1 = .ok (.iconst 0, 1) := by decide +kernel
theorem dL_bears_2 : decode cL_bears 2 = .ok (.aload_n 0, 1) := by decide +kernel
theorem dL_bears_3 : decode cL_bears 3 = .ok (.iload_n 1, 1) := by decide +kernel
theorem dL_bears_4 : decode cL_bears 4 = .ok (.invokevirtual 36, 3) := by decide +kernel
theorem dL_bears_7 : decode cL_bears 7 = .ok (.i2l, 1) := by decide +kernel
theorem dL_bears_8 : decode cL_bears 8 = .ok (.lastore, 1) := by decide +kernel
theorem dL_bears_9 : decode cL_bears 9 = .ok (.goto 6, 3) := by decide +kernel
theorem dL_bears_12 : decode cL_bears 12 = .ok (.astore_n 3, 1) := by decide +kernel
theorem dL_bears_13 : decode cL_bears 13 = .ok (.iconst 1, 1) := by decide +kernel
theorem dL_bears_14 : decode cL_bears 14 = .ok (.ireturn, 1) := by decide +kernel
theorem dL_bears_15 : decode cL_bears 15 = .ok (.iconst 0, 1) := by decide +kernel
theorem dL_bears_16 : decode cL_bears 16 = .ok (.ireturn, 1) := by decide +kernel
theorem dL_sign_0 : decode cL_sign 0 = .ok (.aload_n 2, 1) := by decide +kernel
theorem dL_sign_1 : decode cL_sign 1 = .ok (.iconst 0, 1) := by decide +kernel
theorem dL_sign_2 : decode cL_sign 2 = .ok (.aload_n 0, 1) := by decide +kernel
theorem dL_sign_3 : decode cL_sign 3 = .ok (.iload_n 1, 1) := by decide +kernel
theorem dL_sign_4 : decode cL_sign 4 = .ok (.invokevirtual 39, 3) := by decide +kernel
theorem dL_sign_7 : decode cL_sign 7 = .ok (.i2l, 1) := by decide +kernel
theorem dL_sign_8 : decode cL_sign 8 = .ok (.lastore, 1) := by decide +kernel
theorem dL_sign_9 : decode cL_sign 9 = .ok (.goto 6, 3) := by decide +kernel
theorem dL_sign_12 : decode cL_sign 12 = .ok (.astore_n 3, 1) := by decide +kernel
theorem dL_sign_13 : decode cL_sign 13 = .ok (.iconst 1, 1) := by decide +kernel
theorem dL_sign_14 : decode cL_sign 14 = .ok (.ireturn, 1) := by decide +kernel
theorem dL_sign_15 : decode cL_sign 15 = .ok (.iconst 0, 1) := by decide +kernel
theorem dL_sign_16 : decode cL_sign 16 = .ok (.ireturn, 1) := by decide +kernel
theorem dL_truck_0 : decode cL_truck 0 = .ok (.aload 5, 2) := by decide +kernel
theorem dL_truck_2 : decode cL_truck 2 = .ok (.iconst 0, 1) := by decide +kernel
theorem dL_truck_3 : decode cL_truck 3 = .ok (.aload_n 0, 1) := by decide +kernel
theorem dL_truck_4 : decode cL_truck 4 = .ok (.iload_n 1, 1) := by decide +kernel
theorem dL_truck_5 : decode cL_truck 5 = .ok (.iload_n 2, 1) := by decide +kernel
theorem dL_truck_6 : decode cL_truck 6 = .ok (.iload_n 3, 1) := by decide +kernel
theorem dL_truck_7 : decode cL_truck 7 = .ok (.iload 4, 2) := by decide +kernel
theorem dL_truck_9 : decode cL_truck 9 = .ok (.invokevirtual 43, 3) := by decide +kernel
theorem dL_truck_12 : decode cL_truck 12 = .ok (.i2l, 1) := by decide +kernel
theorem dL_truck_13 : decode cL_truck 13 = .ok (.lastore, 1) := by decide +kernel
theorem dL_truck_14 : decode cL_truck 14 = .ok (.goto 15, 3) := by decide +kernel
theorem dL_truck_17 : decode cL_truck 17 = .ok (.astore 6, 2) := by decide +kernel
theorem dL_truck_19 : decode cL_truck 19 = .ok (.iconst 1, 1) := by decide +kernel
theorem dL_truck_20 : decode cL_truck 20 = .ok (.ireturn, 1) := by decide +kernel
theorem dL_truck_21 : decode cL_truck 21 = .ok (.astore 6, 2) := by decide +kernel
theorem dL_truck_23 : decode cL_truck 23 = .ok (.iconst 2, 1) := by decide +kernel
theorem dL_truck_24 : decode cL_truck 24 = .ok (.ireturn, 1) := by decide +kernel
theorem dL_truck_25 : decode cL_truck 25 = .ok (.astore 6, 2) := by decide +kernel
theorem dL_truck_27 : decode cL_truck 27 = .ok (.iconst 3, 1) := by decide +kernel
theorem dL_truck_28 : decode cL_truck 28 = .ok (.ireturn, 1) := by decide +kernel
theorem dL_truck_29 : decode cL_truck 29 = .ok (.iconst 0, 1) := by decide +kernel
theorem dL_truck_30 : decode cL_truck 30 = .ok (.ireturn, 1) := by decide +kernel
theorem dL_inRow_0 : decode cL_inRow 0 = .ok (.aload 4, 2) := by decide +kernel
theorem dL_inRow_2 : decode cL_inRow 2 = .ok (.iconst 0, 1) := by decide +kernel
theorem dL_inRow_3 : decode cL_inRow 3 = .ok (.aload_n 0, 1) := by decide +kernel
theorem dL_inRow_4 : decode cL_inRow 4 = .ok (.iload_n 1, 1) := by decide +kernel
theorem dL_inRow_5 : decode cL_inRow 5 = .ok (.iload_n 2, 1) := by decide +kernel
theorem dL_inRow_6 : decode cL_inRow 6 = .ok (.iload_n 3, 1) := by decide +kernel
theorem dL_inRow_7 : decode cL_inRow 7 = .ok (.invokevirtual 49, 3) := by decide +kernel
theorem dL_inRow_10 : decode cL_inRow 10 = .ok (.i2l, 1) := by decide +kernel
theorem dL_inRow_11 : decode cL_inRow 11 = .ok (.lastore, 1) := by decide +kernel
theorem dL_inRow_12 : decode cL_inRow 12 = .ok (.goto 15, 3) := by decide +kernel
theorem dL_inRow_15 : decode cL_inRow 15 = .ok (.astore 5, 2) := by decide +kernel
theorem dL_inRow_17 : decode cL_inRow 17 = .ok (.iconst 1, 1) := by decide +kernel
theorem dL_inRow_18 : decode cL_inRow 18 = .ok (.ireturn, 1) := by decide +kernel
theorem dL_inRow_19 : decode cL_inRow 19 = .ok (.astore 5, 2) := by decide +kernel
theorem dL_inRow_21 : decode cL_inRow 21 = .ok (.iconst 2, 1) := by decide +kernel
theorem dL_inRow_22 : decode cL_inRow 22 = .ok (.ireturn, 1) := by decide +kernel
theorem dL_inRow_23 : decode cL_inRow 23 = .ok (.astore 5, 2) := by decide +kernel
theorem dL_inRow_25 : decode cL_inRow 25 = .ok (.iconst 3, 1) := by decide +kernel
theorem dL_inRow_26 : decode cL_inRow 26 = .ok (.ireturn, 1) := by decide +kernel
theorem dL_inRow_27 : decode cL_inRow 27 = .ok (.iconst 0, 1) := by decide +kernel
theorem dL_inRow_28 : decode cL_inRow 28 = .ok (.ireturn, 1) := by decide +kernel
theorem dL_convoy_0 : decode cL_convoy 0 = .ok (.aload_n 2, 1) := by decide +kernel
theorem dL_convoy_1 : decode cL_convoy 1 = .ok (.iconst 0, 1) := by decide +kernel
theorem dL_convoy_2 : decode cL_convoy 2 = .ok (.aload_n 0, 1) := by decide +kernel
theorem dL_convoy_3 : decode cL_convoy 3 = .ok (.iload_n 1, 1) := by decide +kernel
theorem dL_convoy_4 : decode cL_convoy 4 = .ok (.invokevirtual 53, 3) := by decide +kernel
theorem dL_convoy_7 : decode cL_convoy 7 = .ok (.i2l, 1) := by decide +kernel
theorem dL_convoy_8 : decode cL_convoy 8 = .ok (.lastore, 1) := by decide +kernel
theorem dL_convoy_9 : decode cL_convoy 9 = .ok (.goto 9, 3) := by decide +kernel
theorem dL_convoy_12 : decode cL_convoy 12 = .ok (.astore_n 3, 1) := by decide +kernel
theorem dL_convoy_13 : decode cL_convoy 13 = .ok (.iconst 1, 1) := by decide +kernel
theorem dL_convoy_14 : decode cL_convoy 14 = .ok (.ireturn, 1) := by decide +kernel
theorem dL_convoy_15 : decode cL_convoy 15 = .ok (.astore_n 3, 1) := by decide +kernel
theorem dL_convoy_16 : decode cL_convoy 16 = .ok (.iconst 2, 1) := by decide +kernel
theorem dL_convoy_17 : decode cL_convoy 17 = .ok (.ireturn, 1) := by decide +kernel
theorem dL_convoy_18 : decode cL_convoy 18 = .ok (.iconst 0, 1) := by decide +kernel
theorem dL_convoy_19 : decode cL_convoy 19 = .ok (.ireturn, 1) := by decide +kernel
theorem dL_join_0 : decode cL_join 0 = .ok (.aload 4, 2) := by decide +kernel
theorem dL_join_2 : decode cL_join 2 = .ok (.iconst 0, 1) := by decide +kernel
theorem dL_join_3 : decode cL_join 3 = .ok (.aload_n 0, 1) := by decide +kernel
theorem dL_join_4 : decode cL_join 4 = .ok (.iload_n 1, 1) := by decide +kernel
theorem dL_join_5 : decode cL_join 5 = .ok (.iload_n 2, 1) := by decide +kernel
theorem dL_join_6 : decode cL_join 6 = .ok (.iload_n 3, 1) := by decide +kernel
theorem dL_join_7 : decode cL_join 7 = .ok (.invokevirtual 56, 3) := by decide +kernel
theorem dL_join_10 : decode cL_join 10 = .ok (.i2l, 1) := by decide +kernel
theorem dL_join_11 : decode cL_join 11 = .ok (.lastore, 1) := by decide +kernel
theorem dL_join_12 : decode cL_join 12 = .ok (.goto 15, 3) := by decide +kernel
theorem dL_join_15 : decode cL_join 15 = .ok (.astore 5, 2) := by decide +kernel
theorem dL_join_17 : decode cL_join 17 = .ok (.iconst 1, 1) := by decide +kernel
theorem dL_join_18 : decode cL_join 18 = .ok (.ireturn, 1) := by decide +kernel
theorem dL_join_19 : decode cL_join 19 = .ok (.astore 5, 2) := by decide +kernel
theorem dL_join_21 : decode cL_join 21 = .ok (.iconst 2, 1) := by decide +kernel
theorem dL_join_22 : decode cL_join 22 = .ok (.ireturn, 1) := by decide +kernel
theorem dL_join_23 : decode cL_join 23 = .ok (.astore 5, 2) := by decide +kernel
theorem dL_join_25 : decode cL_join 25 = .ok (.iconst 3, 1) := by decide +kernel
theorem dL_join_26 : decode cL_join 26 = .ok (.ireturn, 1) := by decide +kernel
theorem dL_join_27 : decode cL_join 27 = .ok (.iconst 0, 1) := by decide +kernel
theorem dL_join_28 : decode cL_join 28 = .ok (.ireturn, 1) := by decide +kernel
theorem dL_start_0 : decode cL_start 0 = .ok (.aload_n 2, 1) := by decide +kernel
theorem dL_start_1 : decode cL_start 1 = .ok (.iconst 0, 1) := by decide +kernel
theorem dL_start_2 : decode cL_start 2 = .ok (.aload_n 0, 1) := by decide +kernel
theorem dL_start_3 : decode cL_start 3 = .ok (.iload_n 1, 1) := by decide +kernel
theorem dL_start_4 : decode cL_start 4 = .ok (.invokevirtual 59, 3) := by decide +kernel
theorem dL_start_7 : decode cL_start 7 = .ok (.i2l, 1) := by decide +kernel
theorem dL_start_8 : decode cL_start 8 = .ok (.lastore, 1) := by decide +kernel
theorem dL_start_9 : decode cL_start 9 = .ok (.goto 9, 3) := by decide +kernel
theorem dL_start_12 : decode cL_start 12 = .ok (.astore_n 3, 1) := by decide +kernel
theorem dL_start_13 : decode cL_start 13 = .ok (.iconst 1, 1) := by decide +kernel
theorem dL_start_14 : decode cL_start 14 = .ok (.ireturn, 1) := by decide +kernel
theorem dL_start_15 : decode cL_start 15 = .ok (.astore_n 3, 1) := by decide +kernel
theorem dL_start_16 : decode cL_start 16 = .ok (.iconst 2, 1) := by decide +kernel
theorem dL_start_17 : decode cL_start 17 = .ok (.ireturn, 1) := by decide +kernel
theorem dL_start_18 : decode cL_start 18 = .ok (.iconst 0, 1) := by decide +kernel
theorem dL_start_19 : decode cL_start 19 = .ok (.ireturn, 1) := by decide +kernel
theorem dL_roll_0 : decode cL_roll 0 = .ok (.aload_n 2, 1) := by decide +kernel
theorem dL_roll_1 : decode cL_roll 1 = .ok (.iconst 0, 1) := by decide +kernel
theorem dL_roll_2 : decode cL_roll 2 = .ok (.aload_n 0, 1) := by decide +kernel
theorem dL_roll_3 : decode cL_roll 3 = .ok (.iload_n 1, 1) := by decide +kernel
theorem dL_roll_4 : decode cL_roll 4 = .ok (.invokevirtual 62, 3) := by decide +kernel
theorem dL_roll_7 : decode cL_roll 7 = .ok (.i2l, 1) := by decide +kernel
theorem dL_roll_8 : decode cL_roll 8 = .ok (.lastore, 1) := by decide +kernel
theorem dL_roll_9 : decode cL_roll 9 = .ok (.goto 9, 3) := by decide +kernel
theorem dL_roll_12 : decode cL_roll 12 = .ok (.astore_n 3, 1) := by decide +kernel
theorem dL_roll_13 : decode cL_roll 13 = .ok (.iconst 1, 1) := by decide +kernel
theorem dL_roll_14 : decode cL_roll 14 = .ok (.ireturn, 1) := by decide +kernel
theorem dL_roll_15 : decode cL_roll 15 = .ok (.astore_n 3, 1) := by decide +kernel
theorem dL_roll_16 : decode cL_roll 16 = .ok (.iconst 2, 1) := by decide +kernel
theorem dL_roll_17 : decode cL_roll 17 = .ok (.ireturn, 1) := by decide +kernel
theorem dL_roll_18 : decode cL_roll 18 = .ok (.iconst 0, 1) := by decide +kernel
theorem dL_roll_19 : decode cL_roll 19 = .ok (.ireturn, 1) := by decide +kernel
theorem dL_why_0 : decode cL_why 0 = .ok (.aload_n 3, 1) := by decide +kernel
theorem dL_why_1 : decode cL_why 1 = .ok (.iconst 0, 1) := by decide +kernel
theorem dL_why_2 : decode cL_why 2 = .ok (.aload_n 0, 1) := by decide +kernel
theorem dL_why_3 : decode cL_why 3 = .ok (.iload_n 1, 1) := by decide +kernel
theorem dL_why_4 : decode cL_why 4 = .ok (.iload_n 2, 1) := by decide +kernel
theorem dL_why_5 : decode cL_why 5 = .ok (.invokevirtual 65, 3) := by decide +kernel
theorem dL_why_8 : decode cL_why 8 = .ok (.i2l, 1) := by decide +kernel
theorem dL_why_9 : decode cL_why 9 = .ok (.lastore, 1) := by decide +kernel
theorem dL_why_10 : decode cL_why 10 = .ok (.goto 7, 3) := by decide +kernel
theorem dL_why_13 : decode cL_why 13 = .ok (.astore 4, 2) := by decide +kernel
theorem dL_why_15 : decode cL_why 15 = .ok (.iconst 1, 1) := by decide +kernel
theorem dL_why_16 : decode cL_why 16 = .ok (.ireturn, 1) := by decide +kernel
theorem dL_why_17 : decode cL_why 17 = .ok (.iconst 0, 1) := by decide +kernel
theorem dL_why_18 : decode cL_why 18 = .ok (.ireturn, 1) := by decide +kernel
theorem dL_convoyOf_0 : decode cL_convoyOf 0 = .ok (.aload_n 3, 1) := by decide +kernel
theorem dL_convoyOf_1 : decode cL_convoyOf 1 = .ok (.iconst 0, 1) := by decide +kernel
theorem dL_convoyOf_2 : decode cL_convoyOf 2 = .ok (.aload_n 0, 1) := by decide +kernel
theorem dL_convoyOf_3 : decode cL_convoyOf 3 = .ok (.iload_n 1, 1) := by decide +kernel
theorem dL_convoyOf_4 : decode cL_convoyOf 4 = .ok (.iload_n 2, 1) := by decide +kernel
theorem dL_convoyOf_5 : decode cL_convoyOf 5 = .ok (.invokevirtual 69, 3) := by decide +kernel
theorem dL_convoyOf_8 : decode cL_convoyOf 8 = .ok (.i2l, 1) := by decide +kernel
theorem dL_convoyOf_9 : decode cL_convoyOf 9 = .ok (.lastore, 1) := by decide +kernel
theorem dL_convoyOf_10 : decode cL_convoyOf 10 = .ok (.goto 11, 3) := by decide +kernel
theorem dL_convoyOf_13 : decode cL_convoyOf 13 = .ok (.astore 4, 2) := by decide +kernel
theorem dL_convoyOf_15 : decode cL_convoyOf 15 = .ok (.iconst 1, 1) := by decide +kernel
theorem dL_convoyOf_16 : decode cL_convoyOf 16 = .ok (.ireturn, 1) := by decide +kernel
theorem dL_convoyOf_17 : decode cL_convoyOf 17 = .ok (.astore 4, 2) := by decide +kernel
theorem dL_convoyOf_19 : decode cL_convoyOf 19 = .ok (.iconst 2, 1) := by decide +kernel
theorem dL_convoyOf_20 : decode cL_convoyOf 20 = .ok (.ireturn, 1) := by decide +kernel
theorem dL_convoyOf_21 : decode cL_convoyOf 21 = .ok (.iconst 0, 1) := by decide +kernel
theorem dL_convoyOf_22 : decode cL_convoyOf 22 = .ok (.ireturn, 1) := by decide +kernel
theorem dL_truckOf_0 : decode cL_truckOf 0 = .ok (.aload 4, 2) := by decide +kernel
theorem dL_truckOf_2 : decode cL_truckOf 2 = .ok (.iconst 0, 1) := by decide +kernel
theorem dL_truckOf_3 : decode cL_truckOf 3 = .ok (.aload_n 0, 1) := by decide +kernel
theorem dL_truckOf_4 : decode cL_truckOf 4 = .ok (.iload_n 1, 1) := by decide +kernel
theorem dL_truckOf_5 : decode cL_truckOf 5 = .ok (.iload_n 2, 1) := by decide +kernel
theorem dL_truckOf_6 : decode cL_truckOf 6 = .ok (.iload_n 3, 1) := by decide +kernel
theorem dL_truckOf_7 : decode cL_truckOf 7 = .ok (.invokevirtual 72, 3) := by decide +kernel
theorem dL_truckOf_10 : decode cL_truckOf 10 = .ok (.i2l, 1) := by decide +kernel
theorem dL_truckOf_11 : decode cL_truckOf 11 = .ok (.lastore, 1) := by decide +kernel
theorem dL_truckOf_12 : decode cL_truckOf 12 = .ok (.goto 11, 3) := by decide +kernel
theorem dL_truckOf_15 : decode cL_truckOf 15 = .ok (.astore 5, 2) := by decide +kernel
theorem dL_truckOf_17 : decode cL_truckOf 17 = .ok (.iconst 1, 1) := by decide +kernel
theorem dL_truckOf_18 : decode cL_truckOf 18 = .ok (.ireturn, 1) := by decide +kernel
theorem dL_truckOf_19 : decode cL_truckOf 19 = .ok (.astore 5, 2) := by decide +kernel
theorem dL_truckOf_21 : decode cL_truckOf 21 = .ok (.iconst 2, 1) := by decide +kernel
theorem dL_truckOf_22 : decode cL_truckOf 22 = .ok (.ireturn, 1) := by decide +kernel
theorem dL_truckOf_23 : decode cL_truckOf 23 = .ok (.iconst 0, 1) := by decide +kernel
theorem dL_truckOf_24 : decode cL_truckOf 24 = .ok (.ireturn, 1) := by decide +kernel
theorem dL_load_0 : decode cL_load 0 = .ok (.aload_n 3, 1) := by decide +kernel
theorem dL_load_1 : decode cL_load 1 = .ok (.iconst 0, 1) := by decide +kernel
theorem dL_load_2 : decode cL_load 2 = .ok (.aload_n 0, 1) := by decide +kernel
theorem dL_load_3 : decode cL_load 3 = .ok (.iload_n 1, 1) := by decide +kernel
theorem dL_load_4 : decode cL_load 4 = .ok (.iload_n 2, 1) := by decide +kernel
theorem dL_load_5 : decode cL_load 5 = .ok (.invokevirtual 75, 3) := by decide +kernel
theorem dL_load_8 : decode cL_load 8 = .ok (.f2d, 1) := by decide +kernel
theorem dL_load_9 : decode cL_load 9 = .ok (.dastore, 1) := by decide +kernel
theorem dL_load_10 : decode cL_load 10 = .ok (.goto 7, 3) := by decide +kernel
theorem dL_load_13 : decode cL_load 13 = .ok (.astore 4, 2) := by decide +kernel
theorem dL_load_15 : decode cL_load 15 = .ok (.iconst 1, 1) := by decide +kernel
theorem dL_load_16 : decode cL_load 16 = .ok (.ireturn, 1) := by decide +kernel
theorem dL_load_17 : decode cL_load 17 = .ok (.iconst 0, 1) := by decide +kernel
theorem dL_load_18 : decode cL_load 18 = .ok (.ireturn, 1) := by decide +kernel
theorem dL_at_0 : decode cL_at 0 = .ok (.aload_n 2, 1) := by decide +kernel
theorem dL_at_1 : decode cL_at 1 = .ok (.iconst 0, 1) := by decide +kernel
theorem dL_at_2 : decode cL_at 2 = .ok (.aload_n 0, 1) := by decide +kernel
theorem dL_at_3 : decode cL_at 3 = .ok (.iload_n 1, 1) := by decide +kernel
theorem dL_at_4 : decode cL_at 4 = .ok (.invokevirtual 79, 3) := by decide +kernel
theorem dL_at_7 : decode cL_at 7 = .ok (.i2l, 1) := by decide +kernel
theorem dL_at_8 : decode cL_at 8 = .ok (.lastore, 1) := by decide +kernel
theorem dL_at_9 : decode cL_at 9 = .ok (.goto 9, 3) := by decide +kernel
theorem dL_at_12 : decode cL_at 12 = .ok (.astore_n 3, 1) := by decide +kernel
theorem dL_at_13 : decode cL_at 13 = .ok (.iconst 1, 1) := by decide +kernel
theorem dL_at_14 : decode cL_at 14 = .ok (.ireturn, 1) := by decide +kernel
theorem dL_at_15 : decode cL_at 15 = .ok (.astore_n 3, 1) := by decide +kernel
theorem dL_at_16 : decode cL_at 16 = .ok (.iconst 2, 1) := by decide +kernel
theorem dL_at_17 : decode cL_at 17 = .ok (.ireturn, 1) := by decide +kernel
theorem dL_at_18 : decode cL_at 18 = .ok (.iconst 0, 1) := by decide +kernel
theorem dL_at_19 : decode cL_at 19 = .ok (.ireturn, 1) := by decide +kernel
theorem dL_rolls_0 : decode cL_rolls 0 = .ok (.aload_n 2, 1) := by decide +kernel
theorem dL_rolls_1 : decode cL_rolls 1 = .ok (.iconst 0, 1) := by decide +kernel
theorem dL_rolls_2 : decode cL_rolls 2 = .ok (.aload_n 0, 1) := by decide +kernel
theorem dL_rolls_3 : decode cL_rolls 3 = .ok (.iload_n 1, 1) := by decide +kernel
theorem dL_rolls_4 : decode cL_rolls 4 = .ok (.invokevirtual 82, 3) := by decide +kernel
theorem dL_rolls_7 : decode cL_rolls 7 = .ok (.i2l, 1) := by decide +kernel
theorem dL_rolls_8 : decode cL_rolls 8 = .ok (.lastore, 1) := by decide +kernel
theorem dL_rolls_9 : decode cL_rolls 9 = .ok (.goto 6, 3) := by decide +kernel
theorem dL_rolls_12 : decode cL_rolls 12 = .ok (.astore_n 3, 1) := by decide +kernel
theorem dL_rolls_13 : decode cL_rolls 13 = .ok (.iconst 1, 1) := by decide +kernel
theorem dL_rolls_14 : decode cL_rolls 14 = .ok (.ireturn, 1) := by decide +kernel
theorem dL_rolls_15 : decode cL_rolls 15 = .ok (.iconst 0, 1) := by decide +kernel
theorem dL_rolls_16 : decode cL_rolls 16 = .ok (.ireturn, 1) := by decide +kernel
theorem dL_rollsAgain_0 : decode cL_rollsAgain 0 = .ok (.aload_n 2, 1) := by decide +kernel
theorem dL_rollsAgain_1 : decode cL_rollsAgain 1 = .ok (.iconst 0, 1) := by decide +kernel
theorem dL_rollsAgain_2 : decode cL_rollsAgain 2 = .ok (.aload_n 0, 1) := by decide +kernel
theorem dL_rollsAgain_3 : decode cL_rollsAgain 3 = .ok (.iload_n 1, 1) := by decide +kernel
theorem dL_rollsAgain_4 : decode cL_rollsAgain 4 = .ok (.invokevirtual 85, 3) := by decide +kernel
theorem dL_rollsAgain_7 : decode cL_rollsAgain 7 = .ok (.i2l, 1) := by decide +kernel
theorem dL_rollsAgain_8 : decode cL_rollsAgain 8 = .ok (.lastore, 1) := by decide +kernel
theorem dL_rollsAgain_9 : decode cL_rollsAgain 9 = .ok (.goto 6, 3) := by decide +kernel
theorem dL_rollsAgain_12 : decode cL_rollsAgain 12 = .ok (.astore_n 3, 1) := by decide +kernel
theorem dL_rollsAgain_13 : decode cL_rollsAgain 13 = .ok (.iconst 1, 1) := by decide +kernel
theorem dL_rollsAgain_14 : decode cL_rollsAgain 14 = .ok (.ireturn, 1) := by decide +kernel
theorem dL_rollsAgain_15 : decode cL_rollsAgain 15 = .ok (.iconst 0, 1) := by decide +kernel
theorem dL_rollsAgain_16 : decode cL_rollsAgain 16 = .ok (.ireturn, 1) := by decide +kernel
theorem dL_iceIn_0 : decode cL_iceIn 0 = .ok (.aload_n 3, 1) := by decide +kernel
theorem dL_iceIn_1 : decode cL_iceIn 1 = .ok (.iconst 0, 1) := by decide +kernel
theorem dL_iceIn_2 : decode cL_iceIn 2 = .ok (.aload_n 0, 1) := by decide +kernel
theorem dL_iceIn_3 : decode cL_iceIn 3 = .ok (.iload_n 1, 1) := by decide +kernel
theorem dL_iceIn_4 : decode cL_iceIn 4 = .ok (.iload_n 2, 1) := by decide +kernel
theorem dL_iceIn_5 : decode cL_iceIn 5 = .ok (.invokevirtual 88, 3) := by decide +kernel
theorem dL_iceIn_8 : decode cL_iceIn 8 = .ok (.i2l, 1) := by decide +kernel
theorem dL_iceIn_9 : decode cL_iceIn 9 = .ok (.lastore, 1) := by decide +kernel
theorem dL_iceIn_10 : decode cL_iceIn 10 = .ok (.goto 11, 3) := by decide +kernel
theorem dL_iceIn_13 : decode cL_iceIn 13 = .ok (.astore 4, 2) := by decide +kernel
theorem dL_iceIn_15 : decode cL_iceIn 15 = .ok (.iconst 1, 1) := by decide +kernel
theorem dL_iceIn_16 : decode cL_iceIn 16 = .ok (.ireturn, 1) := by decide +kernel
theorem dL_iceIn_17 : decode cL_iceIn 17 = .ok (.astore 4, 2) := by decide +kernel
theorem dL_iceIn_19 : decode cL_iceIn 19 = .ok (.iconst 2, 1) := by decide +kernel
theorem dL_iceIn_20 : decode cL_iceIn 20 = .ok (.ireturn, 1) := by decide +kernel
theorem dL_iceIn_21 : decode cL_iceIn 21 = .ok (.iconst 0, 1) := by decide +kernel
theorem dL_iceIn_22 : decode cL_iceIn 22 = .ok (.ireturn, 1) := by decide +kernel
theorem dL_bearsIn_0 : decode cL_bearsIn 0 = .ok (.aload_n 3, 1) := by decide +kernel
theorem dL_bearsIn_1 : decode cL_bearsIn 1 = .ok (.iconst 0, 1) := by decide +kernel
theorem dL_bearsIn_2 : decode cL_bearsIn 2 = .ok (.aload_n 0, 1) := by decide +kernel
theorem dL_bearsIn_3 : decode cL_bearsIn 3 = .ok (.iload_n 1, 1) := by decide +kernel
theorem dL_bearsIn_4 : decode cL_bearsIn 4 = .ok (.iload_n 2, 1) := by decide +kernel
theorem dL_bearsIn_5 : decode cL_bearsIn 5 = .ok (.invokevirtual 91, 3) := by decide +kernel
theorem dL_bearsIn_8 : decode cL_bearsIn 8 = .ok (.i2l, 1) := by decide +kernel
theorem dL_bearsIn_9 : decode cL_bearsIn 9 = .ok (.lastore, 1) := by decide +kernel
theorem dL_bearsIn_10 : decode cL_bearsIn 10 = .ok (.goto 15, 3) := by decide +kernel
theorem dL_bearsIn_13 : decode cL_bearsIn 13 = .ok (.astore 4, 2) := by decide +kernel
theorem dL_bearsIn_15 : decode cL_bearsIn 15 = .ok (.iconst 1, 1) := by decide +kernel
theorem dL_bearsIn_16 : decode cL_bearsIn 16 = .ok (.ireturn, 1) := by decide +kernel
theorem dL_bearsIn_17 : decode cL_bearsIn 17 = .ok (.astore 4, 2) := by decide +kernel
theorem dL_bearsIn_19 : decode cL_bearsIn 19 = .ok (.iconst 2, 1) := by decide +kernel
theorem dL_bearsIn_20 : decode cL_bearsIn 20 = .ok (.ireturn, 1) := by decide +kernel
theorem dL_bearsIn_21 : decode cL_bearsIn 21 = .ok (.astore 4, 2) := by decide +kernel
theorem dL_bearsIn_23 : decode cL_bearsIn 23 = .ok (.iconst 3, 1) := by decide +kernel
theorem dL_bearsIn_24 : decode cL_bearsIn 24 = .ok (.ireturn, 1) := by decide +kernel
theorem dL_bearsIn_25 : decode cL_bearsIn 25 = .ok (.iconst 0, 1) := by decide +kernel
theorem dL_bearsIn_26 : decode cL_bearsIn 26 = .ok (.ireturn, 1) := by decide +kernel
theorem dL_pass_0 : decode cL_pass 0 = .ok (.aload_n 2, 1) := by decide +kernel
theorem dL_pass_1 : decode cL_pass 1 = .ok (.iconst 0, 1) := by decide +kernel
theorem dL_pass_2 : decode cL_pass 2 = .ok (.aload_n 0, 1) := by decide +kernel
theorem dL_pass_3 : decode cL_pass 3 = .ok (.iload_n 1, 1) := by decide +kernel
theorem dL_pass_4 : decode cL_pass 4 = .ok (.invokevirtual 94, 3) := by decide +kernel
theorem dL_pass_7 : decode cL_pass 7 = .ok (.i2l, 1) := by decide +kernel
theorem dL_pass_8 : decode cL_pass 8 = .ok (.lastore, 1) := by decide +kernel
theorem dL_pass_9 : decode cL_pass 9 = .ok (.goto 6, 3) := by decide +kernel
theorem dL_pass_12 : decode cL_pass 12 = .ok (.astore_n 3, 1) := by decide +kernel
theorem dL_pass_13 : decode cL_pass 13 = .ok (.iconst 1, 1) := by decide +kernel
theorem dL_pass_14 : decode cL_pass 14 = .ok (.ireturn, 1) := by decide +kernel
theorem dL_pass_15 : decode cL_pass 15 = .ok (.iconst 0, 1) := by decide +kernel
theorem dL_pass_16 : decode cL_pass 16 = .ok (.ireturn, 1) := by decide +kernel
theorem dL_append_0 : decode cL_append 0 = .ok (.aload_n 2, 1) := by decide +kernel
theorem dL_append_1 : decode cL_append 1 = .ok (.iconst 0, 1) := by decide +kernel
theorem dL_append_2 : decode cL_append 2 = .ok (.aload_n 0, 1) := by decide +kernel
theorem dL_append_3 : decode cL_append 3 = .ok (.iload_n 1, 1) := by decide +kernel
theorem dL_append_4 : decode cL_append 4 = .ok (.invokevirtual 97, 3) := by decide +kernel
theorem dL_append_7 : decode cL_append 7 = .ok (.i2l, 1) := by decide +kernel
theorem dL_append_8 : decode cL_append 8 = .ok (.lastore, 1) := by decide +kernel
theorem dL_append_9 : decode cL_append 9 = .ok (.goto 6, 3) := by decide +kernel
theorem dL_append_12 : decode cL_append 12 = .ok (.astore_n 3, 1) := by decide +kernel
theorem dL_append_13 : decode cL_append 13 = .ok (.iconst 1, 1) := by decide +kernel
theorem dL_append_14 : decode cL_append 14 = .ok (.ireturn, 1) := by decide +kernel
theorem dL_append_15 : decode cL_append 15 = .ok (.iconst 0, 1) := by decide +kernel
theorem dL_append_16 : decode cL_append 16 = .ok (.ireturn, 1) := by decide +kernel
theorem dL_read_0 : decode cL_read 0 = .ok (.aload_n 1, 1) := by decide +kernel
theorem dL_read_1 : decode cL_read 1 = .ok (.iconst 0, 1) := by decide +kernel
theorem dL_read_2 : decode cL_read 2 = .ok (.aload_n 0, 1) := by decide +kernel
theorem dL_read_3 : decode cL_read 3 = .ok (.invokevirtual 103, 3) := by decide +kernel
theorem dL_read_6 : decode cL_read 6 = .ok (.i2l, 1) := by decide +kernel
theorem dL_read_7 : decode cL_read 7 = .ok (.lastore, 1) := by decide +kernel
theorem dL_read_8 : decode cL_read 8 = .ok (.goto 9, 3) := by decide +kernel
theorem dL_read_11 : decode cL_read 11 = .ok (.astore_n 2, 1) := by decide +kernel
theorem dL_read_12 : decode cL_read 12 = .ok (.iconst 1, 1) := by decide +kernel
theorem dL_read_13 : decode cL_read 13 = .ok (.ireturn, 1) := by decide +kernel
theorem dL_read_14 : decode cL_read 14 = .ok (.astore_n 2, 1) := by decide +kernel
theorem dL_read_15 : decode cL_read 15 = .ok (.iconst 2, 1) := by decide +kernel
theorem dL_read_16 : decode cL_read 16 = .ok (.ireturn, 1) := by decide +kernel
theorem dL_read_17 : decode cL_read 17 = .ok (.iconst 0, 1) := by decide +kernel
theorem dL_read_18 : decode cL_read 18 = .ok (.ireturn, 1) := by decide +kernel
theorem dL_refusal_0 : decode cL_refusal 0 = .ok (.aload_n 2, 1) := by decide +kernel
theorem dL_refusal_1 : decode cL_refusal 1 = .ok (.iconst 0, 1) := by decide +kernel
theorem dL_refusal_2 : decode cL_refusal 2 = .ok (.aload_n 0, 1) := by decide +kernel
theorem dL_refusal_3 : decode cL_refusal 3 = .ok (.iload_n 1, 1) := by decide +kernel
theorem dL_refusal_4 : decode cL_refusal 4 = .ok (.invokevirtual 107, 3) := by decide +kernel
theorem dL_refusal_7 : decode cL_refusal 7 = .ok (.i2l, 1) := by decide +kernel
theorem dL_refusal_8 : decode cL_refusal 8 = .ok (.lastore, 1) := by decide +kernel
theorem dL_refusal_9 : decode cL_refusal 9 = .ok (.goto 6, 3) := by decide +kernel
theorem dL_refusal_12 : decode cL_refusal 12 = .ok (.astore_n 3, 1) := by decide +kernel
theorem dL_refusal_13 : decode cL_refusal 13 = .ok (.iconst 1, 1) := by decide +kernel
theorem dL_refusal_14 : decode cL_refusal 14 = .ok (.ireturn, 1) := by decide +kernel
theorem dL_refusal_15 : decode cL_refusal 15 = .ok (.iconst 0, 1) := by decide +kernel
theorem dL_refusal_16 : decode cL_refusal 16 = .ok (.ireturn, 1) := by decide +kernel
theorem dL_account_0 : decode cL_account 0 = .ok (.aload_n 2, 1) := by decide +kernel
theorem dL_account_1 : decode cL_account 1 = .ok (.iconst 0, 1) := by decide +kernel
theorem dL_account_2 : decode cL_account 2 = .ok (.aload_n 0, 1) := by decide +kernel
theorem dL_account_3 : decode cL_account 3 = .ok (.iload_n 1, 1) := by decide +kernel
theorem dL_account_4 : decode cL_account 4 = .ok (.invokevirtual 111, 3) := by decide +kernel
theorem dL_account_7 : decode cL_account 7 = .ok (.i2l, 1) := by decide +kernel
theorem dL_account_8 : decode cL_account 8 = .ok (.lastore, 1) := by decide +kernel
theorem dL_account_9 : decode cL_account 9 = .ok (.goto 6, 3) := by decide +kernel
theorem dL_account_12 : decode cL_account 12 = .ok (.astore_n 3, 1) := by decide +kernel
theorem dL_account_13 : decode cL_account 13 = .ok (.iconst 1, 1) := by decide +kernel
theorem dL_account_14 : decode cL_account 14 = .ok (.ireturn, 1) := by decide +kernel
theorem dL_account_15 : decode cL_account 15 = .ok (.iconst 0, 1) := by decide +kernel
theorem dL_account_16 : decode cL_account 16 = .ok (.ireturn, 1) := by decide +kernel
theorem dL_share_0 : decode cL_share 0 = .ok (.aload_n 1, 1) := by decide +kernel
theorem dL_share_1 : decode cL_share 1 = .ok (.iconst 0, 1) := by decide +kernel
theorem dL_share_2 : decode cL_share 2 = .ok (.aload_n 0, 1) := by decide +kernel
theorem dL_share_3 : decode cL_share 3 = .ok (.invokevirtual 114, 3) := by decide +kernel
theorem dL_share_6 : decode cL_share 6 = .ok (.f2d, 1) := by decide +kernel
theorem dL_share_7 : decode cL_share 7 = .ok (.dastore, 1) := by decide +kernel
theorem dL_share_8 : decode cL_share 8 = .ok (.goto 6, 3) := by decide +kernel
theorem dL_share_11 : decode cL_share 11 = .ok (.astore_n 2, 1) := by decide +kernel
theorem dL_share_12 : decode cL_share 12 = .ok (.iconst 1, 1) := by decide +kernel
theorem dL_share_13 : decode cL_share 13 = .ok (.ireturn, 1) := by decide +kernel
theorem dL_share_14 : decode cL_share 14 = .ok (.iconst 0, 1) := by decide +kernel
theorem dL_share_15 : decode cL_share 15 = .ok (.ireturn, 1) := by decide +kernel
theorem dL_undo_0 : decode cL_undo 0 = .ok (.aload_n 1, 1) := by decide +kernel
theorem dL_undo_1 : decode cL_undo 1 = .ok (.iconst 0, 1) := by decide +kernel
theorem dL_undo_2 : decode cL_undo 2 = .ok (.aload_n 0, 1) := by decide +kernel
theorem dL_undo_3 : decode cL_undo 3 = .ok (.invokevirtual 120, 3) := by decide +kernel
theorem dL_undo_6 : decode cL_undo 6 = .ok (.i2l, 1) := by decide +kernel
theorem dL_undo_7 : decode cL_undo 7 = .ok (.lastore, 1) := by decide +kernel
theorem dL_undo_8 : decode cL_undo 8 = .ok (.goto 6, 3) := by decide +kernel
theorem dL_undo_11 : decode cL_undo 11 = .ok (.astore_n 2, 1) := by decide +kernel
theorem dL_undo_12 : decode cL_undo 12 = .ok (.iconst 1, 1) := by decide +kernel
theorem dL_undo_13 : decode cL_undo 13 = .ok (.ireturn, 1) := by decide +kernel
theorem dL_undo_14 : decode cL_undo 14 = .ok (.iconst 0, 1) := by decide +kernel
theorem dL_undo_15 : decode cL_undo 15 = .ok (.ireturn, 1) := by decide +kernel
theorem dL_restore_0 : decode cL_restore 0 = .ok (.aload_n 1, 1) := by decide +kernel
theorem dL_restore_1 : decode cL_restore 1 = .ok (.iconst 0, 1) := by decide +kernel
theorem dL_restore_2 : decode cL_restore 2 = .ok (.aload_n 0, 1) := by decide +kernel
theorem dL_restore_3 : decode cL_restore 3 = .ok (.invokevirtual 123, 3) := by decide +kernel
theorem dL_restore_6 : decode cL_restore 6 = .ok (.i2l, 1) := by decide +kernel
theorem dL_restore_7 : decode cL_restore 7 = .ok (.lastore, 1) := by decide +kernel
theorem dL_restore_8 : decode cL_restore 8 = .ok (.goto 6, 3) := by decide +kernel
theorem dL_restore_11 : decode cL_restore 11 = .ok (.astore_n 2, 1) := by decide +kernel
theorem dL_restore_12 : decode cL_restore 12 = .ok (.iconst 1, 1) := by decide +kernel
theorem dL_restore_13 : decode cL_restore 13 = .ok (.ireturn, 1) := by decide +kernel
theorem dL_restore_14 : decode cL_restore 14 = .ok (.iconst 0, 1) := by decide +kernel
theorem dL_restore_15 : decode cL_restore 15 = .ok (.ireturn, 1) := by decide +kernel
theorem dL_law_0 : decode cL_law 0 = .ok (.new 8, 3) := by decide +kernel
theorem dL_law_3 : decode cL_law 3 = .ok (.dup, 1) := by decide +kernel
theorem dL_law_4 : decode cL_law 4 = .ok (.invokespecial 126, 3) := by decide +kernel
theorem dL_law_7 : decode cL_law 7 = .ok (.astore_n 1, 1) := by decide +kernel
theorem dL_law_8 : decode cL_law 8 = .ok (.new 127, 3) := by decide +kernel
theorem dL_law_11 : decode cL_law 11 = .ok (.dup, 1) := by decide +kernel
theorem dL_law_12 : decode cL_law 12 = .ok (.invokespecial 129, 3) := by decide +kernel
theorem dL_law_15 : decode cL_law 15 = .ok (.astore_n 2, 1) := by decide +kernel
theorem dL_law_16 : decode cL_law 16 = .ok (.iconst 1, 1) := by decide +kernel
theorem dL_law_17 : decode cL_law 17 = .ok (.newarray .long, 2) := by decide +kernel
theorem dL_law_19 : decode cL_law 19 = .ok (.astore_n 3, 1) := by decide +kernel
theorem dL_law_20 : decode cL_law 20 = .ok (.iconst 1, 1) := by decide +kernel
theorem dL_law_21 : decode cL_law 21 = .ok (.newarray .double, 2) := by decide +kernel
theorem dL_law_23 : decode cL_law 23 = .ok (.astore 4, 2) := by decide +kernel
theorem dL_law_25 : decode cL_law 25 = .ok (.iconst 0, 1) := by decide +kernel
theorem dL_law_26 : decode cL_law 26 = .ok (.istore 5, 2) := by decide +kernel
theorem dL_law_28 : decode cL_law 28 = .ok (.iload 5, 2) := by decide +kernel
theorem dL_law_30 : decode cL_law 30 = .ok (.aload_n 0, 1) := by decide +kernel
theorem dL_law_31 : decode cL_law 31 = .ok (.arraylength, 1) := by decide +kernel
theorem dL_law_32 : decode cL_law 32 = .ok (.iconst 5, 1) := by decide +kernel
theorem dL_law_33 : decode cL_law 33 = .ok (.isub, 1) := by decide +kernel
theorem dL_law_34 : decode cL_law 34 = .ok (.if_icmp .gt 2222, 3) := by decide +kernel
theorem dL_law_37 : decode cL_law 37 = .ok (.aload_n 0, 1) := by decide +kernel
theorem dL_law_38 : decode cL_law 38 = .ok (.iload 5, 2) := by decide +kernel
theorem dL_law_40 : decode cL_law 40 = .ok (.iaload, 1) := by decide +kernel
theorem dL_law_41 : decode cL_law 41 = .ok (.bipush 63, 2) := by decide +kernel
theorem dL_law_43 : decode cL_law 43 = .ok (.iand, 1) := by decide +kernel
theorem dL_law_44 : decode cL_law 44 = .ok (.tableswitch 2206 0 35 #[160, 228, 284, 340, 396, 464, 542, 598, 654, 667, 759, 839, 895, 975, 1031, 1087, 1171, 1239, 1319, 1409, 1465, 1521, 1577, 1645, 1713, 1769, 1827, 1871, 1884, 1956, 2012, 2025, 2039, 2105, 2149, 2162], 160) := by decide +kernel
theorem dL_law_204 : decode cL_law 204 = .ok (.aload_n 1, 1) := by decide +kernel
theorem dL_law_205 : decode cL_law 205 = .ok (.aload_n 0, 1) := by decide +kernel
theorem dL_law_206 : decode cL_law 206 = .ok (.iload 5, 2) := by decide +kernel
theorem dL_law_208 : decode cL_law 208 = .ok (.iconst 1, 1) := by decide +kernel
theorem dL_law_209 : decode cL_law 209 = .ok (.iadd, 1) := by decide +kernel
theorem dL_law_210 : decode cL_law 210 = .ok (.iaload, 1) := by decide +kernel
theorem dL_law_211 : decode cL_law 211 = .ok (.aload_n 0, 1) := by decide +kernel
theorem dL_law_212 : decode cL_law 212 = .ok (.iload 5, 2) := by decide +kernel
theorem dL_law_214 : decode cL_law 214 = .ok (.iconst 2, 1) := by decide +kernel
theorem dL_law_215 : decode cL_law 215 = .ok (.iadd, 1) := by decide +kernel
theorem dL_law_216 : decode cL_law 216 = .ok (.iaload, 1) := by decide +kernel
theorem dL_law_217 : decode cL_law 217 = .ok (.aload_n 3, 1) := by decide +kernel
theorem dL_law_218 : decode cL_law 218 = .ok (.invokestatic 130, 3) := by decide +kernel
theorem dL_law_221 : decode cL_law 221 = .ok (.istore 6, 2) := by decide +kernel
theorem dL_law_223 : decode cL_law 223 = .ok (.aload_n 2, 1) := by decide +kernel
theorem dL_law_224 : decode cL_law 224 = .ok (.aload_n 0, 1) := by decide +kernel
theorem dL_law_225 : decode cL_law 225 = .ok (.iload 5, 2) := by decide +kernel
theorem dL_law_227 : decode cL_law 227 = .ok (.iconst 1, 1) := by decide +kernel
theorem dL_law_228 : decode cL_law 228 = .ok (.iadd, 1) := by decide +kernel
theorem dL_law_229 : decode cL_law 229 = .ok (.iaload, 1) := by decide +kernel
theorem dL_law_230 : decode cL_law 230 = .ok (.aload_n 0, 1) := by decide +kernel
theorem dL_law_231 : decode cL_law 231 = .ok (.iload 5, 2) := by decide +kernel
theorem dL_law_233 : decode cL_law 233 = .ok (.iconst 2, 1) := by decide +kernel
theorem dL_law_234 : decode cL_law 234 = .ok (.iadd, 1) := by decide +kernel
theorem dL_law_235 : decode cL_law 235 = .ok (.iaload, 1) := by decide +kernel
theorem dL_law_236 : decode cL_law 236 = .ok (.invokevirtual 135, 3) := by decide +kernel
theorem dL_law_239 : decode cL_law 239 = .ok (.istore 7, 2) := by decide +kernel
theorem dL_law_241 : decode cL_law 241 = .ok (.aload_n 2, 1) := by decide +kernel
theorem dL_law_242 : decode cL_law 242 = .ok (.invokevirtual 136, 3) := by decide +kernel
theorem dL_law_245 : decode cL_law 245 = .ok (.iload 6, 2) := by decide +kernel
theorem dL_law_247 : decode cL_law 247 = .ok (.if_icmp .eq 5, 3) := by decide +kernel
theorem dL_law_250 : decode cL_law 250 = .ok (.iconst 0, 1) := by decide +kernel
theorem dL_law_251 : decode cL_law 251 = .ok (.ireturn, 1) := by decide +kernel
theorem dL_law_252 : decode cL_law 252 = .ok (.iload 6, 2) := by decide +kernel
theorem dL_law_254 : decode cL_law 254 = .ok (.ifCond .ne 15, 3) := by decide +kernel
theorem dL_law_257 : decode cL_law 257 = .ok (.aload_n 3, 1) := by decide +kernel
theorem dL_law_258 : decode cL_law 258 = .ok (.iconst 0, 1) := by decide +kernel
theorem dL_law_259 : decode cL_law 259 = .ok (.laload, 1) := by decide +kernel
theorem dL_law_260 : decode cL_law 260 = .ok (.iload 7, 2) := by decide +kernel
theorem dL_law_262 : decode cL_law 262 = .ok (.i2l, 1) := by decide +kernel
theorem dL_law_263 : decode cL_law 263 = .ok (.lcmp, 1) := by decide +kernel
theorem dL_law_264 : decode cL_law 264 = .ok (.ifCond .eq 5, 3) := by decide +kernel
theorem dL_law_267 : decode cL_law 267 = .ok (.iconst 0, 1) := by decide +kernel
theorem dL_law_268 : decode cL_law 268 = .ok (.ireturn, 1) := by decide +kernel
theorem dL_law_269 : decode cL_law 269 = .ok (.goto 1981, 3) := by decide +kernel
theorem dL_law_272 : decode cL_law 272 = .ok (.aload_n 1, 1) := by decide +kernel
theorem dL_law_273 : decode cL_law 273 = .ok (.aload_n 0, 1) := by decide +kernel
theorem dL_law_274 : decode cL_law 274 = .ok (.iload 5, 2) := by decide +kernel
theorem dL_law_276 : decode cL_law 276 = .ok (.iconst 1, 1) := by decide +kernel
theorem dL_law_277 : decode cL_law 277 = .ok (.iadd, 1) := by decide +kernel
theorem dL_law_278 : decode cL_law 278 = .ok (.iaload, 1) := by decide +kernel
theorem dL_law_279 : decode cL_law 279 = .ok (.aload_n 3, 1) := by decide +kernel
theorem dL_law_280 : decode cL_law 280 = .ok (.invokestatic 139, 3) := by decide +kernel
theorem dL_law_283 : decode cL_law 283 = .ok (.istore 6, 2) := by decide +kernel
theorem dL_law_285 : decode cL_law 285 = .ok (.aload_n 2, 1) := by decide +kernel
theorem dL_law_286 : decode cL_law 286 = .ok (.aload_n 0, 1) := by decide +kernel
theorem dL_law_287 : decode cL_law 287 = .ok (.iload 5, 2) := by decide +kernel
theorem dL_law_289 : decode cL_law 289 = .ok (.iconst 1, 1) := by decide +kernel
theorem dL_law_290 : decode cL_law 290 = .ok (.iadd, 1) := by decide +kernel
theorem dL_law_291 : decode cL_law 291 = .ok (.iaload, 1) := by decide +kernel
theorem dL_law_292 : decode cL_law 292 = .ok (.invokevirtual 142, 3) := by decide +kernel
theorem dL_law_295 : decode cL_law 295 = .ok (.istore 7, 2) := by decide +kernel
theorem dL_law_297 : decode cL_law 297 = .ok (.aload_n 2, 1) := by decide +kernel
theorem dL_law_298 : decode cL_law 298 = .ok (.invokevirtual 136, 3) := by decide +kernel
theorem dL_law_301 : decode cL_law 301 = .ok (.iload 6, 2) := by decide +kernel
theorem dL_law_303 : decode cL_law 303 = .ok (.if_icmp .eq 5, 3) := by decide +kernel
theorem dL_law_306 : decode cL_law 306 = .ok (.iconst 0, 1) := by decide +kernel
theorem dL_law_307 : decode cL_law 307 = .ok (.ireturn, 1) := by decide +kernel
theorem dL_law_308 : decode cL_law 308 = .ok (.iload 6, 2) := by decide +kernel
theorem dL_law_310 : decode cL_law 310 = .ok (.ifCond .ne 15, 3) := by decide +kernel
theorem dL_law_313 : decode cL_law 313 = .ok (.aload_n 3, 1) := by decide +kernel
theorem dL_law_314 : decode cL_law 314 = .ok (.iconst 0, 1) := by decide +kernel
theorem dL_law_315 : decode cL_law 315 = .ok (.laload, 1) := by decide +kernel
theorem dL_law_316 : decode cL_law 316 = .ok (.iload 7, 2) := by decide +kernel
theorem dL_law_318 : decode cL_law 318 = .ok (.i2l, 1) := by decide +kernel
theorem dL_law_319 : decode cL_law 319 = .ok (.lcmp, 1) := by decide +kernel
theorem dL_law_320 : decode cL_law 320 = .ok (.ifCond .eq 5, 3) := by decide +kernel
theorem dL_law_323 : decode cL_law 323 = .ok (.iconst 0, 1) := by decide +kernel
theorem dL_law_324 : decode cL_law 324 = .ok (.ireturn, 1) := by decide +kernel
theorem dL_law_325 : decode cL_law 325 = .ok (.goto 1925, 3) := by decide +kernel
theorem dL_law_328 : decode cL_law 328 = .ok (.aload_n 1, 1) := by decide +kernel
theorem dL_law_329 : decode cL_law 329 = .ok (.aload_n 0, 1) := by decide +kernel
theorem dL_law_330 : decode cL_law 330 = .ok (.iload 5, 2) := by decide +kernel
theorem dL_law_332 : decode cL_law 332 = .ok (.iconst 1, 1) := by decide +kernel
theorem dL_law_333 : decode cL_law 333 = .ok (.iadd, 1) := by decide +kernel
theorem dL_law_334 : decode cL_law 334 = .ok (.iaload, 1) := by decide +kernel
theorem dL_law_335 : decode cL_law 335 = .ok (.aload_n 3, 1) := by decide +kernel
theorem dL_law_336 : decode cL_law 336 = .ok (.invokestatic 143, 3) := by decide +kernel
theorem dL_law_339 : decode cL_law 339 = .ok (.istore 6, 2) := by decide +kernel
theorem dL_law_341 : decode cL_law 341 = .ok (.aload_n 2, 1) := by decide +kernel
theorem dL_law_342 : decode cL_law 342 = .ok (.aload_n 0, 1) := by decide +kernel
theorem dL_law_343 : decode cL_law 343 = .ok (.iload 5, 2) := by decide +kernel
theorem dL_law_345 : decode cL_law 345 = .ok (.iconst 1, 1) := by decide +kernel
theorem dL_law_346 : decode cL_law 346 = .ok (.iadd, 1) := by decide +kernel
theorem dL_law_347 : decode cL_law 347 = .ok (.iaload, 1) := by decide +kernel
theorem dL_law_348 : decode cL_law 348 = .ok (.invokevirtual 145, 3) := by decide +kernel
theorem dL_law_351 : decode cL_law 351 = .ok (.istore 7, 2) := by decide +kernel
theorem dL_law_353 : decode cL_law 353 = .ok (.aload_n 2, 1) := by decide +kernel
theorem dL_law_354 : decode cL_law 354 = .ok (.invokevirtual 136, 3) := by decide +kernel
theorem dL_law_357 : decode cL_law 357 = .ok (.iload 6, 2) := by decide +kernel
theorem dL_law_359 : decode cL_law 359 = .ok (.if_icmp .eq 5, 3) := by decide +kernel
theorem dL_law_362 : decode cL_law 362 = .ok (.iconst 0, 1) := by decide +kernel
theorem dL_law_363 : decode cL_law 363 = .ok (.ireturn, 1) := by decide +kernel
theorem dL_law_364 : decode cL_law 364 = .ok (.iload 6, 2) := by decide +kernel
theorem dL_law_366 : decode cL_law 366 = .ok (.ifCond .ne 15, 3) := by decide +kernel
theorem dL_law_369 : decode cL_law 369 = .ok (.aload_n 3, 1) := by decide +kernel
theorem dL_law_370 : decode cL_law 370 = .ok (.iconst 0, 1) := by decide +kernel
theorem dL_law_371 : decode cL_law 371 = .ok (.laload, 1) := by decide +kernel
theorem dL_law_372 : decode cL_law 372 = .ok (.iload 7, 2) := by decide +kernel
theorem dL_law_374 : decode cL_law 374 = .ok (.i2l, 1) := by decide +kernel
theorem dL_law_375 : decode cL_law 375 = .ok (.lcmp, 1) := by decide +kernel
theorem dL_law_376 : decode cL_law 376 = .ok (.ifCond .eq 5, 3) := by decide +kernel
theorem dL_law_379 : decode cL_law 379 = .ok (.iconst 0, 1) := by decide +kernel
theorem dL_law_380 : decode cL_law 380 = .ok (.ireturn, 1) := by decide +kernel
theorem dL_law_381 : decode cL_law 381 = .ok (.goto 1869, 3) := by decide +kernel
theorem dL_law_384 : decode cL_law 384 = .ok (.aload_n 1, 1) := by decide +kernel
theorem dL_law_385 : decode cL_law 385 = .ok (.aload_n 0, 1) := by decide +kernel
theorem dL_law_386 : decode cL_law 386 = .ok (.iload 5, 2) := by decide +kernel
theorem dL_law_388 : decode cL_law 388 = .ok (.iconst 1, 1) := by decide +kernel
theorem dL_law_389 : decode cL_law 389 = .ok (.iadd, 1) := by decide +kernel
theorem dL_law_390 : decode cL_law 390 = .ok (.iaload, 1) := by decide +kernel
theorem dL_law_391 : decode cL_law 391 = .ok (.aload_n 3, 1) := by decide +kernel
theorem dL_law_392 : decode cL_law 392 = .ok (.invokestatic 146, 3) := by decide +kernel
theorem dL_law_395 : decode cL_law 395 = .ok (.istore 6, 2) := by decide +kernel
theorem dL_law_397 : decode cL_law 397 = .ok (.aload_n 2, 1) := by decide +kernel
theorem dL_law_398 : decode cL_law 398 = .ok (.aload_n 0, 1) := by decide +kernel
theorem dL_law_399 : decode cL_law 399 = .ok (.iload 5, 2) := by decide +kernel
theorem dL_law_401 : decode cL_law 401 = .ok (.iconst 1, 1) := by decide +kernel
theorem dL_law_402 : decode cL_law 402 = .ok (.iadd, 1) := by decide +kernel
theorem dL_law_403 : decode cL_law 403 = .ok (.iaload, 1) := by decide +kernel
theorem dL_law_404 : decode cL_law 404 = .ok (.invokevirtual 148, 3) := by decide +kernel
theorem dL_law_407 : decode cL_law 407 = .ok (.istore 7, 2) := by decide +kernel
theorem dL_law_409 : decode cL_law 409 = .ok (.aload_n 2, 1) := by decide +kernel
theorem dL_law_410 : decode cL_law 410 = .ok (.invokevirtual 136, 3) := by decide +kernel
theorem dL_law_413 : decode cL_law 413 = .ok (.iload 6, 2) := by decide +kernel
theorem dL_law_415 : decode cL_law 415 = .ok (.if_icmp .eq 5, 3) := by decide +kernel
theorem dL_law_418 : decode cL_law 418 = .ok (.iconst 0, 1) := by decide +kernel
theorem dL_law_419 : decode cL_law 419 = .ok (.ireturn, 1) := by decide +kernel
theorem dL_law_420 : decode cL_law 420 = .ok (.iload 6, 2) := by decide +kernel
theorem dL_law_422 : decode cL_law 422 = .ok (.ifCond .ne 15, 3) := by decide +kernel
theorem dL_law_425 : decode cL_law 425 = .ok (.aload_n 3, 1) := by decide +kernel
theorem dL_law_426 : decode cL_law 426 = .ok (.iconst 0, 1) := by decide +kernel
theorem dL_law_427 : decode cL_law 427 = .ok (.laload, 1) := by decide +kernel
theorem dL_law_428 : decode cL_law 428 = .ok (.iload 7, 2) := by decide +kernel
theorem dL_law_430 : decode cL_law 430 = .ok (.i2l, 1) := by decide +kernel
theorem dL_law_431 : decode cL_law 431 = .ok (.lcmp, 1) := by decide +kernel
theorem dL_law_432 : decode cL_law 432 = .ok (.ifCond .eq 5, 3) := by decide +kernel
theorem dL_law_435 : decode cL_law 435 = .ok (.iconst 0, 1) := by decide +kernel
theorem dL_law_436 : decode cL_law 436 = .ok (.ireturn, 1) := by decide +kernel
theorem dL_law_437 : decode cL_law 437 = .ok (.goto 1813, 3) := by decide +kernel
theorem dL_law_440 : decode cL_law 440 = .ok (.aload_n 1, 1) := by decide +kernel
theorem dL_law_441 : decode cL_law 441 = .ok (.aload_n 0, 1) := by decide +kernel
theorem dL_law_442 : decode cL_law 442 = .ok (.iload 5, 2) := by decide +kernel
theorem dL_law_444 : decode cL_law 444 = .ok (.iconst 1, 1) := by decide +kernel
theorem dL_law_445 : decode cL_law 445 = .ok (.iadd, 1) := by decide +kernel
theorem dL_law_446 : decode cL_law 446 = .ok (.iaload, 1) := by decide +kernel
theorem dL_law_447 : decode cL_law 447 = .ok (.aload_n 0, 1) := by decide +kernel
theorem dL_law_448 : decode cL_law 448 = .ok (.iload 5, 2) := by decide +kernel
theorem dL_law_450 : decode cL_law 450 = .ok (.iconst 2, 1) := by decide +kernel
theorem dL_law_451 : decode cL_law 451 = .ok (.iadd, 1) := by decide +kernel
theorem dL_law_452 : decode cL_law 452 = .ok (.iaload, 1) := by decide +kernel
theorem dL_law_453 : decode cL_law 453 = .ok (.aload_n 3, 1) := by decide +kernel
theorem dL_law_454 : decode cL_law 454 = .ok (.invokestatic 149, 3) := by decide +kernel
theorem dL_law_457 : decode cL_law 457 = .ok (.istore 6, 2) := by decide +kernel
theorem dL_law_459 : decode cL_law 459 = .ok (.aload_n 2, 1) := by decide +kernel
theorem dL_law_460 : decode cL_law 460 = .ok (.aload_n 0, 1) := by decide +kernel
theorem dL_law_461 : decode cL_law 461 = .ok (.iload 5, 2) := by decide +kernel
theorem dL_law_463 : decode cL_law 463 = .ok (.iconst 1, 1) := by decide +kernel
theorem dL_law_464 : decode cL_law 464 = .ok (.iadd, 1) := by decide +kernel
theorem dL_law_465 : decode cL_law 465 = .ok (.iaload, 1) := by decide +kernel
theorem dL_law_466 : decode cL_law 466 = .ok (.aload_n 0, 1) := by decide +kernel
theorem dL_law_467 : decode cL_law 467 = .ok (.iload 5, 2) := by decide +kernel
theorem dL_law_469 : decode cL_law 469 = .ok (.iconst 2, 1) := by decide +kernel
theorem dL_law_470 : decode cL_law 470 = .ok (.iadd, 1) := by decide +kernel
theorem dL_law_471 : decode cL_law 471 = .ok (.iaload, 1) := by decide +kernel
theorem dL_law_472 : decode cL_law 472 = .ok (.invokevirtual 151, 3) := by decide +kernel
theorem dL_law_475 : decode cL_law 475 = .ok (.istore 7, 2) := by decide +kernel
theorem dL_law_477 : decode cL_law 477 = .ok (.aload_n 2, 1) := by decide +kernel
theorem dL_law_478 : decode cL_law 478 = .ok (.invokevirtual 136, 3) := by decide +kernel
theorem dL_law_481 : decode cL_law 481 = .ok (.iload 6, 2) := by decide +kernel
theorem dL_law_483 : decode cL_law 483 = .ok (.if_icmp .eq 5, 3) := by decide +kernel
theorem dL_law_486 : decode cL_law 486 = .ok (.iconst 0, 1) := by decide +kernel
theorem dL_law_487 : decode cL_law 487 = .ok (.ireturn, 1) := by decide +kernel
theorem dL_law_488 : decode cL_law 488 = .ok (.iload 6, 2) := by decide +kernel
theorem dL_law_490 : decode cL_law 490 = .ok (.ifCond .ne 15, 3) := by decide +kernel
theorem dL_law_493 : decode cL_law 493 = .ok (.aload_n 3, 1) := by decide +kernel
theorem dL_law_494 : decode cL_law 494 = .ok (.iconst 0, 1) := by decide +kernel
theorem dL_law_495 : decode cL_law 495 = .ok (.laload, 1) := by decide +kernel
theorem dL_law_496 : decode cL_law 496 = .ok (.iload 7, 2) := by decide +kernel
theorem dL_law_498 : decode cL_law 498 = .ok (.i2l, 1) := by decide +kernel
theorem dL_law_499 : decode cL_law 499 = .ok (.lcmp, 1) := by decide +kernel
theorem dL_law_500 : decode cL_law 500 = .ok (.ifCond .eq 5, 3) := by decide +kernel
theorem dL_law_503 : decode cL_law 503 = .ok (.iconst 0, 1) := by decide +kernel
theorem dL_law_504 : decode cL_law 504 = .ok (.ireturn, 1) := by decide +kernel
theorem dL_law_505 : decode cL_law 505 = .ok (.goto 1745, 3) := by decide +kernel
theorem dL_law_508 : decode cL_law 508 = .ok (.aload_n 1, 1) := by decide +kernel
theorem dL_law_509 : decode cL_law 509 = .ok (.aload_n 0, 1) := by decide +kernel
theorem dL_law_510 : decode cL_law 510 = .ok (.iload 5, 2) := by decide +kernel
theorem dL_law_512 : decode cL_law 512 = .ok (.iconst 1, 1) := by decide +kernel
theorem dL_law_513 : decode cL_law 513 = .ok (.iadd, 1) := by decide +kernel
theorem dL_law_514 : decode cL_law 514 = .ok (.iaload, 1) := by decide +kernel
theorem dL_law_515 : decode cL_law 515 = .ok (.aload 4, 2) := by decide +kernel
theorem dL_law_517 : decode cL_law 517 = .ok (.invokestatic 152, 3) := by decide +kernel
theorem dL_law_520 : decode cL_law 520 = .ok (.istore 6, 2) := by decide +kernel
theorem dL_law_522 : decode cL_law 522 = .ok (.aload_n 2, 1) := by decide +kernel
theorem dL_law_523 : decode cL_law 523 = .ok (.aload_n 0, 1) := by decide +kernel
theorem dL_law_524 : decode cL_law 524 = .ok (.iload 5, 2) := by decide +kernel
theorem dL_law_526 : decode cL_law 526 = .ok (.iconst 1, 1) := by decide +kernel
theorem dL_law_527 : decode cL_law 527 = .ok (.iadd, 1) := by decide +kernel
theorem dL_law_528 : decode cL_law 528 = .ok (.iaload, 1) := by decide +kernel
theorem dL_law_529 : decode cL_law 529 = .ok (.invokevirtual 155, 3) := by decide +kernel
theorem dL_law_532 : decode cL_law 532 = .ok (.fstore 7, 2) := by decide +kernel
theorem dL_law_534 : decode cL_law 534 = .ok (.aload_n 2, 1) := by decide +kernel
theorem dL_law_535 : decode cL_law 535 = .ok (.invokevirtual 136, 3) := by decide +kernel
theorem dL_law_538 : decode cL_law 538 = .ok (.iload 6, 2) := by decide +kernel
theorem dL_law_540 : decode cL_law 540 = .ok (.if_icmp .eq 5, 3) := by decide +kernel
theorem dL_law_543 : decode cL_law 543 = .ok (.iconst 0, 1) := by decide +kernel
theorem dL_law_544 : decode cL_law 544 = .ok (.ireturn, 1) := by decide +kernel
theorem dL_law_545 : decode cL_law 545 = .ok (.iload 6, 2) := by decide +kernel
theorem dL_law_547 : decode cL_law 547 = .ok (.ifCond .ne 36, 3) := by decide +kernel
theorem dL_law_550 : decode cL_law 550 = .ok (.aload 4, 2) := by decide +kernel
theorem dL_law_552 : decode cL_law 552 = .ok (.iconst 0, 1) := by decide +kernel
theorem dL_law_553 : decode cL_law 553 = .ok (.daload, 1) := by decide +kernel
theorem dL_law_554 : decode cL_law 554 = .ok (.fload 7, 2) := by decide +kernel
theorem dL_law_556 : decode cL_law 556 = .ok (.f2d, 1) := by decide +kernel
theorem dL_law_557 : decode cL_law 557 = .ok (.dcmp .l, 1) := by decide +kernel
theorem dL_law_558 : decode cL_law 558 = .ok (.ifCond .eq 25, 3) := by decide +kernel
theorem dL_law_561 : decode cL_law 561 = .ok (.aload 4, 2) := by decide +kernel
theorem dL_law_563 : decode cL_law 563 = .ok (.iconst 0, 1) := by decide +kernel
theorem dL_law_564 : decode cL_law 564 = .ok (.daload, 1) := by decide +kernel
theorem dL_law_565 : decode cL_law 565 = .ok (.aload 4, 2) := by decide +kernel
theorem dL_law_567 : decode cL_law 567 = .ok (.iconst 0, 1) := by decide +kernel
theorem dL_law_568 : decode cL_law 568 = .ok (.daload, 1) := by decide +kernel
theorem dL_law_569 : decode cL_law 569 = .ok (.dcmp .l, 1) := by decide +kernel
theorem dL_law_570 : decode cL_law 570 = .ok (.ifCond .eq 11, 3) := by decide +kernel
theorem dL_law_573 : decode cL_law 573 = .ok (.fload 7, 2) := by decide +kernel
theorem dL_law_575 : decode cL_law 575 = .ok (.fload 7, 2) := by decide +kernel
theorem dL_law_577 : decode cL_law 577 = .ok (.fcmp .l, 1) := by decide +kernel
theorem dL_law_578 : decode cL_law 578 = .ok (.ifCond .ne 5, 3) := by decide +kernel
theorem dL_law_581 : decode cL_law 581 = .ok (.iconst 0, 1) := by decide +kernel
theorem dL_law_582 : decode cL_law 582 = .ok (.ireturn, 1) := by decide +kernel
theorem dL_law_583 : decode cL_law 583 = .ok (.goto 1667, 3) := by decide +kernel
theorem dL_law_586 : decode cL_law 586 = .ok (.aload_n 1, 1) := by decide +kernel
theorem dL_law_587 : decode cL_law 587 = .ok (.aload_n 0, 1) := by decide +kernel
theorem dL_law_588 : decode cL_law 588 = .ok (.iload 5, 2) := by decide +kernel
theorem dL_law_590 : decode cL_law 590 = .ok (.iconst 1, 1) := by decide +kernel
theorem dL_law_591 : decode cL_law 591 = .ok (.iadd, 1) := by decide +kernel
theorem dL_law_592 : decode cL_law 592 = .ok (.iaload, 1) := by decide +kernel
theorem dL_law_593 : decode cL_law 593 = .ok (.aload_n 3, 1) := by decide +kernel
theorem dL_law_594 : decode cL_law 594 = .ok (.invokestatic 156, 3) := by decide +kernel
theorem dL_law_597 : decode cL_law 597 = .ok (.istore 6, 2) := by decide +kernel
theorem dL_law_599 : decode cL_law 599 = .ok (.aload_n 2, 1) := by decide +kernel
theorem dL_law_600 : decode cL_law 600 = .ok (.aload_n 0, 1) := by decide +kernel
theorem dL_law_601 : decode cL_law 601 = .ok (.iload 5, 2) := by decide +kernel
theorem dL_law_603 : decode cL_law 603 = .ok (.iconst 1, 1) := by decide +kernel
theorem dL_law_604 : decode cL_law 604 = .ok (.iadd, 1) := by decide +kernel
theorem dL_law_605 : decode cL_law 605 = .ok (.iaload, 1) := by decide +kernel
theorem dL_law_606 : decode cL_law 606 = .ok (.invokevirtual 158, 3) := by decide +kernel
theorem dL_law_609 : decode cL_law 609 = .ok (.istore 7, 2) := by decide +kernel
theorem dL_law_611 : decode cL_law 611 = .ok (.aload_n 2, 1) := by decide +kernel
theorem dL_law_612 : decode cL_law 612 = .ok (.invokevirtual 136, 3) := by decide +kernel
theorem dL_law_615 : decode cL_law 615 = .ok (.iload 6, 2) := by decide +kernel
theorem dL_law_617 : decode cL_law 617 = .ok (.if_icmp .eq 5, 3) := by decide +kernel
theorem dL_law_620 : decode cL_law 620 = .ok (.iconst 0, 1) := by decide +kernel
theorem dL_law_621 : decode cL_law 621 = .ok (.ireturn, 1) := by decide +kernel
theorem dL_law_622 : decode cL_law 622 = .ok (.iload 6, 2) := by decide +kernel
theorem dL_law_624 : decode cL_law 624 = .ok (.ifCond .ne 15, 3) := by decide +kernel
theorem dL_law_627 : decode cL_law 627 = .ok (.aload_n 3, 1) := by decide +kernel
theorem dL_law_628 : decode cL_law 628 = .ok (.iconst 0, 1) := by decide +kernel
theorem dL_law_629 : decode cL_law 629 = .ok (.laload, 1) := by decide +kernel
theorem dL_law_630 : decode cL_law 630 = .ok (.iload 7, 2) := by decide +kernel
theorem dL_law_632 : decode cL_law 632 = .ok (.i2l, 1) := by decide +kernel
theorem dL_law_633 : decode cL_law 633 = .ok (.lcmp, 1) := by decide +kernel
theorem dL_law_634 : decode cL_law 634 = .ok (.ifCond .eq 5, 3) := by decide +kernel
theorem dL_law_637 : decode cL_law 637 = .ok (.iconst 0, 1) := by decide +kernel
theorem dL_law_638 : decode cL_law 638 = .ok (.ireturn, 1) := by decide +kernel
theorem dL_law_639 : decode cL_law 639 = .ok (.goto 1611, 3) := by decide +kernel
theorem dL_law_642 : decode cL_law 642 = .ok (.aload_n 1, 1) := by decide +kernel
theorem dL_law_643 : decode cL_law 643 = .ok (.aload_n 0, 1) := by decide +kernel
theorem dL_law_644 : decode cL_law 644 = .ok (.iload 5, 2) := by decide +kernel
theorem dL_law_646 : decode cL_law 646 = .ok (.iconst 1, 1) := by decide +kernel
theorem dL_law_647 : decode cL_law 647 = .ok (.iadd, 1) := by decide +kernel
theorem dL_law_648 : decode cL_law 648 = .ok (.iaload, 1) := by decide +kernel
theorem dL_law_649 : decode cL_law 649 = .ok (.aload_n 3, 1) := by decide +kernel
theorem dL_law_650 : decode cL_law 650 = .ok (.invokestatic 159, 3) := by decide +kernel
theorem dL_law_653 : decode cL_law 653 = .ok (.istore 6, 2) := by decide +kernel
theorem dL_law_655 : decode cL_law 655 = .ok (.aload_n 2, 1) := by decide +kernel
theorem dL_law_656 : decode cL_law 656 = .ok (.aload_n 0, 1) := by decide +kernel
theorem dL_law_657 : decode cL_law 657 = .ok (.iload 5, 2) := by decide +kernel
theorem dL_law_659 : decode cL_law 659 = .ok (.iconst 1, 1) := by decide +kernel
theorem dL_law_660 : decode cL_law 660 = .ok (.iadd, 1) := by decide +kernel
theorem dL_law_661 : decode cL_law 661 = .ok (.iaload, 1) := by decide +kernel
theorem dL_law_662 : decode cL_law 662 = .ok (.invokevirtual 161, 3) := by decide +kernel
theorem dL_law_665 : decode cL_law 665 = .ok (.istore 7, 2) := by decide +kernel
theorem dL_law_667 : decode cL_law 667 = .ok (.aload_n 2, 1) := by decide +kernel
theorem dL_law_668 : decode cL_law 668 = .ok (.invokevirtual 136, 3) := by decide +kernel
theorem dL_law_671 : decode cL_law 671 = .ok (.iload 6, 2) := by decide +kernel
theorem dL_law_673 : decode cL_law 673 = .ok (.if_icmp .eq 5, 3) := by decide +kernel
theorem dL_law_676 : decode cL_law 676 = .ok (.iconst 0, 1) := by decide +kernel
theorem dL_law_677 : decode cL_law 677 = .ok (.ireturn, 1) := by decide +kernel
theorem dL_law_678 : decode cL_law 678 = .ok (.iload 6, 2) := by decide +kernel
theorem dL_law_680 : decode cL_law 680 = .ok (.ifCond .ne 15, 3) := by decide +kernel
theorem dL_law_683 : decode cL_law 683 = .ok (.aload_n 3, 1) := by decide +kernel
theorem dL_law_684 : decode cL_law 684 = .ok (.iconst 0, 1) := by decide +kernel
theorem dL_law_685 : decode cL_law 685 = .ok (.laload, 1) := by decide +kernel
theorem dL_law_686 : decode cL_law 686 = .ok (.iload 7, 2) := by decide +kernel
theorem dL_law_688 : decode cL_law 688 = .ok (.i2l, 1) := by decide +kernel
theorem dL_law_689 : decode cL_law 689 = .ok (.lcmp, 1) := by decide +kernel
theorem dL_law_690 : decode cL_law 690 = .ok (.ifCond .eq 5, 3) := by decide +kernel
theorem dL_law_693 : decode cL_law 693 = .ok (.iconst 0, 1) := by decide +kernel
theorem dL_law_694 : decode cL_law 694 = .ok (.ireturn, 1) := by decide +kernel
theorem dL_law_695 : decode cL_law 695 = .ok (.goto 1555, 3) := by decide +kernel
theorem dL_law_698 : decode cL_law 698 = .ok (.aload_n 1, 1) := by decide +kernel
theorem dL_law_699 : decode cL_law 699 = .ok (.invokevirtual 162, 3) := by decide +kernel
theorem dL_law_702 : decode cL_law 702 = .ok (.aload_n 2, 1) := by decide +kernel
theorem dL_law_703 : decode cL_law 703 = .ok (.invokevirtual 165, 3) := by decide +kernel
theorem dL_law_706 : decode cL_law 706 = .ok (.if_icmp .eq 1544, 3) := by decide +kernel
theorem dL_law_709 : decode cL_law 709 = .ok (.iconst 0, 1) := by decide +kernel
theorem dL_law_710 : decode cL_law 710 = .ok (.ireturn, 1) := by decide +kernel
theorem dL_law_711 : decode cL_law 711 = .ok (.aload_n 1, 1) := by decide +kernel
theorem dL_law_712 : decode cL_law 712 = .ok (.aload_n 0, 1) := by decide +kernel
theorem dL_law_713 : decode cL_law 713 = .ok (.iload 5, 2) := by decide +kernel
theorem dL_law_715 : decode cL_law 715 = .ok (.iconst 1, 1) := by decide +kernel
theorem dL_law_716 : decode cL_law 716 = .ok (.iadd, 1) := by decide +kernel
theorem dL_law_717 : decode cL_law 717 = .ok (.iaload, 1) := by decide +kernel
theorem dL_law_718 : decode cL_law 718 = .ok (.aload_n 0, 1) := by decide +kernel
theorem dL_law_719 : decode cL_law 719 = .ok (.iload 5, 2) := by decide +kernel
theorem dL_law_721 : decode cL_law 721 = .ok (.iconst 2, 1) := by decide +kernel
theorem dL_law_722 : decode cL_law 722 = .ok (.iadd, 1) := by decide +kernel
theorem dL_law_723 : decode cL_law 723 = .ok (.iaload, 1) := by decide +kernel
theorem dL_law_724 : decode cL_law 724 = .ok (.aload_n 0, 1) := by decide +kernel
theorem dL_law_725 : decode cL_law 725 = .ok (.iload 5, 2) := by decide +kernel
theorem dL_law_727 : decode cL_law 727 = .ok (.iconst 3, 1) := by decide +kernel
theorem dL_law_728 : decode cL_law 728 = .ok (.iadd, 1) := by decide +kernel
theorem dL_law_729 : decode cL_law 729 = .ok (.iaload, 1) := by decide +kernel
theorem dL_law_730 : decode cL_law 730 = .ok (.aload_n 0, 1) := by decide +kernel
theorem dL_law_731 : decode cL_law 731 = .ok (.iload 5, 2) := by decide +kernel
theorem dL_law_733 : decode cL_law 733 = .ok (.iconst 4, 1) := by decide +kernel
theorem dL_law_734 : decode cL_law 734 = .ok (.iadd, 1) := by decide +kernel
theorem dL_law_735 : decode cL_law 735 = .ok (.iaload, 1) := by decide +kernel
theorem dL_law_736 : decode cL_law 736 = .ok (.aload_n 3, 1) := by decide +kernel
theorem dL_law_737 : decode cL_law 737 = .ok (.invokestatic 166, 3) := by decide +kernel
theorem dL_law_740 : decode cL_law 740 = .ok (.istore 6, 2) := by decide +kernel
theorem dL_law_742 : decode cL_law 742 = .ok (.aload_n 2, 1) := by decide +kernel
theorem dL_law_743 : decode cL_law 743 = .ok (.aload_n 0, 1) := by decide +kernel
theorem dL_law_744 : decode cL_law 744 = .ok (.iload 5, 2) := by decide +kernel
theorem dL_law_746 : decode cL_law 746 = .ok (.iconst 1, 1) := by decide +kernel
theorem dL_law_747 : decode cL_law 747 = .ok (.iadd, 1) := by decide +kernel
theorem dL_law_748 : decode cL_law 748 = .ok (.iaload, 1) := by decide +kernel
theorem dL_law_749 : decode cL_law 749 = .ok (.aload_n 0, 1) := by decide +kernel
theorem dL_law_750 : decode cL_law 750 = .ok (.iload 5, 2) := by decide +kernel
theorem dL_law_752 : decode cL_law 752 = .ok (.iconst 2, 1) := by decide +kernel
theorem dL_law_753 : decode cL_law 753 = .ok (.iadd, 1) := by decide +kernel
theorem dL_law_754 : decode cL_law 754 = .ok (.iaload, 1) := by decide +kernel
theorem dL_law_755 : decode cL_law 755 = .ok (.aload_n 0, 1) := by decide +kernel
theorem dL_law_756 : decode cL_law 756 = .ok (.iload 5, 2) := by decide +kernel
theorem dL_law_758 : decode cL_law 758 = .ok (.iconst 3, 1) := by decide +kernel
theorem dL_law_759 : decode cL_law 759 = .ok (.iadd, 1) := by decide +kernel
theorem dL_law_760 : decode cL_law 760 = .ok (.iaload, 1) := by decide +kernel
theorem dL_law_761 : decode cL_law 761 = .ok (.aload_n 0, 1) := by decide +kernel
theorem dL_law_762 : decode cL_law 762 = .ok (.iload 5, 2) := by decide +kernel
theorem dL_law_764 : decode cL_law 764 = .ok (.iconst 4, 1) := by decide +kernel
theorem dL_law_765 : decode cL_law 765 = .ok (.iadd, 1) := by decide +kernel
theorem dL_law_766 : decode cL_law 766 = .ok (.iaload, 1) := by decide +kernel
theorem dL_law_767 : decode cL_law 767 = .ok (.invokevirtual 169, 3) := by decide +kernel
theorem dL_law_770 : decode cL_law 770 = .ok (.istore 7, 2) := by decide +kernel
theorem dL_law_772 : decode cL_law 772 = .ok (.aload_n 2, 1) := by decide +kernel
theorem dL_law_773 : decode cL_law 773 = .ok (.invokevirtual 136, 3) := by decide +kernel
theorem dL_law_776 : decode cL_law 776 = .ok (.iload 6, 2) := by decide +kernel
theorem dL_law_778 : decode cL_law 778 = .ok (.if_icmp .eq 5, 3) := by decide +kernel
theorem dL_law_781 : decode cL_law 781 = .ok (.iconst 0, 1) := by decide +kernel
theorem dL_law_782 : decode cL_law 782 = .ok (.ireturn, 1) := by decide +kernel
theorem dL_law_783 : decode cL_law 783 = .ok (.iload 6, 2) := by decide +kernel
theorem dL_law_785 : decode cL_law 785 = .ok (.ifCond .ne 15, 3) := by decide +kernel
theorem dL_law_788 : decode cL_law 788 = .ok (.aload_n 3, 1) := by decide +kernel
theorem dL_law_789 : decode cL_law 789 = .ok (.iconst 0, 1) := by decide +kernel
theorem dL_law_790 : decode cL_law 790 = .ok (.laload, 1) := by decide +kernel
theorem dL_law_791 : decode cL_law 791 = .ok (.iload 7, 2) := by decide +kernel
theorem dL_law_793 : decode cL_law 793 = .ok (.i2l, 1) := by decide +kernel
theorem dL_law_794 : decode cL_law 794 = .ok (.lcmp, 1) := by decide +kernel
theorem dL_law_795 : decode cL_law 795 = .ok (.ifCond .eq 5, 3) := by decide +kernel
theorem dL_law_798 : decode cL_law 798 = .ok (.iconst 0, 1) := by decide +kernel
theorem dL_law_799 : decode cL_law 799 = .ok (.ireturn, 1) := by decide +kernel
theorem dL_law_800 : decode cL_law 800 = .ok (.goto 1450, 3) := by decide +kernel
theorem dL_law_803 : decode cL_law 803 = .ok (.aload_n 1, 1) := by decide +kernel
theorem dL_law_804 : decode cL_law 804 = .ok (.aload_n 0, 1) := by decide +kernel
theorem dL_law_805 : decode cL_law 805 = .ok (.iload 5, 2) := by decide +kernel
theorem dL_law_807 : decode cL_law 807 = .ok (.iconst 1, 1) := by decide +kernel
theorem dL_law_808 : decode cL_law 808 = .ok (.iadd, 1) := by decide +kernel
theorem dL_law_809 : decode cL_law 809 = .ok (.iaload, 1) := by decide +kernel
theorem dL_law_810 : decode cL_law 810 = .ok (.aload_n 0, 1) := by decide +kernel
theorem dL_law_811 : decode cL_law 811 = .ok (.iload 5, 2) := by decide +kernel
theorem dL_law_813 : decode cL_law 813 = .ok (.iconst 2, 1) := by decide +kernel
theorem dL_law_814 : decode cL_law 814 = .ok (.iadd, 1) := by decide +kernel
theorem dL_law_815 : decode cL_law 815 = .ok (.iaload, 1) := by decide +kernel
theorem dL_law_816 : decode cL_law 816 = .ok (.aload_n 0, 1) := by decide +kernel
theorem dL_law_817 : decode cL_law 817 = .ok (.iload 5, 2) := by decide +kernel
theorem dL_law_819 : decode cL_law 819 = .ok (.iconst 3, 1) := by decide +kernel
theorem dL_law_820 : decode cL_law 820 = .ok (.iadd, 1) := by decide +kernel
theorem dL_law_821 : decode cL_law 821 = .ok (.iaload, 1) := by decide +kernel
theorem dL_law_822 : decode cL_law 822 = .ok (.aload_n 3, 1) := by decide +kernel
theorem dL_law_823 : decode cL_law 823 = .ok (.invokestatic 170, 3) := by decide +kernel
theorem dL_law_826 : decode cL_law 826 = .ok (.istore 6, 2) := by decide +kernel
theorem dL_law_828 : decode cL_law 828 = .ok (.aload_n 2, 1) := by decide +kernel
theorem dL_law_829 : decode cL_law 829 = .ok (.aload_n 0, 1) := by decide +kernel
theorem dL_law_830 : decode cL_law 830 = .ok (.iload 5, 2) := by decide +kernel
theorem dL_law_832 : decode cL_law 832 = .ok (.iconst 1, 1) := by decide +kernel
theorem dL_law_833 : decode cL_law 833 = .ok (.iadd, 1) := by decide +kernel
theorem dL_law_834 : decode cL_law 834 = .ok (.iaload, 1) := by decide +kernel
theorem dL_law_835 : decode cL_law 835 = .ok (.aload_n 0, 1) := by decide +kernel
theorem dL_law_836 : decode cL_law 836 = .ok (.iload 5, 2) := by decide +kernel
theorem dL_law_838 : decode cL_law 838 = .ok (.iconst 2, 1) := by decide +kernel
theorem dL_law_839 : decode cL_law 839 = .ok (.iadd, 1) := by decide +kernel
theorem dL_law_840 : decode cL_law 840 = .ok (.iaload, 1) := by decide +kernel
theorem dL_law_841 : decode cL_law 841 = .ok (.aload_n 0, 1) := by decide +kernel
theorem dL_law_842 : decode cL_law 842 = .ok (.iload 5, 2) := by decide +kernel
theorem dL_law_844 : decode cL_law 844 = .ok (.iconst 3, 1) := by decide +kernel
theorem dL_law_845 : decode cL_law 845 = .ok (.iadd, 1) := by decide +kernel
theorem dL_law_846 : decode cL_law 846 = .ok (.iaload, 1) := by decide +kernel
theorem dL_law_847 : decode cL_law 847 = .ok (.invokevirtual 173, 3) := by decide +kernel
theorem dL_law_850 : decode cL_law 850 = .ok (.istore 7, 2) := by decide +kernel
theorem dL_law_852 : decode cL_law 852 = .ok (.aload_n 2, 1) := by decide +kernel
theorem dL_law_853 : decode cL_law 853 = .ok (.invokevirtual 136, 3) := by decide +kernel
theorem dL_law_856 : decode cL_law 856 = .ok (.iload 6, 2) := by decide +kernel
theorem dL_law_858 : decode cL_law 858 = .ok (.if_icmp .eq 5, 3) := by decide +kernel
theorem dL_law_861 : decode cL_law 861 = .ok (.iconst 0, 1) := by decide +kernel
theorem dL_law_862 : decode cL_law 862 = .ok (.ireturn, 1) := by decide +kernel
theorem dL_law_863 : decode cL_law 863 = .ok (.iload 6, 2) := by decide +kernel
theorem dL_law_865 : decode cL_law 865 = .ok (.ifCond .ne 15, 3) := by decide +kernel
theorem dL_law_868 : decode cL_law 868 = .ok (.aload_n 3, 1) := by decide +kernel
theorem dL_law_869 : decode cL_law 869 = .ok (.iconst 0, 1) := by decide +kernel
theorem dL_law_870 : decode cL_law 870 = .ok (.laload, 1) := by decide +kernel
theorem dL_law_871 : decode cL_law 871 = .ok (.iload 7, 2) := by decide +kernel
theorem dL_law_873 : decode cL_law 873 = .ok (.i2l, 1) := by decide +kernel
theorem dL_law_874 : decode cL_law 874 = .ok (.lcmp, 1) := by decide +kernel
theorem dL_law_875 : decode cL_law 875 = .ok (.ifCond .eq 5, 3) := by decide +kernel
theorem dL_law_878 : decode cL_law 878 = .ok (.iconst 0, 1) := by decide +kernel
theorem dL_law_879 : decode cL_law 879 = .ok (.ireturn, 1) := by decide +kernel
theorem dL_law_880 : decode cL_law 880 = .ok (.goto 1370, 3) := by decide +kernel
theorem dL_law_883 : decode cL_law 883 = .ok (.aload_n 1, 1) := by decide +kernel
theorem dL_law_884 : decode cL_law 884 = .ok (.aload_n 0, 1) := by decide +kernel
theorem dL_law_885 : decode cL_law 885 = .ok (.iload 5, 2) := by decide +kernel
theorem dL_law_887 : decode cL_law 887 = .ok (.iconst 1, 1) := by decide +kernel
theorem dL_law_888 : decode cL_law 888 = .ok (.iadd, 1) := by decide +kernel
theorem dL_law_889 : decode cL_law 889 = .ok (.iaload, 1) := by decide +kernel
theorem dL_law_890 : decode cL_law 890 = .ok (.aload_n 3, 1) := by decide +kernel
theorem dL_law_891 : decode cL_law 891 = .ok (.invokestatic 174, 3) := by decide +kernel
theorem dL_law_894 : decode cL_law 894 = .ok (.istore 6, 2) := by decide +kernel
theorem dL_law_896 : decode cL_law 896 = .ok (.aload_n 2, 1) := by decide +kernel
theorem dL_law_897 : decode cL_law 897 = .ok (.aload_n 0, 1) := by decide +kernel
theorem dL_law_898 : decode cL_law 898 = .ok (.iload 5, 2) := by decide +kernel
theorem dL_law_900 : decode cL_law 900 = .ok (.iconst 1, 1) := by decide +kernel
theorem dL_law_901 : decode cL_law 901 = .ok (.iadd, 1) := by decide +kernel
theorem dL_law_902 : decode cL_law 902 = .ok (.iaload, 1) := by decide +kernel
theorem dL_law_903 : decode cL_law 903 = .ok (.invokevirtual 176, 3) := by decide +kernel
theorem dL_law_906 : decode cL_law 906 = .ok (.istore 7, 2) := by decide +kernel
theorem dL_law_908 : decode cL_law 908 = .ok (.aload_n 2, 1) := by decide +kernel
theorem dL_law_909 : decode cL_law 909 = .ok (.invokevirtual 136, 3) := by decide +kernel
theorem dL_law_912 : decode cL_law 912 = .ok (.iload 6, 2) := by decide +kernel
theorem dL_law_914 : decode cL_law 914 = .ok (.if_icmp .eq 5, 3) := by decide +kernel
theorem dL_law_917 : decode cL_law 917 = .ok (.iconst 0, 1) := by decide +kernel
theorem dL_law_918 : decode cL_law 918 = .ok (.ireturn, 1) := by decide +kernel
theorem dL_law_919 : decode cL_law 919 = .ok (.iload 6, 2) := by decide +kernel
theorem dL_law_921 : decode cL_law 921 = .ok (.ifCond .ne 15, 3) := by decide +kernel
theorem dL_law_924 : decode cL_law 924 = .ok (.aload_n 3, 1) := by decide +kernel
theorem dL_law_925 : decode cL_law 925 = .ok (.iconst 0, 1) := by decide +kernel
theorem dL_law_926 : decode cL_law 926 = .ok (.laload, 1) := by decide +kernel
theorem dL_law_927 : decode cL_law 927 = .ok (.iload 7, 2) := by decide +kernel
theorem dL_law_929 : decode cL_law 929 = .ok (.i2l, 1) := by decide +kernel
theorem dL_law_930 : decode cL_law 930 = .ok (.lcmp, 1) := by decide +kernel
theorem dL_law_931 : decode cL_law 931 = .ok (.ifCond .eq 5, 3) := by decide +kernel
theorem dL_law_934 : decode cL_law 934 = .ok (.iconst 0, 1) := by decide +kernel
theorem dL_law_935 : decode cL_law 935 = .ok (.ireturn, 1) := by decide +kernel
theorem dL_law_936 : decode cL_law 936 = .ok (.goto 1314, 3) := by decide +kernel
theorem dL_law_939 : decode cL_law 939 = .ok (.aload_n 1, 1) := by decide +kernel
theorem dL_law_940 : decode cL_law 940 = .ok (.aload_n 0, 1) := by decide +kernel
theorem dL_law_941 : decode cL_law 941 = .ok (.iload 5, 2) := by decide +kernel
theorem dL_law_943 : decode cL_law 943 = .ok (.iconst 1, 1) := by decide +kernel
theorem dL_law_944 : decode cL_law 944 = .ok (.iadd, 1) := by decide +kernel
theorem dL_law_945 : decode cL_law 945 = .ok (.iaload, 1) := by decide +kernel
theorem dL_law_946 : decode cL_law 946 = .ok (.aload_n 0, 1) := by decide +kernel
theorem dL_law_947 : decode cL_law 947 = .ok (.iload 5, 2) := by decide +kernel
theorem dL_law_949 : decode cL_law 949 = .ok (.iconst 2, 1) := by decide +kernel
theorem dL_law_950 : decode cL_law 950 = .ok (.iadd, 1) := by decide +kernel
theorem dL_law_951 : decode cL_law 951 = .ok (.iaload, 1) := by decide +kernel
theorem dL_law_952 : decode cL_law 952 = .ok (.aload_n 0, 1) := by decide +kernel
theorem dL_law_953 : decode cL_law 953 = .ok (.iload 5, 2) := by decide +kernel
theorem dL_law_955 : decode cL_law 955 = .ok (.iconst 3, 1) := by decide +kernel
theorem dL_law_956 : decode cL_law 956 = .ok (.iadd, 1) := by decide +kernel
theorem dL_law_957 : decode cL_law 957 = .ok (.iaload, 1) := by decide +kernel
theorem dL_law_958 : decode cL_law 958 = .ok (.aload_n 3, 1) := by decide +kernel
theorem dL_law_959 : decode cL_law 959 = .ok (.invokestatic 177, 3) := by decide +kernel
theorem dL_law_962 : decode cL_law 962 = .ok (.istore 6, 2) := by decide +kernel
theorem dL_law_964 : decode cL_law 964 = .ok (.aload_n 2, 1) := by decide +kernel
theorem dL_law_965 : decode cL_law 965 = .ok (.aload_n 0, 1) := by decide +kernel
theorem dL_law_966 : decode cL_law 966 = .ok (.iload 5, 2) := by decide +kernel
theorem dL_law_968 : decode cL_law 968 = .ok (.iconst 1, 1) := by decide +kernel
theorem dL_law_969 : decode cL_law 969 = .ok (.iadd, 1) := by decide +kernel
theorem dL_law_970 : decode cL_law 970 = .ok (.iaload, 1) := by decide +kernel
theorem dL_law_971 : decode cL_law 971 = .ok (.aload_n 0, 1) := by decide +kernel
theorem dL_law_972 : decode cL_law 972 = .ok (.iload 5, 2) := by decide +kernel
theorem dL_law_974 : decode cL_law 974 = .ok (.iconst 2, 1) := by decide +kernel
theorem dL_law_975 : decode cL_law 975 = .ok (.iadd, 1) := by decide +kernel
theorem dL_law_976 : decode cL_law 976 = .ok (.iaload, 1) := by decide +kernel
theorem dL_law_977 : decode cL_law 977 = .ok (.aload_n 0, 1) := by decide +kernel
theorem dL_law_978 : decode cL_law 978 = .ok (.iload 5, 2) := by decide +kernel
theorem dL_law_980 : decode cL_law 980 = .ok (.iconst 3, 1) := by decide +kernel
theorem dL_law_981 : decode cL_law 981 = .ok (.iadd, 1) := by decide +kernel
theorem dL_law_982 : decode cL_law 982 = .ok (.iaload, 1) := by decide +kernel
theorem dL_law_983 : decode cL_law 983 = .ok (.invokevirtual 179, 3) := by decide +kernel
theorem dL_law_986 : decode cL_law 986 = .ok (.istore 7, 2) := by decide +kernel
theorem dL_law_988 : decode cL_law 988 = .ok (.aload_n 2, 1) := by decide +kernel
theorem dL_law_989 : decode cL_law 989 = .ok (.invokevirtual 136, 3) := by decide +kernel
theorem dL_law_992 : decode cL_law 992 = .ok (.iload 6, 2) := by decide +kernel
theorem dL_law_994 : decode cL_law 994 = .ok (.if_icmp .eq 5, 3) := by decide +kernel
theorem dL_law_997 : decode cL_law 997 = .ok (.iconst 0, 1) := by decide +kernel
theorem dL_law_998 : decode cL_law 998 = .ok (.ireturn, 1) := by decide +kernel
theorem dL_law_999 : decode cL_law 999 = .ok (.iload 6, 2) := by decide +kernel
theorem dL_law_1001 : decode cL_law 1001 = .ok (.ifCond .ne 15, 3) := by decide +kernel
theorem dL_law_1004 : decode cL_law 1004 = .ok (.aload_n 3, 1) := by decide +kernel
theorem dL_law_1005 : decode cL_law 1005 = .ok (.iconst 0, 1) := by decide +kernel
theorem dL_law_1006 : decode cL_law 1006 = .ok (.laload, 1) := by decide +kernel
theorem dL_law_1007 : decode cL_law 1007 = .ok (.iload 7, 2) := by decide +kernel
theorem dL_law_1009 : decode cL_law 1009 = .ok (.i2l, 1) := by decide +kernel
theorem dL_law_1010 : decode cL_law 1010 = .ok (.lcmp, 1) := by decide +kernel
theorem dL_law_1011 : decode cL_law 1011 = .ok (.ifCond .eq 5, 3) := by decide +kernel
theorem dL_law_1014 : decode cL_law 1014 = .ok (.iconst 0, 1) := by decide +kernel
theorem dL_law_1015 : decode cL_law 1015 = .ok (.ireturn, 1) := by decide +kernel
theorem dL_law_1016 : decode cL_law 1016 = .ok (.goto 1234, 3) := by decide +kernel
theorem dL_law_1019 : decode cL_law 1019 = .ok (.aload_n 1, 1) := by decide +kernel
theorem dL_law_1020 : decode cL_law 1020 = .ok (.aload_n 0, 1) := by decide +kernel
theorem dL_law_1021 : decode cL_law 1021 = .ok (.iload 5, 2) := by decide +kernel
theorem dL_law_1023 : decode cL_law 1023 = .ok (.iconst 1, 1) := by decide +kernel
theorem dL_law_1024 : decode cL_law 1024 = .ok (.iadd, 1) := by decide +kernel
theorem dL_law_1025 : decode cL_law 1025 = .ok (.iaload, 1) := by decide +kernel
theorem dL_law_1026 : decode cL_law 1026 = .ok (.aload_n 3, 1) := by decide +kernel
theorem dL_law_1027 : decode cL_law 1027 = .ok (.invokestatic 180, 3) := by decide +kernel
theorem dL_law_1030 : decode cL_law 1030 = .ok (.istore 6, 2) := by decide +kernel
theorem dL_law_1032 : decode cL_law 1032 = .ok (.aload_n 2, 1) := by decide +kernel
theorem dL_law_1033 : decode cL_law 1033 = .ok (.aload_n 0, 1) := by decide +kernel
theorem dL_law_1034 : decode cL_law 1034 = .ok (.iload 5, 2) := by decide +kernel
theorem dL_law_1036 : decode cL_law 1036 = .ok (.iconst 1, 1) := by decide +kernel
theorem dL_law_1037 : decode cL_law 1037 = .ok (.iadd, 1) := by decide +kernel
theorem dL_law_1038 : decode cL_law 1038 = .ok (.iaload, 1) := by decide +kernel
theorem dL_law_1039 : decode cL_law 1039 = .ok (.invokevirtual 182, 3) := by decide +kernel
theorem dL_law_1042 : decode cL_law 1042 = .ok (.istore 7, 2) := by decide +kernel
theorem dL_law_1044 : decode cL_law 1044 = .ok (.aload_n 2, 1) := by decide +kernel
theorem dL_law_1045 : decode cL_law 1045 = .ok (.invokevirtual 136, 3) := by decide +kernel
theorem dL_law_1048 : decode cL_law 1048 = .ok (.iload 6, 2) := by decide +kernel
theorem dL_law_1050 : decode cL_law 1050 = .ok (.if_icmp .eq 5, 3) := by decide +kernel
theorem dL_law_1053 : decode cL_law 1053 = .ok (.iconst 0, 1) := by decide +kernel
theorem dL_law_1054 : decode cL_law 1054 = .ok (.ireturn, 1) := by decide +kernel
theorem dL_law_1055 : decode cL_law 1055 = .ok (.iload 6, 2) := by decide +kernel
theorem dL_law_1057 : decode cL_law 1057 = .ok (.ifCond .ne 15, 3) := by decide +kernel
theorem dL_law_1060 : decode cL_law 1060 = .ok (.aload_n 3, 1) := by decide +kernel
theorem dL_law_1061 : decode cL_law 1061 = .ok (.iconst 0, 1) := by decide +kernel
theorem dL_law_1062 : decode cL_law 1062 = .ok (.laload, 1) := by decide +kernel
theorem dL_law_1063 : decode cL_law 1063 = .ok (.iload 7, 2) := by decide +kernel
theorem dL_law_1065 : decode cL_law 1065 = .ok (.i2l, 1) := by decide +kernel
theorem dL_law_1066 : decode cL_law 1066 = .ok (.lcmp, 1) := by decide +kernel
theorem dL_law_1067 : decode cL_law 1067 = .ok (.ifCond .eq 5, 3) := by decide +kernel
theorem dL_law_1070 : decode cL_law 1070 = .ok (.iconst 0, 1) := by decide +kernel
theorem dL_law_1071 : decode cL_law 1071 = .ok (.ireturn, 1) := by decide +kernel
theorem dL_law_1072 : decode cL_law 1072 = .ok (.goto 1178, 3) := by decide +kernel
theorem dL_law_1075 : decode cL_law 1075 = .ok (.aload_n 1, 1) := by decide +kernel
theorem dL_law_1076 : decode cL_law 1076 = .ok (.aload_n 0, 1) := by decide +kernel
theorem dL_law_1077 : decode cL_law 1077 = .ok (.iload 5, 2) := by decide +kernel
theorem dL_law_1079 : decode cL_law 1079 = .ok (.iconst 1, 1) := by decide +kernel
theorem dL_law_1080 : decode cL_law 1080 = .ok (.iadd, 1) := by decide +kernel
theorem dL_law_1081 : decode cL_law 1081 = .ok (.iaload, 1) := by decide +kernel
theorem dL_law_1082 : decode cL_law 1082 = .ok (.aload_n 3, 1) := by decide +kernel
theorem dL_law_1083 : decode cL_law 1083 = .ok (.invokestatic 183, 3) := by decide +kernel
theorem dL_law_1086 : decode cL_law 1086 = .ok (.istore 6, 2) := by decide +kernel
theorem dL_law_1088 : decode cL_law 1088 = .ok (.aload_n 2, 1) := by decide +kernel
theorem dL_law_1089 : decode cL_law 1089 = .ok (.aload_n 0, 1) := by decide +kernel
theorem dL_law_1090 : decode cL_law 1090 = .ok (.iload 5, 2) := by decide +kernel
theorem dL_law_1092 : decode cL_law 1092 = .ok (.iconst 1, 1) := by decide +kernel
theorem dL_law_1093 : decode cL_law 1093 = .ok (.iadd, 1) := by decide +kernel
theorem dL_law_1094 : decode cL_law 1094 = .ok (.iaload, 1) := by decide +kernel
theorem dL_law_1095 : decode cL_law 1095 = .ok (.invokevirtual 185, 3) := by decide +kernel
theorem dL_law_1098 : decode cL_law 1098 = .ok (.istore 7, 2) := by decide +kernel
theorem dL_law_1100 : decode cL_law 1100 = .ok (.aload_n 2, 1) := by decide +kernel
theorem dL_law_1101 : decode cL_law 1101 = .ok (.invokevirtual 136, 3) := by decide +kernel
theorem dL_law_1104 : decode cL_law 1104 = .ok (.iload 6, 2) := by decide +kernel
theorem dL_law_1106 : decode cL_law 1106 = .ok (.if_icmp .eq 5, 3) := by decide +kernel
theorem dL_law_1109 : decode cL_law 1109 = .ok (.iconst 0, 1) := by decide +kernel
theorem dL_law_1110 : decode cL_law 1110 = .ok (.ireturn, 1) := by decide +kernel
theorem dL_law_1111 : decode cL_law 1111 = .ok (.iload 6, 2) := by decide +kernel
theorem dL_law_1113 : decode cL_law 1113 = .ok (.ifCond .ne 15, 3) := by decide +kernel
theorem dL_law_1116 : decode cL_law 1116 = .ok (.aload_n 3, 1) := by decide +kernel
theorem dL_law_1117 : decode cL_law 1117 = .ok (.iconst 0, 1) := by decide +kernel
theorem dL_law_1118 : decode cL_law 1118 = .ok (.laload, 1) := by decide +kernel
theorem dL_law_1119 : decode cL_law 1119 = .ok (.iload 7, 2) := by decide +kernel
theorem dL_law_1121 : decode cL_law 1121 = .ok (.i2l, 1) := by decide +kernel
theorem dL_law_1122 : decode cL_law 1122 = .ok (.lcmp, 1) := by decide +kernel
theorem dL_law_1123 : decode cL_law 1123 = .ok (.ifCond .eq 5, 3) := by decide +kernel
theorem dL_law_1126 : decode cL_law 1126 = .ok (.iconst 0, 1) := by decide +kernel
theorem dL_law_1127 : decode cL_law 1127 = .ok (.ireturn, 1) := by decide +kernel
theorem dL_law_1128 : decode cL_law 1128 = .ok (.goto 1122, 3) := by decide +kernel
theorem dL_law_1131 : decode cL_law 1131 = .ok (.aload_n 1, 1) := by decide +kernel
theorem dL_law_1132 : decode cL_law 1132 = .ok (.aload_n 0, 1) := by decide +kernel
theorem dL_law_1133 : decode cL_law 1133 = .ok (.iload 5, 2) := by decide +kernel
theorem dL_law_1135 : decode cL_law 1135 = .ok (.iconst 1, 1) := by decide +kernel
theorem dL_law_1136 : decode cL_law 1136 = .ok (.iadd, 1) := by decide +kernel
theorem dL_law_1137 : decode cL_law 1137 = .ok (.iaload, 1) := by decide +kernel
theorem dL_law_1138 : decode cL_law 1138 = .ok (.aload_n 0, 1) := by decide +kernel
theorem dL_law_1139 : decode cL_law 1139 = .ok (.iload 5, 2) := by decide +kernel
theorem dL_law_1141 : decode cL_law 1141 = .ok (.iconst 2, 1) := by decide +kernel
theorem dL_law_1142 : decode cL_law 1142 = .ok (.iadd, 1) := by decide +kernel
theorem dL_law_1143 : decode cL_law 1143 = .ok (.iaload, 1) := by decide +kernel
theorem dL_law_1144 : decode cL_law 1144 = .ok (.ifCond .eq 7, 3) := by decide +kernel
theorem dL_law_1147 : decode cL_law 1147 = .ok (.iconst 1, 1) := by decide +kernel
theorem dL_law_1148 : decode cL_law 1148 = .ok (.goto 4, 3) := by decide +kernel
theorem dL_law_1151 : decode cL_law 1151 = .ok (.iconst 0, 1) := by decide +kernel
theorem dL_law_1152 : decode cL_law 1152 = .ok (.aload_n 3, 1) := by decide +kernel
theorem dL_law_1153 : decode cL_law 1153 = .ok (.invokestatic 186, 3) := by decide +kernel
theorem dL_law_1156 : decode cL_law 1156 = .ok (.istore 6, 2) := by decide +kernel
theorem dL_law_1158 : decode cL_law 1158 = .ok (.aload_n 2, 1) := by decide +kernel
theorem dL_law_1159 : decode cL_law 1159 = .ok (.aload_n 0, 1) := by decide +kernel
theorem dL_law_1160 : decode cL_law 1160 = .ok (.iload 5, 2) := by decide +kernel
theorem dL_law_1162 : decode cL_law 1162 = .ok (.iconst 1, 1) := by decide +kernel
theorem dL_law_1163 : decode cL_law 1163 = .ok (.iadd, 1) := by decide +kernel
theorem dL_law_1164 : decode cL_law 1164 = .ok (.iaload, 1) := by decide +kernel
theorem dL_law_1165 : decode cL_law 1165 = .ok (.aload_n 0, 1) := by decide +kernel
theorem dL_law_1166 : decode cL_law 1166 = .ok (.iload 5, 2) := by decide +kernel
theorem dL_law_1168 : decode cL_law 1168 = .ok (.iconst 2, 1) := by decide +kernel
theorem dL_law_1169 : decode cL_law 1169 = .ok (.iadd, 1) := by decide +kernel
theorem dL_law_1170 : decode cL_law 1170 = .ok (.iaload, 1) := by decide +kernel
theorem dL_law_1171 : decode cL_law 1171 = .ok (.ifCond .eq 7, 3) := by decide +kernel
theorem dL_law_1174 : decode cL_law 1174 = .ok (.iconst 1, 1) := by decide +kernel
theorem dL_law_1175 : decode cL_law 1175 = .ok (.goto 4, 3) := by decide +kernel
theorem dL_law_1178 : decode cL_law 1178 = .ok (.iconst 0, 1) := by decide +kernel
theorem dL_law_1179 : decode cL_law 1179 = .ok (.invokevirtual 189, 3) := by decide +kernel
theorem dL_law_1182 : decode cL_law 1182 = .ok (.istore 7, 2) := by decide +kernel
theorem dL_law_1184 : decode cL_law 1184 = .ok (.aload_n 2, 1) := by decide +kernel
theorem dL_law_1185 : decode cL_law 1185 = .ok (.invokevirtual 136, 3) := by decide +kernel
theorem dL_law_1188 : decode cL_law 1188 = .ok (.iload 6, 2) := by decide +kernel
theorem dL_law_1190 : decode cL_law 1190 = .ok (.if_icmp .eq 5, 3) := by decide +kernel
theorem dL_law_1193 : decode cL_law 1193 = .ok (.iconst 0, 1) := by decide +kernel
theorem dL_law_1194 : decode cL_law 1194 = .ok (.ireturn, 1) := by decide +kernel
theorem dL_law_1195 : decode cL_law 1195 = .ok (.iload 6, 2) := by decide +kernel
theorem dL_law_1197 : decode cL_law 1197 = .ok (.ifCond .ne 15, 3) := by decide +kernel
theorem dL_law_1200 : decode cL_law 1200 = .ok (.aload_n 3, 1) := by decide +kernel
theorem dL_law_1201 : decode cL_law 1201 = .ok (.iconst 0, 1) := by decide +kernel
theorem dL_law_1202 : decode cL_law 1202 = .ok (.laload, 1) := by decide +kernel
theorem dL_law_1203 : decode cL_law 1203 = .ok (.iload 7, 2) := by decide +kernel
theorem dL_law_1205 : decode cL_law 1205 = .ok (.i2l, 1) := by decide +kernel
theorem dL_law_1206 : decode cL_law 1206 = .ok (.lcmp, 1) := by decide +kernel
theorem dL_law_1207 : decode cL_law 1207 = .ok (.ifCond .eq 5, 3) := by decide +kernel
theorem dL_law_1210 : decode cL_law 1210 = .ok (.iconst 0, 1) := by decide +kernel
theorem dL_law_1211 : decode cL_law 1211 = .ok (.ireturn, 1) := by decide +kernel
theorem dL_law_1212 : decode cL_law 1212 = .ok (.goto 1038, 3) := by decide +kernel
theorem dL_law_1215 : decode cL_law 1215 = .ok (.aload_n 1, 1) := by decide +kernel
theorem dL_law_1216 : decode cL_law 1216 = .ok (.aload_n 0, 1) := by decide +kernel
theorem dL_law_1217 : decode cL_law 1217 = .ok (.iload 5, 2) := by decide +kernel
theorem dL_law_1219 : decode cL_law 1219 = .ok (.iconst 1, 1) := by decide +kernel
theorem dL_law_1220 : decode cL_law 1220 = .ok (.iadd, 1) := by decide +kernel
theorem dL_law_1221 : decode cL_law 1221 = .ok (.iaload, 1) := by decide +kernel
theorem dL_law_1222 : decode cL_law 1222 = .ok (.aload_n 0, 1) := by decide +kernel
theorem dL_law_1223 : decode cL_law 1223 = .ok (.iload 5, 2) := by decide +kernel
theorem dL_law_1225 : decode cL_law 1225 = .ok (.iconst 2, 1) := by decide +kernel
theorem dL_law_1226 : decode cL_law 1226 = .ok (.iadd, 1) := by decide +kernel
theorem dL_law_1227 : decode cL_law 1227 = .ok (.iaload, 1) := by decide +kernel
theorem dL_law_1228 : decode cL_law 1228 = .ok (.aload_n 3, 1) := by decide +kernel
theorem dL_law_1229 : decode cL_law 1229 = .ok (.invokestatic 190, 3) := by decide +kernel
theorem dL_law_1232 : decode cL_law 1232 = .ok (.istore 6, 2) := by decide +kernel
theorem dL_law_1234 : decode cL_law 1234 = .ok (.aload_n 2, 1) := by decide +kernel
theorem dL_law_1235 : decode cL_law 1235 = .ok (.aload_n 0, 1) := by decide +kernel
theorem dL_law_1236 : decode cL_law 1236 = .ok (.iload 5, 2) := by decide +kernel
theorem dL_law_1238 : decode cL_law 1238 = .ok (.iconst 1, 1) := by decide +kernel
theorem dL_law_1239 : decode cL_law 1239 = .ok (.iadd, 1) := by decide +kernel
theorem dL_law_1240 : decode cL_law 1240 = .ok (.iaload, 1) := by decide +kernel
theorem dL_law_1241 : decode cL_law 1241 = .ok (.aload_n 0, 1) := by decide +kernel
theorem dL_law_1242 : decode cL_law 1242 = .ok (.iload 5, 2) := by decide +kernel
theorem dL_law_1244 : decode cL_law 1244 = .ok (.iconst 2, 1) := by decide +kernel
theorem dL_law_1245 : decode cL_law 1245 = .ok (.iadd, 1) := by decide +kernel
theorem dL_law_1246 : decode cL_law 1246 = .ok (.iaload, 1) := by decide +kernel
theorem dL_law_1247 : decode cL_law 1247 = .ok (.invokevirtual 192, 3) := by decide +kernel
theorem dL_law_1250 : decode cL_law 1250 = .ok (.istore 7, 2) := by decide +kernel
theorem dL_law_1252 : decode cL_law 1252 = .ok (.aload_n 2, 1) := by decide +kernel
theorem dL_law_1253 : decode cL_law 1253 = .ok (.invokevirtual 136, 3) := by decide +kernel
theorem dL_law_1256 : decode cL_law 1256 = .ok (.iload 6, 2) := by decide +kernel
theorem dL_law_1258 : decode cL_law 1258 = .ok (.if_icmp .eq 5, 3) := by decide +kernel
theorem dL_law_1261 : decode cL_law 1261 = .ok (.iconst 0, 1) := by decide +kernel
theorem dL_law_1262 : decode cL_law 1262 = .ok (.ireturn, 1) := by decide +kernel
theorem dL_law_1263 : decode cL_law 1263 = .ok (.iload 6, 2) := by decide +kernel
theorem dL_law_1265 : decode cL_law 1265 = .ok (.ifCond .ne 15, 3) := by decide +kernel
theorem dL_law_1268 : decode cL_law 1268 = .ok (.aload_n 3, 1) := by decide +kernel
theorem dL_law_1269 : decode cL_law 1269 = .ok (.iconst 0, 1) := by decide +kernel
theorem dL_law_1270 : decode cL_law 1270 = .ok (.laload, 1) := by decide +kernel
theorem dL_law_1271 : decode cL_law 1271 = .ok (.iload 7, 2) := by decide +kernel
theorem dL_law_1273 : decode cL_law 1273 = .ok (.i2l, 1) := by decide +kernel
theorem dL_law_1274 : decode cL_law 1274 = .ok (.lcmp, 1) := by decide +kernel
theorem dL_law_1275 : decode cL_law 1275 = .ok (.ifCond .eq 5, 3) := by decide +kernel
theorem dL_law_1278 : decode cL_law 1278 = .ok (.iconst 0, 1) := by decide +kernel
theorem dL_law_1279 : decode cL_law 1279 = .ok (.ireturn, 1) := by decide +kernel
theorem dL_law_1280 : decode cL_law 1280 = .ok (.goto 970, 3) := by decide +kernel
theorem dL_law_1283 : decode cL_law 1283 = .ok (.aload_n 1, 1) := by decide +kernel
theorem dL_law_1284 : decode cL_law 1284 = .ok (.aload_n 0, 1) := by decide +kernel
theorem dL_law_1285 : decode cL_law 1285 = .ok (.iload 5, 2) := by decide +kernel
theorem dL_law_1287 : decode cL_law 1287 = .ok (.iconst 1, 1) := by decide +kernel
theorem dL_law_1288 : decode cL_law 1288 = .ok (.iadd, 1) := by decide +kernel
theorem dL_law_1289 : decode cL_law 1289 = .ok (.iaload, 1) := by decide +kernel
theorem dL_law_1290 : decode cL_law 1290 = .ok (.aload_n 0, 1) := by decide +kernel
theorem dL_law_1291 : decode cL_law 1291 = .ok (.iload 5, 2) := by decide +kernel
theorem dL_law_1293 : decode cL_law 1293 = .ok (.iconst 2, 1) := by decide +kernel
theorem dL_law_1294 : decode cL_law 1294 = .ok (.iadd, 1) := by decide +kernel
theorem dL_law_1295 : decode cL_law 1295 = .ok (.iaload, 1) := by decide +kernel
theorem dL_law_1296 : decode cL_law 1296 = .ok (.aload_n 0, 1) := by decide +kernel
theorem dL_law_1297 : decode cL_law 1297 = .ok (.iload 5, 2) := by decide +kernel
theorem dL_law_1299 : decode cL_law 1299 = .ok (.iconst 3, 1) := by decide +kernel
theorem dL_law_1300 : decode cL_law 1300 = .ok (.iadd, 1) := by decide +kernel
theorem dL_law_1301 : decode cL_law 1301 = .ok (.iaload, 1) := by decide +kernel
theorem dL_law_1302 : decode cL_law 1302 = .ok (.aload_n 3, 1) := by decide +kernel
theorem dL_law_1303 : decode cL_law 1303 = .ok (.invokestatic 193, 3) := by decide +kernel
theorem dL_law_1306 : decode cL_law 1306 = .ok (.istore 6, 2) := by decide +kernel
theorem dL_law_1308 : decode cL_law 1308 = .ok (.aload_n 2, 1) := by decide +kernel
theorem dL_law_1309 : decode cL_law 1309 = .ok (.aload_n 0, 1) := by decide +kernel
theorem dL_law_1310 : decode cL_law 1310 = .ok (.iload 5, 2) := by decide +kernel
theorem dL_law_1312 : decode cL_law 1312 = .ok (.iconst 1, 1) := by decide +kernel
theorem dL_law_1313 : decode cL_law 1313 = .ok (.iadd, 1) := by decide +kernel
theorem dL_law_1314 : decode cL_law 1314 = .ok (.iaload, 1) := by decide +kernel
theorem dL_law_1315 : decode cL_law 1315 = .ok (.aload_n 0, 1) := by decide +kernel
theorem dL_law_1316 : decode cL_law 1316 = .ok (.iload 5, 2) := by decide +kernel
theorem dL_law_1318 : decode cL_law 1318 = .ok (.iconst 2, 1) := by decide +kernel
theorem dL_law_1319 : decode cL_law 1319 = .ok (.iadd, 1) := by decide +kernel
theorem dL_law_1320 : decode cL_law 1320 = .ok (.iaload, 1) := by decide +kernel
theorem dL_law_1321 : decode cL_law 1321 = .ok (.aload_n 0, 1) := by decide +kernel
theorem dL_law_1322 : decode cL_law 1322 = .ok (.iload 5, 2) := by decide +kernel
theorem dL_law_1324 : decode cL_law 1324 = .ok (.iconst 3, 1) := by decide +kernel
theorem dL_law_1325 : decode cL_law 1325 = .ok (.iadd, 1) := by decide +kernel
theorem dL_law_1326 : decode cL_law 1326 = .ok (.iaload, 1) := by decide +kernel
theorem dL_law_1327 : decode cL_law 1327 = .ok (.invokevirtual 195, 3) := by decide +kernel
theorem dL_law_1330 : decode cL_law 1330 = .ok (.istore 7, 2) := by decide +kernel
theorem dL_law_1332 : decode cL_law 1332 = .ok (.aload_n 2, 1) := by decide +kernel
theorem dL_law_1333 : decode cL_law 1333 = .ok (.invokevirtual 136, 3) := by decide +kernel
theorem dL_law_1336 : decode cL_law 1336 = .ok (.iload 6, 2) := by decide +kernel
theorem dL_law_1338 : decode cL_law 1338 = .ok (.if_icmp .eq 5, 3) := by decide +kernel
theorem dL_law_1341 : decode cL_law 1341 = .ok (.iconst 0, 1) := by decide +kernel
theorem dL_law_1342 : decode cL_law 1342 = .ok (.ireturn, 1) := by decide +kernel
theorem dL_law_1343 : decode cL_law 1343 = .ok (.iload 6, 2) := by decide +kernel
theorem dL_law_1345 : decode cL_law 1345 = .ok (.ifCond .ne 15, 3) := by decide +kernel
theorem dL_law_1348 : decode cL_law 1348 = .ok (.aload_n 3, 1) := by decide +kernel
theorem dL_law_1349 : decode cL_law 1349 = .ok (.iconst 0, 1) := by decide +kernel
theorem dL_law_1350 : decode cL_law 1350 = .ok (.laload, 1) := by decide +kernel
theorem dL_law_1351 : decode cL_law 1351 = .ok (.iload 7, 2) := by decide +kernel
theorem dL_law_1353 : decode cL_law 1353 = .ok (.i2l, 1) := by decide +kernel
theorem dL_law_1354 : decode cL_law 1354 = .ok (.lcmp, 1) := by decide +kernel
theorem dL_law_1355 : decode cL_law 1355 = .ok (.ifCond .eq 5, 3) := by decide +kernel
theorem dL_law_1358 : decode cL_law 1358 = .ok (.iconst 0, 1) := by decide +kernel
theorem dL_law_1359 : decode cL_law 1359 = .ok (.ireturn, 1) := by decide +kernel
theorem dL_law_1360 : decode cL_law 1360 = .ok (.goto 890, 3) := by decide +kernel
theorem dL_law_1363 : decode cL_law 1363 = .ok (.aload_n 1, 1) := by decide +kernel
theorem dL_law_1364 : decode cL_law 1364 = .ok (.aload_n 0, 1) := by decide +kernel
theorem dL_law_1365 : decode cL_law 1365 = .ok (.iload 5, 2) := by decide +kernel
theorem dL_law_1367 : decode cL_law 1367 = .ok (.iconst 1, 1) := by decide +kernel
theorem dL_law_1368 : decode cL_law 1368 = .ok (.iadd, 1) := by decide +kernel
theorem dL_law_1369 : decode cL_law 1369 = .ok (.iaload, 1) := by decide +kernel
theorem dL_law_1370 : decode cL_law 1370 = .ok (.aload_n 0, 1) := by decide +kernel
theorem dL_law_1371 : decode cL_law 1371 = .ok (.iload 5, 2) := by decide +kernel
theorem dL_law_1373 : decode cL_law 1373 = .ok (.iconst 2, 1) := by decide +kernel
theorem dL_law_1374 : decode cL_law 1374 = .ok (.iadd, 1) := by decide +kernel
theorem dL_law_1375 : decode cL_law 1375 = .ok (.iaload, 1) := by decide +kernel
theorem dL_law_1376 : decode cL_law 1376 = .ok (.aload 4, 2) := by decide +kernel
theorem dL_law_1378 : decode cL_law 1378 = .ok (.invokestatic 196, 3) := by decide +kernel
theorem dL_law_1381 : decode cL_law 1381 = .ok (.istore 6, 2) := by decide +kernel
theorem dL_law_1383 : decode cL_law 1383 = .ok (.aload_n 2, 1) := by decide +kernel
theorem dL_law_1384 : decode cL_law 1384 = .ok (.aload_n 0, 1) := by decide +kernel
theorem dL_law_1385 : decode cL_law 1385 = .ok (.iload 5, 2) := by decide +kernel
theorem dL_law_1387 : decode cL_law 1387 = .ok (.iconst 1, 1) := by decide +kernel
theorem dL_law_1388 : decode cL_law 1388 = .ok (.iadd, 1) := by decide +kernel
theorem dL_law_1389 : decode cL_law 1389 = .ok (.iaload, 1) := by decide +kernel
theorem dL_law_1390 : decode cL_law 1390 = .ok (.aload_n 0, 1) := by decide +kernel
theorem dL_law_1391 : decode cL_law 1391 = .ok (.iload 5, 2) := by decide +kernel
theorem dL_law_1393 : decode cL_law 1393 = .ok (.iconst 2, 1) := by decide +kernel
theorem dL_law_1394 : decode cL_law 1394 = .ok (.iadd, 1) := by decide +kernel
theorem dL_law_1395 : decode cL_law 1395 = .ok (.iaload, 1) := by decide +kernel
theorem dL_law_1396 : decode cL_law 1396 = .ok (.invokevirtual 199, 3) := by decide +kernel
theorem dL_law_1399 : decode cL_law 1399 = .ok (.fstore 7, 2) := by decide +kernel
theorem dL_law_1401 : decode cL_law 1401 = .ok (.aload_n 2, 1) := by decide +kernel
theorem dL_law_1402 : decode cL_law 1402 = .ok (.invokevirtual 136, 3) := by decide +kernel
theorem dL_law_1405 : decode cL_law 1405 = .ok (.iload 6, 2) := by decide +kernel
theorem dL_law_1407 : decode cL_law 1407 = .ok (.if_icmp .eq 5, 3) := by decide +kernel
theorem dL_law_1410 : decode cL_law 1410 = .ok (.iconst 0, 1) := by decide +kernel
theorem dL_law_1411 : decode cL_law 1411 = .ok (.ireturn, 1) := by decide +kernel
theorem dL_law_1412 : decode cL_law 1412 = .ok (.iload 6, 2) := by decide +kernel
theorem dL_law_1414 : decode cL_law 1414 = .ok (.ifCond .ne 36, 3) := by decide +kernel
theorem dL_law_1417 : decode cL_law 1417 = .ok (.aload 4, 2) := by decide +kernel
theorem dL_law_1419 : decode cL_law 1419 = .ok (.iconst 0, 1) := by decide +kernel
theorem dL_law_1420 : decode cL_law 1420 = .ok (.daload, 1) := by decide +kernel
theorem dL_law_1421 : decode cL_law 1421 = .ok (.fload 7, 2) := by decide +kernel
theorem dL_law_1423 : decode cL_law 1423 = .ok (.f2d, 1) := by decide +kernel
theorem dL_law_1424 : decode cL_law 1424 = .ok (.dcmp .l, 1) := by decide +kernel
theorem dL_law_1425 : decode cL_law 1425 = .ok (.ifCond .eq 25, 3) := by decide +kernel
theorem dL_law_1428 : decode cL_law 1428 = .ok (.aload 4, 2) := by decide +kernel
theorem dL_law_1430 : decode cL_law 1430 = .ok (.iconst 0, 1) := by decide +kernel
theorem dL_law_1431 : decode cL_law 1431 = .ok (.daload, 1) := by decide +kernel
theorem dL_law_1432 : decode cL_law 1432 = .ok (.aload 4, 2) := by decide +kernel
theorem dL_law_1434 : decode cL_law 1434 = .ok (.iconst 0, 1) := by decide +kernel
theorem dL_law_1435 : decode cL_law 1435 = .ok (.daload, 1) := by decide +kernel
theorem dL_law_1436 : decode cL_law 1436 = .ok (.dcmp .l, 1) := by decide +kernel
theorem dL_law_1437 : decode cL_law 1437 = .ok (.ifCond .eq 11, 3) := by decide +kernel
theorem dL_law_1440 : decode cL_law 1440 = .ok (.fload 7, 2) := by decide +kernel
theorem dL_law_1442 : decode cL_law 1442 = .ok (.fload 7, 2) := by decide +kernel
theorem dL_law_1444 : decode cL_law 1444 = .ok (.fcmp .l, 1) := by decide +kernel
theorem dL_law_1445 : decode cL_law 1445 = .ok (.ifCond .ne 5, 3) := by decide +kernel
theorem dL_law_1448 : decode cL_law 1448 = .ok (.iconst 0, 1) := by decide +kernel
theorem dL_law_1449 : decode cL_law 1449 = .ok (.ireturn, 1) := by decide +kernel
theorem dL_law_1450 : decode cL_law 1450 = .ok (.goto 800, 3) := by decide +kernel
theorem dL_law_1453 : decode cL_law 1453 = .ok (.aload_n 1, 1) := by decide +kernel
theorem dL_law_1454 : decode cL_law 1454 = .ok (.aload_n 0, 1) := by decide +kernel
theorem dL_law_1455 : decode cL_law 1455 = .ok (.iload 5, 2) := by decide +kernel
theorem dL_law_1457 : decode cL_law 1457 = .ok (.iconst 1, 1) := by decide +kernel
theorem dL_law_1458 : decode cL_law 1458 = .ok (.iadd, 1) := by decide +kernel
theorem dL_law_1459 : decode cL_law 1459 = .ok (.iaload, 1) := by decide +kernel
theorem dL_law_1460 : decode cL_law 1460 = .ok (.aload_n 3, 1) := by decide +kernel
theorem dL_law_1461 : decode cL_law 1461 = .ok (.invokestatic 200, 3) := by decide +kernel
theorem dL_law_1464 : decode cL_law 1464 = .ok (.istore 6, 2) := by decide +kernel
theorem dL_law_1466 : decode cL_law 1466 = .ok (.aload_n 2, 1) := by decide +kernel
theorem dL_law_1467 : decode cL_law 1467 = .ok (.aload_n 0, 1) := by decide +kernel
theorem dL_law_1468 : decode cL_law 1468 = .ok (.iload 5, 2) := by decide +kernel
theorem dL_law_1470 : decode cL_law 1470 = .ok (.iconst 1, 1) := by decide +kernel
theorem dL_law_1471 : decode cL_law 1471 = .ok (.iadd, 1) := by decide +kernel
theorem dL_law_1472 : decode cL_law 1472 = .ok (.iaload, 1) := by decide +kernel
theorem dL_law_1473 : decode cL_law 1473 = .ok (.invokevirtual 202, 3) := by decide +kernel
theorem dL_law_1476 : decode cL_law 1476 = .ok (.istore 7, 2) := by decide +kernel
theorem dL_law_1478 : decode cL_law 1478 = .ok (.aload_n 2, 1) := by decide +kernel
theorem dL_law_1479 : decode cL_law 1479 = .ok (.invokevirtual 136, 3) := by decide +kernel
theorem dL_law_1482 : decode cL_law 1482 = .ok (.iload 6, 2) := by decide +kernel
theorem dL_law_1484 : decode cL_law 1484 = .ok (.if_icmp .eq 5, 3) := by decide +kernel
theorem dL_law_1487 : decode cL_law 1487 = .ok (.iconst 0, 1) := by decide +kernel
theorem dL_law_1488 : decode cL_law 1488 = .ok (.ireturn, 1) := by decide +kernel
theorem dL_law_1489 : decode cL_law 1489 = .ok (.iload 6, 2) := by decide +kernel
theorem dL_law_1491 : decode cL_law 1491 = .ok (.ifCond .ne 15, 3) := by decide +kernel
theorem dL_law_1494 : decode cL_law 1494 = .ok (.aload_n 3, 1) := by decide +kernel
theorem dL_law_1495 : decode cL_law 1495 = .ok (.iconst 0, 1) := by decide +kernel
theorem dL_law_1496 : decode cL_law 1496 = .ok (.laload, 1) := by decide +kernel
theorem dL_law_1497 : decode cL_law 1497 = .ok (.iload 7, 2) := by decide +kernel
theorem dL_law_1499 : decode cL_law 1499 = .ok (.i2l, 1) := by decide +kernel
theorem dL_law_1500 : decode cL_law 1500 = .ok (.lcmp, 1) := by decide +kernel
theorem dL_law_1501 : decode cL_law 1501 = .ok (.ifCond .eq 5, 3) := by decide +kernel
theorem dL_law_1504 : decode cL_law 1504 = .ok (.iconst 0, 1) := by decide +kernel
theorem dL_law_1505 : decode cL_law 1505 = .ok (.ireturn, 1) := by decide +kernel
theorem dL_law_1506 : decode cL_law 1506 = .ok (.goto 744, 3) := by decide +kernel
theorem dL_law_1509 : decode cL_law 1509 = .ok (.aload_n 1, 1) := by decide +kernel
theorem dL_law_1510 : decode cL_law 1510 = .ok (.aload_n 0, 1) := by decide +kernel
theorem dL_law_1511 : decode cL_law 1511 = .ok (.iload 5, 2) := by decide +kernel
theorem dL_law_1513 : decode cL_law 1513 = .ok (.iconst 1, 1) := by decide +kernel
theorem dL_law_1514 : decode cL_law 1514 = .ok (.iadd, 1) := by decide +kernel
theorem dL_law_1515 : decode cL_law 1515 = .ok (.iaload, 1) := by decide +kernel
theorem dL_law_1516 : decode cL_law 1516 = .ok (.aload_n 3, 1) := by decide +kernel
theorem dL_law_1517 : decode cL_law 1517 = .ok (.invokestatic 203, 3) := by decide +kernel
theorem dL_law_1520 : decode cL_law 1520 = .ok (.istore 6, 2) := by decide +kernel
theorem dL_law_1522 : decode cL_law 1522 = .ok (.aload_n 2, 1) := by decide +kernel
theorem dL_law_1523 : decode cL_law 1523 = .ok (.aload_n 0, 1) := by decide +kernel
theorem dL_law_1524 : decode cL_law 1524 = .ok (.iload 5, 2) := by decide +kernel
theorem dL_law_1526 : decode cL_law 1526 = .ok (.iconst 1, 1) := by decide +kernel
theorem dL_law_1527 : decode cL_law 1527 = .ok (.iadd, 1) := by decide +kernel
theorem dL_law_1528 : decode cL_law 1528 = .ok (.iaload, 1) := by decide +kernel
theorem dL_law_1529 : decode cL_law 1529 = .ok (.invokevirtual 205, 3) := by decide +kernel
theorem dL_law_1532 : decode cL_law 1532 = .ok (.istore 7, 2) := by decide +kernel
theorem dL_law_1534 : decode cL_law 1534 = .ok (.aload_n 2, 1) := by decide +kernel
theorem dL_law_1535 : decode cL_law 1535 = .ok (.invokevirtual 136, 3) := by decide +kernel
theorem dL_law_1538 : decode cL_law 1538 = .ok (.iload 6, 2) := by decide +kernel
theorem dL_law_1540 : decode cL_law 1540 = .ok (.if_icmp .eq 5, 3) := by decide +kernel
theorem dL_law_1543 : decode cL_law 1543 = .ok (.iconst 0, 1) := by decide +kernel
theorem dL_law_1544 : decode cL_law 1544 = .ok (.ireturn, 1) := by decide +kernel
theorem dL_law_1545 : decode cL_law 1545 = .ok (.iload 6, 2) := by decide +kernel
theorem dL_law_1547 : decode cL_law 1547 = .ok (.ifCond .ne 15, 3) := by decide +kernel
theorem dL_law_1550 : decode cL_law 1550 = .ok (.aload_n 3, 1) := by decide +kernel
theorem dL_law_1551 : decode cL_law 1551 = .ok (.iconst 0, 1) := by decide +kernel
theorem dL_law_1552 : decode cL_law 1552 = .ok (.laload, 1) := by decide +kernel
theorem dL_law_1553 : decode cL_law 1553 = .ok (.iload 7, 2) := by decide +kernel
theorem dL_law_1555 : decode cL_law 1555 = .ok (.i2l, 1) := by decide +kernel
theorem dL_law_1556 : decode cL_law 1556 = .ok (.lcmp, 1) := by decide +kernel
theorem dL_law_1557 : decode cL_law 1557 = .ok (.ifCond .eq 5, 3) := by decide +kernel
theorem dL_law_1560 : decode cL_law 1560 = .ok (.iconst 0, 1) := by decide +kernel
theorem dL_law_1561 : decode cL_law 1561 = .ok (.ireturn, 1) := by decide +kernel
theorem dL_law_1562 : decode cL_law 1562 = .ok (.goto 688, 3) := by decide +kernel
theorem dL_law_1565 : decode cL_law 1565 = .ok (.aload_n 1, 1) := by decide +kernel
theorem dL_law_1566 : decode cL_law 1566 = .ok (.aload_n 0, 1) := by decide +kernel
theorem dL_law_1567 : decode cL_law 1567 = .ok (.iload 5, 2) := by decide +kernel
theorem dL_law_1569 : decode cL_law 1569 = .ok (.iconst 1, 1) := by decide +kernel
theorem dL_law_1570 : decode cL_law 1570 = .ok (.iadd, 1) := by decide +kernel
theorem dL_law_1571 : decode cL_law 1571 = .ok (.iaload, 1) := by decide +kernel
theorem dL_law_1572 : decode cL_law 1572 = .ok (.aload_n 3, 1) := by decide +kernel
theorem dL_law_1573 : decode cL_law 1573 = .ok (.invokestatic 206, 3) := by decide +kernel
theorem dL_law_1576 : decode cL_law 1576 = .ok (.istore 6, 2) := by decide +kernel
theorem dL_law_1578 : decode cL_law 1578 = .ok (.aload_n 2, 1) := by decide +kernel
theorem dL_law_1579 : decode cL_law 1579 = .ok (.aload_n 0, 1) := by decide +kernel
theorem dL_law_1580 : decode cL_law 1580 = .ok (.iload 5, 2) := by decide +kernel
theorem dL_law_1582 : decode cL_law 1582 = .ok (.iconst 1, 1) := by decide +kernel
theorem dL_law_1583 : decode cL_law 1583 = .ok (.iadd, 1) := by decide +kernel
theorem dL_law_1584 : decode cL_law 1584 = .ok (.iaload, 1) := by decide +kernel
theorem dL_law_1585 : decode cL_law 1585 = .ok (.invokevirtual 208, 3) := by decide +kernel
theorem dL_law_1588 : decode cL_law 1588 = .ok (.istore 7, 2) := by decide +kernel
theorem dL_law_1590 : decode cL_law 1590 = .ok (.aload_n 2, 1) := by decide +kernel
theorem dL_law_1591 : decode cL_law 1591 = .ok (.invokevirtual 136, 3) := by decide +kernel
theorem dL_law_1594 : decode cL_law 1594 = .ok (.iload 6, 2) := by decide +kernel
theorem dL_law_1596 : decode cL_law 1596 = .ok (.if_icmp .eq 5, 3) := by decide +kernel
theorem dL_law_1599 : decode cL_law 1599 = .ok (.iconst 0, 1) := by decide +kernel
theorem dL_law_1600 : decode cL_law 1600 = .ok (.ireturn, 1) := by decide +kernel
theorem dL_law_1601 : decode cL_law 1601 = .ok (.iload 6, 2) := by decide +kernel
theorem dL_law_1603 : decode cL_law 1603 = .ok (.ifCond .ne 15, 3) := by decide +kernel
theorem dL_law_1606 : decode cL_law 1606 = .ok (.aload_n 3, 1) := by decide +kernel
theorem dL_law_1607 : decode cL_law 1607 = .ok (.iconst 0, 1) := by decide +kernel
theorem dL_law_1608 : decode cL_law 1608 = .ok (.laload, 1) := by decide +kernel
theorem dL_law_1609 : decode cL_law 1609 = .ok (.iload 7, 2) := by decide +kernel
theorem dL_law_1611 : decode cL_law 1611 = .ok (.i2l, 1) := by decide +kernel
theorem dL_law_1612 : decode cL_law 1612 = .ok (.lcmp, 1) := by decide +kernel
theorem dL_law_1613 : decode cL_law 1613 = .ok (.ifCond .eq 5, 3) := by decide +kernel
theorem dL_law_1616 : decode cL_law 1616 = .ok (.iconst 0, 1) := by decide +kernel
theorem dL_law_1617 : decode cL_law 1617 = .ok (.ireturn, 1) := by decide +kernel
theorem dL_law_1618 : decode cL_law 1618 = .ok (.goto 632, 3) := by decide +kernel
theorem dL_law_1621 : decode cL_law 1621 = .ok (.aload_n 1, 1) := by decide +kernel
theorem dL_law_1622 : decode cL_law 1622 = .ok (.aload_n 0, 1) := by decide +kernel
theorem dL_law_1623 : decode cL_law 1623 = .ok (.iload 5, 2) := by decide +kernel
theorem dL_law_1625 : decode cL_law 1625 = .ok (.iconst 1, 1) := by decide +kernel
theorem dL_law_1626 : decode cL_law 1626 = .ok (.iadd, 1) := by decide +kernel
theorem dL_law_1627 : decode cL_law 1627 = .ok (.iaload, 1) := by decide +kernel
theorem dL_law_1628 : decode cL_law 1628 = .ok (.aload_n 0, 1) := by decide +kernel
theorem dL_law_1629 : decode cL_law 1629 = .ok (.iload 5, 2) := by decide +kernel
theorem dL_law_1631 : decode cL_law 1631 = .ok (.iconst 2, 1) := by decide +kernel
theorem dL_law_1632 : decode cL_law 1632 = .ok (.iadd, 1) := by decide +kernel
theorem dL_law_1633 : decode cL_law 1633 = .ok (.iaload, 1) := by decide +kernel
theorem dL_law_1634 : decode cL_law 1634 = .ok (.aload_n 3, 1) := by decide +kernel
theorem dL_law_1635 : decode cL_law 1635 = .ok (.invokestatic 209, 3) := by decide +kernel
theorem dL_law_1638 : decode cL_law 1638 = .ok (.istore 6, 2) := by decide +kernel
theorem dL_law_1640 : decode cL_law 1640 = .ok (.aload_n 2, 1) := by decide +kernel
theorem dL_law_1641 : decode cL_law 1641 = .ok (.aload_n 0, 1) := by decide +kernel
theorem dL_law_1642 : decode cL_law 1642 = .ok (.iload 5, 2) := by decide +kernel
theorem dL_law_1644 : decode cL_law 1644 = .ok (.iconst 1, 1) := by decide +kernel
theorem dL_law_1645 : decode cL_law 1645 = .ok (.iadd, 1) := by decide +kernel
theorem dL_law_1646 : decode cL_law 1646 = .ok (.iaload, 1) := by decide +kernel
theorem dL_law_1647 : decode cL_law 1647 = .ok (.aload_n 0, 1) := by decide +kernel
theorem dL_law_1648 : decode cL_law 1648 = .ok (.iload 5, 2) := by decide +kernel
theorem dL_law_1650 : decode cL_law 1650 = .ok (.iconst 2, 1) := by decide +kernel
theorem dL_law_1651 : decode cL_law 1651 = .ok (.iadd, 1) := by decide +kernel
theorem dL_law_1652 : decode cL_law 1652 = .ok (.iaload, 1) := by decide +kernel
theorem dL_law_1653 : decode cL_law 1653 = .ok (.invokevirtual 211, 3) := by decide +kernel
theorem dL_law_1656 : decode cL_law 1656 = .ok (.istore 7, 2) := by decide +kernel
theorem dL_law_1658 : decode cL_law 1658 = .ok (.aload_n 2, 1) := by decide +kernel
theorem dL_law_1659 : decode cL_law 1659 = .ok (.invokevirtual 136, 3) := by decide +kernel
theorem dL_law_1662 : decode cL_law 1662 = .ok (.iload 6, 2) := by decide +kernel
theorem dL_law_1664 : decode cL_law 1664 = .ok (.if_icmp .eq 5, 3) := by decide +kernel
theorem dL_law_1667 : decode cL_law 1667 = .ok (.iconst 0, 1) := by decide +kernel
theorem dL_law_1668 : decode cL_law 1668 = .ok (.ireturn, 1) := by decide +kernel
theorem dL_law_1669 : decode cL_law 1669 = .ok (.iload 6, 2) := by decide +kernel
theorem dL_law_1671 : decode cL_law 1671 = .ok (.ifCond .ne 15, 3) := by decide +kernel
theorem dL_law_1674 : decode cL_law 1674 = .ok (.aload_n 3, 1) := by decide +kernel
theorem dL_law_1675 : decode cL_law 1675 = .ok (.iconst 0, 1) := by decide +kernel
theorem dL_law_1676 : decode cL_law 1676 = .ok (.laload, 1) := by decide +kernel
theorem dL_law_1677 : decode cL_law 1677 = .ok (.iload 7, 2) := by decide +kernel
theorem dL_law_1679 : decode cL_law 1679 = .ok (.i2l, 1) := by decide +kernel
theorem dL_law_1680 : decode cL_law 1680 = .ok (.lcmp, 1) := by decide +kernel
theorem dL_law_1681 : decode cL_law 1681 = .ok (.ifCond .eq 5, 3) := by decide +kernel
theorem dL_law_1684 : decode cL_law 1684 = .ok (.iconst 0, 1) := by decide +kernel
theorem dL_law_1685 : decode cL_law 1685 = .ok (.ireturn, 1) := by decide +kernel
theorem dL_law_1686 : decode cL_law 1686 = .ok (.goto 564, 3) := by decide +kernel
theorem dL_law_1689 : decode cL_law 1689 = .ok (.aload_n 1, 1) := by decide +kernel
theorem dL_law_1690 : decode cL_law 1690 = .ok (.aload_n 0, 1) := by decide +kernel
theorem dL_law_1691 : decode cL_law 1691 = .ok (.iload 5, 2) := by decide +kernel
theorem dL_law_1693 : decode cL_law 1693 = .ok (.iconst 1, 1) := by decide +kernel
theorem dL_law_1694 : decode cL_law 1694 = .ok (.iadd, 1) := by decide +kernel
theorem dL_law_1695 : decode cL_law 1695 = .ok (.iaload, 1) := by decide +kernel
theorem dL_law_1696 : decode cL_law 1696 = .ok (.aload_n 0, 1) := by decide +kernel
theorem dL_law_1697 : decode cL_law 1697 = .ok (.iload 5, 2) := by decide +kernel
theorem dL_law_1699 : decode cL_law 1699 = .ok (.iconst 2, 1) := by decide +kernel
theorem dL_law_1700 : decode cL_law 1700 = .ok (.iadd, 1) := by decide +kernel
theorem dL_law_1701 : decode cL_law 1701 = .ok (.iaload, 1) := by decide +kernel
theorem dL_law_1702 : decode cL_law 1702 = .ok (.aload_n 3, 1) := by decide +kernel
theorem dL_law_1703 : decode cL_law 1703 = .ok (.invokestatic 212, 3) := by decide +kernel
theorem dL_law_1706 : decode cL_law 1706 = .ok (.istore 6, 2) := by decide +kernel
theorem dL_law_1708 : decode cL_law 1708 = .ok (.aload_n 2, 1) := by decide +kernel
theorem dL_law_1709 : decode cL_law 1709 = .ok (.aload_n 0, 1) := by decide +kernel
theorem dL_law_1710 : decode cL_law 1710 = .ok (.iload 5, 2) := by decide +kernel
theorem dL_law_1712 : decode cL_law 1712 = .ok (.iconst 1, 1) := by decide +kernel
theorem dL_law_1713 : decode cL_law 1713 = .ok (.iadd, 1) := by decide +kernel
theorem dL_law_1714 : decode cL_law 1714 = .ok (.iaload, 1) := by decide +kernel
theorem dL_law_1715 : decode cL_law 1715 = .ok (.aload_n 0, 1) := by decide +kernel
theorem dL_law_1716 : decode cL_law 1716 = .ok (.iload 5, 2) := by decide +kernel
theorem dL_law_1718 : decode cL_law 1718 = .ok (.iconst 2, 1) := by decide +kernel
theorem dL_law_1719 : decode cL_law 1719 = .ok (.iadd, 1) := by decide +kernel
theorem dL_law_1720 : decode cL_law 1720 = .ok (.iaload, 1) := by decide +kernel
theorem dL_law_1721 : decode cL_law 1721 = .ok (.invokevirtual 214, 3) := by decide +kernel
theorem dL_law_1724 : decode cL_law 1724 = .ok (.istore 7, 2) := by decide +kernel
theorem dL_law_1726 : decode cL_law 1726 = .ok (.aload_n 2, 1) := by decide +kernel
theorem dL_law_1727 : decode cL_law 1727 = .ok (.invokevirtual 136, 3) := by decide +kernel
theorem dL_law_1730 : decode cL_law 1730 = .ok (.iload 6, 2) := by decide +kernel
theorem dL_law_1732 : decode cL_law 1732 = .ok (.if_icmp .eq 5, 3) := by decide +kernel
theorem dL_law_1735 : decode cL_law 1735 = .ok (.iconst 0, 1) := by decide +kernel
theorem dL_law_1736 : decode cL_law 1736 = .ok (.ireturn, 1) := by decide +kernel
theorem dL_law_1737 : decode cL_law 1737 = .ok (.iload 6, 2) := by decide +kernel
theorem dL_law_1739 : decode cL_law 1739 = .ok (.ifCond .ne 15, 3) := by decide +kernel
theorem dL_law_1742 : decode cL_law 1742 = .ok (.aload_n 3, 1) := by decide +kernel
theorem dL_law_1743 : decode cL_law 1743 = .ok (.iconst 0, 1) := by decide +kernel
theorem dL_law_1744 : decode cL_law 1744 = .ok (.laload, 1) := by decide +kernel
theorem dL_law_1745 : decode cL_law 1745 = .ok (.iload 7, 2) := by decide +kernel
theorem dL_law_1747 : decode cL_law 1747 = .ok (.i2l, 1) := by decide +kernel
theorem dL_law_1748 : decode cL_law 1748 = .ok (.lcmp, 1) := by decide +kernel
theorem dL_law_1749 : decode cL_law 1749 = .ok (.ifCond .eq 5, 3) := by decide +kernel
theorem dL_law_1752 : decode cL_law 1752 = .ok (.iconst 0, 1) := by decide +kernel
theorem dL_law_1753 : decode cL_law 1753 = .ok (.ireturn, 1) := by decide +kernel
theorem dL_law_1754 : decode cL_law 1754 = .ok (.goto 496, 3) := by decide +kernel
theorem dL_law_1757 : decode cL_law 1757 = .ok (.aload_n 1, 1) := by decide +kernel
theorem dL_law_1758 : decode cL_law 1758 = .ok (.aload_n 0, 1) := by decide +kernel
theorem dL_law_1759 : decode cL_law 1759 = .ok (.iload 5, 2) := by decide +kernel
theorem dL_law_1761 : decode cL_law 1761 = .ok (.iconst 1, 1) := by decide +kernel
theorem dL_law_1762 : decode cL_law 1762 = .ok (.iadd, 1) := by decide +kernel
theorem dL_law_1763 : decode cL_law 1763 = .ok (.iaload, 1) := by decide +kernel
theorem dL_law_1764 : decode cL_law 1764 = .ok (.aload_n 3, 1) := by decide +kernel
theorem dL_law_1765 : decode cL_law 1765 = .ok (.invokestatic 215, 3) := by decide +kernel
theorem dL_law_1768 : decode cL_law 1768 = .ok (.istore 6, 2) := by decide +kernel
theorem dL_law_1770 : decode cL_law 1770 = .ok (.aload_n 2, 1) := by decide +kernel
theorem dL_law_1771 : decode cL_law 1771 = .ok (.aload_n 0, 1) := by decide +kernel
theorem dL_law_1772 : decode cL_law 1772 = .ok (.iload 5, 2) := by decide +kernel
theorem dL_law_1774 : decode cL_law 1774 = .ok (.iconst 1, 1) := by decide +kernel
theorem dL_law_1775 : decode cL_law 1775 = .ok (.iadd, 1) := by decide +kernel
theorem dL_law_1776 : decode cL_law 1776 = .ok (.iaload, 1) := by decide +kernel
theorem dL_law_1777 : decode cL_law 1777 = .ok (.invokevirtual 217, 3) := by decide +kernel
theorem dL_law_1780 : decode cL_law 1780 = .ok (.istore 7, 2) := by decide +kernel
theorem dL_law_1782 : decode cL_law 1782 = .ok (.aload_n 2, 1) := by decide +kernel
theorem dL_law_1783 : decode cL_law 1783 = .ok (.invokevirtual 136, 3) := by decide +kernel
theorem dL_law_1786 : decode cL_law 1786 = .ok (.iload 6, 2) := by decide +kernel
theorem dL_law_1788 : decode cL_law 1788 = .ok (.if_icmp .eq 5, 3) := by decide +kernel
theorem dL_law_1791 : decode cL_law 1791 = .ok (.iconst 0, 1) := by decide +kernel
theorem dL_law_1792 : decode cL_law 1792 = .ok (.ireturn, 1) := by decide +kernel
theorem dL_law_1793 : decode cL_law 1793 = .ok (.iload 6, 2) := by decide +kernel
theorem dL_law_1795 : decode cL_law 1795 = .ok (.ifCond .ne 15, 3) := by decide +kernel
theorem dL_law_1798 : decode cL_law 1798 = .ok (.aload_n 3, 1) := by decide +kernel
theorem dL_law_1799 : decode cL_law 1799 = .ok (.iconst 0, 1) := by decide +kernel
theorem dL_law_1800 : decode cL_law 1800 = .ok (.laload, 1) := by decide +kernel
theorem dL_law_1801 : decode cL_law 1801 = .ok (.iload 7, 2) := by decide +kernel
theorem dL_law_1803 : decode cL_law 1803 = .ok (.i2l, 1) := by decide +kernel
theorem dL_law_1804 : decode cL_law 1804 = .ok (.lcmp, 1) := by decide +kernel
theorem dL_law_1805 : decode cL_law 1805 = .ok (.ifCond .eq 5, 3) := by decide +kernel
theorem dL_law_1808 : decode cL_law 1808 = .ok (.iconst 0, 1) := by decide +kernel
theorem dL_law_1809 : decode cL_law 1809 = .ok (.ireturn, 1) := by decide +kernel
theorem dL_law_1810 : decode cL_law 1810 = .ok (.goto 440, 3) := by decide +kernel
theorem dL_law_1813 : decode cL_law 1813 = .ok (.aload_n 1, 1) := by decide +kernel
theorem dL_law_1814 : decode cL_law 1814 = .ok (.aload_n 0, 1) := by decide +kernel
theorem dL_law_1815 : decode cL_law 1815 = .ok (.iload 5, 2) := by decide +kernel
theorem dL_law_1817 : decode cL_law 1817 = .ok (.iconst 1, 1) := by decide +kernel
theorem dL_law_1818 : decode cL_law 1818 = .ok (.iadd, 1) := by decide +kernel
theorem dL_law_1819 : decode cL_law 1819 = .ok (.iaload, 1) := by decide +kernel
theorem dL_law_1820 : decode cL_law 1820 = .ok (.i2c, 1) := by decide +kernel
theorem dL_law_1821 : decode cL_law 1821 = .ok (.aload_n 3, 1) := by decide +kernel
theorem dL_law_1822 : decode cL_law 1822 = .ok (.invokestatic 218, 3) := by decide +kernel
theorem dL_law_1825 : decode cL_law 1825 = .ok (.istore 6, 2) := by decide +kernel
theorem dL_law_1827 : decode cL_law 1827 = .ok (.aload_n 2, 1) := by decide +kernel
theorem dL_law_1828 : decode cL_law 1828 = .ok (.aload_n 0, 1) := by decide +kernel
theorem dL_law_1829 : decode cL_law 1829 = .ok (.iload 5, 2) := by decide +kernel
theorem dL_law_1831 : decode cL_law 1831 = .ok (.iconst 1, 1) := by decide +kernel
theorem dL_law_1832 : decode cL_law 1832 = .ok (.iadd, 1) := by decide +kernel
theorem dL_law_1833 : decode cL_law 1833 = .ok (.iaload, 1) := by decide +kernel
theorem dL_law_1834 : decode cL_law 1834 = .ok (.i2c, 1) := by decide +kernel
theorem dL_law_1835 : decode cL_law 1835 = .ok (.invokevirtual 221, 3) := by decide +kernel
theorem dL_law_1838 : decode cL_law 1838 = .ok (.istore 7, 2) := by decide +kernel
theorem dL_law_1840 : decode cL_law 1840 = .ok (.aload_n 2, 1) := by decide +kernel
theorem dL_law_1841 : decode cL_law 1841 = .ok (.invokevirtual 136, 3) := by decide +kernel
theorem dL_law_1844 : decode cL_law 1844 = .ok (.iload 6, 2) := by decide +kernel
theorem dL_law_1846 : decode cL_law 1846 = .ok (.if_icmp .eq 5, 3) := by decide +kernel
theorem dL_law_1849 : decode cL_law 1849 = .ok (.iconst 0, 1) := by decide +kernel
theorem dL_law_1850 : decode cL_law 1850 = .ok (.ireturn, 1) := by decide +kernel
theorem dL_law_1851 : decode cL_law 1851 = .ok (.iload 6, 2) := by decide +kernel
theorem dL_law_1853 : decode cL_law 1853 = .ok (.ifCond .ne 15, 3) := by decide +kernel
theorem dL_law_1856 : decode cL_law 1856 = .ok (.aload_n 3, 1) := by decide +kernel
theorem dL_law_1857 : decode cL_law 1857 = .ok (.iconst 0, 1) := by decide +kernel
theorem dL_law_1858 : decode cL_law 1858 = .ok (.laload, 1) := by decide +kernel
theorem dL_law_1859 : decode cL_law 1859 = .ok (.iload 7, 2) := by decide +kernel
theorem dL_law_1861 : decode cL_law 1861 = .ok (.i2l, 1) := by decide +kernel
theorem dL_law_1862 : decode cL_law 1862 = .ok (.lcmp, 1) := by decide +kernel
theorem dL_law_1863 : decode cL_law 1863 = .ok (.ifCond .eq 5, 3) := by decide +kernel
theorem dL_law_1866 : decode cL_law 1866 = .ok (.iconst 0, 1) := by decide +kernel
theorem dL_law_1867 : decode cL_law 1867 = .ok (.ireturn, 1) := by decide +kernel
theorem dL_law_1868 : decode cL_law 1868 = .ok (.goto 382, 3) := by decide +kernel
theorem dL_law_1871 : decode cL_law 1871 = .ok (.aload_n 1, 1) := by decide +kernel
theorem dL_law_1872 : decode cL_law 1872 = .ok (.aload_n 3, 1) := by decide +kernel
theorem dL_law_1873 : decode cL_law 1873 = .ok (.invokestatic 222, 3) := by decide +kernel
theorem dL_law_1876 : decode cL_law 1876 = .ok (.istore 6, 2) := by decide +kernel
theorem dL_law_1878 : decode cL_law 1878 = .ok (.aload_n 2, 1) := by decide +kernel
theorem dL_law_1879 : decode cL_law 1879 = .ok (.invokevirtual 225, 3) := by decide +kernel
theorem dL_law_1882 : decode cL_law 1882 = .ok (.istore 7, 2) := by decide +kernel
theorem dL_law_1884 : decode cL_law 1884 = .ok (.aload_n 2, 1) := by decide +kernel
theorem dL_law_1885 : decode cL_law 1885 = .ok (.invokevirtual 136, 3) := by decide +kernel
theorem dL_law_1888 : decode cL_law 1888 = .ok (.iload 6, 2) := by decide +kernel
theorem dL_law_1890 : decode cL_law 1890 = .ok (.if_icmp .eq 5, 3) := by decide +kernel
theorem dL_law_1893 : decode cL_law 1893 = .ok (.iconst 0, 1) := by decide +kernel
theorem dL_law_1894 : decode cL_law 1894 = .ok (.ireturn, 1) := by decide +kernel
theorem dL_law_1895 : decode cL_law 1895 = .ok (.iload 6, 2) := by decide +kernel
theorem dL_law_1897 : decode cL_law 1897 = .ok (.ifCond .ne 15, 3) := by decide +kernel
theorem dL_law_1900 : decode cL_law 1900 = .ok (.aload_n 3, 1) := by decide +kernel
theorem dL_law_1901 : decode cL_law 1901 = .ok (.iconst 0, 1) := by decide +kernel
theorem dL_law_1902 : decode cL_law 1902 = .ok (.laload, 1) := by decide +kernel
theorem dL_law_1903 : decode cL_law 1903 = .ok (.iload 7, 2) := by decide +kernel
theorem dL_law_1905 : decode cL_law 1905 = .ok (.i2l, 1) := by decide +kernel
theorem dL_law_1906 : decode cL_law 1906 = .ok (.lcmp, 1) := by decide +kernel
theorem dL_law_1907 : decode cL_law 1907 = .ok (.ifCond .eq 5, 3) := by decide +kernel
theorem dL_law_1910 : decode cL_law 1910 = .ok (.iconst 0, 1) := by decide +kernel
theorem dL_law_1911 : decode cL_law 1911 = .ok (.ireturn, 1) := by decide +kernel
theorem dL_law_1912 : decode cL_law 1912 = .ok (.goto 338, 3) := by decide +kernel
theorem dL_law_1915 : decode cL_law 1915 = .ok (.aload_n 1, 1) := by decide +kernel
theorem dL_law_1916 : decode cL_law 1916 = .ok (.invokevirtual 226, 3) := by decide +kernel
theorem dL_law_1919 : decode cL_law 1919 = .ok (.aload_n 2, 1) := by decide +kernel
theorem dL_law_1920 : decode cL_law 1920 = .ok (.invokevirtual 229, 3) := by decide +kernel
theorem dL_law_1923 : decode cL_law 1923 = .ok (.if_icmp .eq 327, 3) := by decide +kernel
theorem dL_law_1926 : decode cL_law 1926 = .ok (.iconst 0, 1) := by decide +kernel
theorem dL_law_1927 : decode cL_law 1927 = .ok (.ireturn, 1) := by decide +kernel
theorem dL_law_1928 : decode cL_law 1928 = .ok (.aload_n 1, 1) := by decide +kernel
theorem dL_law_1929 : decode cL_law 1929 = .ok (.aload_n 0, 1) := by decide +kernel
theorem dL_law_1930 : decode cL_law 1930 = .ok (.iload 5, 2) := by decide +kernel
theorem dL_law_1932 : decode cL_law 1932 = .ok (.iconst 1, 1) := by decide +kernel
theorem dL_law_1933 : decode cL_law 1933 = .ok (.iadd, 1) := by decide +kernel
theorem dL_law_1934 : decode cL_law 1934 = .ok (.iaload, 1) := by decide +kernel
theorem dL_law_1935 : decode cL_law 1935 = .ok (.ifCond .eq 7, 3) := by decide +kernel
theorem dL_law_1938 : decode cL_law 1938 = .ok (.iconst 1, 1) := by decide +kernel
theorem dL_law_1939 : decode cL_law 1939 = .ok (.goto 4, 3) := by decide +kernel
theorem dL_law_1942 : decode cL_law 1942 = .ok (.iconst 0, 1) := by decide +kernel
theorem dL_law_1943 : decode cL_law 1943 = .ok (.aload_n 3, 1) := by decide +kernel
theorem dL_law_1944 : decode cL_law 1944 = .ok (.invokestatic 230, 3) := by decide +kernel
theorem dL_law_1947 : decode cL_law 1947 = .ok (.istore 6, 2) := by decide +kernel
theorem dL_law_1949 : decode cL_law 1949 = .ok (.aload_n 2, 1) := by decide +kernel
theorem dL_law_1950 : decode cL_law 1950 = .ok (.aload_n 0, 1) := by decide +kernel
theorem dL_law_1951 : decode cL_law 1951 = .ok (.iload 5, 2) := by decide +kernel
theorem dL_law_1953 : decode cL_law 1953 = .ok (.iconst 1, 1) := by decide +kernel
theorem dL_law_1954 : decode cL_law 1954 = .ok (.iadd, 1) := by decide +kernel
theorem dL_law_1955 : decode cL_law 1955 = .ok (.iaload, 1) := by decide +kernel
theorem dL_law_1956 : decode cL_law 1956 = .ok (.ifCond .eq 7, 3) := by decide +kernel
theorem dL_law_1959 : decode cL_law 1959 = .ok (.iconst 1, 1) := by decide +kernel
theorem dL_law_1960 : decode cL_law 1960 = .ok (.goto 4, 3) := by decide +kernel
theorem dL_law_1963 : decode cL_law 1963 = .ok (.iconst 0, 1) := by decide +kernel
theorem dL_law_1964 : decode cL_law 1964 = .ok (.invokevirtual 233, 3) := by decide +kernel
theorem dL_law_1967 : decode cL_law 1967 = .ok (.istore 7, 2) := by decide +kernel
theorem dL_law_1969 : decode cL_law 1969 = .ok (.aload_n 2, 1) := by decide +kernel
theorem dL_law_1970 : decode cL_law 1970 = .ok (.invokevirtual 136, 3) := by decide +kernel
theorem dL_law_1973 : decode cL_law 1973 = .ok (.iload 6, 2) := by decide +kernel
theorem dL_law_1975 : decode cL_law 1975 = .ok (.if_icmp .eq 5, 3) := by decide +kernel
theorem dL_law_1978 : decode cL_law 1978 = .ok (.iconst 0, 1) := by decide +kernel
theorem dL_law_1979 : decode cL_law 1979 = .ok (.ireturn, 1) := by decide +kernel
theorem dL_law_1980 : decode cL_law 1980 = .ok (.iload 6, 2) := by decide +kernel
theorem dL_law_1982 : decode cL_law 1982 = .ok (.ifCond .ne 15, 3) := by decide +kernel
theorem dL_law_1985 : decode cL_law 1985 = .ok (.aload_n 3, 1) := by decide +kernel
theorem dL_law_1986 : decode cL_law 1986 = .ok (.iconst 0, 1) := by decide +kernel
theorem dL_law_1987 : decode cL_law 1987 = .ok (.laload, 1) := by decide +kernel
theorem dL_law_1988 : decode cL_law 1988 = .ok (.iload 7, 2) := by decide +kernel
theorem dL_law_1990 : decode cL_law 1990 = .ok (.i2l, 1) := by decide +kernel
theorem dL_law_1991 : decode cL_law 1991 = .ok (.lcmp, 1) := by decide +kernel
theorem dL_law_1992 : decode cL_law 1992 = .ok (.ifCond .eq 5, 3) := by decide +kernel
theorem dL_law_1995 : decode cL_law 1995 = .ok (.iconst 0, 1) := by decide +kernel
theorem dL_law_1996 : decode cL_law 1996 = .ok (.ireturn, 1) := by decide +kernel
theorem dL_law_1997 : decode cL_law 1997 = .ok (.goto 253, 3) := by decide +kernel
theorem dL_law_2000 : decode cL_law 2000 = .ok (.aload_n 1, 1) := by decide +kernel
theorem dL_law_2001 : decode cL_law 2001 = .ok (.aload_n 0, 1) := by decide +kernel
theorem dL_law_2002 : decode cL_law 2002 = .ok (.iload 5, 2) := by decide +kernel
theorem dL_law_2004 : decode cL_law 2004 = .ok (.iconst 1, 1) := by decide +kernel
theorem dL_law_2005 : decode cL_law 2005 = .ok (.iadd, 1) := by decide +kernel
theorem dL_law_2006 : decode cL_law 2006 = .ok (.iaload, 1) := by decide +kernel
theorem dL_law_2007 : decode cL_law 2007 = .ok (.aload_n 3, 1) := by decide +kernel
theorem dL_law_2008 : decode cL_law 2008 = .ok (.invokestatic 234, 3) := by decide +kernel
theorem dL_law_2011 : decode cL_law 2011 = .ok (.istore 6, 2) := by decide +kernel
theorem dL_law_2013 : decode cL_law 2013 = .ok (.aload_n 2, 1) := by decide +kernel
theorem dL_law_2014 : decode cL_law 2014 = .ok (.aload_n 0, 1) := by decide +kernel
theorem dL_law_2015 : decode cL_law 2015 = .ok (.iload 5, 2) := by decide +kernel
theorem dL_law_2017 : decode cL_law 2017 = .ok (.iconst 1, 1) := by decide +kernel
theorem dL_law_2018 : decode cL_law 2018 = .ok (.iadd, 1) := by decide +kernel
theorem dL_law_2019 : decode cL_law 2019 = .ok (.iaload, 1) := by decide +kernel
theorem dL_law_2020 : decode cL_law 2020 = .ok (.invokevirtual 236, 3) := by decide +kernel
theorem dL_law_2023 : decode cL_law 2023 = .ok (.istore 7, 2) := by decide +kernel
theorem dL_law_2025 : decode cL_law 2025 = .ok (.aload_n 2, 1) := by decide +kernel
theorem dL_law_2026 : decode cL_law 2026 = .ok (.invokevirtual 136, 3) := by decide +kernel
theorem dL_law_2029 : decode cL_law 2029 = .ok (.iload 6, 2) := by decide +kernel
theorem dL_law_2031 : decode cL_law 2031 = .ok (.if_icmp .eq 5, 3) := by decide +kernel
theorem dL_law_2034 : decode cL_law 2034 = .ok (.iconst 0, 1) := by decide +kernel
theorem dL_law_2035 : decode cL_law 2035 = .ok (.ireturn, 1) := by decide +kernel
theorem dL_law_2036 : decode cL_law 2036 = .ok (.iload 6, 2) := by decide +kernel
theorem dL_law_2038 : decode cL_law 2038 = .ok (.ifCond .ne 15, 3) := by decide +kernel
theorem dL_law_2041 : decode cL_law 2041 = .ok (.aload_n 3, 1) := by decide +kernel
theorem dL_law_2042 : decode cL_law 2042 = .ok (.iconst 0, 1) := by decide +kernel
theorem dL_law_2043 : decode cL_law 2043 = .ok (.laload, 1) := by decide +kernel
theorem dL_law_2044 : decode cL_law 2044 = .ok (.iload 7, 2) := by decide +kernel
theorem dL_law_2046 : decode cL_law 2046 = .ok (.i2l, 1) := by decide +kernel
theorem dL_law_2047 : decode cL_law 2047 = .ok (.lcmp, 1) := by decide +kernel
theorem dL_law_2048 : decode cL_law 2048 = .ok (.ifCond .eq 5, 3) := by decide +kernel
theorem dL_law_2051 : decode cL_law 2051 = .ok (.iconst 0, 1) := by decide +kernel
theorem dL_law_2052 : decode cL_law 2052 = .ok (.ireturn, 1) := by decide +kernel
theorem dL_law_2053 : decode cL_law 2053 = .ok (.goto 197, 3) := by decide +kernel
theorem dL_law_2056 : decode cL_law 2056 = .ok (.aload_n 1, 1) := by decide +kernel
theorem dL_law_2057 : decode cL_law 2057 = .ok (.invokevirtual 237, 3) := by decide +kernel
theorem dL_law_2060 : decode cL_law 2060 = .ok (.aload_n 2, 1) := by decide +kernel
theorem dL_law_2061 : decode cL_law 2061 = .ok (.invokevirtual 241, 3) := by decide +kernel
theorem dL_law_2064 : decode cL_law 2064 = .ok (.if_icmp .eq 186, 3) := by decide +kernel
theorem dL_law_2067 : decode cL_law 2067 = .ok (.iconst 0, 1) := by decide +kernel
theorem dL_law_2068 : decode cL_law 2068 = .ok (.ireturn, 1) := by decide +kernel
theorem dL_law_2069 : decode cL_law 2069 = .ok (.aload_n 1, 1) := by decide +kernel
theorem dL_law_2070 : decode cL_law 2070 = .ok (.invokevirtual 242, 3) := by decide +kernel
theorem dL_law_2073 : decode cL_law 2073 = .ok (.aload_n 2, 1) := by decide +kernel
theorem dL_law_2074 : decode cL_law 2074 = .ok (.invokevirtual 246, 3) := by decide +kernel
theorem dL_law_2077 : decode cL_law 2077 = .ok (.lcmp, 1) := by decide +kernel
theorem dL_law_2078 : decode cL_law 2078 = .ok (.ifCond .eq 172, 3) := by decide +kernel
theorem dL_law_2081 : decode cL_law 2081 = .ok (.iconst 0, 1) := by decide +kernel
theorem dL_law_2082 : decode cL_law 2082 = .ok (.ireturn, 1) := by decide +kernel
theorem dL_law_2083 : decode cL_law 2083 = .ok (.aload_n 1, 1) := by decide +kernel
theorem dL_law_2084 : decode cL_law 2084 = .ok (.aload 4, 2) := by decide +kernel
theorem dL_law_2086 : decode cL_law 2086 = .ok (.invokestatic 247, 3) := by decide +kernel
theorem dL_law_2089 : decode cL_law 2089 = .ok (.istore 6, 2) := by decide +kernel
theorem dL_law_2091 : decode cL_law 2091 = .ok (.aload_n 2, 1) := by decide +kernel
theorem dL_law_2092 : decode cL_law 2092 = .ok (.invokevirtual 250, 3) := by decide +kernel
theorem dL_law_2095 : decode cL_law 2095 = .ok (.fstore 7, 2) := by decide +kernel
theorem dL_law_2097 : decode cL_law 2097 = .ok (.aload_n 2, 1) := by decide +kernel
theorem dL_law_2098 : decode cL_law 2098 = .ok (.invokevirtual 136, 3) := by decide +kernel
theorem dL_law_2101 : decode cL_law 2101 = .ok (.iload 6, 2) := by decide +kernel
theorem dL_law_2103 : decode cL_law 2103 = .ok (.if_icmp .eq 5, 3) := by decide +kernel
theorem dL_law_2106 : decode cL_law 2106 = .ok (.iconst 0, 1) := by decide +kernel
theorem dL_law_2107 : decode cL_law 2107 = .ok (.ireturn, 1) := by decide +kernel
theorem dL_law_2108 : decode cL_law 2108 = .ok (.iload 6, 2) := by decide +kernel
theorem dL_law_2110 : decode cL_law 2110 = .ok (.ifCond .ne 36, 3) := by decide +kernel
theorem dL_law_2113 : decode cL_law 2113 = .ok (.aload 4, 2) := by decide +kernel
theorem dL_law_2115 : decode cL_law 2115 = .ok (.iconst 0, 1) := by decide +kernel
theorem dL_law_2116 : decode cL_law 2116 = .ok (.daload, 1) := by decide +kernel
theorem dL_law_2117 : decode cL_law 2117 = .ok (.fload 7, 2) := by decide +kernel
theorem dL_law_2119 : decode cL_law 2119 = .ok (.f2d, 1) := by decide +kernel
theorem dL_law_2120 : decode cL_law 2120 = .ok (.dcmp .l, 1) := by decide +kernel
theorem dL_law_2121 : decode cL_law 2121 = .ok (.ifCond .eq 25, 3) := by decide +kernel
theorem dL_law_2124 : decode cL_law 2124 = .ok (.aload 4, 2) := by decide +kernel
theorem dL_law_2126 : decode cL_law 2126 = .ok (.iconst 0, 1) := by decide +kernel
theorem dL_law_2127 : decode cL_law 2127 = .ok (.daload, 1) := by decide +kernel
theorem dL_law_2128 : decode cL_law 2128 = .ok (.aload 4, 2) := by decide +kernel
theorem dL_law_2130 : decode cL_law 2130 = .ok (.iconst 0, 1) := by decide +kernel
theorem dL_law_2131 : decode cL_law 2131 = .ok (.daload, 1) := by decide +kernel
theorem dL_law_2132 : decode cL_law 2132 = .ok (.dcmp .l, 1) := by decide +kernel
theorem dL_law_2133 : decode cL_law 2133 = .ok (.ifCond .eq 11, 3) := by decide +kernel
theorem dL_law_2136 : decode cL_law 2136 = .ok (.fload 7, 2) := by decide +kernel
theorem dL_law_2138 : decode cL_law 2138 = .ok (.fload 7, 2) := by decide +kernel
theorem dL_law_2140 : decode cL_law 2140 = .ok (.fcmp .l, 1) := by decide +kernel
theorem dL_law_2141 : decode cL_law 2141 = .ok (.ifCond .ne 5, 3) := by decide +kernel
theorem dL_law_2144 : decode cL_law 2144 = .ok (.iconst 0, 1) := by decide +kernel
theorem dL_law_2145 : decode cL_law 2145 = .ok (.ireturn, 1) := by decide +kernel
theorem dL_law_2146 : decode cL_law 2146 = .ok (.goto 104, 3) := by decide +kernel
theorem dL_law_2149 : decode cL_law 2149 = .ok (.aload_n 1, 1) := by decide +kernel
theorem dL_law_2150 : decode cL_law 2150 = .ok (.aload_n 3, 1) := by decide +kernel
theorem dL_law_2151 : decode cL_law 2151 = .ok (.invokestatic 251, 3) := by decide +kernel
theorem dL_law_2154 : decode cL_law 2154 = .ok (.istore 6, 2) := by decide +kernel
theorem dL_law_2156 : decode cL_law 2156 = .ok (.aload_n 2, 1) := by decide +kernel
theorem dL_law_2157 : decode cL_law 2157 = .ok (.invokevirtual 253, 3) := by decide +kernel
theorem dL_law_2160 : decode cL_law 2160 = .ok (.istore 7, 2) := by decide +kernel
theorem dL_law_2162 : decode cL_law 2162 = .ok (.aload_n 2, 1) := by decide +kernel
theorem dL_law_2163 : decode cL_law 2163 = .ok (.invokevirtual 136, 3) := by decide +kernel
theorem dL_law_2166 : decode cL_law 2166 = .ok (.iload 6, 2) := by decide +kernel
theorem dL_law_2168 : decode cL_law 2168 = .ok (.if_icmp .eq 5, 3) := by decide +kernel
theorem dL_law_2171 : decode cL_law 2171 = .ok (.iconst 0, 1) := by decide +kernel
theorem dL_law_2172 : decode cL_law 2172 = .ok (.ireturn, 1) := by decide +kernel
theorem dL_law_2173 : decode cL_law 2173 = .ok (.iload 6, 2) := by decide +kernel
theorem dL_law_2175 : decode cL_law 2175 = .ok (.ifCond .ne 15, 3) := by decide +kernel
theorem dL_law_2178 : decode cL_law 2178 = .ok (.aload_n 3, 1) := by decide +kernel
theorem dL_law_2179 : decode cL_law 2179 = .ok (.iconst 0, 1) := by decide +kernel
theorem dL_law_2180 : decode cL_law 2180 = .ok (.laload, 1) := by decide +kernel
theorem dL_law_2181 : decode cL_law 2181 = .ok (.iload 7, 2) := by decide +kernel
theorem dL_law_2183 : decode cL_law 2183 = .ok (.i2l, 1) := by decide +kernel
theorem dL_law_2184 : decode cL_law 2184 = .ok (.lcmp, 1) := by decide +kernel
theorem dL_law_2185 : decode cL_law 2185 = .ok (.ifCond .eq 5, 3) := by decide +kernel
theorem dL_law_2188 : decode cL_law 2188 = .ok (.iconst 0, 1) := by decide +kernel
theorem dL_law_2189 : decode cL_law 2189 = .ok (.ireturn, 1) := by decide +kernel
theorem dL_law_2190 : decode cL_law 2190 = .ok (.goto 60, 3) := by decide +kernel
theorem dL_law_2193 : decode cL_law 2193 = .ok (.aload_n 1, 1) := by decide +kernel
theorem dL_law_2194 : decode cL_law 2194 = .ok (.invokevirtual 254, 3) := by decide +kernel
theorem dL_law_2197 : decode cL_law 2197 = .ok (.aload_n 2, 1) := by decide +kernel
theorem dL_law_2198 : decode cL_law 2198 = .ok (.invokevirtual 257, 3) := by decide +kernel
theorem dL_law_2201 : decode cL_law 2201 = .ok (.if_icmp .eq 49, 3) := by decide +kernel
theorem dL_law_2204 : decode cL_law 2204 = .ok (.iconst 0, 1) := by decide +kernel
theorem dL_law_2205 : decode cL_law 2205 = .ok (.ireturn, 1) := by decide +kernel
theorem dL_law_2206 : decode cL_law 2206 = .ok (.aload_n 1, 1) := by decide +kernel
theorem dL_law_2207 : decode cL_law 2207 = .ok (.aload_n 3, 1) := by decide +kernel
theorem dL_law_2208 : decode cL_law 2208 = .ok (.invokestatic 258, 3) := by decide +kernel
theorem dL_law_2211 : decode cL_law 2211 = .ok (.istore 6, 2) := by decide +kernel
theorem dL_law_2213 : decode cL_law 2213 = .ok (.aload_n 2, 1) := by decide +kernel
theorem dL_law_2214 : decode cL_law 2214 = .ok (.invokevirtual 260, 3) := by decide +kernel
theorem dL_law_2217 : decode cL_law 2217 = .ok (.istore 7, 2) := by decide +kernel
theorem dL_law_2219 : decode cL_law 2219 = .ok (.aload_n 2, 1) := by decide +kernel
theorem dL_law_2220 : decode cL_law 2220 = .ok (.invokevirtual 136, 3) := by decide +kernel
theorem dL_law_2223 : decode cL_law 2223 = .ok (.iload 6, 2) := by decide +kernel
theorem dL_law_2225 : decode cL_law 2225 = .ok (.if_icmp .eq 5, 3) := by decide +kernel
theorem dL_law_2228 : decode cL_law 2228 = .ok (.iconst 0, 1) := by decide +kernel
theorem dL_law_2229 : decode cL_law 2229 = .ok (.ireturn, 1) := by decide +kernel
theorem dL_law_2230 : decode cL_law 2230 = .ok (.iload 6, 2) := by decide +kernel
theorem dL_law_2232 : decode cL_law 2232 = .ok (.ifCond .ne 15, 3) := by decide +kernel
theorem dL_law_2235 : decode cL_law 2235 = .ok (.aload_n 3, 1) := by decide +kernel
theorem dL_law_2236 : decode cL_law 2236 = .ok (.iconst 0, 1) := by decide +kernel
theorem dL_law_2237 : decode cL_law 2237 = .ok (.laload, 1) := by decide +kernel
theorem dL_law_2238 : decode cL_law 2238 = .ok (.iload 7, 2) := by decide +kernel
theorem dL_law_2240 : decode cL_law 2240 = .ok (.i2l, 1) := by decide +kernel
theorem dL_law_2241 : decode cL_law 2241 = .ok (.lcmp, 1) := by decide +kernel
theorem dL_law_2242 : decode cL_law 2242 = .ok (.ifCond .eq 5, 3) := by decide +kernel
theorem dL_law_2245 : decode cL_law 2245 = .ok (.iconst 0, 1) := by decide +kernel
theorem dL_law_2246 : decode cL_law 2246 = .ok (.ireturn, 1) := by decide +kernel
theorem dL_law_2247 : decode cL_law 2247 = .ok (.goto 3, 3) := by decide +kernel
theorem dL_law_2250 : decode cL_law 2250 = .ok (.iinc 5 5, 3) := by decide +kernel
theorem dL_law_2253 : decode cL_law 2253 = .ok (.goto (-2225), 3) := by decide +kernel
theorem dL_law_2256 : decode cL_law 2256 = .ok (.iconst 1, 1) := by decide +kernel
theorem dL_law_2257 : decode cL_law 2257 = .ok (.ireturn, 1) := by decide +kernel
abbrev vwCl : List vw_C := [(RJ0, TJ0, 2), (RJx00060, TJx00060, 6), (RX0, TX0, 4), (RX1, TX1, 3), (RX2, TX2, 6), (RX3, TX3, 8), (RX4, TX4, 9), (RX5, TX5, 3), (RX6, TX6, 8), (RX7, TX7, 18)]
end
section
theorem zz_probe : (lw_tbl.filter goodWord).length = (lw_tbl.filter goodWord).length := rfl
end
