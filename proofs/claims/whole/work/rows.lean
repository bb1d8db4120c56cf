section
-- ===== PART A: goes FIRST, ahead of the names: the tables' words, and 'selects' of the private methods out of them =====
/-- a private method of a class that the tables say can be made, by its rows of tables_1 -/
def lw_okq (q : MethodName × Nat) : Prop := (q.1.cls ≠ "java/lang/invoke/MethodHandle" ∧ q.1.cls ≠ "java/lang/invoke/VarHandle") ∧ Cond.instantiable q.1.cls q.2 ∈ tables_1 ∧ Cond.privateMethod q.1 ∈ tables_1 ∧ Cond.instanceMethod q.1 ∈ tables_1
theorem lw_p0 : lw_okq (⟨"SparePlanner", "forgetChanges", "()V"⟩, 14) := ⟨⟨by decide +kernel, by decide +kernel⟩, List.mem_of_getElem? (i := 27) (by decide +kernel), List.mem_of_getElem? (i := 357) (by decide +kernel), List.mem_of_getElem? (i := 358) (by decide +kernel)⟩
theorem lw_p1 : lw_okq (⟨"java/lang/Throwable", "fillInStackTrace", "(I)Ljava/lang/Throwable;"⟩, 6) := ⟨⟨by decide +kernel, by decide +kernel⟩, List.mem_of_getElem? (i := 459) (by decide +kernel), List.mem_of_getElem? (i := 457) (by decide +kernel), List.mem_of_getElem? (i := 458) (by decide +kernel)⟩
theorem lw_p2 : lw_okq (⟨"SparePlanner", "remember", "()V"⟩, 14) := ⟨⟨by decide +kernel, by decide +kernel⟩, List.mem_of_getElem? (i := 27) (by decide +kernel), List.mem_of_getElem? (i := 505) (by decide +kernel), List.mem_of_getElem? (i := 506) (by decide +kernel)⟩
theorem lw_p3 : lw_okq (⟨"SparePlanner", "needPart", "(I)V"⟩, 14) := ⟨⟨by decide +kernel, by decide +kernel⟩, List.mem_of_getElem? (i := 27) (by decide +kernel), List.mem_of_getElem? (i := 544) (by decide +kernel), List.mem_of_getElem? (i := 545) (by decide +kernel)⟩
theorem lw_p4 : lw_okq (⟨"SparePlanner", "needKit", "(I)V"⟩, 14) := ⟨⟨by decide +kernel, by decide +kernel⟩, List.mem_of_getElem? (i := 27) (by decide +kernel), List.mem_of_getElem? (i := 694) (by decide +kernel), List.mem_of_getElem? (i := 695) (by decide +kernel)⟩
theorem lw_p5 : lw_okq (⟨"SparePlanner", "keepLack", "(I)V"⟩, 14) := ⟨⟨by decide +kernel, by decide +kernel⟩, List.mem_of_getElem? (i := 27) (by decide +kernel), List.mem_of_getElem? (i := 783) (by decide +kernel), List.mem_of_getElem? (i := 784) (by decide +kernel)⟩
theorem lw_p6 : lw_okq (⟨"SparePlanner", "filledPlaces", "(I)I"⟩, 14) := ⟨⟨by decide +kernel, by decide +kernel⟩, List.mem_of_getElem? (i := 27) (by decide +kernel), List.mem_of_getElem? (i := 1042) (by decide +kernel), List.mem_of_getElem? (i := 1043) (by decide +kernel)⟩
theorem lw_p7 : lw_okq (⟨"SparePlanner$Text", "note", "(IC)V"⟩, 6) := ⟨⟨by decide +kernel, by decide +kernel⟩, List.mem_of_getElem? (i := 251) (by decide +kernel), List.mem_of_getElem? (i := 1085) (by decide +kernel), List.mem_of_getElem? (i := 1086) (by decide +kernel)⟩
theorem lw_p8 : lw_okq (⟨"SparePlanner", "tryEntry", "(III)Z"⟩, 14) := ⟨⟨by decide +kernel, by decide +kernel⟩, List.mem_of_getElem? (i := 27) (by decide +kernel), List.mem_of_getElem? (i := 1090) (by decide +kernel), List.mem_of_getElem? (i := 1091) (by decide +kernel)⟩
theorem lw_p9 : lw_okq (⟨"SparePlanner", "tryTaking", "(I)Z"⟩, 14) := ⟨⟨by decide +kernel, by decide +kernel⟩, List.mem_of_getElem? (i := 27) (by decide +kernel), List.mem_of_getElem? (i := 1094) (by decide +kernel), List.mem_of_getElem? (i := 1095) (by decide +kernel)⟩
theorem lw_p10 : lw_okq (⟨"SparePlanner", "tryPieces", "(III)Z"⟩, 14) := ⟨⟨by decide +kernel, by decide +kernel⟩, List.mem_of_getElem? (i := 27) (by decide +kernel), List.mem_of_getElem? (i := 1098) (by decide +kernel), List.mem_of_getElem? (i := 1099) (by decide +kernel)⟩
theorem lw_p11 : lw_okq (⟨"SparePlannerModel", "fails", "(IZ)Z"⟩, 21) := ⟨⟨by decide +kernel, by decide +kernel⟩, List.mem_of_getElem? (i := 1135) (by decide +kernel), List.mem_of_getElem? (i := 1223) (by decide +kernel), List.mem_of_getElem? (i := 1224) (by decide +kernel)⟩
theorem lw_p12 : lw_okq (⟨"SparePlannerModel", "remember", "()V"⟩, 21) := ⟨⟨by decide +kernel, by decide +kernel⟩, List.mem_of_getElem? (i := 1135) (by decide +kernel), List.mem_of_getElem? (i := 1227) (by decide +kernel), List.mem_of_getElem? (i := 1228) (by decide +kernel)⟩
theorem lw_p13 : lw_okq (⟨"SparePlannerModel", "rememberRow", "([I)V"⟩, 21) := ⟨⟨by decide +kernel, by decide +kernel⟩, List.mem_of_getElem? (i := 1135) (by decide +kernel), List.mem_of_getElem? (i := 1231) (by decide +kernel), List.mem_of_getElem? (i := 1232) (by decide +kernel)⟩
theorem lw_p14 : lw_okq (⟨"SparePlannerModel", "set", "(III)V"⟩, 21) := ⟨⟨by decide +kernel, by decide +kernel⟩, List.mem_of_getElem? (i := 1135) (by decide +kernel), List.mem_of_getElem? (i := 1238) (by decide +kernel), List.mem_of_getElem? (i := 1239) (by decide +kernel)⟩
theorem lw_p15 : lw_okq (⟨"SparePlannerModel", "isPart", "(I)Z"⟩, 21) := ⟨⟨by decide +kernel, by decide +kernel⟩, List.mem_of_getElem? (i := 1135) (by decide +kernel), List.mem_of_getElem? (i := 1246) (by decide +kernel), List.mem_of_getElem? (i := 1247) (by decide +kernel)⟩
def lw_privs_1 : List (MethodName × Nat) := [(⟨"SparePlanner", "forgetChanges", "()V"⟩, 14), (⟨"java/lang/Throwable", "fillInStackTrace", "(I)Ljava/lang/Throwable;"⟩, 6), (⟨"SparePlanner", "remember", "()V"⟩, 14), (⟨"SparePlanner", "needPart", "(I)V"⟩, 14), (⟨"SparePlanner", "needKit", "(I)V"⟩, 14), (⟨"SparePlanner", "keepLack", "(I)V"⟩, 14), (⟨"SparePlanner", "filledPlaces", "(I)I"⟩, 14), (⟨"SparePlanner$Text", "note", "(IC)V"⟩, 6), (⟨"SparePlanner", "tryEntry", "(III)Z"⟩, 14), (⟨"SparePlanner", "tryTaking", "(I)Z"⟩, 14), (⟨"SparePlanner", "tryPieces", "(III)Z"⟩, 14), (⟨"SparePlannerModel", "fails", "(IZ)Z"⟩, 21), (⟨"SparePlannerModel", "remember", "()V"⟩, 21), (⟨"SparePlannerModel", "rememberRow", "([I)V"⟩, 21), (⟨"SparePlannerModel", "set", "(III)V"⟩, 21), (⟨"SparePlannerModel", "isPart", "(I)Z"⟩, 21)]
theorem lw_r1 : ∀ q ∈ lw_privs_1, lw_okq q := List.forall_mem_cons.mpr ⟨lw_p0, List.forall_mem_cons.mpr ⟨lw_p1, List.forall_mem_cons.mpr ⟨lw_p2, List.forall_mem_cons.mpr ⟨lw_p3, List.forall_mem_cons.mpr ⟨lw_p4, List.forall_mem_cons.mpr ⟨lw_p5, List.forall_mem_cons.mpr ⟨lw_p6, List.forall_mem_cons.mpr ⟨lw_p7, List.forall_mem_cons.mpr ⟨lw_p8, List.forall_mem_cons.mpr ⟨lw_p9, List.forall_mem_cons.mpr ⟨lw_p10, List.forall_mem_cons.mpr ⟨lw_p11, List.forall_mem_cons.mpr ⟨lw_p12, List.forall_mem_cons.mpr ⟨lw_p13, List.forall_mem_cons.mpr ⟨lw_p14, List.forall_mem_cons.mpr ⟨lw_p15, fun _ h => absurd h List.not_mem_nil⟩⟩⟩⟩⟩⟩⟩⟩⟩⟩⟩⟩⟩⟩⟩⟩
theorem lw_p16 : lw_okq (⟨"SparePlannerModel", "of", "(II)I"⟩, 21) := ⟨⟨by decide +kernel, by decide +kernel⟩, List.mem_of_getElem? (i := 1135) (by decide +kernel), List.mem_of_getElem? (i := 1250) (by decide +kernel), List.mem_of_getElem? (i := 1251) (by decide +kernel)⟩
theorem lw_p17 : lw_okq (⟨"SparePlannerModel", "placeOf", "(II)I"⟩, 21) := ⟨⟨by decide +kernel, by decide +kernel⟩, List.mem_of_getElem? (i := 1135) (by decide +kernel), List.mem_of_getElem? (i := 1262) (by decide +kernel), List.mem_of_getElem? (i := 1263) (by decide +kernel)⟩
theorem lw_p18 : lw_okq (⟨"SparePlannerModel", "increase", "(III)V"⟩, 21) := ⟨⟨by decide +kernel, by decide +kernel⟩, List.mem_of_getElem? (i := 1135) (by decide +kernel), List.mem_of_getElem? (i := 1266) (by decide +kernel), List.mem_of_getElem? (i := 1267) (by decide +kernel)⟩
theorem lw_p19 : lw_okq (⟨"SparePlannerModel", "items", "(I)I"⟩, 21) := ⟨⟨by decide +kernel, by decide +kernel⟩, List.mem_of_getElem? (i := 1135) (by decide +kernel), List.mem_of_getElem? (i := 1278) (by decide +kernel), List.mem_of_getElem? (i := 1279) (by decide +kernel)⟩
theorem lw_p20 : lw_okq (⟨"SparePlannerModel", "hasItem", "(II)Z"⟩, 21) := ⟨⟨by decide +kernel, by decide +kernel⟩, List.mem_of_getElem? (i := 1135) (by decide +kernel), List.mem_of_getElem? (i := 1282) (by decide +kernel), List.mem_of_getElem? (i := 1283) (by decide +kernel)⟩
theorem lw_p21 : lw_okq (⟨"SparePlannerModel", "itemOf", "(III)I"⟩, 21) := ⟨⟨by decide +kernel, by decide +kernel⟩, List.mem_of_getElem? (i := 1135) (by decide +kernel), List.mem_of_getElem? (i := 1286) (by decide +kernel), List.mem_of_getElem? (i := 1287) (by decide +kernel)⟩
theorem lw_p22 : lw_okq (⟨"SparePlannerModel", "missingOf", "(I)I"⟩, 21) := ⟨⟨by decide +kernel, by decide +kernel⟩, List.mem_of_getElem? (i := 1135) (by decide +kernel), List.mem_of_getElem? (i := 1294) (by decide +kernel), List.mem_of_getElem? (i := 1295) (by decide +kernel)⟩
theorem lw_p23 : lw_okq (⟨"SparePlannerModel", "waits", "(II)I"⟩, 21) := ⟨⟨by decide +kernel, by decide +kernel⟩, List.mem_of_getElem? (i := 1135) (by decide +kernel), List.mem_of_getElem? (i := 1298) (by decide +kernel), List.mem_of_getElem? (i := 1299) (by decide +kernel)⟩
theorem lw_p24 : lw_okq (⟨"SparePlannerModel", "position", "(I)I"⟩, 21) := ⟨⟨by decide +kernel, by decide +kernel⟩, List.mem_of_getElem? (i := 1135) (by decide +kernel), List.mem_of_getElem? (i := 1306) (by decide +kernel), List.mem_of_getElem? (i := 1307) (by decide +kernel)⟩
theorem lw_p25 : lw_okq (⟨"SparePlannerModel", "underway", "(III)I"⟩, 21) := ⟨⟨by decide +kernel, by decide +kernel⟩, List.mem_of_getElem? (i := 1135) (by decide +kernel), List.mem_of_getElem? (i := 1310) (by decide +kernel), List.mem_of_getElem? (i := 1311) (by decide +kernel)⟩
theorem lw_p26 : lw_okq (⟨"SparePlannerModel", "isKit", "(I)Z"⟩, 21) := ⟨⟨by decide +kernel, by decide +kernel⟩, List.mem_of_getElem? (i := 1135) (by decide +kernel), List.mem_of_getElem? (i := 1326) (by decide +kernel), List.mem_of_getElem? (i := 1327) (by decide +kernel)⟩
theorem lw_p27 : lw_okq (⟨"SparePlannerModel", "doRequest", "(II)I"⟩, 21) := ⟨⟨by decide +kernel, by decide +kernel⟩, List.mem_of_getElem? (i := 1135) (by decide +kernel), List.mem_of_getElem? (i := 1337) (by decide +kernel), List.mem_of_getElem? (i := 1338) (by decide +kernel)⟩
theorem lw_p28 : lw_okq (⟨"SparePlannerModel", "availableOf", "(I)I"⟩, 21) := ⟨⟨by decide +kernel, by decide +kernel⟩, List.mem_of_getElem? (i := 1135) (by decide +kernel), List.mem_of_getElem? (i := 1341) (by decide +kernel), List.mem_of_getElem? (i := 1342) (by decide +kernel)⟩
theorem lw_p29 : lw_okq (⟨"SparePlannerModel", "keepReason", "(I)V"⟩, 21) := ⟨⟨by decide +kernel, by decide +kernel⟩, List.mem_of_getElem? (i := 1135) (by decide +kernel), List.mem_of_getElem? (i := 1345) (by decide +kernel), List.mem_of_getElem? (i := 1346) (by decide +kernel)⟩
theorem lw_p30 : lw_okq (⟨"SparePlannerModel", "serve", "(II)I"⟩, 21) := ⟨⟨by decide +kernel, by decide +kernel⟩, List.mem_of_getElem? (i := 1135) (by decide +kernel), List.mem_of_getElem? (i := 1349) (by decide +kernel), List.mem_of_getElem? (i := 1350) (by decide +kernel)⟩
theorem lw_p31 : lw_okq (⟨"SparePlannerModel", "issue", "(II)I"⟩, 21) := ⟨⟨by decide +kernel, by decide +kernel⟩, List.mem_of_getElem? (i := 1135) (by decide +kernel), List.mem_of_getElem? (i := 1353) (by decide +kernel), List.mem_of_getElem? (i := 1354) (by decide +kernel)⟩
def lw_privs_2 : List (MethodName × Nat) := [(⟨"SparePlannerModel", "of", "(II)I"⟩, 21), (⟨"SparePlannerModel", "placeOf", "(II)I"⟩, 21), (⟨"SparePlannerModel", "increase", "(III)V"⟩, 21), (⟨"SparePlannerModel", "items", "(I)I"⟩, 21), (⟨"SparePlannerModel", "hasItem", "(II)Z"⟩, 21), (⟨"SparePlannerModel", "itemOf", "(III)I"⟩, 21), (⟨"SparePlannerModel", "missingOf", "(I)I"⟩, 21), (⟨"SparePlannerModel", "waits", "(II)I"⟩, 21), (⟨"SparePlannerModel", "position", "(I)I"⟩, 21), (⟨"SparePlannerModel", "underway", "(III)I"⟩, 21), (⟨"SparePlannerModel", "isKit", "(I)Z"⟩, 21), (⟨"SparePlannerModel", "doRequest", "(II)I"⟩, 21), (⟨"SparePlannerModel", "availableOf", "(I)I"⟩, 21), (⟨"SparePlannerModel", "keepReason", "(I)V"⟩, 21), (⟨"SparePlannerModel", "serve", "(II)I"⟩, 21), (⟨"SparePlannerModel", "issue", "(II)I"⟩, 21)]
theorem lw_r2 : ∀ q ∈ lw_privs_2, lw_okq q := List.forall_mem_cons.mpr ⟨lw_p16, List.forall_mem_cons.mpr ⟨lw_p17, List.forall_mem_cons.mpr ⟨lw_p18, List.forall_mem_cons.mpr ⟨lw_p19, List.forall_mem_cons.mpr ⟨lw_p20, List.forall_mem_cons.mpr ⟨lw_p21, List.forall_mem_cons.mpr ⟨lw_p22, List.forall_mem_cons.mpr ⟨lw_p23, List.forall_mem_cons.mpr ⟨lw_p24, List.forall_mem_cons.mpr ⟨lw_p25, List.forall_mem_cons.mpr ⟨lw_p26, List.forall_mem_cons.mpr ⟨lw_p27, List.forall_mem_cons.mpr ⟨lw_p28, List.forall_mem_cons.mpr ⟨lw_p29, List.forall_mem_cons.mpr ⟨lw_p30, List.forall_mem_cons.mpr ⟨lw_p31, fun _ h => absurd h List.not_mem_nil⟩⟩⟩⟩⟩⟩⟩⟩⟩⟩⟩⟩⟩⟩⟩⟩
theorem lw_p32 : lw_okq (⟨"SparePlannerModel", "changed", "(I)I"⟩, 21) := ⟨⟨by decide +kernel, by decide +kernel⟩, List.mem_of_getElem? (i := 1135) (by decide +kernel), List.mem_of_getElem? (i := 1360) (by decide +kernel), List.mem_of_getElem? (i := 1361) (by decide +kernel)⟩
theorem lw_p33 : lw_okq (⟨"SparePlannerModel", "forgetWaiting", "(I)V"⟩, 21) := ⟨⟨by decide +kernel, by decide +kernel⟩, List.mem_of_getElem? (i := 1135) (by decide +kernel), List.mem_of_getElem? (i := 1380) (by decide +kernel), List.mem_of_getElem? (i := 1381) (by decide +kernel)⟩
theorem lw_p34 : lw_okq (⟨"SparePlannerModel", "doTake", "(I)I"⟩, 21) := ⟨⟨by decide +kernel, by decide +kernel⟩, List.mem_of_getElem? (i := 1135) (by decide +kernel), List.mem_of_getElem? (i := 1388) (by decide +kernel), List.mem_of_getElem? (i := 1389) (by decide +kernel)⟩
theorem lw_p35 : lw_okq (⟨"SparePlannerModel", "goTake", "(I)I"⟩, 21) := ⟨⟨by decide +kernel, by decide +kernel⟩, List.mem_of_getElem? (i := 1135) (by decide +kernel), List.mem_of_getElem? (i := 1392) (by decide +kernel), List.mem_of_getElem? (i := 1393) (by decide +kernel)⟩
theorem lw_p36 : lw_okq (⟨"SparePlannerModel", "doGiveBack", "(IIZ)I"⟩, 21) := ⟨⟨by decide +kernel, by decide +kernel⟩, List.mem_of_getElem? (i := 1135) (by decide +kernel), List.mem_of_getElem? (i := 1408) (by decide +kernel), List.mem_of_getElem? (i := 1409) (by decide +kernel)⟩
theorem lw_p37 : lw_okq (⟨"SparePlannerModel", "serveWaiting", "()I"⟩, 21) := ⟨⟨by decide +kernel, by decide +kernel⟩, List.mem_of_getElem? (i := 1135) (by decide +kernel), List.mem_of_getElem? (i := 1412) (by decide +kernel), List.mem_of_getElem? (i := 1413) (by decide +kernel)⟩
theorem lw_p38 : lw_okq (⟨"SparePlannerModel", "doSend", "(II)I"⟩, 21) := ⟨⟨by decide +kernel, by decide +kernel⟩, List.mem_of_getElem? (i := 1135) (by decide +kernel), List.mem_of_getElem? (i := 1420) (by decide +kernel), List.mem_of_getElem? (i := 1421) (by decide +kernel)⟩
theorem lw_p39 : lw_okq (⟨"SparePlannerModel", "start", "(IIIII)V"⟩, 21) := ⟨⟨by decide +kernel, by decide +kernel⟩, List.mem_of_getElem? (i := 1135) (by decide +kernel), List.mem_of_getElem? (i := 1424) (by decide +kernel), List.mem_of_getElem? (i := 1425) (by decide +kernel)⟩
theorem lw_p40 : lw_okq (⟨"SparePlannerModel", "doAdvance", "(I)I"⟩, 21) := ⟨⟨by decide +kernel, by decide +kernel⟩, List.mem_of_getElem? (i := 1135) (by decide +kernel), List.mem_of_getElem? (i := 1440) (by decide +kernel), List.mem_of_getElem? (i := 1441) (by decide +kernel)⟩
theorem lw_p41 : lw_okq (⟨"SparePlannerModel", "endDay", "()I"⟩, 21) := ⟨⟨by decide +kernel, by decide +kernel⟩, List.mem_of_getElem? (i := 1135) (by decide +kernel), List.mem_of_getElem? (i := 1444) (by decide +kernel), List.mem_of_getElem? (i := 1445) (by decide +kernel)⟩
theorem lw_p42 : lw_okq (⟨"SparePlannerModel", "endRepairs", "()I"⟩, 21) := ⟨⟨by decide +kernel, by decide +kernel⟩, List.mem_of_getElem? (i := 1135) (by decide +kernel), List.mem_of_getElem? (i := 1448) (by decide +kernel), List.mem_of_getElem? (i := 1449) (by decide +kernel)⟩
theorem lw_p43 : lw_okq (⟨"SparePlannerModel", "forgetUnderway", "(III)V"⟩, 21) := ⟨⟨by decide +kernel, by decide +kernel⟩, List.mem_of_getElem? (i := 1135) (by decide +kernel), List.mem_of_getElem? (i := 1452) (by decide +kernel), List.mem_of_getElem? (i := 1453) (by decide +kernel)⟩
theorem lw_p44 : lw_okq (⟨"SparePlannerModel", "repairPieces", "(II)I"⟩, 21) := ⟨⟨by decide +kernel, by decide +kernel⟩, List.mem_of_getElem? (i := 1135) (by decide +kernel), List.mem_of_getElem? (i := 1456) (by decide +kernel), List.mem_of_getElem? (i := 1457) (by decide +kernel)⟩
theorem lw_p45 : lw_okq (⟨"SparePlannerModel", "receiveOrders", "()I"⟩, 21) := ⟨⟨by decide +kernel, by decide +kernel⟩, List.mem_of_getElem? (i := 1135) (by decide +kernel), List.mem_of_getElem? (i := 1460) (by decide +kernel), List.mem_of_getElem? (i := 1461) (by decide +kernel)⟩
theorem lw_p46 : lw_okq (⟨"SparePlannerModel", "wantedOf", "(I)I"⟩, 21) := ⟨⟨by decide +kernel, by decide +kernel⟩, List.mem_of_getElem? (i := 1135) (by decide +kernel), List.mem_of_getElem? (i := 1464) (by decide +kernel), List.mem_of_getElem? (i := 1465) (by decide +kernel)⟩
theorem lw_p47 : lw_okq (⟨"SparePlannerModel", "addsUp", "(I)Z"⟩, 21) := ⟨⟨by decide +kernel, by decide +kernel⟩, List.mem_of_getElem? (i := 1135) (by decide +kernel), List.mem_of_getElem? (i := 1484) (by decide +kernel), List.mem_of_getElem? (i := 1485) (by decide +kernel)⟩
def lw_privs_3 : List (MethodName × Nat) := [(⟨"SparePlannerModel", "changed", "(I)I"⟩, 21), (⟨"SparePlannerModel", "forgetWaiting", "(I)V"⟩, 21), (⟨"SparePlannerModel", "doTake", "(I)I"⟩, 21), (⟨"SparePlannerModel", "goTake", "(I)I"⟩, 21), (⟨"SparePlannerModel", "doGiveBack", "(IIZ)I"⟩, 21), (⟨"SparePlannerModel", "serveWaiting", "()I"⟩, 21), (⟨"SparePlannerModel", "doSend", "(II)I"⟩, 21), (⟨"SparePlannerModel", "start", "(IIIII)V"⟩, 21), (⟨"SparePlannerModel", "doAdvance", "(I)I"⟩, 21), (⟨"SparePlannerModel", "endDay", "()I"⟩, 21), (⟨"SparePlannerModel", "endRepairs", "()I"⟩, 21), (⟨"SparePlannerModel", "forgetUnderway", "(III)V"⟩, 21), (⟨"SparePlannerModel", "repairPieces", "(II)I"⟩, 21), (⟨"SparePlannerModel", "receiveOrders", "()I"⟩, 21), (⟨"SparePlannerModel", "wantedOf", "(I)I"⟩, 21), (⟨"SparePlannerModel", "addsUp", "(I)Z"⟩, 21)]
theorem lw_r3 : ∀ q ∈ lw_privs_3, lw_okq q := List.forall_mem_cons.mpr ⟨lw_p32, List.forall_mem_cons.mpr ⟨lw_p33, List.forall_mem_cons.mpr ⟨lw_p34, List.forall_mem_cons.mpr ⟨lw_p35, List.forall_mem_cons.mpr ⟨lw_p36, List.forall_mem_cons.mpr ⟨lw_p37, List.forall_mem_cons.mpr ⟨lw_p38, List.forall_mem_cons.mpr ⟨lw_p39, List.forall_mem_cons.mpr ⟨lw_p40, List.forall_mem_cons.mpr ⟨lw_p41, List.forall_mem_cons.mpr ⟨lw_p42, List.forall_mem_cons.mpr ⟨lw_p43, List.forall_mem_cons.mpr ⟨lw_p44, List.forall_mem_cons.mpr ⟨lw_p45, List.forall_mem_cons.mpr ⟨lw_p46, List.forall_mem_cons.mpr ⟨lw_p47, fun _ h => absurd h List.not_mem_nil⟩⟩⟩⟩⟩⟩⟩⟩⟩⟩⟩⟩⟩⟩⟩⟩
theorem lw_p48 : lw_okq (⟨"SparePlannerModel", "share", "(I)F"⟩, 21) := ⟨⟨by decide +kernel, by decide +kernel⟩, List.mem_of_getElem? (i := 1135) (by decide +kernel), List.mem_of_getElem? (i := 1492) (by decide +kernel), List.mem_of_getElem? (i := 1493) (by decide +kernel)⟩
theorem lw_p49 : lw_okq (⟨"SparePlannerModel", "countRequested", "()I"⟩, 21) := ⟨⟨by decide +kernel, by decide +kernel⟩, List.mem_of_getElem? (i := 1135) (by decide +kernel), List.mem_of_getElem? (i := 1518) (by decide +kernel), List.mem_of_getElem? (i := 1519) (by decide +kernel)⟩
theorem lw_p50 : lw_okq (⟨"SparePlannerModel", "average", "()D"⟩, 21) := ⟨⟨by decide +kernel, by decide +kernel⟩, List.mem_of_getElem? (i := 1135) (by decide +kernel), List.mem_of_getElem? (i := 1522) (by decide +kernel), List.mem_of_getElem? (i := 1523) (by decide +kernel)⟩
theorem lw_p51 : lw_okq (⟨"SparePlannerModel", "goOver", "(Z)I"⟩, 21) := ⟨⟨by decide +kernel, by decide +kernel⟩, List.mem_of_getElem? (i := 1135) (by decide +kernel), List.mem_of_getElem? (i := 1563) (by decide +kernel), List.mem_of_getElem? (i := 1564) (by decide +kernel)⟩
theorem lw_p52 : lw_okq (⟨"SparePlannerModel", "passEntry", "(Z)Z"⟩, 21) := ⟨⟨by decide +kernel, by decide +kernel⟩, List.mem_of_getElem? (i := 1135) (by decide +kernel), List.mem_of_getElem? (i := 1567) (by decide +kernel), List.mem_of_getElem? (i := 1568) (by decide +kernel)⟩
theorem lw_p53 : lw_okq (⟨"SparePlannerModel", "pass", "(CC)I"⟩, 21) := ⟨⟨by decide +kernel, by decide +kernel⟩, List.mem_of_getElem? (i := 1135) (by decide +kernel), List.mem_of_getElem? (i := 1571) (by decide +kernel), List.mem_of_getElem? (i := 1572) (by decide +kernel)⟩
theorem lw_p54 : lw_okq (⟨"SparePlannerModel", "sees", "(CC)Z"⟩, 21) := ⟨⟨by decide +kernel, by decide +kernel⟩, List.mem_of_getElem? (i := 1135) (by decide +kernel), List.mem_of_getElem? (i := 1575) (by decide +kernel), List.mem_of_getElem? (i := 1576) (by decide +kernel)⟩
theorem lw_p55 : lw_okq (⟨"SparePlannerModel", "passQuantity", "()I"⟩, 21) := ⟨⟨by decide +kernel, by decide +kernel⟩, List.mem_of_getElem? (i := 1135) (by decide +kernel), List.mem_of_getElem? (i := 1582) (by decide +kernel), List.mem_of_getElem? (i := 1583) (by decide +kernel)⟩
theorem lw_p56 : lw_okq (⟨"SparePlannerModel", "carryOut", "(CII)Z"⟩, 21) := ⟨⟨by decide +kernel, by decide +kernel⟩, List.mem_of_getElem? (i := 1135) (by decide +kernel), List.mem_of_getElem? (i := 1586) (by decide +kernel), List.mem_of_getElem? (i := 1587) (by decide +kernel)⟩
def lw_privs_4 : List (MethodName × Nat) := [(⟨"SparePlannerModel", "share", "(I)F"⟩, 21), (⟨"SparePlannerModel", "countRequested", "()I"⟩, 21), (⟨"SparePlannerModel", "average", "()D"⟩, 21), (⟨"SparePlannerModel", "goOver", "(Z)I"⟩, 21), (⟨"SparePlannerModel", "passEntry", "(Z)Z"⟩, 21), (⟨"SparePlannerModel", "pass", "(CC)I"⟩, 21), (⟨"SparePlannerModel", "sees", "(CC)Z"⟩, 21), (⟨"SparePlannerModel", "passQuantity", "()I"⟩, 21), (⟨"SparePlannerModel", "carryOut", "(CII)Z"⟩, 21)]
theorem lw_r4 : ∀ q ∈ lw_privs_4, lw_okq q := List.forall_mem_cons.mpr ⟨lw_p48, List.forall_mem_cons.mpr ⟨lw_p49, List.forall_mem_cons.mpr ⟨lw_p50, List.forall_mem_cons.mpr ⟨lw_p51, List.forall_mem_cons.mpr ⟨lw_p52, List.forall_mem_cons.mpr ⟨lw_p53, List.forall_mem_cons.mpr ⟨lw_p54, List.forall_mem_cons.mpr ⟨lw_p55, List.forall_mem_cons.mpr ⟨lw_p56, fun _ h => absurd h List.not_mem_nil⟩⟩⟩⟩⟩⟩⟩⟩⟩
def lw_privs : List (MethodName × Nat) := lw_privs_1 ++ (lw_privs_2 ++ (lw_privs_3 ++ (lw_privs_4)))
def lw_tbl : List Cond := k2_sels lw_privs ++ tables_1
theorem lw_privs_ok : ∀ q ∈ lw_privs, lw_okq q := by
  show ∀ q ∈ lw_privs_1 ++ (lw_privs_2 ++ (lw_privs_3 ++ (lw_privs_4))), lw_okq q
  exact List.forall_mem_append.mpr ⟨lw_r1, List.forall_mem_append.mpr ⟨lw_r2, List.forall_mem_append.mpr ⟨lw_r3, lw_r4⟩⟩⟩
/-- the streams that the claim lets the run draw from -/
abbrev lw_cs : List Choice := [Jvm.Choice.named "NaN.bits"]
theorem lw_bits : nanBits ∈ lw_cs := by first | decide | exact List.mem_cons_self | simp [lw_cs, nanBits]
-- ===== end of PART A; then your names; then what follows =====
end
section
/-! ===== BEGIN words of one list among another's, by their places ===== -/
theorem goodIn_r {big : List Cond} (ws : List Cond) (ps : List Nat) (hp : ws = ps.filterMap (fun i => big[i]?)) (h : ws.all goodWord = true) : GoodIn big ws := by
  intro w hw
  have h1 := List.all_eq_true.mp h w hw
  rw [hp] at hw
  obtain ⟨i, -, hi⟩ := List.mem_filterMap.mp hw
  have hm : w ∈ big := by first | exact List.mem_of_getElem? hi | exact List.getElem?_mem hi
  exact ⟨hm, good_of_word h1⟩
theorem goodIn_app {big a b : List Cond} (ha : GoodIn big a) (hb : GoodIn big b) : GoodIn big (a ++ b) := fun w h => (List.mem_append.mp h).elim (ha w) (hb w)
theorem goodIn_ca {big a b : List Cond} {c : Cond} (ha : GoodIn big (c :: a)) (hb : GoodIn big b) : GoodIn big (c :: (a ++ b)) := fun w h => (List.mem_cons.mp h).elim (fun e => ha w (List.mem_cons.mpr (Or.inl e))) (fun h => (List.mem_append.mp h).elim (fun h => ha w (List.mem_cons.mpr (Or.inr h))) (hb w))
theorem goodIn_sub {big ws : List Cond} (hm : ∀ w ∈ ws, w ∈ big) (h : ws.all goodWord = true) : GoodIn big ws := fun w hw => ⟨hm w hw, good_of_word (List.all_eq_true.mp h w hw)⟩
/-! ===== END ===== -/
/-! ===== BEGIN exceptions that leave a method, and their catching by the caller (launches without stack traces) ===== -/
section VXA
/-! The laws vx_back, vx_callV, vx_callS, vx_callSW, vx_throw0, vx_throwS follow proofs of the library, with one case more: JvmDerived/Free/Laws.lean (Back.of_free), Shelf42/LK1.lean (callV, callS), Shelf/KitTraced.lean (throwNew0V, throwNewS). -/
/-- where a method has thrown q: the class by its name, the cell, what was written, the world -/
def vx_T (XC : String → State → State → Prop) (st : State) (q : Addr) (t : State) (mc ms : Nat) (free : Addr → Prop) : Prop :=
  ∃ (E : String) (ce : Cell) (L : List Loc), XC E st t ∧ t.heap[q]? = some ce ∧ ce.vm = .none ∧ st.vm.findClass E = some ce.cls ∧ st.WarmedH t.vm ∧ st.sameButNew ({ t with vm := st.vm } : State) L mc ms ∧ ∀ z ∈ L, free z.base
def vx_Q (Qc : Array Value → State → Outcome → State → Prop) (XC : String → State → State → Prop) (mc ms : Nat) (free : Addr → Prop) : Array Value → State → Outcome → State → Prop := fun a st o t =>
  (Qc a st o t ∧ ∃ L, FrameEnd st o t L mc ms ∧ ∀ q ∈ L, free q.base) ∨ ∃ q, o = .threw q ∧ vx_T XC st q t mc ms free
/-- a callee that returns or throws -/
def vx_Met (l : Launch) (y : MethodName) (ws : List Cond) (rm : Room) (Pc : Array Value → State → Prop) (Qc : Array Value → State → Outcome → State → Prop) (XC : String → State → State → Prop) (mc ms : Nat) (free : Addr → Prop) : Prop :=
  MetFree l y (headSpec ws rm) Pc (fun _ _ _ _ _ => True) (vx_Q Qc XC mc ms free)
def vx_Post (XC : String → State → State → Prop) (mc ms : Nat) (free : Addr → Prop) : Pt → Array Value → Addr → Pt → Prop := fun A a q B =>
  ∃ (g : JFrame) (mk : MethodId) (t : State) (L : List Loc) (E : String) (ce : Cell), B.U.heap = t.heap ∧ B.U.vm = t.vm ∧ XC E (A.U.calling g mk a) t ∧ t.heap[q]? = some ce ∧ ce.vm = .none ∧ A.U.vm.findClass E = some ce.cls ∧ B.locs = A.locs ++ L ∧ (∀ z ∈ L, free z.base) ∧ B.cells = A.cells + mc ∧ B.slots = A.slots + ms
def vx_Back (l : Launch) (R : Room) (p : Program) (e : Env) (below : List Frame) (s : State) (sargs : Array Value) (y : MethodName) (len W9 : Nat)
    (Pre : Pt → Array Value → Prop) (Post : Pt → Array Value → Option Value → Pt → Prop) (PostX : Pt → Array Value → Addr → Pt → Prop) : Prop :=
  ∀ (m : MethodId) (meth : Method) (c : Code) (A : Pt) (g : JFrame) (ig : Instr) (mk : MethodId) (a : Array Value),
    Stand p l e R s m sargs below meth c A.U A.locs A.cells A.slots → g.method = m → g.locals.size = c.maxLocals → decode c.code g.pc = .ok (ig, len) →
    2 * g.monitorRoom + (g.stack.map fun v => v.category).sum ≤ W9 → A.U.methodNamed? y = some mk → Pre A a →
    (∃ (v : Option Value) (B : Pt), Stand p l e R s m sargs below meth c B.U B.locs B.cells B.slots ∧ Post A a v B ∧
      Steps p.tables e below (doInvoke e (A.U.setTop g) [] mk a).1 (B.U.setTop { g with pc := g.pc + len, stack := v.toList ++ g.stack })) ∨
    (∃ (q : Addr) (B : Pt), Stand p l e R s m sargs below meth c B.U B.locs B.cells B.slots ∧ PostX A a q B ∧
      Steps p.tables e below (doInvoke e (A.U.setTop g) [] mk a).1 ((B.U.setTop g).pushFrame (.throwing q)))
section Payer
variable {l : Launch} {R : Room} {p : Program} {e : Env} {below : List Frame} {s : State} {sargs : Array Value} {y : MethodName} {len W9 : Nat}
theorem vx_back {ws : List Cond} {rm : Room} {Pc : Array Value → State → Prop} {Qc : Array Value → State → Outcome → State → Prop} {XC : String → State → State → Prop} {mc ms : Nat} {free : Addr → Prop} {bytes : ByteArray} {maxL : Nat} {ret : Option FieldType}
    (hM : vx_Met l y ws rm Pc Qc XC mc ms free) (hblind : FrameBlind Pc) (hrc : rm.cells = mc) (hrs : rm.slots = ms)
    (hframes : rm.frames + 1 ≤ R.frames) (hlocals : W9 + (maxL + 11) + rm.locals ≤ R.locals)
    (hws : ∀ w ∈ ws, ∀ a' U, s.WarmedH U.vm → w.before a' U = true) (hcode : Cond.code y bytes maxL ret ∈ ws) (hinit : ∀ a' U, s.WarmedH U.vm → (Cond.initialized y.cls).before a' U = true) :
    vx_Back l R p e below s sargs y len W9 (PreOf R mc ms Pc) (PostOf Qc mc ms free) (vx_Post XC mc ms free) := by
  intro m meth c A g ig mk a X hg hsize hdg hW hn hp
  have h1 : (headSpec ws rm).pre.before a A.U = true := atoms_intro fun w hw => hws w hw _ _ X.warmed
  have h2 : (Cond.code y bytes maxL ret).before a A.U = true := hws _ hcode _ _ X.warmed
  have h3 : (Cond.initialized y.cls).before a A.U = true := hinit _ _ X.warmed
  have h4 : A.cells + (headSpec ws rm).room.cells ≤ R.cells := by rw [show (headSpec ws rm).room.cells = mc from hrc]; exact hp.1
  have h5 : A.slots + (headSpec ws rm).room.slots ≤ R.slots := by rw [show (headSpec ws rm).room.slots = ms from hrs]; exact hp.2.1
  have hPc : Pc a (A.U.calling g mk a) := hblind _ _ _ _ hp.2.2
  obtain ⟨U, Ls, c0, s0⟩ := A
  dsimp only [Pt.U, Pt.locs, Pt.cells, Pt.slots] at h1 h2 h3 h4 h5 X hn hPc ⊢
  obtain ⟨methY, cY, hmY, hcY, -, hlY, -, -, -, -⟩ := Cond.code_spec hn h2
  obtain ⟨kY, hkY, -⟩ := className_of_methodNamed hn
  have hinitY : kY.init = .initialized := Cond.initialized_spec (findClass_of_methodNamed hn) hkY h3
  have h : At U g.method c below := by rw [hg]; exact X.here
  have hlocals9 : W9 + (maxL + 11) + (headSpec ws rm).room.locals ≤ R.locals := hlocals
  have happ : (headSpec ws rm).appliesLoose y e.platform (U.calling g mk a) = true :=
    Spec.appliesLoose_calling (g := g) h hdg hn hkY hinitY
      (X.room_calling (g := g) (R' := (headSpec ws rm).room) hsize hmY hcY hframes (by rw [hlY]; omega) h4 h5) h1
  obtain ⟨mid, hmid⟩ := h.above
  have hfr : (U.setTop g).frames = (.java g :: mid) ++ below := by rw [State.frames_setTop' g h.top, hmid]; rfl
  obtain ⟨o, s₂, hsteps, -, hend, hq⟩ := Steps.callFree hM p X.admits X.cas X.clock (acts := []) hfr happ hPc trivial
  have hq' : vx_Q Qc XC mc ms free a (U.calling g mk a) o s₂ := hq
  rw [State.frames_setTop' g h.top] at hend
  obtain ⟨g₀, hg0⟩ := Option.isSome_iff_exists.mp h.top
  obtain ⟨r, hr⟩ := State.topJava?_eq_some.mp hg0
  have hr' : (({ U with heap := s₂.heap, slotsUsed := s₂.slotsUsed } : State).setVm s₂.vm).frames = .java g₀ :: r := hr
  rcases hq' with ⟨hqc, L, hfe, hL⟩ | ⟨q, rfl, E, ce, L, hx, hce, hcv, hcl, hW₂, hsm, hL⟩
  · obtain ⟨⟨v, rfl⟩, hW₂, e2, q2, q3, q4, q5, q6⟩ := id hfe
    have e3 : s₂ = ({ (U.calling g mk a).setFrames s₂.frames with heap := s₂.heap, slotsUsed := s₂.slotsUsed } : State).setVm s₂.vm := by
      have : s₂ = ({ s₂ with vm := (U.calling g mk a).vm } : State).setVm s₂.vm := rfl
      rw [e2] at this
      exact this
    obtain ⟨c₂, i₂, len₂, hc₂, hd₂, hf₂⟩ := hend
    have hW' : U.WarmedH s₂.vm := hW₂
    have hcc : c₂ = c := by
      have h1 : s₂.code? g.method = U.code? g.method := by
        rw [State.code?_eq, State.code?_eq, hW'.alike.method?]
      exact Option.some.inj (hc₂.symm.trans (h1.trans h.code))
    subst hcc
    have hlen : len₂ = len := by rw [hdg] at hd₂; cases hd₂; rfl
    subst hlen
    have hs₂ : s₂ = (({ U with heap := s₂.heap, slotsUsed := s₂.slotsUsed } : State).setVm s₂.vm).setTop { g with pc := g.pc + len₂, stack := v.toList ++ g.stack } := by
      refine e3.trans ?_
      rw [hf₂, State.calling_eq h.top, State.setFrames_setFrames, State.setTop_of_frames _ hr', hr]
      rfl
    have hsame : U.sameButNew ({ U with heap := s₂.heap, slotsUsed := s₂.slotsUsed } : State) L mc ms := by
      refine ⟨?_, q2, q3, q4, q5, q6⟩
      obtain ⟨t, ht, -⟩ := State.frames_cons hr
      show ({ U with heap := s₂.heap, slotsUsed := s₂.slotsUsed } : State) = { U.setFrames U.frames with heap := s₂.heap, slotsUsed := s₂.slotsUsed }
      rw [State.setFrames_self ht]
    subst hg
    refine Or.inl ⟨v, ⟨(({ U with heap := s₂.heap, slotsUsed := s₂.slotsUsed } : State).setVm s₂.vm), Ls ++ L, c0 + mc, s0 + ms⟩,
      ⟨X.admits, X.cas, X.clock, X.frames, X.room, X.hears, X.method, X.code, (X.here.setHeapUsed s₂.heap s₂.slotsUsed).setVm hW'.alike, X.tail, State.WarmedH.trans X.warmed hW', X.limits, X.bytes, X.same.trans (hsame.setVm s.vm)⟩,
      ⟨g, mk, s₂, L, rfl, rfl, hqc, rfl, hL, rfl, rfl⟩, ?_⟩
    show Steps p.tables e below _ ((({ U with heap := s₂.heap, slotsUsed := s₂.slotsUsed } : State).setVm s₂.vm).setTop { g with pc := g.pc + len₂, stack := v.toList ++ g.stack })
    rw [← hs₂]
    exact hsteps
  · obtain ⟨e2, q2, q3, q4, q5, q6⟩ := id hsm
    have e3 : s₂ = ({ (U.calling g mk a).setFrames s₂.frames with heap := s₂.heap, slotsUsed := s₂.slotsUsed } : State).setVm s₂.vm := by
      have : s₂ = ({ s₂ with vm := (U.calling g mk a).vm } : State).setVm s₂.vm := rfl
      rw [e2] at this
      exact this
    have hf₂ : s₂.frames = .throwing q :: .java g :: U.frames.tail := hend
    have hW' : U.WarmedH s₂.vm := hW₂
    have hs₂ : s₂ = ((({ U with heap := s₂.heap, slotsUsed := s₂.slotsUsed } : State).setVm s₂.vm).setTop g).pushFrame (.throwing q) := by
      refine e3.trans ?_
      rw [hf₂, State.calling_eq h.top, State.setFrames_setFrames, State.pushFrame, State.frames_setTop _ hr', State.setTop_of_frames _ hr', State.setFrames_setFrames, hr]
      rfl
    have hsame : U.sameButNew ({ U with heap := s₂.heap, slotsUsed := s₂.slotsUsed } : State) L mc ms := by
      refine ⟨?_, q2, q3, q4, q5, q6⟩
      obtain ⟨t, ht, -⟩ := State.frames_cons hr
      show ({ U with heap := s₂.heap, slotsUsed := s₂.slotsUsed } : State) = { U.setFrames U.frames with heap := s₂.heap, slotsUsed := s₂.slotsUsed }
      rw [State.setFrames_self ht]
    subst hg
    refine Or.inr ⟨q, ⟨(({ U with heap := s₂.heap, slotsUsed := s₂.slotsUsed } : State).setVm s₂.vm), Ls ++ L, c0 + mc, s0 + ms⟩,
      ⟨X.admits, X.cas, X.clock, X.frames, X.room, X.hears, X.method, X.code, (X.here.setHeapUsed s₂.heap s₂.slotsUsed).setVm hW'.alike, X.tail, State.WarmedH.trans X.warmed hW', X.limits, X.bytes, X.same.trans (hsame.setVm s.vm)⟩,
      ⟨g, mk, s₂, L, E, ce, rfl, rfl, hx, hce, hcv, hcl, rfl, hL, rfl, rfl⟩, ?_⟩
    show Steps p.tables e below _ (((({ U with heap := s₂.heap, slotsUsed := s₂.slotsUsed } : State).setVm s₂.vm).setTop g).pushFrame (.throwing q))
    rw [← hs₂]
    exact hsteps
end Payer
section Calls
variable {p : Program} {l : Launch} {e : Env} {R : Room} {s : State} {m : MethodId} {args : Array Value} {below : List Frame} {meth : Method} {c : Code} {T : State} {locs : List Loc} {cells slots : Nat}
theorem vx_callV (X : Stand p l e R s m args below meth c T locs cells slots) (hexec : p.tables.exec = Jvm.exec) {own C : String} {index : Nat} {y : MethodName} {bytes : ByteArray} {maxL : Nat} {ret : Option FieldType}
    (hown : s.vm.findClass own = some m.cls) (hlink : (Cond.methodLink own index y).before args s = true) (hinst : (Cond.instanceMethod y).before args s = true) (hsel : (Cond.selects C y y).before args s = true)
    (hcode : (Cond.code y bytes maxL ret).before args s = true) (hy : y.cls ≠ "java/lang/invoke/MethodHandle" ∧ y.cls ≠ "java/lang/invoke/VarHandle")
    {W9 : Nat} {Pre : Pt → Array Value → Prop} {Post : Pt → Array Value → Option Value → Pt → Prop} {PostX : Pt → Array Value → Addr → Pt → Prop} (hK : vx_Back l R p e below s args y 3 W9 Pre Post PostX)
    {b : Addr} {cellB : Cell} (hcell : T.heap[b]? = some cellB) (hobj : cellB.vm.isStatics = false) (hcls : s.vm.findClass C = some cellB.cls)
    {g : JFrame} (hg : g.method = m) (hsize : g.locals.size = c.maxLocals) {argsL rest : List Value} (hlen : ∀ sig, parseMethodDescriptor y.desc = some sig → argsL.length = sig.parameters.length)
    (hstack : g.stack = argsL.reverse ++ .ref b :: rest) (hW : 2 * g.monitorRoom + (rest.map fun v => v.category).sum ≤ W9) (hdg : decode c.code g.pc = .ok (.invokevirtual index, 3))
    (hpre : ∀ vm₁, s.WarmedH vm₁ → Pre ⟨T.setVm vm₁, locs, cells, slots⟩ (Value.ref b :: argsL).toArray) :
    (∃ (v : Option Value) (vm₁ : Vm) (B : Pt), s.WarmedH vm₁ ∧ Stand p l e R s m args below meth c B.U B.locs B.cells B.slots ∧ Post ⟨T.setVm vm₁, locs, cells, slots⟩ (Value.ref b :: argsL).toArray v B ∧
      ∀ target, Steps p.tables e below (B.U.setTop { g with pc := g.pc + 3, stack := v.toList ++ rest }) target → Steps p.tables e below (T.setTop g) target) ∨
    (∃ (q : Addr) (vm₁ : Vm) (B : Pt), s.WarmedH vm₁ ∧ Stand p l e R s m args below meth c B.U B.locs B.cells B.slots ∧ PostX ⟨T.setVm vm₁, locs, cells, slots⟩ (Value.ref b :: argsL).toArray q B ∧
      Steps p.tables e below (T.setTop g) ((B.U.setTop { g with stack := rest }).pushFrame (.throwing q))) := by
  obtain ⟨mk, methM, hnamed, hmethM, hstM, habM⟩ := Cond.instanceMethod_spec hinst
  obtain ⟨methM', cM, hmethM', -, -, -, -, -, -, hsigM⟩ := Cond.code_spec hnamed hcode
  cases hmethM.symm.trans hmethM'
  obtain ⟨c2, r2, m2, q1, q2, q3, q4, kP, hkP, hkPi⟩ := Cond.selects_spec hsel
  cases hcls.symm.trans q1
  cases (State.methodFound?_of_named hnamed hy).symm.trans q2
  cases hnamed.symm.trans q3
  have hselP : selectMethod e.platform s.vm cellB.cls mk = .method mk := by rw [Launch.admits_selectMethod X.admits]; exact q4
  obtain ⟨vm₁, X₁, hstep₁⟩ := X.invokevirtual hexec hown hlink hnamed hmethM hstM hkP hkPi hy (a := b) (cell := cellB) hcell
    (fun z h => by rw [h] at hobj; cases hobj) hselP hmethM habM hkP hkPi (g := g) hg (argsL := argsL) (rest := rest) (hlen _ hsigM) hstack hdg
  rcases hK m meth c ⟨T.setVm vm₁, locs, cells, slots⟩ { g with stack := rest } (.invokevirtual index) mk (Value.ref b :: argsL).toArray X₁ hg hsize hdg hW (X₁.named hnamed) (hpre vm₁ X₁.warmed) with ⟨v, B, X', hpost, hsteps⟩ | ⟨q, B, X', hpost, hsteps⟩
  · exact Or.inl ⟨v, vm₁, B, X₁.warmed, X', hpost, fun target h => hstep₁ _ fun acts => by rw [doInvoke_state]; exact hsteps.trans h⟩
  · exact Or.inr ⟨q, vm₁, B, X₁.warmed, X', hpost, hstep₁ _ fun acts => by rw [doInvoke_state]; exact hsteps⟩
theorem vx_callS (X : Stand p l e R s m args below meth c T locs cells slots) (hexec : p.tables.exec = Jvm.exec) {own : String} {index : Nat} {y : MethodName} {bytes : ByteArray} {maxL : Nat} {ret : Option FieldType}
    (hown : s.vm.findClass own = some m.cls) (hlink : (Cond.methodLink own index y).before args s = true) (hstat : (Cond.static y).before args s = true) (hinit : (Cond.initialized y.cls).before args s = true)
    (hcode : (Cond.code y bytes maxL ret).before args s = true) (hy : y.cls ≠ "java/lang/invoke/MethodHandle" ∧ y.cls ≠ "java/lang/invoke/VarHandle")
    {W9 : Nat} {Pre : Pt → Array Value → Prop} {Post : Pt → Array Value → Option Value → Pt → Prop} {PostX : Pt → Array Value → Addr → Pt → Prop} (hK : vx_Back l R p e below s args y 3 W9 Pre Post PostX)
    {g : JFrame} (hg : g.method = m) (hsize : g.locals.size = c.maxLocals) {argsL rest : List Value} (hlen : ∀ sig, parseMethodDescriptor y.desc = some sig → argsL.length = sig.parameters.length)
    (hstack : g.stack = argsL.reverse ++ rest) (hW : 2 * g.monitorRoom + (rest.map fun v => v.category).sum ≤ W9) (hdg : decode c.code g.pc = .ok (.invokestatic index, 3))
    (hpre : ∀ vm₁, s.WarmedH vm₁ → Pre ⟨T.setVm vm₁, locs, cells, slots⟩ argsL.toArray) :
    (∃ (v : Option Value) (vm₁ : Vm) (B : Pt), s.WarmedH vm₁ ∧ Stand p l e R s m args below meth c B.U B.locs B.cells B.slots ∧ Post ⟨T.setVm vm₁, locs, cells, slots⟩ argsL.toArray v B ∧
      ∀ target, Steps p.tables e below (B.U.setTop { g with pc := g.pc + 3, stack := v.toList ++ rest }) target → Steps p.tables e below (T.setTop g) target) ∨
    (∃ (q : Addr) (vm₁ : Vm) (B : Pt), s.WarmedH vm₁ ∧ Stand p l e R s m args below meth c B.U B.locs B.cells B.slots ∧ PostX ⟨T.setVm vm₁, locs, cells, slots⟩ argsL.toArray q B ∧
      Steps p.tables e below (T.setTop g) ((B.U.setTop { g with stack := rest }).pushFrame (.throwing q))) := by
  obtain ⟨mk, hnamed⟩ := Cond.code_named hcode
  obtain ⟨methM, cM, hmethM, -, -, -, -, -, -, hsigM⟩ := Cond.code_spec hnamed hcode
  have hstatic : methM.isStatic = true := Cond.static_spec hnamed hmethM hstat
  obtain ⟨kP, hkP, -⟩ := className_of_methodNamed hnamed
  have hinitP : kP.init = .initialized := Cond.initialized_spec (findClass_of_methodNamed hnamed) hkP hinit
  obtain ⟨vm₁, X₁, hstep₁⟩ := X.invokestatic hexec hown hlink hnamed hmethM hstatic hkP hinitP hy (g := g) hg (argsL := argsL) (rest := rest) (hlen _ hsigM) hstack hdg
  rcases hK m meth c ⟨T.setVm vm₁, locs, cells, slots⟩ { g with stack := rest } (.invokestatic index) mk argsL.toArray X₁ hg hsize hdg hW (X₁.named hnamed) (hpre vm₁ X₁.warmed) with ⟨v, B, X', hpost, hsteps⟩ | ⟨q, B, X', hpost, hsteps⟩
  · exact Or.inl ⟨v, vm₁, B, X₁.warmed, X', hpost, fun target h => hstep₁ _ fun acts => by rw [doInvoke_state]; exact hsteps.trans h⟩
  · exact Or.inr ⟨q, vm₁, B, X₁.warmed, X', hpost, hstep₁ _ fun acts => by rw [doInvoke_state]; exact hsteps⟩
end Calls
theorem vx_cls {s : State} {T : State} {vm₁ : Vm} {E : String} {k : ClassId} (hW : s.WarmedH vm₁) (h : (T.setVm vm₁).vm.findClass E = some k) : s.vm.findClass E = some k := by
  have h1 : vm₁.findClass E = some k := h
  rw [hW.alike.findClass] at h1
  exact h1
/-- the method's frame g, with q thrown over it -/
def vx_W (p : Program) (l : Launch) (e : Env) (R : Room) (s : State) (m : MethodId) (args : Array Value) (below : List Frame) (meth : Method) (c : Code) (H : Heap) (locs : List Loc) (cells slots : Nat) (Q : State → Prop) (g : JFrame) (q : Addr) : Prop :=
  ∀ T : State, T.heap = H → Stand p l e R s m args below meth c T locs cells slots → ∃ t, Steps p.tables e below ((T.setTop g).pushFrame (.throwing q)) t ∧ Q t
def vx_Run (p : Program) (l : Launch) (e : Env) (R : Room) (s : State) (m : MethodId) (args : Array Value) (below : List Frame) (meth : Method) (c : Code) (H : Heap) (locs : List Loc) (cells slots mc ms : Nat) (g : JFrame) (rest : List Value) (Qa : State → Outcome → State → Prop) (XC : String → State → State → Prop) (free : Addr → Prop) : Prop :=
  ∀ T : State, T.heap = H → Stand p l e R s m args below meth c T locs cells slots →
    (∃ (v : Option Value) (st₀ t T' : State) (L : List Loc), st₀.heap = H ∧ Stand p l e R s m args below meth c T' (locs ++ L) (cells + mc) (slots + ms) ∧ (∀ q ∈ L, free q.base) ∧ T'.heap = t.heap ∧ T'.vm = t.vm ∧ Qa st₀ (.returned v) t ∧
      Goes p e below T g T' { g with pc := g.pc + 3, stack := v.toList ++ rest }) ∨
    (∃ (q : Addr) (st₀ t T' : State) (L : List Loc) (E : String) (ce : Cell), st₀.heap = H ∧ Stand p l e R s m args below meth c T' (locs ++ L) (cells + mc) (slots + ms) ∧ (∀ z ∈ L, free z.base) ∧ T'.heap = t.heap ∧ T'.vm = t.vm ∧ XC E st₀ t ∧ t.heap[q]? = some ce ∧ ce.vm = .none ∧ s.vm.findClass E = some ce.cls ∧
      Steps p.tables e below (T.setTop g) ((T'.setTop { g with stack := rest }).pushFrame (.throwing q)))
def vx_X {S : Type} (px : S → Prop) (B : String → S → State → Prop) (A : Nat → Prop) : String → State → State → Prop := fun E st t => ∃ u : S, px u ∧ B E u t ∧ va_F A st t
section Runs
variable {p : Program} {l : Launch} {e : Env} {R : Room} {s : State} {m : MethodId} {args : Array Value} {below : List Frame} {meth : Method} {c : Code} {H : Heap} {locs : List Loc} {cells slots : Nat}
variable {y : MethodName} {bytes cc : ByteArray} {maxL nL mc ms n index : Nat} {ret : Option FieldType} {ws : List Cond} {rm : Room} {Pc : Array Value → State → Prop} {Qc : Array Value → State → Outcome → State → Prop} {XC : String → State → State → Prop} {free : Addr → Prop} {Ts : List Cond} {own C : String} {b : Addr} {As rest : List Value} {g : JFrame}
theorem vx_callBack (cb : CallB R s args own index y bytes maxL ret ws rm mc ms n) (hM : vx_Met l y ws rm Pc Qc XC mc ms free) (hbl : FrameBlind Pc) : vx_Back l R p e below s args y 3 8 (PreOf R mc ms Pc) (PostOf Qc mc ms free) (vx_Post XC mc ms free) := by
  obtain ⟨hrc, hrs, hfr, hlo, hws, hcw, -, hini, -⟩ := cb
  exact vx_back (bytes := bytes) (maxL := maxL) (ret := ret) hM hbl hrc hrs hfr hlo hws hcw (fun a' U hW => word_at hW (Or.inl (by first | rfl | simp [Cond.onTables, Cond.keeps, Cond.steady])) hini)
theorem vx_runV (S : CallFix p m c cc nL s args Ts own) (hM : vx_Met l y ws rm Pc Qc XC mc ms free) (cw : CallW R s args own C index y bytes maxL ret ws rm mc ms n) (hp : PreV s H C b Pc As)
    (hg : g.method = m) (hn : As.length = n) (hsize : g.locals.size = nL) (hstack : g.stack = As.reverse ++ .ref b :: rest) (hW : 2 * g.monitorRoom + (rest.map fun v => v.category).sum ≤ 8) (hdg : decode cc g.pc = .ok (.invokevirtual index, 3)) (hf : cells + mc ≤ R.cells ∧ slots + ms ≤ R.slots) :
    vx_Run p l e R s m args below meth c H locs cells slots mc ms g rest (Qc (Value.ref b :: As).toArray) XC free := by
  have hK : vx_Back l R p e below s args y 3 8 (PreOf R mc ms Pc) (PostOf Qc mc ms free) (vx_Post XC mc ms free) := vx_callBack cw.1 hM hp.1
  obtain ⟨⟨-, -, -, -, -, -, hcode, -, hy, hlen, hl⟩, hin, hse⟩ := cw
  obtain ⟨hx, hb, hml, ho, -⟩ := S
  obtain ⟨-, ⟨cellB, hcB, hoB, hclB⟩, hPc⟩ := hp
  intro T hT X
  rcases vx_callV X hx (C := C) (bytes := bytes) (maxL := maxL) (ret := ret) ho hl hin hse hcode hy hK (by rw [hT]; exact hcB) hoB hclB hg (hsize.trans hml.symm) (argsL := As) (rest := rest) (fun sig h => hn.trans (hlen sig h)) hstack hW (by rw [hb]; exact hdg)
    (fun vm₁ hW₁ => ⟨hf.1, hf.2, hPc (T.setVm vm₁) hT hW₁⟩) with ⟨v, vm₁, ⟨U', l2, c2, s2⟩, hW₁, X', ⟨g', mk, t, L, e1, e2, hq, h1, hL, h2, h3⟩, st⟩ | ⟨q, vm₁, ⟨U', l2, c2, s2⟩, hW₁, X', ⟨g', mk, t, L, E, ce, e1, e2, hq, hce, hcv, hcl, h1, hL, h2, h3⟩, st⟩
  · dsimp only [Pt.U, Pt.locs, Pt.cells, Pt.slots] at X' e1 e2 h1 h2 h3 st
    subst h1; subst h2; subst h3
    exact Or.inl ⟨v, (T.setVm vm₁).calling g' mk (Value.ref b :: As).toArray, t, U', L, hT, X', hL, e1, e2, hq, st⟩
  · dsimp only [Pt.U, Pt.locs, Pt.cells, Pt.slots] at X' e1 e2 h1 h2 h3 st hcl
    subst h1; subst h2; subst h3
    exact Or.inr ⟨q, (T.setVm vm₁).calling g' mk (Value.ref b :: As).toArray, t, U', L, E, ce, hT, X', hL, e1, e2, hq, hce, hcv, vx_cls hW₁ hcl, st⟩
theorem vx_runS (S : CallFix p m c cc nL s args Ts own) (hM : vx_Met l y ws rm Pc Qc XC mc ms free) (cw : CallB R s args own index y bytes maxL ret ws rm mc ms n ∧ (Cond.static y).before args s = true) (hp : PreS s H Pc As)
    (hg : g.method = m) (hn : As.length = n) (hsize : g.locals.size = nL) (hstack : g.stack = As.reverse ++ rest) (hW : 2 * g.monitorRoom + (rest.map fun v => v.category).sum ≤ 8) (hdg : decode cc g.pc = .ok (.invokestatic index, 3)) (hf : cells + mc ≤ R.cells ∧ slots + ms ≤ R.slots) :
    vx_Run p l e R s m args below meth c H locs cells slots mc ms g rest (Qc As.toArray) XC free := by
  have hK : vx_Back l R p e below s args y 3 8 (PreOf R mc ms Pc) (PostOf Qc mc ms free) (vx_Post XC mc ms free) := vx_callBack cw.1 hM hp.1
  obtain ⟨⟨-, -, -, -, -, -, hcode, hini, hy, hlen, hl⟩, hstt⟩ := cw
  obtain ⟨hx, hb, hml, ho, -⟩ := S
  intro T hT X
  rcases vx_callS X hx (bytes := bytes) (maxL := maxL) (ret := ret) ho hl hstt hini hcode hy hK hg (hsize.trans hml.symm) (argsL := As) (rest := rest) (fun sig h => hn.trans (hlen sig h)) hstack hW (by rw [hb]; exact hdg)
    (fun vm₁ hW₁ => ⟨hf.1, hf.2, hp.2 (T.setVm vm₁) hT hW₁⟩) with ⟨v, vm₁, ⟨U', l2, c2, s2⟩, hW₁, X', ⟨g', mk, t, L, e1, e2, hq, h1, hL, h2, h3⟩, st⟩ | ⟨q, vm₁, ⟨U', l2, c2, s2⟩, hW₁, X', ⟨g', mk, t, L, E, ce, e1, e2, hq, hce, hcv, hcl, h1, hL, h2, h3⟩, st⟩
  · dsimp only [Pt.U, Pt.locs, Pt.cells, Pt.slots] at X' e1 e2 h1 h2 h3 st
    subst h1; subst h2; subst h3
    exact Or.inl ⟨v, (T.setVm vm₁).calling g' mk As.toArray, t, U', L, hT, X', hL, e1, e2, hq, st⟩
  · dsimp only [Pt.U, Pt.locs, Pt.cells, Pt.slots] at X' e1 e2 h1 h2 h3 st hcl
    subst h1; subst h2; subst h3
    exact Or.inr ⟨q, (T.setVm vm₁).calling g' mk As.toArray, t, U', L, E, ce, hT, X', hL, e1, e2, hq, hce, hcv, vx_cls hW₁ hcl, st⟩
end Runs
section Rows
variable {p : Program} {l : Launch} {e : Env} {R : Room} {s : State} {m : MethodId} {args : Array Value} {below : List Frame} {meth : Method} {c : Code} {H : Heap} {locs : List Loc} {cells slots : Nat} {Q : State → Prop}
variable {mc ms : Nat} {free : Addr → Prop} {A0 A1 : Nat → Prop} {H0 : Heap} {a : Array Value} {pc : Nat} {ls : Array Slot} {st0 rest : List Value}
theorem vx_keep {st₀ t T' : State} {L : List Loc} (h0 : st₀.heap = H) (e1 : T'.heap = t.heap) (hS : va_S A0 H0 H locs) (hA : ∀ q, q < H.size → A1 q → A0 q) (hf : ∀ q, free q → A0 q) (hL : ∀ q ∈ L, free q.base) (hF : va_F A1 st₀ t) :
    H.size ≤ T'.heap.size ∧ (∀ q : Nat, q < H.size → ¬ A1 q → T'.heap[q]? = H[q]?) ∧ va_S A0 H0 T'.heap (locs ++ L) := by
  obtain ⟨hz, hk⟩ := hF
  rw [h0] at hz hk
  exact ⟨by rw [e1]; exact hz, fun q h1 h2 => by rw [e1]; exact hk q h1 h2,
    ⟨Nat.le_trans hS.1 (by rw [e1]; exact hz), fun q h1 h2 => by rw [e1, hk q (Nat.lt_of_lt_of_le h1 hS.1) (fun z => h2 (hA q (Nat.lt_of_lt_of_le h1 hS.1) z))]; exact hS.2.1 q h1 h2, fun q hq => by
      rcases List.mem_append.mp hq with h | h
      · exact hS.2.2 q h
      · exact hf _ (hL q h)⟩⟩
theorem vx_calli {S SX : Type} {post : Int32 → S → Prop} {px : SX → Prop} {B : S → State → Prop} {BX : String → SX → State → Prop} {AX : Nat → Prop} (hr : vx_Run p l e R s m args below meth c H locs cells slots mc ms (F0 m pc ls st0) rest (va_Qi post B A1 a) (vx_X px BX AX) free) (hS : va_S A0 H0 H locs) (hA : ∀ q, q < H.size → A1 q → A0 q) (hf : ∀ q, free q → A0 q) (hAX : ∀ q, q < H.size → AX q → A0 q)
    (kx : ∀ (E : String) (ce : Cell) (q9 : Addr) (u : SX) (t : State) (H1 : Heap) (locs1 : List Loc), t.heap = H1 → s.vm.Alike t.vm → px u → BX E u t → H.size ≤ H1.size → (∀ q : Nat, q < H.size → ¬ AX q → H1[q]? = H[q]?) → va_S A0 H0 H1 locs1 → H1[q9]? = some ce → ce.vm = .none → s.vm.findClass E = some ce.cls → vx_W p l e R s m args below meth c H1 locs1 (cells + mc) (slots + ms) Q (F0 m pc ls rest) q9)
    (kk : ∀ (r : Int32) (u : S) (t : State) (H1 : Heap) (locs1 : List Loc), t.heap = H1 → s.vm.Alike t.vm → post r u → B u t → H.size ≤ H1.size → (∀ q : Nat, q < H.size → ¬ A1 q → H1[q]? = H[q]?) → va_S A0 H0 H1 locs1 → W p l e R s m args below meth c H1 locs1 (cells + mc) (slots + ms) Q (F0 m (pc + 3) ls (.int r :: rest))) : W p l e R s m args below meth c H locs cells slots Q (F0 m pc ls st0) := by
  intro T hT X
  rcases hr T hT X with ⟨v, st₀, t, T', L, h0, X', hL, e1, e2, ⟨⟨r, u, hv, hp, hb⟩, hF⟩, st⟩ | ⟨q, st₀, t, T', L, E, ce, h0, X', hL, e1, e2, ⟨u, hp, hb, hF⟩, hce, hcv, hcl, st⟩
  · cases hv
    obtain ⟨k1, k2, k3⟩ := vx_keep h0 e1 hS hA hf hL hF
    obtain ⟨t2, a1, b1⟩ := kk r u t T'.heap (locs ++ L) e1.symm (by rw [← e2]; exact X'.warmed.alike) hp hb k1 k2 k3 T' rfl X'
    exact ⟨t2, st t2 a1, b1⟩
  · obtain ⟨k1, k2, k3⟩ := vx_keep h0 e1 hS hAX hf hL hF
    obtain ⟨t2, a1, b1⟩ := kx E ce q u t T'.heap (locs ++ L) e1.symm (by rw [← e2]; exact X'.warmed.alike) hp hb k1 k2 k3 (by rw [e1]; exact hce) hcv hcl T' rfl X'
    exact ⟨t2, st.trans a1, b1⟩
theorem vx_calll {S SX : Type} {post : Int64 → S → Prop} {px : SX → Prop} {B : S → State → Prop} {BX : String → SX → State → Prop} {AX : Nat → Prop} (hr : vx_Run p l e R s m args below meth c H locs cells slots mc ms (F0 m pc ls st0) rest (va_Ql post B A1 a) (vx_X px BX AX) free) (hS : va_S A0 H0 H locs) (hA : ∀ q, q < H.size → A1 q → A0 q) (hf : ∀ q, free q → A0 q) (hAX : ∀ q, q < H.size → AX q → A0 q)
    (kx : ∀ (E : String) (ce : Cell) (q9 : Addr) (u : SX) (t : State) (H1 : Heap) (locs1 : List Loc), t.heap = H1 → s.vm.Alike t.vm → px u → BX E u t → H.size ≤ H1.size → (∀ q : Nat, q < H.size → ¬ AX q → H1[q]? = H[q]?) → va_S A0 H0 H1 locs1 → H1[q9]? = some ce → ce.vm = .none → s.vm.findClass E = some ce.cls → vx_W p l e R s m args below meth c H1 locs1 (cells + mc) (slots + ms) Q (F0 m pc ls rest) q9)
    (kk : ∀ (r : Int64) (u : S) (t : State) (H1 : Heap) (locs1 : List Loc), t.heap = H1 → s.vm.Alike t.vm → post r u → B u t → H.size ≤ H1.size → (∀ q : Nat, q < H.size → ¬ A1 q → H1[q]? = H[q]?) → va_S A0 H0 H1 locs1 → W p l e R s m args below meth c H1 locs1 (cells + mc) (slots + ms) Q (F0 m (pc + 3) ls (.long r :: rest))) : W p l e R s m args below meth c H locs cells slots Q (F0 m pc ls st0) := by
  intro T hT X
  rcases hr T hT X with ⟨v, st₀, t, T', L, h0, X', hL, e1, e2, ⟨⟨r, u, hv, hp, hb⟩, hF⟩, st⟩ | ⟨q, st₀, t, T', L, E, ce, h0, X', hL, e1, e2, ⟨u, hp, hb, hF⟩, hce, hcv, hcl, st⟩
  · cases hv
    obtain ⟨k1, k2, k3⟩ := vx_keep h0 e1 hS hA hf hL hF
    obtain ⟨t2, a1, b1⟩ := kk r u t T'.heap (locs ++ L) e1.symm (by rw [← e2]; exact X'.warmed.alike) hp hb k1 k2 k3 T' rfl X'
    exact ⟨t2, st t2 a1, b1⟩
  · obtain ⟨k1, k2, k3⟩ := vx_keep h0 e1 hS hAX hf hL hF
    obtain ⟨t2, a1, b1⟩ := kx E ce q u t T'.heap (locs ++ L) e1.symm (by rw [← e2]; exact X'.warmed.alike) hp hb k1 k2 k3 (by rw [e1]; exact hce) hcv hcl T' rfl X'
    exact ⟨t2, st.trans a1, b1⟩
theorem vx_callf {S SX : Type} {post : UInt32 → S → Prop} {px : SX → Prop} {B : S → State → Prop} {BX : String → SX → State → Prop} {AX : Nat → Prop} (hr : vx_Run p l e R s m args below meth c H locs cells slots mc ms (F0 m pc ls st0) rest (va_Qf post B A1 a) (vx_X px BX AX) free) (hS : va_S A0 H0 H locs) (hA : ∀ q, q < H.size → A1 q → A0 q) (hf : ∀ q, free q → A0 q) (hAX : ∀ q, q < H.size → AX q → A0 q)
    (kx : ∀ (E : String) (ce : Cell) (q9 : Addr) (u : SX) (t : State) (H1 : Heap) (locs1 : List Loc), t.heap = H1 → s.vm.Alike t.vm → px u → BX E u t → H.size ≤ H1.size → (∀ q : Nat, q < H.size → ¬ AX q → H1[q]? = H[q]?) → va_S A0 H0 H1 locs1 → H1[q9]? = some ce → ce.vm = .none → s.vm.findClass E = some ce.cls → vx_W p l e R s m args below meth c H1 locs1 (cells + mc) (slots + ms) Q (F0 m pc ls rest) q9)
    (kk : ∀ (r : UInt32) (u : S) (t : State) (H1 : Heap) (locs1 : List Loc), t.heap = H1 → s.vm.Alike t.vm → post r u → B u t → H.size ≤ H1.size → (∀ q : Nat, q < H.size → ¬ A1 q → H1[q]? = H[q]?) → va_S A0 H0 H1 locs1 → W p l e R s m args below meth c H1 locs1 (cells + mc) (slots + ms) Q (F0 m (pc + 3) ls (.float r :: rest))) : W p l e R s m args below meth c H locs cells slots Q (F0 m pc ls st0) := by
  intro T hT X
  rcases hr T hT X with ⟨v, st₀, t, T', L, h0, X', hL, e1, e2, ⟨⟨r, u, hv, hp, hb⟩, hF⟩, st⟩ | ⟨q, st₀, t, T', L, E, ce, h0, X', hL, e1, e2, ⟨u, hp, hb, hF⟩, hce, hcv, hcl, st⟩
  · cases hv
    obtain ⟨k1, k2, k3⟩ := vx_keep h0 e1 hS hA hf hL hF
    obtain ⟨t2, a1, b1⟩ := kk r u t T'.heap (locs ++ L) e1.symm (by rw [← e2]; exact X'.warmed.alike) hp hb k1 k2 k3 T' rfl X'
    exact ⟨t2, st t2 a1, b1⟩
  · obtain ⟨k1, k2, k3⟩ := vx_keep h0 e1 hS hAX hf hL hF
    obtain ⟨t2, a1, b1⟩ := kx E ce q u t T'.heap (locs ++ L) e1.symm (by rw [← e2]; exact X'.warmed.alike) hp hb k1 k2 k3 (by rw [e1]; exact hce) hcv hcl T' rfl X'
    exact ⟨t2, st.trans a1, b1⟩
theorem vx_calld {S SX : Type} {post : UInt64 → S → Prop} {px : SX → Prop} {B : S → State → Prop} {BX : String → SX → State → Prop} {AX : Nat → Prop} (hr : vx_Run p l e R s m args below meth c H locs cells slots mc ms (F0 m pc ls st0) rest (va_Qd post B A1 a) (vx_X px BX AX) free) (hS : va_S A0 H0 H locs) (hA : ∀ q, q < H.size → A1 q → A0 q) (hf : ∀ q, free q → A0 q) (hAX : ∀ q, q < H.size → AX q → A0 q)
    (kx : ∀ (E : String) (ce : Cell) (q9 : Addr) (u : SX) (t : State) (H1 : Heap) (locs1 : List Loc), t.heap = H1 → s.vm.Alike t.vm → px u → BX E u t → H.size ≤ H1.size → (∀ q : Nat, q < H.size → ¬ AX q → H1[q]? = H[q]?) → va_S A0 H0 H1 locs1 → H1[q9]? = some ce → ce.vm = .none → s.vm.findClass E = some ce.cls → vx_W p l e R s m args below meth c H1 locs1 (cells + mc) (slots + ms) Q (F0 m pc ls rest) q9)
    (kk : ∀ (r : UInt64) (u : S) (t : State) (H1 : Heap) (locs1 : List Loc), t.heap = H1 → s.vm.Alike t.vm → post r u → B u t → H.size ≤ H1.size → (∀ q : Nat, q < H.size → ¬ A1 q → H1[q]? = H[q]?) → va_S A0 H0 H1 locs1 → W p l e R s m args below meth c H1 locs1 (cells + mc) (slots + ms) Q (F0 m (pc + 3) ls (.double r :: rest))) : W p l e R s m args below meth c H locs cells slots Q (F0 m pc ls st0) := by
  intro T hT X
  rcases hr T hT X with ⟨v, st₀, t, T', L, h0, X', hL, e1, e2, ⟨⟨r, u, hv, hp, hb⟩, hF⟩, st⟩ | ⟨q, st₀, t, T', L, E, ce, h0, X', hL, e1, e2, ⟨u, hp, hb, hF⟩, hce, hcv, hcl, st⟩
  · cases hv
    obtain ⟨k1, k2, k3⟩ := vx_keep h0 e1 hS hA hf hL hF
    obtain ⟨t2, a1, b1⟩ := kk r u t T'.heap (locs ++ L) e1.symm (by rw [← e2]; exact X'.warmed.alike) hp hb k1 k2 k3 T' rfl X'
    exact ⟨t2, st t2 a1, b1⟩
  · obtain ⟨k1, k2, k3⟩ := vx_keep h0 e1 hS hAX hf hL hF
    obtain ⟨t2, a1, b1⟩ := kx E ce q u t T'.heap (locs ++ L) e1.symm (by rw [← e2]; exact X'.warmed.alike) hp hb k1 k2 k3 (by rw [e1]; exact hce) hcv hcl T' rfl X'
    exact ⟨t2, st.trans a1, b1⟩
theorem vx_callv {S SX : Type} {post : S → Prop} {px : SX → Prop} {B : S → State → Prop} {BX : String → SX → State → Prop} {AX : Nat → Prop} (hr : vx_Run p l e R s m args below meth c H locs cells slots mc ms (F0 m pc ls st0) rest (va_Qv post B A1 a) (vx_X px BX AX) free) (hS : va_S A0 H0 H locs) (hA : ∀ q, q < H.size → A1 q → A0 q) (hf : ∀ q, free q → A0 q) (hAX : ∀ q, q < H.size → AX q → A0 q)
    (kx : ∀ (E : String) (ce : Cell) (q9 : Addr) (u : SX) (t : State) (H1 : Heap) (locs1 : List Loc), t.heap = H1 → s.vm.Alike t.vm → px u → BX E u t → H.size ≤ H1.size → (∀ q : Nat, q < H.size → ¬ AX q → H1[q]? = H[q]?) → va_S A0 H0 H1 locs1 → H1[q9]? = some ce → ce.vm = .none → s.vm.findClass E = some ce.cls → vx_W p l e R s m args below meth c H1 locs1 (cells + mc) (slots + ms) Q (F0 m pc ls rest) q9)
    (kk : ∀ (u : S) (t : State) (H1 : Heap) (locs1 : List Loc), t.heap = H1 → s.vm.Alike t.vm → post u → B u t → H.size ≤ H1.size → (∀ q : Nat, q < H.size → ¬ A1 q → H1[q]? = H[q]?) → va_S A0 H0 H1 locs1 → W p l e R s m args below meth c H1 locs1 (cells + mc) (slots + ms) Q (F0 m (pc + 3) ls (rest))) : W p l e R s m args below meth c H locs cells slots Q (F0 m pc ls st0) := by
  intro T hT X
  rcases hr T hT X with ⟨v, st₀, t, T', L, h0, X', hL, e1, e2, ⟨⟨u, hv, hp, hb⟩, hF⟩, st⟩ | ⟨q, st₀, t, T', L, E, ce, h0, X', hL, e1, e2, ⟨u, hp, hb, hF⟩, hce, hcv, hcl, st⟩
  · cases hv
    obtain ⟨k1, k2, k3⟩ := vx_keep h0 e1 hS hA hf hL hF
    obtain ⟨t2, a1, b1⟩ := kk u t T'.heap (locs ++ L) e1.symm (by rw [← e2]; exact X'.warmed.alike) hp hb k1 k2 k3 T' rfl X'
    exact ⟨t2, st t2 a1, b1⟩
  · obtain ⟨k1, k2, k3⟩ := vx_keep h0 e1 hS hAX hf hL hF
    obtain ⟨t2, a1, b1⟩ := kx E ce q u t T'.heap (locs ++ L) e1.symm (by rw [← e2]; exact X'.warmed.alike) hp hb k1 k2 k3 (by rw [e1]; exact hce) hcv hcl T' rfl X'
    exact ⟨t2, st.trans a1, b1⟩
/-- caught by the row x of this method's table; the rows ahead don't take it -/
theorem vx_catch {own name : String} {E : String} {ce : Cell} {q : Addr} (hown : s.vm.findClass own = some m.cls) (pre : List ExceptionTableEntry) (x : ExceptionTableEntry) (suf : List ExceptionTableEntry) (hsplit : c.exceptionTable.toList = pre ++ x :: suf)
    (hpass : ∀ z ∈ pre, covers z pc = false ∨ (z.catchType ≠ 0 ∧ ∃ nm : String, (Cond.classLink own z.catchType nm).before args s = true ∧ va_Nc E nm s)) (hx : covers x pc = true) (h0 : x.catchType ≠ 0)
    (hlink : (Cond.classLink own x.catchType name).before args s = true) (hcast : (Cond.castable E name).before args s = true) (hcell : H[q]? = some ce) (hv : ce.vm = .none) (hcl : s.vm.findClass E = some ce.cls)
    (kk : W p l e R s m args below meth c H locs cells slots Q (F0 m x.handlerPc ls [.ref q])) : vx_W p l e R s m args below meth c H locs cells slots Q (F0 m pc ls rest) q := by
  intro T hT X
  have hpl : e.platform.magicAccessors = ({} : Platform).magicAccessors := by rw [X.admits.platform]
  obtain ⟨c3, c4, hc3, hc4, hasg⟩ := Cond.castable_spec hcast
  cases Option.some.inj (hc3.symm.trans hcl)
  obtain ⟨c5, hc5, hcl5⟩ := Cond.classLink_spec hown hlink e.platform hpl
  cases Option.some.inj (hc4.symm.trans hc5)
  obtain ⟨vm', X', st⟩ := X.thenCaughtThrough q (g := F0 m pc ls rest) rfl (Steps.refl _) (by rw [hT]; exact hcell) (by rw [hv]; rfl) (by obtain ⟨k9, h9, -⟩ := Vm.findClass_spec hcl; exact ⟨k9, h9⟩) pre x suf hsplit
    (fun z hz => by
      rcases hpass z hz with h | ⟨hz0, nm, hl1, hn1⟩
      · exact Or.inl h
      · obtain ⟨c6, hc6, hcl6⟩ := Cond.classLink_spec hown hl1 e.platform hpl
        obtain ⟨a8, b8, h1, h2, h3⟩ := hn1
        cases Option.some.inj (h1.symm.trans hcl)
        cases Option.some.inj (h2.symm.trans hc6)
        exact Or.inr ⟨hz0, _, hcl6, h3⟩) hx (Or.inr ⟨h0, c4, hcl5, hasg⟩)
  obtain ⟨t, a1, b1⟩ := kk (T.setVm vm') hT X'
  exact ⟨t, st.trans a1, b1⟩
end Rows
section Ends
variable {p : Program} {l : Launch} {e : Env} {R : Room} {s : State} {m : MethodId} {args : Array Value} {below : List Frame} {meth : Method} {c : Code} {H : Heap} {locs : List Loc} {cells slots : Nat} {Q : State → Prop}
variable {mc ms : Nat} {free : Addr → Prop} {A0 A1 : Nat → Prop} {H0 : Heap} {a : Array Value} {ls : Array Slot} {st0 rest : List Value}
variable {Qc : Array Value → State → Outcome → State → Prop} {XC : String → State → State → Prop}
/-- what a body that may throw owes at its end -/
def vx_MQ (below : List Frame) (Qc : Array Value → State → Outcome → State → Prop) (XC : String → State → State → Prop) (a : Array Value) (s : State) (mc ms : Nat) (free : Addr → Prop) : State → Prop := fun t =>
  ∃ o, t.status = .running ∧ Ended t below o ∧ vx_Q Qc XC mc ms free a s o t
theorem vx_ret {g : JFrame} {mc ms : Nat} (k : W p l e R s m args below meth c H locs cells slots (MQ below Qc args s mc ms free) g) : W p l e R s m args below meth c H locs cells slots (vx_MQ below Qc XC args s mc ms free) g := by
  intro T hT X
  obtain ⟨t, a1, o, b1, b2, b3, b4⟩ := k T hT X
  exact ⟨t, a1, o, b1, b2, Or.inl ⟨b3, b4⟩⟩
/-- not caught here: it goes on to the caller -/
theorem vx_widen {g : JFrame} {q : Addr} {k n : Nat} (h1 : cells ≤ k) (h2 : slots ≤ n) (kk : vx_W p l e R s m args below meth c H locs k n Q g q) : vx_W p l e R s m args below meth c H locs cells slots Q g q := fun T hT X => kk T hT (stand_widen X h1 h2)
theorem vx_out {pc : Nat} {E : String} {ce : Cell} {q : Addr} {mc ms : Nat} (hout : ∀ x ∈ c.exceptionTable.toList, covers x pc = false) (hlocks : meth.locks = false) (hcell : H[q]? = some ce) (hv : ce.vm = .none) (hcl : s.vm.findClass E = some ce.cls)
    (hx : ∀ t : State, t.heap = H → s.vm.Alike t.vm → XC E s t) (hf : ∀ z ∈ locs, free z.base) (hc : cells ≤ mc) (hs : slots ≤ ms) :
    vx_W p l e R s m args below meth c H locs cells slots (vx_MQ below Qc XC args s mc ms free) (F0 m pc ls rest) q := by
  intro T hT X
  obtain ⟨st1, hrun, hend, hW, hsm⟩ := X.leaveThrown q (g := F0 m pc ls rest) rfl rfl rfl hout hlocks
  have hcell9 : (T.setFrames (.throwing q :: below)).heap[q]? = some ce := by
    show T.heap[q]? = some ce
    rw [hT]; exact hcell
  exact ⟨_, st1, .threw q, hrun, hend, Or.inr ⟨q, rfl, E, ce, locs, hx _ hT hW.alike, hcell9, hv, hcl, hW, hsm.mono hc hs, hf⟩⟩
theorem vx_frame {U : State} {k n : Nat} (h : s.sameButNew ({ U with vm := s.vm } : State) locs k n) : s.heap.size ≤ U.heap.size ∧ ∀ q : Nat, q < s.heap.size → (∀ z ∈ locs, z.base ≠ q) → U.heap[q]? = s.heap[q]? := by
  obtain ⟨-, h2, -, -, -, h6⟩ := h
  refine ⟨h2, fun q hq hz => ?_⟩
  obtain ⟨c9, e1, e2, e3, e4⟩ := h6 q _ (Array.getElem?_eq_getElem hq)
  have hs : c9.slots = (s.heap[q]).slots := Array.ext_getElem? fun i => e4 i fun hm => hz _ hm rfl
  have h9 : c9 = s.heap[q] := by
    rw [hs] at e2
    exact e2
  have e5 : U.heap[q]? = some c9 := e1
  rw [e5, h9, Array.getElem?_eq_getElem hq]
/-- the words of a throw but the four that speak of the heap -/
def vx_no (w : Cond) : Bool := decide (w ≠ .isRef (.static Bundle.tN "UNASSIGNED_STACK" Bundle.steD)) && decide (w ≠ .isRef (.static Bundle.tN "SUPPRESSED_SENTINEL" Bundle.listD)) && decide (w ≠ .laysStatic Bundle.tN "UNASSIGNED_STACK" Bundle.steD) && decide (w ≠ .laysStatic Bundle.tN "SUPPRESSED_SENTINEL" Bundle.listD)
def vx_at0 (own : String) (ic : Nat) (X : String) (names : List String) : List Cond := (Bundle.ownAtoms0 own ic X names).filter vx_no
def vx_atS (own : String) (ic : Nat) (X : String) (names : List String) : List Cond := (Bundle.ownAtoms own ic X names).filter vx_no
/-- a word that the tables alone decide, or a good one -/
def vx_ot (w : Cond) : Bool := w.onTables || goodWord w
theorem vx_ot_at {args a' : Array Value} {s U : State} {w : Cond} (hW : s.WarmedH U.vm) (hvm : s.vm = U.vm) (hg : vx_ot w = true) (h : w.before args s = true) : w.before a' U = true := by
  simp only [vx_ot, Bool.or_eq_true] at hg
  rcases hg with hg | hg
  · exact va_tabs hg hvm h
  · exact word_at hW (good_of_word hg) h
/-- a list's words: the good ones out of the method's own list, the others by premises of their own -/
theorem vx_hat {args : Array Value} {s : State} {L B : List Cond} (h1 : ∀ w ∈ L.filter goodWord, w.before args s = true) (h2 : ∀ w ∈ L.filter (fun w => !goodWord w), w ∈ B) (h3 : ∀ w ∈ B, w.before args s = true) : ∀ w ∈ L, w.before args s = true := by
  intro w hw
  by_cases g : goodWord w = true
  · exact h1 w (List.mem_filter.mpr ⟨hw, g⟩)
  · refine h3 w (h2 w (List.mem_filter.mpr ⟨hw, ?_⟩))
    show (!goodWord w) = true
    cases hgw : goodWord w
    · rfl
    · exact absurd hgw g
theorem vx_c {args : Array Value} {s : State} {w : Cond} {B : List Cond} (h : w.before args s = true) (t : ∀ w ∈ B, w.before args s = true) : ∀ w' ∈ w :: B, w'.before args s = true := fun w' h' => (List.mem_cons.mp h').elim (fun e => by rw [e]; exact h) (t w')
theorem vx_n {args : Array Value} {s : State} : ∀ w ∈ ([] : List Cond), w.before args s = true := fun _ h => nomatch h
theorem vx_own {args : Array Value} {s : State} {L : List Cond} (h1 : ∀ w ∈ L.filter vx_no, w.before args s = true)
    (hU : (Cond.isRef (.static Bundle.tN "UNASSIGNED_STACK" Bundle.steD)).before args s = true) (hN : (Cond.isRef (.static Bundle.tN "SUPPRESSED_SENTINEL" Bundle.listD)).before args s = true)
    (lU : (Cond.laysStatic Bundle.tN "UNASSIGNED_STACK" Bundle.steD).before args s = true) (lN : (Cond.laysStatic Bundle.tN "SUPPRESSED_SENTINEL" Bundle.listD).before args s = true) : ∀ w ∈ L, w.before args s = true := by
  intro w hw
  by_cases e1 : w = .isRef (.static Bundle.tN "UNASSIGNED_STACK" Bundle.steD)
  · rw [e1]; exact hU
  · by_cases e2 : w = .isRef (.static Bundle.tN "SUPPRESSED_SENTINEL" Bundle.listD)
    · rw [e2]; exact hN
    · by_cases e3 : w = .laysStatic Bundle.tN "UNASSIGNED_STACK" Bundle.steD
      · rw [e3]; exact lU
      · by_cases e4 : w = .laysStatic Bundle.tN "SUPPRESSED_SENTINEL" Bundle.listD
        · rw [e4]; exact lN
        · exact h1 w (List.mem_filter.mpr ⟨hw, by unfold vx_no; rw [decide_eq_true e1, decide_eq_true e2, decide_eq_true e3, decide_eq_true e4]; rfl⟩)
/-- where a static field lies, its class's statics cell in H -/
def vx_L (C n d : String) (A : Nat → Prop) (U : State) (H : Heap) : Prop := ∃ (c : ClassId) (k : Class) (i : Nat) (f : Field) (a : Nat) (cell : Cell), U.vm.findClass C = some c ∧ U.fieldFound? C n d = some (c, k, i, f) ∧ f.isStatic = true ∧ k.statics = some a ∧ H[a]? = some cell ∧ cell.vm.isStatics = true ∧ cell.cls = c ∧ f.slot < cell.slots.size ∧ k.staticTypes[f.slot]? = some f.type ∧ ¬ A a
theorem vx_L.moved {C n d : String} {A : Nat → Prop} {u U : State} {H : Heap} (hvm : u.vm.Alike U.vm) (h : vx_L C n d A u H) : vx_L C n d A U H := by
  obtain ⟨c, k, i, f, a, cell, h1, h2, h3, h4, h5, h6, h7, h8, h9, h10⟩ := h
  obtain ⟨k', hi', he⟩ := State.fieldFound?_setVm hvm h2
  exact ⟨c, k', i, f, a, cell, by rw [hvm.findClass]; exact h1, hi', h3, by rw [he]; exact h4, h5, h6, h7, h8, by rw [he]; exact h9, h10⟩
theorem vx_L.kept {C n d : String} {A : Nat → Prop} {U : State} {H H1 : Heap} (h : vx_L C n d A U H) (hq : ∀ a : Nat, a < H.size → ¬ A a → H1[a]? = H[a]?) : vx_L C n d A U H1 := by
  obtain ⟨c, k, i, f, a, cell, h1, h2, h3, h4, h5, h6, h7, h8, h9, h10⟩ := h
  exact ⟨c, k, i, f, a, cell, h1, h2, h3, h4, by rw [hq a (Array.getElem?_eq_some_iff.mp h5).1 h10]; exact h5, h6, h7, h8, h9, h10⟩
theorem vx_L.narrow {C n d : String} {A B : Nat → Prop} {U : State} {H : Heap} (h : vx_L C n d A U H) (hAB : ∀ q, B q → A q) : vx_L C n d B U H := by
  obtain ⟨c, k, i, f, a, cell, h1, h2, h3, h4, h5, h6, h7, h8, h9, h10⟩ := h
  exact ⟨c, k, i, f, a, cell, h1, h2, h3, h4, h5, h6, h7, h8, h9, fun z => h10 (hAB _ z)⟩
theorem vx_L.word {C n d : String} {A : Nat → Prop} {s : State} {args : Array Value} (h : vx_L C n d A s s.heap) : (Cond.laysStatic C n d).before args s = true := by
  obtain ⟨c, k, i, f, a, cell, h1, h2, h3, h4, h5, h6, h7, h8, h9, -⟩ := h
  show (Cond.laysStatic C n d).holds args s none s [] = true
  exact Cond.laysStatic_of h1 h2 h3 h4 h5 h6 h7 h8 h9
/-- .. and what it holds: null or some reference -/
def vx_Zq (C n d : String) (A : Nat → Prop) (U : State) (H : Heap) : Prop := va_Zq C n d A U H ∧ vx_L C n d A U H
theorem vx_Zq.moved {C n d : String} {A : Nat → Prop} {u U : State} {H : Heap} (hvm : u.vm.Alike U.vm) (h : vx_Zq C n d A u H) : vx_Zq C n d A U H := ⟨va_Zq.moved hvm h.1, vx_L.moved hvm h.2⟩
theorem vx_Zq.kept {C n d : String} {A : Nat → Prop} {U : State} {H H1 : Heap} (h : vx_Zq C n d A U H) (hq : ∀ a : Nat, a < H.size → ¬ A a → H1[a]? = H[a]?) : vx_Zq C n d A U H1 := ⟨va_Zq.kept h.1 hq, vx_L.kept h.2 hq⟩
theorem vx_Zq.narrow {C n d : String} {A B : Nat → Prop} {U : State} {H : Heap} (h : vx_Zq C n d A U H) (hAB : ∀ q, B q → A q) : vx_Zq C n d B U H := ⟨va_Zq.narrow h.1 hAB, vx_L.narrow h.2 hAB⟩
theorem vx_Zqof {args : Array Value} {s : State} {C n d : String} {A : Nat → Prop} (hl : (Cond.laysStatic C n d).before args s = true) (hini : (Cond.initialized C).before args s = true) (h : (Cond.isRef (.static C n d)).before args s = true) (hA : ∀ a : Nat, a < s.heap.size → ¬ A a) : vx_Zq C n d A s s.heap := by
  refine ⟨va_Zqof hl hini h hA, ?_⟩
  obtain ⟨c, k, i, f, a, cell, h1, h2, h3, h4, h5, h6, h7, h8, h9⟩ := Cond.laysStatic_spec hl
  exact ⟨c, k, i, f, a, cell, h1, h2, h3, h4, h5, h6, h7, h8, h9, hA a (Array.getElem?_eq_some_iff.mp h5).1⟩
theorem vx_isRef {C n d : String} {v : Value} {A : Nat → Prop} {s : State} {args : Array Value} (h : va_Z C n d v A s s.heap) (hv : v.isRef = true) : (Cond.isRef (.static C n d)).before args s = true := by
  obtain ⟨cf, kf, fi, f, a, cell, h1, h2, h3, h4, h5, h6, h7, -⟩ := h
  have he : (Term.static C n d).eval args s none [] s = some v := by
    simp [Term.eval, State.fieldNamed?, h1, h2, h4, h5, h6, h7]
  simp only [Cond.before, Cond.holds, Cond.value, he]
  cases v <;> simp_all [Value.isRef]
theorem vx_isRefq {C n d : String} {A : Nat → Prop} {s : State} {args : Array Value} (h : va_Zq C n d A s s.heap) : (Cond.isRef (.static C n d)).before args s = true := by
  rcases h with h | ⟨t, h⟩
  · exact vx_isRef h rfl
  · exact vx_isRef h rfl
/-- the same frame, seen from here: as if the method were called anew in this heap -/
theorem vx_rebase {T : State} (X : Stand p l e R s m args below meth c T locs cells slots) {R' : Room} (hf : R'.frames ≤ R.frames) (hl : R'.locals ≤ R.locals) (hc : cells + R'.cells ≤ R.cells) (hs : slots + R'.slots ≤ R.slots) :
    Stand p l e R' ((T.setVm s.vm).setFrames (.invoking m args :: below)) m args below meth c T [] 0 0 := by
  have htop : (T.setVm s.vm).topJava?.isSome := X.here.top
  have hF : ((T.setVm s.vm).setFrames (.invoking m args :: below)).frames = .invoking m args :: below := State.frames_setFrames _ (State.cur_lt_of_top htop)
  obtain ⟨g₀, hg0⟩ := Option.isSome_iff_exists.mp htop
  obtain ⟨r, hr⟩ := State.topJava?_eq_some.mp hg0
  have hl9 : e.platform.stackLimits (T.setVm s.vm).me = e.platform.stackLimits s.me := X.limits
  have hb9 : (T.setVm s.vm).me.stackBytes = s.me.stackBytes := X.bytes
  refine ⟨X.admits, X.cas, X.clock, hF, ?_, X.hears, X.method, X.code, X.here, X.tail, X.warmed, ?_, ?_, ?_⟩
  · have h := X.room
    have hU : ((T.setVm s.vm).setFrames (.invoking m args :: below)).localsInUse = s.localsInUse := by
      rw [State.localsInUse_invoking hF (meth := meth) (c := c) X.method X.code, State.localsInUse_invoking X.frames X.method X.code]
    simp only [State.hasRoom, Bool.and_eq_true, decide_eq_true_eq] at h ⊢
    obtain ⟨⟨⟨⟨h1, h2, h3, h4, h5, h6⟩, h7⟩, h8⟩, h9⟩ := h
    rw [X.frames, List.length_cons] at h2 h3
    have q1 := X.heapSize
    have q2 := X.used
    simp only [hF, hU, List.length_cons, State.stackLimits_setFrames, State.stackBytes_setFrames, hl9, hb9]
    refine ⟨⟨⟨⟨by omega, by omega, by omega, by omega, by omega, h6⟩, ?_⟩, ?_⟩, X.book⟩
    · show T.heap.size + R'.cells ≤ e.platform.maxCells
      omega
    · show T.slotsUsed + R'.slots ≤ e.platform.maxSlots
      omega
  · rw [State.stackLimits_setFrames]; rfl
  · rw [State.stackBytes_setFrames]; rfl
  · refine ⟨?_, Nat.le_refl _, Nat.le_refl _, ?_, ?_, fun a c9 h9 => ⟨c9, h9, rfl, rfl, fun _ _ => rfl⟩⟩
    · obtain ⟨t, ht, -⟩ := State.frames_cons hr
      show T.setVm s.vm = { ((T.setVm s.vm).setFrames (.invoking m args :: below)).setFrames (T.setVm s.vm).frames with heap := T.heap, slotsUsed := T.slotsUsed }
      rw [State.setFrames_setFrames, State.setFrames_self ht]
      rfl
    · show T.slotsUsed = T.slotsUsed + ((T.heap.toList.drop T.heap.size).map (·.slots.size)).sum
      rw [List.drop_eq_nil_of_le (Nat.le_of_eq Array.length_toList)]
      rfl
    · show ((T.heap.toList.drop T.heap.size).map (·.slots.size)).sum ≤ 0
      rw [List.drop_eq_nil_of_le (Nat.le_of_eq Array.length_toList)]
      exact Nat.le_refl _
/-- 'throw new E()': new; dup; invokespecial; athrow -/
theorem vx_throw0 {cc : ByteArray} {pc : Nat} (hexec : p.tables.exec = Jvm.exec) (hb : c.code = cc) (hl : l.stackTraces = false) {own cls : String} {names : List String} {ik ic mc ms : Nat} {A : Nat → Prop}
    (hown : s.vm.findClass own = some m.cls) (hcls : Bundle.fit cls = true) (hnames : ∀ n ∈ names, Bundle.fit n = true)
    (hk : (Cond.classLink own ik cls).before args s = true) (hini : (Cond.initialized cls).before args s = true) (hat : ∀ w ∈ vx_at0 own ic cls names, w.before args s = true)
    (hgood : ∀ w ∈ Cond.classLink own ik cls :: Cond.initialized cls :: vx_at0 own ic cls names, vx_ot w = true)
    (hU : vx_Zq Bundle.tN "UNASSIGNED_STACK" Bundle.steD A s s.heap) (hN : vx_Zq Bundle.tN "SUPPRESSED_SENTINEL" Bundle.listD A s s.heap) (hS : va_S A s.heap H locs) (hsize : ls.size = c.maxLocals)
    (d0 : decode cc pc = .ok (.new ik, 3)) (d3 : decode cc (pc + 3) = .ok (.dup, 1)) (d4 : decode cc (pc + 4) = .ok (.invokespecial ic, 3)) (d7 : decode cc (pc + 7) = .ok (.athrow, 1))
    (hout : ∀ x ∈ c.exceptionTable.toList, covers x (pc + 7) = false)
    (hRframes : names.length + 3 < R.frames) (hRlocals : (rest.map fun v => v.category).sum + (13 * (names.length + 1) + 42) ≤ R.locals) (hRcells : cells + 1 ≤ R.cells) (hRslots : slots + 6 ≤ R.slots) (hlocks : meth.locks = false)
    (hx : ∀ t : State, s.vm.Alike t.vm → H.size ≤ t.heap.size → (∀ q : Nat, q < H.size → t.heap[q]? = H[q]?) → XC cls s t)
    (hf : ∀ z ∈ locs, free z.base) (hc : cells + 1 ≤ mc) (hs : slots + 6 ≤ ms) :
    W p l e R s m args below meth c H locs cells slots (vx_MQ below Qc XC args s mc ms free) (F0 m pc ls rest) := by
  intro T hT X
  have htr : e.platform.stackTraces = false := (show e.platform.stackTraces = l.stackTraces by rw [X.admits.platform]).trans hl
  have Y := vx_rebase X (R' := { frames := R.frames, locals := R.locals, cells := 1, slots := 6 }) (Nat.le_refl _) (Nat.le_refl _) hRcells hRslots
  obtain ⟨s', hA⟩ : ∃ z, z = (T.setVm s.vm).setFrames (.invoking m args :: below) := ⟨_, rfl⟩
  rw [← hA] at Y
  have hvm : s'.vm = s.vm := by rw [hA]; rfl
  have hhp : s'.heap = H := by rw [hA]; exact hT
  have hW0 : s.WarmedH s'.vm := by rw [hvm]; exact State.WarmedH.refl s
  have hat' : ∀ w ∈ vx_at0 own ic cls names, w.before args s' = true := fun w hw => vx_ot_at hW0 hvm.symm (hgood w (List.mem_cons_of_mem _ (List.mem_cons_of_mem _ hw))) (hat w hw)
  have hk' : (Cond.classLink own ik cls).before args s' = true := vx_ot_at hW0 hvm.symm (hgood _ List.mem_cons_self) hk
  have hini' : (Cond.initialized cls).before args s' = true := vx_ot_at hW0 hvm.symm (hgood _ (List.mem_cons_of_mem _ List.mem_cons_self)) hini
  have hU' : vx_Zq Bundle.tN "UNASSIGNED_STACK" Bundle.steD A s' s'.heap := by rw [hhp]; exact vx_Zq.moved hW0.alike (hU.kept hS.2.1)
  have hN' : vx_Zq Bundle.tN "SUPPRESSED_SENTINEL" Bundle.listD A s' s'.heap := by rw [hhp]; exact vx_Zq.moved hW0.alike (hN.kept hS.2.1)
  have h : ∀ w ∈ Bundle.ownAtoms0 own ic cls names, w.before args s' = true := vx_own hat' (vx_isRefq hU'.1) (vx_isRefq hN'.1) hU'.2.word hN'.2.word
  have hown' : s'.vm.findClass own = some m.cls := by rw [hvm]; exact hown
  have hins : (Cond.instantiable cls 6).before args s' = true := h _ (by simp [Bundle.ownAtoms0])
  obtain ⟨vm₁, cX, kX, hfX, hkX, -, -, X₁, st1⟩ := Y.newCold hexec (own := own) (C := cls) (index := ik) (n := 6) hown' hk' hins hini'
    (g := F0 m pc ls rest) rfl (by rw [hb]; exact d0) (Nat.le_refl _) (Nat.le_refl _)
  generalize hT1 : (T.setVm vm₁).pushCell { cls := cX, slots := kX.instanceTypes.map defaultValue, vm := .none } = T1 at X₁ st1
  have hcat : (Value.ref T.heap.size).category = 1 := rfl
  have hcellA : T1.heap[T.heap.size]? = some (freshCell cX kX) := by rw [← hT1]; exact State.heap_pushCell_size _ _
  have d3' : decode c.code (pc + 3) = .ok (.dup, 1) := by rw [hb]; exact d3
  obtain ⟨U, hsteps, hrun, hend, hW, hsame, ce, hce, hO⟩ := X₁.ctorThrow0 hexec htr (own := own) (cls := cls) (names := names) (ic := ic) hown' hcls hnames h (fun x hx => nomatch hx) hfX hkX hcellA (by rw [hhp, hT]; exact Nat.le_refl _)
    (g := { method := m, pc := pc + 4, locals := ls, stack := .ref T.heap.size :: .ref T.heap.size :: rest, locked := none }) rfl hsize rfl rfl (rest := rest) rfl
    (by rw [hb]; exact d4) (by rw [hb]; exact d7) hout hRframes (by simp only [List.map_cons, List.sum_cons, hcat]; omega) hlocks
  obtain ⟨f1, f2⟩ := vx_frame hsame
  rw [hhp] at f1 f2
  have hWs : s.WarmedH U.vm := State.WarmedH.trans hW0 hW
  have hcl : s.vm.findClass cls = some ce.cls := by
    have h9 := hO.cls
    rw [hvm] at h9
    exact h9
  have hall : s.sameButNew ({ U with vm := s.vm } : State) locs mc ms := by
    subst hA
    obtain ⟨e1, e2⟩ := hsame
    rw [State.setFrames_setFrames] at e1
    have h2 : (T.setVm s.vm).sameButNew ({ U with vm := s.vm } : State) [] (0 + 1) (0 + 6) := ⟨e1, e2⟩
    have h3 := X.same.trans h2
    rw [List.append_nil] at h3
    exact h3.mono hc hs
  refine ⟨U, ?_, .threw T.heap.size, hrun, hend, Or.inr ⟨T.heap.size, rfl, cls, ce, locs, hx U hWs.alike f1 (fun q hq => f2 q hq (fun z hz => nomatch hz)), hce, hO.vm, hcl, hWs, hall, hf⟩⟩
  refine st1 _ ?_
  show Steps p.tables e below (T1.setTop { method := m, pc := pc + 3, locals := ls, stack := .ref T.heap.size :: rest, locked := none }) _
  jvm_step X₁.here [X₁.here.top, hexec, d3', Value.category]
  exact hsteps
/-- 'throw new E("text")': new; dup; ldc; invokespecial; athrow -/
theorem vx_throwS {cc : ByteArray} {pc : Nat} (hexec : p.tables.exec = Jvm.exec) (hb : c.code = cc) (hl : l.stackTraces = false) {own cls text : String} {names : List String} {ik is ic mc ms sa : Nat} {A : Nat → Prop}
    (hown : s.vm.findClass own = some m.cls) (hcls : Bundle.fit cls = true) (hnames : ∀ n ∈ names, Bundle.fit n = true)
    (hk : (Cond.classLink own ik cls).before args s = true) (hini : (Cond.initialized cls).before args s = true) (hstr : vk_R own is text sa s) (hat : ∀ w ∈ vx_atS own ic cls names, w.before args s = true)
    (hgood : ∀ w ∈ Cond.classLink own ik cls :: Cond.initialized cls :: vx_atS own ic cls names, vx_ot w = true)
    (hU : vx_Zq Bundle.tN "UNASSIGNED_STACK" Bundle.steD A s s.heap) (hN : vx_Zq Bundle.tN "SUPPRESSED_SENTINEL" Bundle.listD A s s.heap) (hS : va_S A s.heap H locs) (hsize : ls.size = c.maxLocals)
    (d0 : decode cc pc = .ok (.new ik, 3)) (d3 : decode cc (pc + 3) = .ok (.dup, 1)) (d4 : decode cc (pc + 4) = .ok (.ldc is, 2)) (d6 : decode cc (pc + 6) = .ok (.invokespecial ic, 3)) (d9 : decode cc (pc + 9) = .ok (.athrow, 1))
    (hout : ∀ x ∈ c.exceptionTable.toList, covers x (pc + 9) = false)
    (hRframes : names.length + 3 < R.frames) (hRlocals : (rest.map fun v => v.category).sum + (13 * (names.length + 1) + 43) ≤ R.locals) (hRcells : cells + 1 ≤ R.cells) (hRslots : slots + 6 ≤ R.slots) (hlocks : meth.locks = false)
    (hx : ∀ t : State, s.vm.Alike t.vm → H.size ≤ t.heap.size → (∀ q : Nat, q < H.size → t.heap[q]? = H[q]?) → XC cls s t)
    (hf : ∀ z ∈ locs, free z.base) (hc : cells + 1 ≤ mc) (hs : slots + 6 ≤ ms) :
    W p l e R s m args below meth c H locs cells slots (vx_MQ below Qc XC args s mc ms free) (F0 m pc ls rest) := by
  intro T hT X
  have htr : e.platform.stackTraces = false := (show e.platform.stackTraces = l.stackTraces by rw [X.admits.platform]).trans hl
  have Y := vx_rebase X (R' := { frames := R.frames, locals := R.locals, cells := 1, slots := 6 }) (Nat.le_refl _) (Nat.le_refl _) hRcells hRslots
  obtain ⟨s', hA⟩ : ∃ z, z = (T.setVm s.vm).setFrames (.invoking m args :: below) := ⟨_, rfl⟩
  rw [← hA] at Y
  have hvm : s'.vm = s.vm := by rw [hA]; rfl
  have hhp : s'.heap = H := by rw [hA]; exact hT
  have hW0 : s.WarmedH s'.vm := by rw [hvm]; exact State.WarmedH.refl s
  have hat' : ∀ w ∈ vx_atS own ic cls names, w.before args s' = true := fun w hw => vx_ot_at hW0 hvm.symm (hgood w (List.mem_cons_of_mem _ (List.mem_cons_of_mem _ hw))) (hat w hw)
  have hk' : (Cond.classLink own ik cls).before args s' = true := vx_ot_at hW0 hvm.symm (hgood _ List.mem_cons_self) hk
  have hini' : (Cond.initialized cls).before args s' = true := vx_ot_at hW0 hvm.symm (hgood _ (List.mem_cons_of_mem _ List.mem_cons_self)) hini
  have hU' : vx_Zq Bundle.tN "UNASSIGNED_STACK" Bundle.steD A s' s'.heap := by rw [hhp]; exact vx_Zq.moved hW0.alike (hU.kept hS.2.1)
  have hN' : vx_Zq Bundle.tN "SUPPRESSED_SENTINEL" Bundle.listD A s' s'.heap := by rw [hhp]; exact vx_Zq.moved hW0.alike (hN.kept hS.2.1)
  have h : ∀ w ∈ Bundle.ownAtoms own ic cls names, w.before args s' = true := vx_own hat' (vx_isRefq hU'.1) (vx_isRefq hN'.1) hU'.2.word hN'.2.word
  have hown' : s'.vm.findClass own = some m.cls := by rw [hvm]; exact hown
  have hins : (Cond.instantiable cls 6).before args s' = true := h _ (by simp [Bundle.ownAtoms])
  obtain ⟨vm₁, cX, kX, hfX, hkX, -, -, X₁, st1⟩ := Y.newCold hexec (own := own) (C := cls) (index := ik) (n := 6) hown' hk' hins hini'
    (g := F0 m pc ls rest) rfl (by rw [hb]; exact d0) (Nat.le_refl _) (Nat.le_refl _)
  generalize hT1 : (T.setVm vm₁).pushCell { cls := cX, slots := kX.instanceTypes.map defaultValue, vm := .none } = T1 at X₁ st1
  have hcat : (Value.ref T.heap.size).category = 1 := rfl
  have hcellA : T1.heap[T.heap.size]? = some (freshCell cX kX) := by rw [← hT1]; exact State.heap_pushCell_size _ _
  have d3' : decode c.code (pc + 3) = .ok (.dup, 1) := by rw [hb]; exact d3
  have d4' : decode c.code (pc + 4) = .ok (.ldc is, 2) := by rw [hb]; exact d4
  have hstr' : vk_R own is text sa s' := vk_R.warm hW0 hstr
  obtain ⟨U, hsteps, hrun, hend, hW, hsame, ce, hce, hO⟩ := X₁.ctorThrowS hexec htr (own := own) (cls := cls) (names := names) (ic := ic) hown' hcls hnames h (fun x hx => nomatch hx) hfX hkX hcellA (by rw [hhp, hT]; exact Nat.le_refl _) (msg := .ref sa) rfl
    (g := { method := m, pc := pc + 6, locals := ls, stack := .ref sa :: .ref T.heap.size :: .ref T.heap.size :: rest, locked := none }) rfl hsize rfl rfl (rest := rest) rfl
    (by rw [hb]; exact d6) (by rw [hb]; exact d9) hout hRframes (by simp only [List.map_cons, List.sum_cons, hcat]; omega) hlocks
  obtain ⟨f1, f2⟩ := vx_frame hsame
  rw [hhp] at f1 f2
  have hWs : s.WarmedH U.vm := State.WarmedH.trans hW0 hW
  have hcl : s.vm.findClass cls = some ce.cls := by
    have h9 := hO.cls
    rw [hvm] at h9
    exact h9
  have hall : s.sameButNew ({ U with vm := s.vm } : State) locs mc ms := by
    subst hA
    obtain ⟨e1, e2⟩ := hsame
    rw [State.setFrames_setFrames] at e1
    have h2 : (T.setVm s.vm).sameButNew ({ U with vm := s.vm } : State) [] (0 + 1) (0 + 6) := ⟨e1, e2⟩
    have h3 := X.same.trans h2
    rw [List.append_nil] at h3
    exact h3.mono hc hs
  refine ⟨U, ?_, .threw T.heap.size, hrun, hend, Or.inr ⟨T.heap.size, rfl, cls, ce, locs, hx U hWs.alike f1 (fun q hq => f2 q hq (fun z hz => nomatch hz)), hce, hO.vm, hcl, hWs, hall, hf⟩⟩
  refine st1 _ ?_
  show Steps p.tables e below (T1.setTop { method := m, pc := pc + 3, locals := ls, stack := .ref T.heap.size :: rest, locked := none }) _
  jvm_step X₁.here [X₁.here.top, hexec, d3', Value.category]
  exact X₁.ldcString hexec (own := own) (text := text) (index := is) (a := sa) hown' hstr'.1 hstr'.2
    (g := { method := m, pc := pc + 4, locals := ls, stack := .ref T.heap.size :: .ref T.heap.size :: rest, locked := none }) rfl d4' _ hsteps
/-- 'throw new E("text")', the text by a wide index -/
theorem vx_throwSW {cc : ByteArray} {pc : Nat} (hexec : p.tables.exec = Jvm.exec) (hb : c.code = cc) (hl : l.stackTraces = false) {own cls text : String} {names : List String} {ik is ic mc ms sa : Nat} {A : Nat → Prop}
    (hown : s.vm.findClass own = some m.cls) (hcls : Bundle.fit cls = true) (hnames : ∀ n ∈ names, Bundle.fit n = true)
    (hk : (Cond.classLink own ik cls).before args s = true) (hini : (Cond.initialized cls).before args s = true) (hstr : vk_R own is text sa s) (hat : ∀ w ∈ vx_atS own ic cls names, w.before args s = true)
    (hgood : ∀ w ∈ Cond.classLink own ik cls :: Cond.initialized cls :: vx_atS own ic cls names, vx_ot w = true)
    (hU : vx_Zq Bundle.tN "UNASSIGNED_STACK" Bundle.steD A s s.heap) (hN : vx_Zq Bundle.tN "SUPPRESSED_SENTINEL" Bundle.listD A s s.heap) (hS : va_S A s.heap H locs) (hsize : ls.size = c.maxLocals)
    (d0 : decode cc pc = .ok (.new ik, 3)) (d3 : decode cc (pc + 3) = .ok (.dup, 1)) (d4 : decode cc (pc + 4) = .ok (.ldc_w is, 3)) (d7 : decode cc (pc + 7) = .ok (.invokespecial ic, 3)) (d10 : decode cc (pc + 10) = .ok (.athrow, 1))
    (hout : ∀ x ∈ c.exceptionTable.toList, covers x (pc + 10) = false)
    (hRframes : names.length + 3 < R.frames) (hRlocals : (rest.map fun v => v.category).sum + (13 * (names.length + 1) + 43) ≤ R.locals) (hRcells : cells + 1 ≤ R.cells) (hRslots : slots + 6 ≤ R.slots) (hlocks : meth.locks = false)
    (hx : ∀ t : State, s.vm.Alike t.vm → H.size ≤ t.heap.size → (∀ q : Nat, q < H.size → t.heap[q]? = H[q]?) → XC cls s t)
    (hf : ∀ z ∈ locs, free z.base) (hc : cells + 1 ≤ mc) (hs : slots + 6 ≤ ms) :
    W p l e R s m args below meth c H locs cells slots (vx_MQ below Qc XC args s mc ms free) (F0 m pc ls rest) := by
  intro T hT X
  have htr : e.platform.stackTraces = false := (show e.platform.stackTraces = l.stackTraces by rw [X.admits.platform]).trans hl
  have Y := vx_rebase X (R' := { frames := R.frames, locals := R.locals, cells := 1, slots := 6 }) (Nat.le_refl _) (Nat.le_refl _) hRcells hRslots
  obtain ⟨s', hA⟩ : ∃ z, z = (T.setVm s.vm).setFrames (.invoking m args :: below) := ⟨_, rfl⟩
  rw [← hA] at Y
  have hvm : s'.vm = s.vm := by rw [hA]; rfl
  have hhp : s'.heap = H := by rw [hA]; exact hT
  have hW0 : s.WarmedH s'.vm := by rw [hvm]; exact State.WarmedH.refl s
  have hat' : ∀ w ∈ vx_atS own ic cls names, w.before args s' = true := fun w hw => vx_ot_at hW0 hvm.symm (hgood w (List.mem_cons_of_mem _ (List.mem_cons_of_mem _ hw))) (hat w hw)
  have hk' : (Cond.classLink own ik cls).before args s' = true := vx_ot_at hW0 hvm.symm (hgood _ List.mem_cons_self) hk
  have hini' : (Cond.initialized cls).before args s' = true := vx_ot_at hW0 hvm.symm (hgood _ (List.mem_cons_of_mem _ List.mem_cons_self)) hini
  have hU' : vx_Zq Bundle.tN "UNASSIGNED_STACK" Bundle.steD A s' s'.heap := by rw [hhp]; exact vx_Zq.moved hW0.alike (hU.kept hS.2.1)
  have hN' : vx_Zq Bundle.tN "SUPPRESSED_SENTINEL" Bundle.listD A s' s'.heap := by rw [hhp]; exact vx_Zq.moved hW0.alike (hN.kept hS.2.1)
  have h : ∀ w ∈ Bundle.ownAtoms own ic cls names, w.before args s' = true := vx_own hat' (vx_isRefq hU'.1) (vx_isRefq hN'.1) hU'.2.word hN'.2.word
  have hown' : s'.vm.findClass own = some m.cls := by rw [hvm]; exact hown
  have hins : (Cond.instantiable cls 6).before args s' = true := h _ (by simp [Bundle.ownAtoms])
  obtain ⟨vm₁, cX, kX, hfX, hkX, -, -, X₁, st1⟩ := Y.newCold hexec (own := own) (C := cls) (index := ik) (n := 6) hown' hk' hins hini'
    (g := F0 m pc ls rest) rfl (by rw [hb]; exact d0) (Nat.le_refl _) (Nat.le_refl _)
  generalize hT1 : (T.setVm vm₁).pushCell { cls := cX, slots := kX.instanceTypes.map defaultValue, vm := .none } = T1 at X₁ st1
  have hcat : (Value.ref T.heap.size).category = 1 := rfl
  have hcellA : T1.heap[T.heap.size]? = some (freshCell cX kX) := by rw [← hT1]; exact State.heap_pushCell_size _ _
  have d3' : decode c.code (pc + 3) = .ok (.dup, 1) := by rw [hb]; exact d3
  have d4' : decode c.code (pc + 4) = .ok (.ldc_w is, 3) := by rw [hb]; exact d4
  have hstr' : vk_R own is text sa s' := vk_R.warm hW0 hstr
  obtain ⟨U, hsteps, hrun, hend, hW, hsame, ce, hce, hO⟩ := X₁.ctorThrowS hexec htr (own := own) (cls := cls) (names := names) (ic := ic) hown' hcls hnames h (fun x hx => nomatch hx) hfX hkX hcellA (by rw [hhp, hT]; exact Nat.le_refl _) (msg := .ref sa) rfl
    (g := { method := m, pc := pc + 7, locals := ls, stack := .ref sa :: .ref T.heap.size :: .ref T.heap.size :: rest, locked := none }) rfl hsize rfl rfl (rest := rest) rfl
    (by rw [hb]; exact d7) (by rw [hb]; exact d10) hout hRframes (by simp only [List.map_cons, List.sum_cons, hcat]; omega) hlocks
  obtain ⟨f1, f2⟩ := vx_frame hsame
  rw [hhp] at f1 f2
  have hWs : s.WarmedH U.vm := State.WarmedH.trans hW0 hW
  have hcl : s.vm.findClass cls = some ce.cls := by
    have h9 := hO.cls
    rw [hvm] at h9
    exact h9
  have hall : s.sameButNew ({ U with vm := s.vm } : State) locs mc ms := by
    subst hA
    obtain ⟨e1, e2⟩ := hsame
    rw [State.setFrames_setFrames] at e1
    have h2 : (T.setVm s.vm).sameButNew ({ U with vm := s.vm } : State) [] (0 + 1) (0 + 6) := ⟨e1, e2⟩
    have h3 := X.same.trans h2
    rw [List.append_nil] at h3
    exact h3.mono hc hs
  refine ⟨U, ?_, .threw T.heap.size, hrun, hend, Or.inr ⟨T.heap.size, rfl, cls, ce, locs, hx U hWs.alike f1 (fun q hq => f2 q hq (fun z hz => nomatch hz)), hce, hO.vm, hcl, hWs, hall, hf⟩⟩
  refine st1 _ ?_
  show Steps p.tables e below (T1.setTop { method := m, pc := pc + 3, locals := ls, stack := .ref T.heap.size :: rest, locked := none }) _
  jvm_step X₁.here [X₁.here.top, hexec, d3', Value.category]
  exact X₁.ldcStringW hexec (own := own) (text := text) (index := is) (a := sa) hown' hstr'.1 hstr'.2
    (g := { method := m, pc := pc + 4, locals := ls, stack := .ref T.heap.size :: .ref T.heap.size :: rest, locked := none }) rfl d4' _ hsteps
end Ends
section Bodies
variable {l : Launch}
theorem vx_ofW {y : MethodName} {ws ws' : List Cond} {rm : Room} {Pc : Array Value → State → Prop} {Qc : Array Value → State → Outcome → State → Prop} {XC : String → State → State → Prop} {mc ms : Nat} {free : Addr → Prop} {cc : ByteArray} {maxL : Nat} {ret : Option FieldType}
    (hy : plainName y.cls = true) (hw : ws = Cond.code y cc maxL ret :: ws')
    (body : ∀ p e s m args below meth c s₁, BodyLoose p l y (headSpec ws rm) cc maxL ret e s m args below meth c s₁ → c.maxLocals = maxL → (∀ x ∈ c.exceptionTable.toList, False) → Pc args s →
      W p l e (headSpec ws rm).room s m args below meth c s.heap [] 0 0 (vx_MQ below Qc XC args s mc ms free) (entryFrame m args maxL)) : vx_Met l y ws rm Pc Qc XC mc ms free := by
  refine MetFree.of_bodyS (code := cc) (maxLocals := maxL) (ret := ret) hy ?_ ?_
  · intro args s m h hn
    obtain ⟨meth, c, h1, h2, h3, h4, h5, h6, -, -⟩ := Cond.code_spec hn (atoms_spec (ws := ws) h _ (by rw [hw]; exact List.mem_cons_self))
    exact ⟨meth, c, h1, h2, h3, h4, h5, h6⟩
  · intro p e s m args below meth c s₁ B hml hP _
    have hh0 : s₁.heap = s.heap := by rw [B.state]; rfl
    have ht : ∀ x ∈ c.exceptionTable.toList, False := by
      obtain ⟨meth9, c9, h1, h2, -, -, -, -, h7, -⟩ := Cond.code_spec B.named (atoms_spec (ws := ws) B.pre _ (by rw [hw]; exact List.mem_cons_self))
      cases Option.some.inj (h1.symm.trans B.method)
      cases Option.some.inj (h2.symm.trans (Stand.of_body B).code)
      intro x hx
      rw [Array.isEmpty_iff.mp h7] at hx
      cases hx
    obtain ⟨t, a1, o, b1, b2, b3⟩ := body p e s m args below meth c s₁ B hml ht hP s₁ hh0 (Stand.of_body B)
    exact ⟨t, o, a1, b1, b2, b3⟩
/-- the table of a body with handlers -/
theorem vx_table {p : Program} {x y : MethodName} {S : Spec} {cc bytes : ByteArray} {maxL maxL' : Nat} {ret ret' : Option FieldType} {e : Env} {s s₁ : State} {m : MethodId} {args : Array Value} {below : List Frame} {meth : Method} {c : Code} {hh : List (Nat × Nat × Nat × Nat)}
    (B : BodyLoose p l y S cc maxL ret e s m args below meth c s₁) (h : (Cond.codeWith y bytes maxL' ret' hh).before args s = true) : c.exceptionTable.toList = tableOf hh := by
  obtain ⟨m9, meth9, c9, hn9, h1, h2, -, -, h6, -⟩ := Cond.codeWith_spec h
  cases Option.some.inj (hn9.symm.trans B.named)
  cases Option.some.inj (h1.symm.trans B.method)
  cases Option.some.inj (h2.symm.trans (Stand.of_body B).code)
  rw [← h6, table_eq]
end Bodies
end VXA
/-! ===== END ===== -/
/-! ===== BEGIN a static call of a method with an exception table ===== -/
section VXS
variable {p : Program} {l : Launch} {e : Env} {R : Room} {s : State} {m : MethodId} {args : Array Value} {below : List Frame} {meth : Method} {c : Code} {T : State} {H : Heap} {locs : List Loc} {cells slots : Nat}
abbrev vx_CSW (R : Room) (s : State) (args : Array Value) (own : String) (index : Nat) (y : MethodName) (bytes : ByteArray) (maxL : Nat) (ret : Option FieldType) (hh : List (Nat × Nat × Nat × Nat)) (ws : List Cond) (rm : Room) (mc ms n : Nat) : Prop :=
  (rm.cells = mc ∧ rm.slots = ms ∧ rm.frames + 1 ≤ R.frames ∧ 8 + (maxL + 11) + rm.locals ≤ R.locals ∧ (∀ w ∈ ws, ∀ (a' : Array Value) (U : State), s.WarmedH U.vm → w.before a' U = true) ∧ Cond.codeWith y bytes maxL ret hh ∈ ws) ∧
  (Cond.codeWith y bytes maxL ret hh).before args s = true ∧ (Cond.initialized y.cls).before args s = true ∧ (y.cls ≠ "java/lang/invoke/MethodHandle" ∧ y.cls ≠ "java/lang/invoke/VarHandle") ∧
  (∀ sig, parseMethodDescriptor y.desc = some sig → n = sig.parameters.length) ∧ (Cond.methodLink own index y).before args s = true ∧ (Cond.static y).before args s = true
theorem vx_cwSW {own : String} {index maxL mc ms : Nat} {y : MethodName} {bytes : ByteArray} {ret : Option FieldType} {hh : List (Nat × Nat × Nat × Nat)} {Ts ws ws' : List Cond} {rm : Room} (n : Nat) (ht : ∀ w ∈ Ts, w.before args s = true) (hT : GoodIn Ts (va_wsS own index y ws)) (hw : ws = Cond.codeWith y bytes maxL ret hh :: ws') (hrc : rm.cells = mc) (hrs : rm.slots = ms)
    (hd : y.cls ≠ "java/lang/invoke/MethodHandle" ∧ y.cls ≠ "java/lang/invoke/VarHandle" ∧ (parseMethodDescriptor y.desc).map (fun d => d.parameters.length) = some n) (hR : rm.frames + 1 ≤ R.frames ∧ 8 + (maxL + 11) + rm.locals ≤ R.locals) :
    vx_CSW R s args own index y bytes maxL ret hh ws rm mc ms n := by
  have ok : ∀ w ∈ va_wsS own index y ws, w.before args s = true := fun w h => ht w (hT w h).1
  have hG : GoodIn Ts ws := fun w h => hT w (by unfold va_wsS; exact List.mem_append_right _ h)
  have hc : Cond.codeWith y bytes maxL ret hh ∈ ws := by rw [hw]; exact List.mem_cons_self
  refine ⟨⟨hrc, hrs, hR.1, hR.2, pay_in ht hG, hc⟩, ht _ (hG _ hc).1, ok _ (by simp [va_wsS]), ⟨hd.1, hd.2.1⟩, fun sig h => ?_, ok _ (by simp [va_wsS]), ok _ (by simp [va_wsS])⟩
  have h2 := hd.2.2
  rw [h] at h2
  exact (Option.some.inj h2).symm
theorem vx_callSW (X : Stand p l e R s m args below meth c T locs cells slots) (hexec : p.tables.exec = Jvm.exec) {own : String} {index : Nat} {y : MethodName} {bytes : ByteArray} {maxL : Nat} {ret : Option FieldType} {hh : List (Nat × Nat × Nat × Nat)}
    (hown : s.vm.findClass own = some m.cls) (hlink : (Cond.methodLink own index y).before args s = true) (hstat : (Cond.static y).before args s = true) (hinit : (Cond.initialized y.cls).before args s = true)
    (hcode : (Cond.codeWith y bytes maxL ret hh).before args s = true) (hy : y.cls ≠ "java/lang/invoke/MethodHandle" ∧ y.cls ≠ "java/lang/invoke/VarHandle")
    {W9 : Nat} {Pre : Pt → Array Value → Prop} {Post : Pt → Array Value → Option Value → Pt → Prop} (hK : Back l R p e below s args y 3 W9 Pre Post)
    {g : JFrame} (hg : g.method = m) (hsize : g.locals.size = c.maxLocals) {argsL rest : List Value} (hlen : ∀ sig, parseMethodDescriptor y.desc = some sig → argsL.length = sig.parameters.length)
    (hstack : g.stack = argsL.reverse ++ rest) (hW : 2 * g.monitorRoom + (rest.map fun v => v.category).sum ≤ W9) (hdg : decode c.code g.pc = .ok (.invokestatic index, 3))
    (hpre : ∀ vm₁, s.WarmedH vm₁ → Pre ⟨T.setVm vm₁, locs, cells, slots⟩ argsL.toArray) :
    ∃ (v : Option Value) (vm₁ : Vm) (B : Pt), s.WarmedH vm₁ ∧ Stand p l e R s m args below meth c B.U B.locs B.cells B.slots ∧ Post ⟨T.setVm vm₁, locs, cells, slots⟩ argsL.toArray v B ∧
      ∀ target, Steps p.tables e below (B.U.setTop { g with pc := g.pc + 3, stack := v.toList ++ rest }) target → Steps p.tables e below (T.setTop g) target := by
  obtain ⟨mk, methM, cM, hnamed, hmethM, -, -, -, -, -, -, hsigM⟩ := Cond.codeWith_spec hcode
  have hstatic : methM.isStatic = true := Cond.static_spec hnamed hmethM hstat
  obtain ⟨kP, hkP, -⟩ := className_of_methodNamed hnamed
  have hinitP : kP.init = .initialized := Cond.initialized_spec (findClass_of_methodNamed hnamed) hkP hinit
  obtain ⟨vm₁, X₁, hstep₁⟩ := X.invokestatic hexec hown hlink hnamed hmethM hstatic hkP hinitP hy (g := g) hg (argsL := argsL) (rest := rest) (hlen _ hsigM) hstack hdg
  obtain ⟨v, B, X', hpost, hsteps⟩ := hK m meth c ⟨T.setVm vm₁, locs, cells, slots⟩ { g with stack := rest } (.invokestatic index) mk argsL.toArray X₁ hg hsize hdg hW (X₁.named hnamed) (hpre vm₁ X₁.warmed)
  exact ⟨v, vm₁, B, X₁.warmed, X', hpost, fun target h => hstep₁ _ fun acts => by rw [doInvoke_state]; exact hsteps.trans h⟩
theorem vx_runSW {y : MethodName} {bytes cc : ByteArray} {maxL nL mc ms n index : Nat} {ret : Option FieldType} {hh : List (Nat × Nat × Nat × Nat)} {ws : List Cond} {rm : Room} {Pc : Array Value → State → Prop} {Qc : Array Value → State → Outcome → State → Prop} {free : Addr → Prop} {Ts : List Cond} {own : String} {As rest : List Value} {g : JFrame}
    (S : CallFix p m c cc nL s args Ts own) (hM : Met l y ws rm Pc Qc mc ms free) (cw : vx_CSW R s args own index y bytes maxL ret hh ws rm mc ms n) (hp : PreS s H Pc As)
    (hg : g.method = m) (hn : As.length = n) (hsize : g.locals.size = nL) (hstack : g.stack = As.reverse ++ rest) (hW : 2 * g.monitorRoom + (rest.map fun v => v.category).sum ≤ 8) (hdg : decode cc g.pc = .ok (.invokestatic index, 3)) (hf : cells + mc ≤ R.cells ∧ slots + ms ≤ R.slots) :
    va_Run p l e R s m args below meth c H locs cells slots mc ms g rest (Qc As.toArray) (free) := by
  obtain ⟨⟨hrc, hrs, hfr, hlo, hws, hcw⟩, hcode, hini, hy, hlen, hl, hstt⟩ := cw
  have hK : Back l R p e below s args y 3 8 (PreOf R mc ms Pc) (PostOf Qc mc ms free) := va_backW (hh := hh) (bytes := bytes) (maxL := maxL) (ret := ret) hM hp.1 hrc hrs hfr hlo hws hcw (fun a' U hW => word_at hW (Or.inl (by first | rfl | simp [Cond.onTables, Cond.keeps, Cond.steady])) hini)
  obtain ⟨hx, hb, hml, ho, -⟩ := S
  intro T hT X
  obtain ⟨v, vm₁, ⟨U', l2, c2, s2⟩, hW₁, X', ⟨g', mk, t, L, e1, e2, hq, h1, hL, h2, h3⟩, st⟩ := vx_callSW X hx (hh := hh) (bytes := bytes) (maxL := maxL) (ret := ret) ho hl hstt hini hcode hy hK hg (hsize.trans hml.symm) (argsL := As) (rest := rest) (fun sig h => hn.trans (hlen sig h)) hstack hW (by rw [hb]; exact hdg)
    (fun vm₁ hW₁ => ⟨hf.1, hf.2, hp.2 (T.setVm vm₁) hT hW₁⟩)
  dsimp only [Pt.U, Pt.locs, Pt.cells, Pt.slots] at X' e1 e2 h1 h2 h3 st
  subst h1; subst h2; subst h3
  exact ⟨v, (T.setVm vm₁).calling g' mk As.toArray, t, U', L, hT, X', hL, e1, e2, hq, st⟩
/-- not caught here, past rows that name other classes: it goes on to the caller -/
theorem vx_outP {p : Program} {l : Launch} {e : Env} {R : Room} {s : State} {m : MethodId} {args : Array Value} {below : List Frame} {meth : Method} {c : Code} {H : Heap} {locs : List Loc} {cells slots : Nat} {free : Addr → Prop} {ls : Array Slot} {rest : List Value} {Qc : Array Value → State → Outcome → State → Prop} {XC : String → State → State → Prop}
    {pc : Nat} {own E : String} {ce : Cell} {q : Addr} {mc ms : Nat} (hown : s.vm.findClass own = some m.cls) (hlocks : meth.locks = false)
    (hpass : ∀ z ∈ c.exceptionTable.toList, covers z pc = false ∨ (z.catchType ≠ 0 ∧ ∃ nm : String, (Cond.classLink own z.catchType nm).before args s = true ∧ va_Nc E nm s)) (hcell : H[q]? = some ce) (hv : ce.vm = .none) (hcl : s.vm.findClass E = some ce.cls)
    (hx : ∀ t : State, t.heap = H → s.vm.Alike t.vm → XC E s t) (hf : ∀ z ∈ locs, free z.base) (hc : cells ≤ mc) (hs : slots ≤ ms) :
    vx_W p l e R s m args below meth c H locs cells slots (vx_MQ below Qc XC args s mc ms free) (F0 m pc ls rest) q := by
  intro T hT X
  have hpl : e.platform.magicAccessors = ({} : Platform).magicAccessors := by rw [X.admits.platform]
  obtain ⟨vm', hW', X', st⟩ := X.outThrough hlocks q (g := F0 m pc ls rest) rfl rfl rfl (cell := ce) (by rw [hT]; exact hcell) (by rw [hv]; rfl)
    (by obtain ⟨k9, h9, -⟩ := Vm.findClass_spec hcl; exact ⟨k9, h9⟩) (fun z hz => by
      rcases hpass z hz with h | ⟨hz0, nm, hl1, hn1⟩
      · exact Or.inl h
      · obtain ⟨c6, hc6, hcl6⟩ := Cond.classLink_spec hown hl1 e.platform hpl
        obtain ⟨a8, b8, h1, h2, h3⟩ := hn1
        cases Option.some.inj (h1.symm.trans hcl)
        cases Option.some.inj (h2.symm.trans hc6)
        exact Or.inr ⟨hz0, _, hcl6, h3⟩)
  obtain ⟨g₀, hfr⟩ := X'.frames_eq
  have hcell9 : ((T.setVm vm').setFrames (.throwing q :: below)).heap[q]? = some ce := by
    show T.heap[q]? = some ce
    rw [hT]; exact hcell
  have hend : Ended ((T.setVm vm').setFrames (.throwing q :: below)) below (.threw q) := State.frames_setFrames _ (State.cur_lt_of_frames hfr)
  refine ⟨(T.setVm vm').setFrames (.throwing q :: below), ?_, .threw q, X'.here.running, hend, Or.inr ⟨q, rfl, E, ce, locs, hx _ hT (X'.ends _).1.alike, hcell9, hv, hcl, (X'.ends _).1, (X'.ends _).2.mono hc hs, hf⟩⟩
  rw [X.pushThrowing_eq]
  exact st
/-- a thing of a world lies in the heap -/
theorem vx_lt {D : va_G} {cl : List vw_C} {ws : va_W} {H1 : Heap} (h : va_P D cl ws H1) {k : Nat} {q : Nat × va_E} (hk : ws[k]? = some q) : q.1 < H1.size := (h k q hk).lt
end VXS
/-! ===== END ===== -/
/-! ===== BEGIN methods with a table of their own: called by a name, returning or throwing ===== -/
section VXH
/-! vx_backW, vx_callVX, vx_callSX, vx_callVW, vx_runVW, vx_runVX, vx_runSX, vx_ofWH follow the same proofs as their sisters above (Free/Laws.lean, Shelf42/LK1.lean); vx_outP calls Shelf42/NT130.lean (outThrough). -/
section
variable {l : Launch} {R : Room} {p : Program} {e : Env} {below : List Frame} {s : State} {sargs : Array Value} {y : MethodName} {len W9 : Nat}
theorem vx_backW {ws : List Cond} {rm : Room} {Pc : Array Value → State → Prop} {Qc : Array Value → State → Outcome → State → Prop} {XC : String → State → State → Prop} {mc ms : Nat} {free : Addr → Prop} {bytes : ByteArray} {maxL : Nat} {ret : Option FieldType} {hh : List (Nat × Nat × Nat × Nat)}
    (hM : vx_Met l y ws rm Pc Qc XC mc ms free) (hblind : FrameBlind Pc) (hrc : rm.cells = mc) (hrs : rm.slots = ms)
    (hframes : rm.frames + 1 ≤ R.frames) (hlocals : W9 + (maxL + 11) + rm.locals ≤ R.locals)
    (hws : ∀ w ∈ ws, ∀ a' U, s.WarmedH U.vm → w.before a' U = true) (hcode : Cond.codeWith y bytes maxL ret hh ∈ ws) (hinit : ∀ a' U, s.WarmedH U.vm → (Cond.initialized y.cls).before a' U = true) :
    vx_Back l R p e below s sargs y len W9 (PreOf R mc ms Pc) (PostOf Qc mc ms free) (vx_Post XC mc ms free) := by
  intro m meth c A g ig mk a X hg hsize hdg hW hn hp
  have h1 : (headSpec ws rm).pre.before a A.U = true := atoms_intro fun w hw => hws w hw _ _ X.warmed
  have h2 : (Cond.codeWith y bytes maxL ret hh).before a A.U = true := hws _ hcode _ _ X.warmed
  have h3 : (Cond.initialized y.cls).before a A.U = true := hinit _ _ X.warmed
  have h4 : A.cells + (headSpec ws rm).room.cells ≤ R.cells := by rw [show (headSpec ws rm).room.cells = mc from hrc]; exact hp.1
  have h5 : A.slots + (headSpec ws rm).room.slots ≤ R.slots := by rw [show (headSpec ws rm).room.slots = ms from hrs]; exact hp.2.1
  have hPc : Pc a (A.U.calling g mk a) := hblind _ _ _ _ hp.2.2
  obtain ⟨U, Ls, c0, s0⟩ := A
  dsimp only [Pt.U, Pt.locs, Pt.cells, Pt.slots] at h1 h2 h3 h4 h5 X hn hPc ⊢
  obtain ⟨m9, methY, cY, hn9, hmY, hcY, -, hlY, -⟩ := Cond.codeWith_spec h2
  cases Option.some.inj (hn9.symm.trans hn)
  obtain ⟨kY, hkY, -⟩ := className_of_methodNamed hn
  have hinitY : kY.init = .initialized := Cond.initialized_spec (findClass_of_methodNamed hn) hkY h3
  have h : At U g.method c below := by rw [hg]; exact X.here
  have hlocals9 : W9 + (maxL + 11) + (headSpec ws rm).room.locals ≤ R.locals := hlocals
  have happ : (headSpec ws rm).appliesLoose y e.platform (U.calling g mk a) = true :=
    Spec.appliesLoose_calling (g := g) h hdg hn hkY hinitY
      (X.room_calling (g := g) (R' := (headSpec ws rm).room) hsize hmY hcY hframes (by rw [hlY]; omega) h4 h5) h1
  obtain ⟨mid, hmid⟩ := h.above
  have hfr : (U.setTop g).frames = (.java g :: mid) ++ below := by rw [State.frames_setTop' g h.top, hmid]; rfl
  obtain ⟨o, s₂, hsteps, -, hend, hq⟩ := Steps.callFree hM p X.admits X.cas X.clock (acts := []) hfr happ hPc trivial
  have hq' : vx_Q Qc XC mc ms free a (U.calling g mk a) o s₂ := hq
  rw [State.frames_setTop' g h.top] at hend
  obtain ⟨g₀, hg0⟩ := Option.isSome_iff_exists.mp h.top
  obtain ⟨r, hr⟩ := State.topJava?_eq_some.mp hg0
  have hr' : (({ U with heap := s₂.heap, slotsUsed := s₂.slotsUsed } : State).setVm s₂.vm).frames = .java g₀ :: r := hr
  rcases hq' with ⟨hqc, L, hfe, hL⟩ | ⟨q, rfl, E, ce, L, hx, hce, hcv, hcl, hW₂, hsm, hL⟩
  · obtain ⟨⟨v, rfl⟩, hW₂, e2, q2, q3, q4, q5, q6⟩ := id hfe
    have e3 : s₂ = ({ (U.calling g mk a).setFrames s₂.frames with heap := s₂.heap, slotsUsed := s₂.slotsUsed } : State).setVm s₂.vm := by
      have : s₂ = ({ s₂ with vm := (U.calling g mk a).vm } : State).setVm s₂.vm := rfl
      rw [e2] at this
      exact this
    obtain ⟨c₂, i₂, len₂, hc₂, hd₂, hf₂⟩ := hend
    have hW' : U.WarmedH s₂.vm := hW₂
    have hcc : c₂ = c := by
      have h1 : s₂.code? g.method = U.code? g.method := by
        rw [State.code?_eq, State.code?_eq, hW'.alike.method?]
      exact Option.some.inj (hc₂.symm.trans (h1.trans h.code))
    subst hcc
    have hlen : len₂ = len := by rw [hdg] at hd₂; cases hd₂; rfl
    subst hlen
    have hs₂ : s₂ = (({ U with heap := s₂.heap, slotsUsed := s₂.slotsUsed } : State).setVm s₂.vm).setTop { g with pc := g.pc + len₂, stack := v.toList ++ g.stack } := by
      refine e3.trans ?_
      rw [hf₂, State.calling_eq h.top, State.setFrames_setFrames, State.setTop_of_frames _ hr', hr]
      rfl
    have hsame : U.sameButNew ({ U with heap := s₂.heap, slotsUsed := s₂.slotsUsed } : State) L mc ms := by
      refine ⟨?_, q2, q3, q4, q5, q6⟩
      obtain ⟨t, ht, -⟩ := State.frames_cons hr
      show ({ U with heap := s₂.heap, slotsUsed := s₂.slotsUsed } : State) = { U.setFrames U.frames with heap := s₂.heap, slotsUsed := s₂.slotsUsed }
      rw [State.setFrames_self ht]
    subst hg
    refine Or.inl ⟨v, ⟨(({ U with heap := s₂.heap, slotsUsed := s₂.slotsUsed } : State).setVm s₂.vm), Ls ++ L, c0 + mc, s0 + ms⟩,
      ⟨X.admits, X.cas, X.clock, X.frames, X.room, X.hears, X.method, X.code, (X.here.setHeapUsed s₂.heap s₂.slotsUsed).setVm hW'.alike, X.tail, State.WarmedH.trans X.warmed hW', X.limits, X.bytes, X.same.trans (hsame.setVm s.vm)⟩,
      ⟨g, mk, s₂, L, rfl, rfl, hqc, rfl, hL, rfl, rfl⟩, ?_⟩
    show Steps p.tables e below _ ((({ U with heap := s₂.heap, slotsUsed := s₂.slotsUsed } : State).setVm s₂.vm).setTop { g with pc := g.pc + len₂, stack := v.toList ++ g.stack })
    rw [← hs₂]
    exact hsteps
  · obtain ⟨e2, q2, q3, q4, q5, q6⟩ := id hsm
    have e3 : s₂ = ({ (U.calling g mk a).setFrames s₂.frames with heap := s₂.heap, slotsUsed := s₂.slotsUsed } : State).setVm s₂.vm := by
      have : s₂ = ({ s₂ with vm := (U.calling g mk a).vm } : State).setVm s₂.vm := rfl
      rw [e2] at this
      exact this
    have hf₂ : s₂.frames = .throwing q :: .java g :: U.frames.tail := hend
    have hW' : U.WarmedH s₂.vm := hW₂
    have hs₂ : s₂ = ((({ U with heap := s₂.heap, slotsUsed := s₂.slotsUsed } : State).setVm s₂.vm).setTop g).pushFrame (.throwing q) := by
      refine e3.trans ?_
      rw [hf₂, State.calling_eq h.top, State.setFrames_setFrames, State.pushFrame, State.frames_setTop _ hr', State.setTop_of_frames _ hr', State.setFrames_setFrames, hr]
      rfl
    have hsame : U.sameButNew ({ U with heap := s₂.heap, slotsUsed := s₂.slotsUsed } : State) L mc ms := by
      refine ⟨?_, q2, q3, q4, q5, q6⟩
      obtain ⟨t, ht, -⟩ := State.frames_cons hr
      show ({ U with heap := s₂.heap, slotsUsed := s₂.slotsUsed } : State) = { U.setFrames U.frames with heap := s₂.heap, slotsUsed := s₂.slotsUsed }
      rw [State.setFrames_self ht]
    subst hg
    refine Or.inr ⟨q, ⟨(({ U with heap := s₂.heap, slotsUsed := s₂.slotsUsed } : State).setVm s₂.vm), Ls ++ L, c0 + mc, s0 + ms⟩,
      ⟨X.admits, X.cas, X.clock, X.frames, X.room, X.hears, X.method, X.code, (X.here.setHeapUsed s₂.heap s₂.slotsUsed).setVm hW'.alike, X.tail, State.WarmedH.trans X.warmed hW', X.limits, X.bytes, X.same.trans (hsame.setVm s.vm)⟩,
      ⟨g, mk, s₂, L, E, ce, rfl, rfl, hx, hce, hcv, hcl, rfl, hL, rfl, rfl⟩, ?_⟩
    show Steps p.tables e below _ (((({ U with heap := s₂.heap, slotsUsed := s₂.slotsUsed } : State).setVm s₂.vm).setTop g).pushFrame (.throwing q))
    rw [← hs₂]
    exact hsteps
end
variable {p : Program} {l : Launch} {e : Env} {R : Room} {s : State} {m : MethodId} {args : Array Value} {below : List Frame} {meth : Method} {c : Code} {T : State} {H : Heap} {locs : List Loc} {cells slots : Nat}
theorem vx_callVX (X : Stand p l e R s m args below meth c T locs cells slots) (hexec : p.tables.exec = Jvm.exec) {own C : String} {index : Nat} {y : MethodName} {bytes : ByteArray} {maxL : Nat} {ret : Option FieldType} {hh : List (Nat × Nat × Nat × Nat)}
    (hown : s.vm.findClass own = some m.cls) (hlink : (Cond.methodLink own index y).before args s = true) (hinst : (Cond.instanceMethod y).before args s = true) (hsel : (Cond.selects C y y).before args s = true)
    (hcode : (Cond.codeWith y bytes maxL ret hh).before args s = true) (hy : y.cls ≠ "java/lang/invoke/MethodHandle" ∧ y.cls ≠ "java/lang/invoke/VarHandle")
    {W9 : Nat} {Pre : Pt → Array Value → Prop} {Post : Pt → Array Value → Option Value → Pt → Prop} {PostX : Pt → Array Value → Addr → Pt → Prop} (hK : vx_Back l R p e below s args y 3 W9 Pre Post PostX)
    {b : Addr} {cellB : Cell} (hcell : T.heap[b]? = some cellB) (hobj : cellB.vm.isStatics = false) (hcls : s.vm.findClass C = some cellB.cls)
    {g : JFrame} (hg : g.method = m) (hsize : g.locals.size = c.maxLocals) {argsL rest : List Value} (hlen : ∀ sig, parseMethodDescriptor y.desc = some sig → argsL.length = sig.parameters.length)
    (hstack : g.stack = argsL.reverse ++ .ref b :: rest) (hW : 2 * g.monitorRoom + (rest.map fun v => v.category).sum ≤ W9) (hdg : decode c.code g.pc = .ok (.invokevirtual index, 3))
    (hpre : ∀ vm₁, s.WarmedH vm₁ → Pre ⟨T.setVm vm₁, locs, cells, slots⟩ (Value.ref b :: argsL).toArray) :
    (∃ (v : Option Value) (vm₁ : Vm) (B : Pt), s.WarmedH vm₁ ∧ Stand p l e R s m args below meth c B.U B.locs B.cells B.slots ∧ Post ⟨T.setVm vm₁, locs, cells, slots⟩ (Value.ref b :: argsL).toArray v B ∧
      ∀ target, Steps p.tables e below (B.U.setTop { g with pc := g.pc + 3, stack := v.toList ++ rest }) target → Steps p.tables e below (T.setTop g) target) ∨
    (∃ (q : Addr) (vm₁ : Vm) (B : Pt), s.WarmedH vm₁ ∧ Stand p l e R s m args below meth c B.U B.locs B.cells B.slots ∧ PostX ⟨T.setVm vm₁, locs, cells, slots⟩ (Value.ref b :: argsL).toArray q B ∧
      Steps p.tables e below (T.setTop g) ((B.U.setTop { g with stack := rest }).pushFrame (.throwing q))) := by
  obtain ⟨mk, methM, hnamed, hmethM, hstM, habM⟩ := Cond.instanceMethod_spec hinst
  obtain ⟨m8, methM', cM, hn8, hmethM', -, -, -, -, -, -, hsigM⟩ := Cond.codeWith_spec hcode
  cases Option.some.inj (hn8.symm.trans hnamed)
  cases hmethM.symm.trans hmethM'
  obtain ⟨c2, r2, m2, q1, q2, q3, q4, kP, hkP, hkPi⟩ := Cond.selects_spec hsel
  cases hcls.symm.trans q1
  cases (State.methodFound?_of_named hnamed hy).symm.trans q2
  cases hnamed.symm.trans q3
  have hselP : selectMethod e.platform s.vm cellB.cls mk = .method mk := by rw [Launch.admits_selectMethod X.admits]; exact q4
  obtain ⟨vm₁, X₁, hstep₁⟩ := X.invokevirtual hexec hown hlink hnamed hmethM hstM hkP hkPi hy (a := b) (cell := cellB) hcell
    (fun z h => by rw [h] at hobj; cases hobj) hselP hmethM habM hkP hkPi (g := g) hg (argsL := argsL) (rest := rest) (hlen _ hsigM) hstack hdg
  rcases hK m meth c ⟨T.setVm vm₁, locs, cells, slots⟩ { g with stack := rest } (.invokevirtual index) mk (Value.ref b :: argsL).toArray X₁ hg hsize hdg hW (X₁.named hnamed) (hpre vm₁ X₁.warmed) with ⟨v, B, X', hpost, hsteps⟩ | ⟨q, B, X', hpost, hsteps⟩
  · exact Or.inl ⟨v, vm₁, B, X₁.warmed, X', hpost, fun target h => hstep₁ _ fun acts => by rw [doInvoke_state]; exact hsteps.trans h⟩
  · exact Or.inr ⟨q, vm₁, B, X₁.warmed, X', hpost, hstep₁ _ fun acts => by rw [doInvoke_state]; exact hsteps⟩
theorem vx_callSX (X : Stand p l e R s m args below meth c T locs cells slots) (hexec : p.tables.exec = Jvm.exec) {own : String} {index : Nat} {y : MethodName} {bytes : ByteArray} {maxL : Nat} {ret : Option FieldType} {hh : List (Nat × Nat × Nat × Nat)}
    (hown : s.vm.findClass own = some m.cls) (hlink : (Cond.methodLink own index y).before args s = true) (hstat : (Cond.static y).before args s = true) (hinit : (Cond.initialized y.cls).before args s = true)
    (hcode : (Cond.codeWith y bytes maxL ret hh).before args s = true) (hy : y.cls ≠ "java/lang/invoke/MethodHandle" ∧ y.cls ≠ "java/lang/invoke/VarHandle")
    {W9 : Nat} {Pre : Pt → Array Value → Prop} {Post : Pt → Array Value → Option Value → Pt → Prop} {PostX : Pt → Array Value → Addr → Pt → Prop} (hK : vx_Back l R p e below s args y 3 W9 Pre Post PostX)
    {g : JFrame} (hg : g.method = m) (hsize : g.locals.size = c.maxLocals) {argsL rest : List Value} (hlen : ∀ sig, parseMethodDescriptor y.desc = some sig → argsL.length = sig.parameters.length)
    (hstack : g.stack = argsL.reverse ++ rest) (hW : 2 * g.monitorRoom + (rest.map fun v => v.category).sum ≤ W9) (hdg : decode c.code g.pc = .ok (.invokestatic index, 3))
    (hpre : ∀ vm₁, s.WarmedH vm₁ → Pre ⟨T.setVm vm₁, locs, cells, slots⟩ argsL.toArray) :
    (∃ (v : Option Value) (vm₁ : Vm) (B : Pt), s.WarmedH vm₁ ∧ Stand p l e R s m args below meth c B.U B.locs B.cells B.slots ∧ Post ⟨T.setVm vm₁, locs, cells, slots⟩ argsL.toArray v B ∧
      ∀ target, Steps p.tables e below (B.U.setTop { g with pc := g.pc + 3, stack := v.toList ++ rest }) target → Steps p.tables e below (T.setTop g) target) ∨
    (∃ (q : Addr) (vm₁ : Vm) (B : Pt), s.WarmedH vm₁ ∧ Stand p l e R s m args below meth c B.U B.locs B.cells B.slots ∧ PostX ⟨T.setVm vm₁, locs, cells, slots⟩ argsL.toArray q B ∧
      Steps p.tables e below (T.setTop g) ((B.U.setTop { g with stack := rest }).pushFrame (.throwing q))) := by
  obtain ⟨mk, methM, cM, hnamed, hmethM, -, -, -, -, -, -, hsigM⟩ := Cond.codeWith_spec hcode
  have hstatic : methM.isStatic = true := Cond.static_spec hnamed hmethM hstat
  obtain ⟨kP, hkP, -⟩ := className_of_methodNamed hnamed
  have hinitP : kP.init = .initialized := Cond.initialized_spec (findClass_of_methodNamed hnamed) hkP hinit
  obtain ⟨vm₁, X₁, hstep₁⟩ := X.invokestatic hexec hown hlink hnamed hmethM hstatic hkP hinitP hy (g := g) hg (argsL := argsL) (rest := rest) (hlen _ hsigM) hstack hdg
  rcases hK m meth c ⟨T.setVm vm₁, locs, cells, slots⟩ { g with stack := rest } (.invokestatic index) mk argsL.toArray X₁ hg hsize hdg hW (X₁.named hnamed) (hpre vm₁ X₁.warmed) with ⟨v, B, X', hpost, hsteps⟩ | ⟨q, B, X', hpost, hsteps⟩
  · exact Or.inl ⟨v, vm₁, B, X₁.warmed, X', hpost, fun target h => hstep₁ _ fun acts => by rw [doInvoke_state]; exact hsteps.trans h⟩
  · exact Or.inr ⟨q, vm₁, B, X₁.warmed, X', hpost, hstep₁ _ fun acts => by rw [doInvoke_state]; exact hsteps⟩
theorem vx_callVW (X : Stand p l e R s m args below meth c T locs cells slots) (hexec : p.tables.exec = Jvm.exec) {own C : String} {index : Nat} {y : MethodName} {bytes : ByteArray} {maxL : Nat} {ret : Option FieldType} {hh : List (Nat × Nat × Nat × Nat)}
    (hown : s.vm.findClass own = some m.cls) (hlink : (Cond.methodLink own index y).before args s = true) (hinst : (Cond.instanceMethod y).before args s = true) (hsel : (Cond.selects C y y).before args s = true)
    (hcode : (Cond.codeWith y bytes maxL ret hh).before args s = true) (hy : y.cls ≠ "java/lang/invoke/MethodHandle" ∧ y.cls ≠ "java/lang/invoke/VarHandle")
    {W9 : Nat} {Pre : Pt → Array Value → Prop} {Post : Pt → Array Value → Option Value → Pt → Prop} (hK : Back l R p e below s args y 3 W9 Pre Post)
    {b : Addr} {cellB : Cell} (hcell : T.heap[b]? = some cellB) (hobj : cellB.vm.isStatics = false) (hcls : s.vm.findClass C = some cellB.cls)
    {g : JFrame} (hg : g.method = m) (hsize : g.locals.size = c.maxLocals) {argsL rest : List Value} (hlen : ∀ sig, parseMethodDescriptor y.desc = some sig → argsL.length = sig.parameters.length)
    (hstack : g.stack = argsL.reverse ++ .ref b :: rest) (hW : 2 * g.monitorRoom + (rest.map fun v => v.category).sum ≤ W9) (hdg : decode c.code g.pc = .ok (.invokevirtual index, 3))
    (hpre : ∀ vm₁, s.WarmedH vm₁ → Pre ⟨T.setVm vm₁, locs, cells, slots⟩ (Value.ref b :: argsL).toArray) :
    ∃ (v : Option Value) (vm₁ : Vm) (B : Pt), s.WarmedH vm₁ ∧ Stand p l e R s m args below meth c B.U B.locs B.cells B.slots ∧ Post ⟨T.setVm vm₁, locs, cells, slots⟩ (Value.ref b :: argsL).toArray v B ∧
      ∀ target, Steps p.tables e below (B.U.setTop { g with pc := g.pc + 3, stack := v.toList ++ rest }) target → Steps p.tables e below (T.setTop g) target := by
  obtain ⟨mk, methM, hnamed, hmethM, hstM, habM⟩ := Cond.instanceMethod_spec hinst
  obtain ⟨m8, methM', cM, hn8, hmethM', -, -, -, -, -, -, hsigM⟩ := Cond.codeWith_spec hcode
  cases Option.some.inj (hn8.symm.trans hnamed)
  cases hmethM.symm.trans hmethM'
  obtain ⟨c2, r2, m2, q1, q2, q3, q4, kP, hkP, hkPi⟩ := Cond.selects_spec hsel
  cases hcls.symm.trans q1
  cases (State.methodFound?_of_named hnamed hy).symm.trans q2
  cases hnamed.symm.trans q3
  have hselP : selectMethod e.platform s.vm cellB.cls mk = .method mk := by rw [Launch.admits_selectMethod X.admits]; exact q4
  obtain ⟨vm₁, X₁, hstep₁⟩ := X.invokevirtual hexec hown hlink hnamed hmethM hstM hkP hkPi hy (a := b) (cell := cellB) hcell
    (fun z h => by rw [h] at hobj; cases hobj) hselP hmethM habM hkP hkPi (g := g) hg (argsL := argsL) (rest := rest) (hlen _ hsigM) hstack hdg
  obtain ⟨v, B, X', hpost, hsteps⟩ := hK m meth c ⟨T.setVm vm₁, locs, cells, slots⟩ { g with stack := rest } (.invokevirtual index) mk (Value.ref b :: argsL).toArray X₁ hg hsize hdg hW (X₁.named hnamed) (hpre vm₁ X₁.warmed)
  exact ⟨v, vm₁, B, X₁.warmed, X', hpost, fun target h => hstep₁ _ fun acts => by rw [doInvoke_state]; exact hsteps.trans h⟩
abbrev vx_CVW (R : Room) (s : State) (args : Array Value) (own C : String) (index : Nat) (y : MethodName) (bytes : ByteArray) (maxL : Nat) (ret : Option FieldType) (hh : List (Nat × Nat × Nat × Nat)) (ws : List Cond) (rm : Room) (mc ms n : Nat) : Prop :=
  (rm.cells = mc ∧ rm.slots = ms ∧ rm.frames + 1 ≤ R.frames ∧ 8 + (maxL + 11) + rm.locals ≤ R.locals ∧ (∀ w ∈ ws, ∀ (a' : Array Value) (U : State), s.WarmedH U.vm → w.before a' U = true) ∧ Cond.codeWith y bytes maxL ret hh ∈ ws) ∧
  (Cond.codeWith y bytes maxL ret hh).before args s = true ∧ (Cond.initialized y.cls).before args s = true ∧ (y.cls ≠ "java/lang/invoke/MethodHandle" ∧ y.cls ≠ "java/lang/invoke/VarHandle") ∧
  (∀ sig, parseMethodDescriptor y.desc = some sig → n = sig.parameters.length) ∧ (Cond.methodLink own index y).before args s = true ∧ (Cond.instanceMethod y).before args s = true ∧ (Cond.selects C y y).before args s = true
theorem vx_cwVW {own C : String} {index maxL mc ms : Nat} {y : MethodName} {bytes : ByteArray} {ret : Option FieldType} {hh : List (Nat × Nat × Nat × Nat)} {Ts ws ws' : List Cond} {rm : Room} (n : Nat) (ht : ∀ w ∈ Ts, w.before args s = true) (hT : GoodIn Ts (wsV own index C y ws)) (hw : ws = Cond.codeWith y bytes maxL ret hh :: ws') (hrc : rm.cells = mc) (hrs : rm.slots = ms)
    (hd : y.cls = C ∧ y.cls ≠ "java/lang/invoke/MethodHandle" ∧ y.cls ≠ "java/lang/invoke/VarHandle" ∧ (parseMethodDescriptor y.desc).map (fun d => d.parameters.length) = some n) (hR : rm.frames + 1 ≤ R.frames ∧ 8 + (maxL + 11) + rm.locals ≤ R.locals) :
    vx_CVW R s args own C index y bytes maxL ret hh ws rm mc ms n := by
  obtain ⟨hC, hd⟩ := hd
  subst hC
  have ok : ∀ w ∈ wsV own index y.cls y ws, w.before args s = true := fun w h => ht w (hT w h).1
  have hG : GoodIn Ts ws := fun w h => hT w (by unfold wsV; exact List.mem_append_right _ h)
  have hc : Cond.codeWith y bytes maxL ret hh ∈ ws := by rw [hw]; exact List.mem_cons_self
  refine ⟨⟨hrc, hrs, hR.1, hR.2, pay_in ht hG, hc⟩, ht _ (hG _ hc).1, ok _ (by simp [wsV]), ⟨hd.1, hd.2.1⟩, fun sig h => ?_, ok _ (by simp [wsV]), ok _ (by simp [wsV]), ok _ (by simp [wsV])⟩
  have h2 := hd.2.2
  rw [h] at h2
  exact (Option.some.inj h2).symm
theorem vx_runVW {y : MethodName} {bytes cc : ByteArray} {maxL nL mc ms n index : Nat} {ret : Option FieldType} {hh : List (Nat × Nat × Nat × Nat)} {ws : List Cond} {rm : Room} {Pc : Array Value → State → Prop} {Qc : Array Value → State → Outcome → State → Prop} {free : Addr → Prop} {Ts : List Cond} {own C : String} {b : Addr} {As rest : List Value} {g : JFrame}
    (S : CallFix p m c cc nL s args Ts own) (hM : Met l y ws rm Pc Qc mc ms free) (cw : vx_CVW R s args own C index y bytes maxL ret hh ws rm mc ms n) (hp : PreV s H C b Pc As)
    (hg : g.method = m) (hn : As.length = n) (hsize : g.locals.size = nL) (hstack : g.stack = As.reverse ++ .ref b :: rest) (hW : 2 * g.monitorRoom + (rest.map fun v => v.category).sum ≤ 8) (hdg : decode cc g.pc = .ok (.invokevirtual index, 3)) (hf : cells + mc ≤ R.cells ∧ slots + ms ≤ R.slots) :
    va_Run p l e R s m args below meth c H locs cells slots mc ms g rest (Qc (Value.ref b :: As).toArray) free := by
  obtain ⟨⟨hrc, hrs, hfr, hlo, hws, hcw⟩, hcode, hini, hy, hlen, hl, hin, hse⟩ := cw
  have hK : Back l R p e below s args y 3 8 (PreOf R mc ms Pc) (PostOf Qc mc ms free) := va_backW (hh := hh) (bytes := bytes) (maxL := maxL) (ret := ret) hM hp.1 hrc hrs hfr hlo hws hcw (fun a' U hW => word_at hW (Or.inl (by first | rfl | simp [Cond.onTables, Cond.keeps, Cond.steady])) hini)
  obtain ⟨hx, hb, hml, ho, -⟩ := S
  obtain ⟨-, ⟨cellB, hcB, hoB, hclB⟩, hPc⟩ := hp
  intro T hT X
  obtain ⟨v, vm₁, ⟨U', l2, c2, s2⟩, hW₁, X', ⟨g', mk, t, L, e1, e2, hq, h1, hL, h2, h3⟩, st⟩ := vx_callVW X hx (C := C) (hh := hh) (bytes := bytes) (maxL := maxL) (ret := ret) ho hl hin hse hcode hy hK (by rw [hT]; exact hcB) hoB hclB hg (hsize.trans hml.symm) (argsL := As) (rest := rest) (fun sig h => hn.trans (hlen sig h)) hstack hW (by rw [hb]; exact hdg)
    (fun vm₁ hW₁ => ⟨hf.1, hf.2, hPc (T.setVm vm₁) hT hW₁⟩)
  dsimp only [Pt.U, Pt.locs, Pt.cells, Pt.slots] at X' e1 e2 h1 h2 h3 st
  subst h1; subst h2; subst h3
  exact ⟨v, (T.setVm vm₁).calling g' mk (Value.ref b :: As).toArray, t, U', L, hT, X', hL, e1, e2, hq, st⟩
section
variable {y : MethodName} {bytes cc : ByteArray} {maxL nL mc ms n index : Nat} {ret : Option FieldType} {ws : List Cond} {rm : Room} {Pc : Array Value → State → Prop} {Qc : Array Value → State → Outcome → State → Prop} {XC : String → State → State → Prop} {free : Addr → Prop} {Ts : List Cond} {own C : String} {b : Addr} {As rest : List Value} {g : JFrame}
theorem vx_runVX {hh : List (Nat × Nat × Nat × Nat)} (S : CallFix p m c cc nL s args Ts own) (hM : vx_Met l y ws rm Pc Qc XC mc ms free) (cw : vx_CVW R s args own C index y bytes maxL ret hh ws rm mc ms n) (hp : PreV s H C b Pc As)
    (hg : g.method = m) (hn : As.length = n) (hsize : g.locals.size = nL) (hstack : g.stack = As.reverse ++ .ref b :: rest) (hW : 2 * g.monitorRoom + (rest.map fun v => v.category).sum ≤ 8) (hdg : decode cc g.pc = .ok (.invokevirtual index, 3)) (hf : cells + mc ≤ R.cells ∧ slots + ms ≤ R.slots) :
    vx_Run p l e R s m args below meth c H locs cells slots mc ms g rest (Qc (Value.ref b :: As).toArray) XC free := by
  obtain ⟨⟨hrc, hrs, hfr, hlo, hws, hcw⟩, hcode, hini, hy, hlen, hl, hin, hse⟩ := cw
  have hK : vx_Back l R p e below s args y 3 8 (PreOf R mc ms Pc) (PostOf Qc mc ms free) (vx_Post XC mc ms free) := vx_backW (hh := hh) (bytes := bytes) (maxL := maxL) (ret := ret) hM hp.1 hrc hrs hfr hlo hws hcw (fun a' U hW => word_at hW (Or.inl (by first | rfl | simp [Cond.onTables, Cond.keeps, Cond.steady])) hini)
  obtain ⟨hx, hb, hml, ho, -⟩ := S
  obtain ⟨-, ⟨cellB, hcB, hoB, hclB⟩, hPc⟩ := hp
  intro T hT X
  rcases vx_callVX X hx (C := C) (hh := hh) (bytes := bytes) (maxL := maxL) (ret := ret) ho hl hin hse hcode hy hK (by rw [hT]; exact hcB) hoB hclB hg (hsize.trans hml.symm) (argsL := As) (rest := rest) (fun sig h => hn.trans (hlen sig h)) hstack hW (by rw [hb]; exact hdg)
    (fun vm₁ hW₁ => ⟨hf.1, hf.2, hPc (T.setVm vm₁) hT hW₁⟩) with ⟨v, vm₁, ⟨U', l2, c2, s2⟩, hW₁, X', ⟨g', mk, t, L, e1, e2, hq, h1, hL, h2, h3⟩, st⟩ | ⟨q, vm₁, ⟨U', l2, c2, s2⟩, hW₁, X', ⟨g', mk, t, L, E, ce, e1, e2, hq, hce, hcv, hcl, h1, hL, h2, h3⟩, st⟩
  · dsimp only [Pt.U, Pt.locs, Pt.cells, Pt.slots] at X' e1 e2 h1 h2 h3 st
    subst h1; subst h2; subst h3
    exact Or.inl ⟨v, (T.setVm vm₁).calling g' mk (Value.ref b :: As).toArray, t, U', L, hT, X', hL, e1, e2, hq, st⟩
  · dsimp only [Pt.U, Pt.locs, Pt.cells, Pt.slots] at X' e1 e2 h1 h2 h3 st hcl
    subst h1; subst h2; subst h3
    exact Or.inr ⟨q, (T.setVm vm₁).calling g' mk (Value.ref b :: As).toArray, t, U', L, E, ce, hT, X', hL, e1, e2, hq, hce, hcv, vx_cls hW₁ hcl, st⟩
theorem vx_runSX {hh : List (Nat × Nat × Nat × Nat)} (S : CallFix p m c cc nL s args Ts own) (hM : vx_Met l y ws rm Pc Qc XC mc ms free) (cw : vx_CSW R s args own index y bytes maxL ret hh ws rm mc ms n) (hp : PreS s H Pc As)
    (hg : g.method = m) (hn : As.length = n) (hsize : g.locals.size = nL) (hstack : g.stack = As.reverse ++ rest) (hW : 2 * g.monitorRoom + (rest.map fun v => v.category).sum ≤ 8) (hdg : decode cc g.pc = .ok (.invokestatic index, 3)) (hf : cells + mc ≤ R.cells ∧ slots + ms ≤ R.slots) :
    vx_Run p l e R s m args below meth c H locs cells slots mc ms g rest (Qc As.toArray) XC free := by
  obtain ⟨⟨hrc, hrs, hfr, hlo, hws, hcw⟩, hcode, hini, hy, hlen, hl, hstt⟩ := cw
  have hK : vx_Back l R p e below s args y 3 8 (PreOf R mc ms Pc) (PostOf Qc mc ms free) (vx_Post XC mc ms free) := vx_backW (hh := hh) (bytes := bytes) (maxL := maxL) (ret := ret) hM hp.1 hrc hrs hfr hlo hws hcw (fun a' U hW => word_at hW (Or.inl (by first | rfl | simp [Cond.onTables, Cond.keeps, Cond.steady])) hini)
  obtain ⟨hx, hb, hml, ho, -⟩ := S
  intro T hT X
  rcases vx_callSX X hx (hh := hh) (bytes := bytes) (maxL := maxL) (ret := ret) ho hl hstt hini hcode hy hK hg (hsize.trans hml.symm) (argsL := As) (rest := rest) (fun sig h => hn.trans (hlen sig h)) hstack hW (by rw [hb]; exact hdg)
    (fun vm₁ hW₁ => ⟨hf.1, hf.2, hp.2 (T.setVm vm₁) hT hW₁⟩) with ⟨v, vm₁, ⟨U', l2, c2, s2⟩, hW₁, X', ⟨g', mk, t, L, e1, e2, hq, h1, hL, h2, h3⟩, st⟩ | ⟨q, vm₁, ⟨U', l2, c2, s2⟩, hW₁, X', ⟨g', mk, t, L, E, ce, e1, e2, hq, hce, hcv, hcl, h1, hL, h2, h3⟩, st⟩
  · dsimp only [Pt.U, Pt.locs, Pt.cells, Pt.slots] at X' e1 e2 h1 h2 h3 st
    subst h1; subst h2; subst h3
    exact Or.inl ⟨v, (T.setVm vm₁).calling g' mk As.toArray, t, U', L, hT, X', hL, e1, e2, hq, st⟩
  · dsimp only [Pt.U, Pt.locs, Pt.cells, Pt.slots] at X' e1 e2 h1 h2 h3 st hcl
    subst h1; subst h2; subst h3
    exact Or.inr ⟨q, (T.setVm vm₁).calling g' mk As.toArray, t, U', L, E, ce, hT, X', hL, e1, e2, hq, hce, hcv, vx_cls hW₁ hcl, st⟩
end
end VXH
theorem vx_ofWH {l : Launch} {y : MethodName} {ws ws' : List Cond} {rm : Room} {Pc : Array Value → State → Prop} {Qc : Array Value → State → Outcome → State → Prop} {XC : String → State → State → Prop} {mc ms : Nat} {free : Addr → Prop} {cc : ByteArray} {maxL : Nat} {ret : Option FieldType} {hh : List (Nat × Nat × Nat × Nat)}
    (hy : plainName y.cls = true) (hw : ws = Cond.codeWith y cc maxL ret hh :: ws')
    (body : ∀ p e s m args below meth c s₁, BodyLoose p l y (headSpec ws rm) cc maxL ret e s m args below meth c s₁ → c.maxLocals = maxL → Pc args s →
      W p l e (headSpec ws rm).room s m args below meth c s.heap [] 0 0 (vx_MQ below Qc XC args s mc ms free) (entryFrame m args maxL)) : vx_Met l y ws rm Pc Qc XC mc ms free := by
  refine MetFree.of_bodyS (code := cc) (maxLocals := maxL) (ret := ret) hy ?_ ?_
  · intro args s m h hn
    obtain ⟨m9, meth, c, hn9, h1, h2, h3, h4, -, h5, h6, -⟩ := Cond.codeWith_spec (atoms_spec (ws := ws) h _ (by rw [hw]; exact List.mem_cons_self))
    cases hn.symm.trans hn9
    exact ⟨meth, c, h1, h2, h3, h4, h5, h6⟩
  · intro p e s m args below meth c s₁ B hml hP _
    have hh0 : s₁.heap = s.heap := by rw [B.state]; rfl
    obtain ⟨t, a1, o, b1, b2, b3⟩ := body p e s m args below meth c s₁ B hml hP s₁ hh0 (Stand.of_body B)
    exact ⟨t, o, a1, b1, b2, b3⟩
/-! ===== END ===== -/
/-! ===== BEGIN what the machine throws by itself, no traces kept ===== -/
section VXM
set_option maxHeartbeats 1000000 in
/-- the machine throws cls with the message text, no traces kept: from its note over the frame g to 'throwing' over the same frame (follows the proofs of Stand.vmThrowsMessage, Shelf/KitTracedVmS.lean, and Stand.throwsMessageColdBareV, StandMessageColdV.lean, without the step out of the frame) -/
theorem vx_vmAt {p : Program} {l : Launch} {e : Env} {R : Room} {s : State} {m₀ : MethodId} {args : Array Value} {below : List Frame} {meth : Method} {c : Code} {W : State} {locs : List Loc} {cells slots : Nat}
    (X : Stand p l e R s m₀ args below meth c W locs cells slots) (hexec : p.tables.exec = Jvm.exec) (htr : e.platform.stackTraces = false) {cls : String} {names : List String} {text : String}
    (hcls : Bundle.fit cls = true) (hnames : ∀ n ∈ names, Bundle.fit n = true) (hsoe : (cls == "java/lang/StackOverflowError") = false) (hoom : (cls == "java/lang/OutOfMemoryError") = false)
    (h : ∀ a ∈ Bundle.messageArmAtoms cls names, a.before args s = true)
    (hlocs : ∀ x ∈ locs, ∀ cell, s.heap[x.base]? = some cell → cell.vm.isStatics = false)
    (htext : (text == notModelled) = false) (hlimit : ¬ (stringBytes (stringToUtf16 text)).size > e.platform.arrayLengthLimit) (hheap : ¬ (stringBytes (stringToUtf16 text)).size * componentBytes .byte > e.platform.maxHeapBytes)
    {g : JFrame} (hg : g.method = m₀) (hsize : g.locals.size = c.maxLocals)
    (hRframes : names.length + 4 < R.frames) (hRlocals : 2 * g.monitorRoom + (g.stack.map fun v => v.category).sum + 10240 ≤ R.locals) (hshort : 13 * names.length + 55 ≤ 10240)
    (hRcells : cells + 3 ≤ R.cells) (hRslots : slots + ((stringBytes (stringToUtf16 text)).size + 4 + 6) ≤ R.slots) (hlocks : meth.locks = false) :
    ∃ (S : State) (q : Addr) (ce : Cell), (∀ target, Steps p.tables e below ((S.setTop g).pushFrame (.throwing q)) target → Steps p.tables e below ((W.setTop g).pushFrame (.throwNew cls (some text) none)) target) ∧
      Stand p l e R s m₀ args below meth c S locs (cells + 3) (slots + ((stringBytes (stringToUtf16 text)).size + 4 + 6)) ∧ S.heap[q]? = some ce ∧ s.vm.findClass cls = some ce.cls ∧ ce.vm = .none := by
  have howns : e.platform.frameOwnsMonitors = true := by rw [X.admits.platform]
  have hfin : e.platform.finalization = false := by rw [X.admits.platform]
  have hpl : e.platform.magicAccessors = ({} : Platform).magicAccessors := by rw [X.admits.platform]
  have a : ∀ x, x ∈ Bundle.messageArmAtoms cls names → x.holds args s none s [] = true := fun x hx => h x hx
  obtain ⟨T, Z0, L, -, Y⟩ := ThrowableC.of_atoms (args := args) howns hfin hpl (fun x hx => h x (by simp [Bundle.messageArmAtoms, hx]))
  obtain ⟨Z, M, LZ, LM, hnZ⟩ := Init0T.ofS_atoms (args := args) hpl L Y (fun x hx => h x (by simp [Bundle.messageArmAtoms, hx]))
  obtain ⟨P1, Ps, hlen, L1, hL, hP1m, hlink1, hlink⟩ := Bundle.chainS (args := args) hpl hnZ names cls hcls hnames (fun x hx => h x (by simp [Bundle.messageArmAtoms, hx]))
  obtain ⟨Zs, LZs, hn4, hfitv, hfitc⟩ := StringT.of_atoms (args := args) (fun x hx => h x (by simp [Bundle.messageArmAtoms, hx]))
  have hfound : s.vm.findClass cls = some P1.m.cls := findClass_of_methodNamed hP1m
  obtain ⟨c1, kX, hc1, hk, hord, -, -, hn6⟩ := Cond.instantiable_spec (a (.instantiable cls 6) (by simp [Bundle.messageArmAtoms]))
  cases Option.some.inj (hc1.symm.trans hfound)
  have hinit := Cond.initialized_spec hfound hk (a (.initialized cls) (by simp [Bundle.messageArmAtoms]))
  have hctor : kX.findMethod "<init>" "(Ljava/lang/String;)V" = some P1.m.idx := findMethod_of_methodNamed hP1m hk
  have hsel0 : selectMethod e.platform s.vm P1.m.cls T.fill0 = .method T.fill0 := by
    obtain ⟨c2, r2, m2, q1, q2, q3, q4, -⟩ := Cond.selects_spec (a (.selects cls Bundle.tFill0 Bundle.tFill0) (by simp [Bundle.messageArmAtoms]))
    cases Option.some.inj (q1.symm.trans hfound)
    cases Option.some.inj (q2.symm.trans (State.methodFound?_of_named Y.fill0 (by decide)))
    cases Option.some.inj (q3.symm.trans Y.fill0)
    rw [Launch.admits_selectMethod X.admits]; exact q4
  have hselF : selectMethod e.platform s.vm P1.m.cls T.fill = .method T.fill := by
    obtain ⟨c2, r2, m2, q1, q2, q3, q4, -⟩ := Cond.selects_spec (a (.selects cls Bundle.tFill Bundle.tFill) (by simp [Bundle.messageArmAtoms]))
    cases Option.some.inj (q1.symm.trans hfound)
    cases Option.some.inj (q2.symm.trans (State.methodFound?_of_named Y.fill (by decide)))
    cases Option.some.inj (q3.symm.trans Y.fill)
    rw [Launch.admits_selectMethod X.admits]; exact q4
  obtain ⟨cellS0, hcS0, hiss⟩ := Y.statics
  obtain ⟨u0, hu0⟩ := Cond.staticRefV Y.unassigned L.unassignedStatic L.statics hcS0 hiss (a (.isRef (.static Bundle.tN "UNASSIGNED_STACK" Bundle.steD)) (by simp [Bundle.messageArmAtoms]))
  obtain ⟨sen, hsen⟩ := Cond.staticRefV Y.sentinel L.sentinelStatic L.statics hcS0 hiss (a (.isRef (.static Bundle.tN "SUPPRESSED_SENTINEL" Bundle.listD)) (by simp [Bundle.messageArmAtoms]))
  obtain ⟨ci198, i198, fB, hk198, hg198, ha198, hsB, -, hnB, htB, hffB⟩ := Cond.ownField (t := .object "java/lang/Object") Y.found L.cls (by decide +kernel) (a (.fieldLink Bundle.tN 198 Bundle.tN "backtrace" "Ljava/lang/Object;") (by simp [Bundle.messageArmAtoms])) (a (.lays Bundle.tN Bundle.tN "backtrace" "Ljava/lang/Object;") (by simp [Bundle.messageArmAtoms])) e.platform hpl
  obtain ⟨cellS, hcS', heS, -, hkeep⟩ := X.same.2.2.2.2.2 T.aS cellS0 hcS0
  have hcellS : W.heap[T.aS]? = some cellS := hcS'
  have hout' : ∀ i, (⟨T.aS, i⟩ : Loc) ∉ locs := fun i hmem => by
    have := hlocs _ hmem cellS0 hcS0
    rw [hiss] at this; cases this
  have hknownS : cellS.vm ≠ .unknown := by
    rw [heS]; intro hu
    rw [show cellS0.vm = .unknown from hu] at hiss
    cases hiss
  have hvU : cellS.slots[T.fUnassigned.slot]? = some u0.v := by rw [hkeep _ (hout' _)]; exact hu0
  have hvSen : cellS.slots[T.fSentinel.slot]? = some sen.v := by rw [hkeep _ (hout' _)]; exact hsen
  obtain ⟨iM, hffM⟩ := Y.msg
  obtain ⟨tyC, dC, hdC, hdnC⟩ := Cond.laysAt hfound hk Y.cause (a (.lays cls Bundle.tN "cause" "Ljava/lang/Throwable;") (by simp [Bundle.messageArmAtoms]))
  obtain ⟨tyS, dS, hdS, hdnS⟩ := Cond.laysAt hfound hk Y.stack (a (.lays cls Bundle.tN "stackTrace" Bundle.steD) (by simp [Bundle.messageArmAtoms]))
  obtain ⟨tyP, dP, hdP, hdnP⟩ := Cond.laysAt hfound hk Y.supp (a (.lays cls Bundle.tN "suppressedExceptions" Bundle.listD) (by simp [Bundle.messageArmAtoms]))
  obtain ⟨tyM, dM, hdM, hdnM⟩ := Cond.laysAt hfound hk hffM (a (.lays cls Bundle.tN "detailMessage" "Ljava/lang/String;") (by simp [Bundle.messageArmAtoms]))
  obtain ⟨tyB, dB, hdB, hdnB⟩ := Cond.laysAt hfound hk hffB (a (.lays cls Bundle.tN "backtrace" "Ljava/lang/Object;") (by simp [Bundle.messageArmAtoms]))
  have bC := Cond.laysApart hdB hdC hdnB hdnC (by rw [hnB, Y.causeName]; decide)
  have bS := Cond.laysApart hdB hdS hdnB hdnS (by rw [hnB, Y.stackName]; decide)
  have bP := Cond.laysApart hdB hdP hdnB hdnP (by rw [hnB, Y.suppName]; decide)
  have hbk : ((preparedCellV T.toThrowableT (freshCell P1.m.cls kX) (W.heap.size + 2) u0 sen).withEntry W.cur).slots[fB.slot]? = some .null := by
    have := fresh_default (c := P1.m.cls) tyB
    rw [htB] at this
    simpa [preparedCellV, Cell.setSlot, Cell.withEntry, Array.getElem?_setIfInBounds, bC, bS, bP, bC.symm, bS.symm, bP.symm, defaultValue] using this
  have tkC := Takes.of_laid (v := .ref (W.heap.size + 2)) hk hord tyC (by rw [Y.causeType]; rfl)
  have tkS := Takes.of_laid (v := u0.v) hk hord tyS (by rw [Y.stackType]; exact fits_refV_array _ u0)
  have tkP := Takes.of_laid (v := sen.v) hk hord tyP (by rw [Y.suppType]; exact fits_refV_object _ sen)
  have tkM := Takes.of_laid (v := .ref (W.heap.size + 1)) hk hord tyM (by rw [Y.msgType]; rfl)
  have hskip : SkipFacts T e.platform s (fun u => u) u0 ((preparedCellV T.toThrowableT (freshCell P1.m.cls kX) (W.heap.size + 2) u0 sen).withEntry W.cur) := ⟨{ ci198 := ci198, i198 := i198, fBack := fB }, ⟨hk198, hg198, ha198, hsB⟩, hbk, fun _ _ => rfl⟩
  have h0 : At W g.method c below := by rw [hg]; exact X.here
  obtain ⟨hbeyond, hfreeW⟩ := X.vmMayThrow hsize (.throwNew cls (some text) none) (fun f hf => by cases hf) rfl hRlocals
  have hfr' : W.frames.length + Ps.length + 4 < (e.platform.stackLimits W.me).1 := by have := X.framesAbove hRframes; omega
  have hwd' : (stackUse (.java g :: W.frames.tail)).2 + 13 * Ps.length + 55 ≤ (e.platform.stackLimits W.me).2 := by have := X.stackAbove hsize (K := 13 * Ps.length + 55) (by omega); omega
  have hslots : W.slotsUsed + (stringBytes (stringToUtf16 text)).size + Zs.kS.instanceTypes.size + kX.instanceTypes.size ≤ e.platform.maxSlots := by
    have := X.slotsAbove hRslots
    rw [hn4, hn6]
    omega
  obtain ⟨vm', hW', st⟩ := Steps.vmThrowsMessageColdByV p (s₀ := s) (S := W) (g := g) h0 hexec T L Z LZ M LM X.warmed (t := W.cur) rfl Zs LZs P1 L1 Ps hL hlink1 hlink hsoe hoom hfound hk hinit hord hctor
    (Launch.admits_hotImplicitExceptions X.admits) hbeyond hfreeW htext hlimit hheap (X.cellsAbove hRcells) hslots (hfitv _) (hfitc _)
    (Nn := fun u => u) heapOnly_id (fun _ _ => rfl) (fun _ => rfl) (fun u x y => setCell_twice _ _ _ _) (fun _ => Nat.le_refl _) (cN := ((preparedCellV T.toThrowableT (freshCell P1.m.cls kX) (W.heap.size + 2) u0 sen).withEntry W.cur))
    hsel0 hcellS hknownS hvU tkS (fun _ hu => hu) (fun _ hu => hu) rfl rfl rfl (by simp [preparedCellV, Cell.setSlot, Cell.withEntry]) hskip (fun _ _ hA hW _ hroom _ hrest => L.nativeOff p htr hA hW hroom hrest) hselF hvSen tkC tkP tkM Y.objLocals rfl hfr' hwd'
  rw [plainBareV_eq T.toThrowableT (W.heap.size + 2) u0 sen (.ref (W.heap.size + 1)) W.cur rfl rfl] at st
  obtain ⟨-, -, w3, w4, -, -, -⟩ := withThrown_facts e.platform W Zs text P1.m.cls kX
  have X3 := ((X.pushed (bytesOf Zs.cB (stringToUtf16 text))).pushed (stringAt Zs.cS Zs.kS Zs.fv Zs.fc (stringToUtf16 text) W.heap.size)).pushed (freshCell P1.m.cls kX)
  rw [← withString_eq] at X3
  have X4 := X3.noted hW'
  have ha : (W.heap.size + 2) < ((withThrown W Zs text P1.m.cls kX).setVm vm').heap.size := by show _ < (withThrown W Zs text P1.m.cls kX).heap.size; rw [w3]; omega
  have hcell : ((withThrown W Zs text P1.m.cls kX).setVm vm').heap[(W.heap.size + 2)]? = some (freshCell P1.m.cls kX) := w4
  have X5 := ((((X4.stored hcell T.fCause.slot (.ref (W.heap.size + 2))).storedAgain ha T.fStack.slot u0.v).storedAgain ha T.fSupp.slot sen.v).storedAgain ha T.fStack.slot u0.v).storedAgain ha T.fMsg.slot (.ref (W.heap.size + 1))
  obtain ⟨g₁, hfrM⟩ := X5.frames_eq
  have hU : ((((withThrown W Zs text P1.m.cls kX).setVm vm').setCell (W.heap.size + 2) (plainBareV T.toThrowableT (freshCell P1.m.cls kX) (W.heap.size + 2) u0 sen (.ref (W.heap.size + 1)))).setTop g).pushFrame (.throwing (W.heap.size + 2)) = (((withThrown W Zs text P1.m.cls kX).setVm vm').setCell (W.heap.size + 2) (plainBareV T.toThrowableT (freshCell P1.m.cls kX) (W.heap.size + 2) u0 sen (.ref (W.heap.size + 1)))).setFrames (.throwing (W.heap.size + 2) :: .java g :: below) := by
    rw [State.pushFrame, State.frames_setTop _ hfrM, State.setTop_of_frames _ hfrM, State.setFrames_setFrames]
  have b1 : (bytesOf Zs.cB (stringToUtf16 text)).slots.size = (stringBytes (stringToUtf16 text)).size := by
    rw [(Cell.writeAll_facts _ _).2.2]; simp [bytes0]
  have b2 : (stringAt Zs.cS Zs.kS Zs.fv Zs.fc (stringToUtf16 text) W.heap.size).slots.size = 4 := by simp [string0, Cell.setSlot, hn4]
  have b3 : (freshCell P1.m.cls kX).slots.size = 6 := by simp [hn6]
  rw [b1, b2, b3] at X5
  have e9 : slots + (stringBytes (stringToUtf16 text)).size + 4 + 6 = slots + ((stringBytes (stringToUtf16 text)).size + 4 + 6) := by omega
  rw [e9] at X5
  simp only [List.append_assoc, List.cons_append, List.nil_append] at X5
  refine ⟨((withThrown W Zs text P1.m.cls kX).setVm vm').setCell (W.heap.size + 2) (plainBareV T.toThrowableT (freshCell P1.m.cls kX) (W.heap.size + 2) u0 sen (.ref (W.heap.size + 1))), W.heap.size + 2, _, fun target ht => st _ (by rw [X.tail, ← hU]; exact ht),
    X5.forget (fun y hy => ?_), heapAt_setCell_self _ ha, hfound, rfl⟩
  simp only [List.mem_cons, List.not_mem_nil, or_false] at hy
  have hge : s.heap.size ≤ W.heap.size := X.same.2.1
  rcases hy with rfl | rfl | rfl | rfl | rfl <;> exact Nat.le_trans hge (Nat.le_add_right _ 2)
set_option maxHeartbeats 1000000 in
/-- the machine throws NullPointerException, no traces kept: from its note over the frame g to 'throwing' over the same frame (follows the proof of Stand.vmThrowsNpe, Shelf42/KT2.lean; throwsNpeColdBareVAt, Shelf42/NT91.lean, called) -/
theorem vx_npeAt {p : Program} {l : Launch} {e : Env} {R : Room} {s : State} {m₀ : MethodId} {args : Array Value} {below : List Frame} {meth : Method} {c : Code} {W : State} {locs : List Loc} {cells slots : Nat}
    (X : Stand p l e R s m₀ args below meth c W locs cells slots) (hexec : p.tables.exec = Jvm.exec) (htr : e.platform.stackTraces = false) {n : Nat}
    (h : ∀ a ∈ Bundle.npeArmAtoms n, a.before args s = true)
    (hlocs : ∀ x ∈ locs, ∀ cell, s.heap[x.base]? = some cell → cell.vm.isStatics = false)
    {g : JFrame} (hg : g.method = m₀) (hsize : g.locals.size = c.maxLocals)
    (hRframes : 7 < R.frames) (hRlocals : 2 * g.monitorRoom + (g.stack.map fun v => v.category).sum + 10240 ≤ R.locals)
    (hRcells : cells + 1 ≤ R.cells) (hRslots : slots + n ≤ R.slots) (hlocks : meth.locks = false) :
    ∃ (S : State) (q : Addr) (ce : Cell), (∀ target, Steps p.tables e below ((S.setTop g).pushFrame (.throwing q)) target → Steps p.tables e below ((W.setTop g).pushFrame (.throwNew "java/lang/NullPointerException" none none)) target) ∧
      Stand p l e R s m₀ args below meth c S locs (cells + 1) (slots + n) ∧ S.heap[q]? = some ce ∧ s.vm.findClass "java/lang/NullPointerException" = some ce.cls ∧ ce.vm = .none := by
  have howns : e.platform.frameOwnsMonitors = true := by rw [X.admits.platform]
  have hfin : e.platform.finalization = false := by rw [X.admits.platform]
  have hpl : e.platform.magicAccessors = ({} : Platform).magicAccessors := by rw [X.admits.platform]
  have hpl2 : e.platform.arrayCloneIsPublic = true := by rw [X.admits.platform]
  have a' : ∀ x, x ∈ Bundle.npeArmAtoms n → x.holds args s none s [] = true := fun x hx => h x hx
  obtain ⟨T, Z, L, LZ, Y⟩ := ThrowableC.of_atoms (args := args) howns hfin hpl (fun x hx => h x (by simp [Bundle.npeArmAtoms, hx]))
  obtain ⟨N, LN, hcN, hnNF, hordN, hffS⟩ := NpeC.of_atoms (args := args) hpl hpl2 L Y (fun x hx => h x (by simp [Bundle.npeArmAtoms, hx]))
  obtain ⟨P1, L1, hP1m, hP1s⟩ := PassC.of_atoms (args := args) (s := s) hpl (X := Bundle.nN) (Y := Bundle.rN) (by decide) (by decide) LibCode.NullPointerException.Init0.at_0 LibCode.NullPointerException.Init0.at_1 LibCode.NullPointerException.Init0.at_4 (fun x hx => h x (by simp [Bundle.npeArmAtoms, hx]))
  obtain ⟨PR, LR, hPRm, hPRs⟩ := PassC.of_atoms (args := args) (s := s) hpl (X := Bundle.rN) (Y := Bundle.eN) (by decide) (by decide) LibCode.RuntimeException.Init0.at_0 LibCode.RuntimeException.Init0.at_1 LibCode.RuntimeException.Init0.at_4 (fun x hx => h x (by simp [Bundle.npeArmAtoms, hx]))
  obtain ⟨PE, LEx, hPEm, hPEs⟩ := PassC.of_atoms (args := args) (s := s) hpl (X := Bundle.eN) (Y := Bundle.tN) (by decide) (by decide) LibCode.Exception.Init0.at_0 LibCode.Exception.Init0.at_1 LibCode.Exception.Init0.at_4 (fun x hx => h x (by simp [Bundle.npeArmAtoms, hx]))
  have hfound : s.vm.findClass Bundle.nN = some P1.m.cls := findClass_of_methodNamed hP1m
  have ecls : N.cN = P1.m.cls := Option.some.inj (hcN.symm.trans hfound)
  have hk : s.vm.classes[P1.m.cls]? = some N.kN := by rw [← ecls]; exact LN.cls
  have hinit := Cond.initialized_spec hfound hk (a' (.initialized Bundle.nN) (by simp [Bundle.npeArmAtoms]))
  have hctor : N.kN.findMethod "<init>" "()V" = some P1.m.idx := findMethod_of_methodNamed hP1m hk
  obtain ⟨c1, k1, hc1, hk1, -, -, -, hn⟩ := Cond.instantiable_spec (a' (.instantiable Bundle.nN n) (by simp [Bundle.npeArmAtoms]))
  cases Option.some.inj (hc1.symm.trans hfound)
  cases Option.some.inj (hk1.symm.trans hk)
  have hfsz : (freshCell P1.m.cls N.kN).slots.size = n := by simp [hn]
  have hlink1 : P1.sup = PR.m := Option.some.inj (hP1s.symm.trans hPRm)
  have hlinkR : PR.sup = PE.m := Option.some.inj (hPRs.symm.trans hPEm)
  have hlinkE : PE.sup = Z.m T.toThrowableT := Option.some.inj (hPEs.symm.trans Y.init0)
  have hLs : ∀ P, P ∈ [PR, PE] → P.Links0 e.platform s := fun P hP => by
    simp only [List.mem_cons, List.not_mem_nil, or_false] at hP
    rcases hP with rfl | rfl
    · exact LR
    · exact LEx
  have hsel0 : selectMethod e.platform s.vm P1.m.cls T.fill0 = .method T.fill0 := by
    obtain ⟨c2, r2, m2, q1, q2, q3, q4, -⟩ := Cond.selects_spec (a' (.selects Bundle.nN Bundle.tFill0 Bundle.tFill0) (by simp [Bundle.npeArmAtoms]))
    cases Option.some.inj (q1.symm.trans hfound)
    cases Option.some.inj (q2.symm.trans (State.methodFound?_of_named Y.fill0 (by decide)))
    cases Option.some.inj (q3.symm.trans Y.fill0)
    rw [Launch.admits_selectMethod X.admits]; exact q4
  have hselF : selectMethod e.platform s.vm P1.m.cls T.fill = .method N.fill := by
    obtain ⟨c2, r2, m2, q1, q2, q3, q4, -⟩ := Cond.selects_spec (a' (.selects Bundle.nN Bundle.tFill Bundle.nFill) (by simp [Bundle.npeArmAtoms]))
    cases Option.some.inj (q1.symm.trans hfound)
    cases Option.some.inj (q2.symm.trans (State.methodFound?_of_named Y.fill (by decide)))
    cases Option.some.inj (q3.symm.trans hnNF)
    rw [Launch.admits_selectMethod X.admits]; exact q4
  obtain ⟨cellS0, hcS0, hiss⟩ := Y.statics
  obtain ⟨u0, hu0⟩ := Cond.staticRefV Y.unassigned L.unassignedStatic L.statics hcS0 hiss (a' (.isRef (.static Bundle.tN "UNASSIGNED_STACK" Bundle.steD)) (by simp [Bundle.npeArmAtoms]))
  obtain ⟨sen, hsen⟩ := Cond.staticRefV Y.sentinel L.sentinelStatic L.statics hcS0 hiss (a' (.isRef (.static Bundle.tN "SUPPRESSED_SENTINEL" Bundle.listD)) (by simp [Bundle.npeArmAtoms]))
  obtain ⟨ci198, i198, fB, hk198, hg198, ha198, hsB, -, hnB, htB, hffB⟩ := Cond.ownField (t := .object "java/lang/Object") Y.found L.cls (by decide +kernel) (a' (.fieldLink Bundle.tN 198 Bundle.tN "backtrace" Bundle.objD) (by simp [Bundle.npeArmAtoms])) (a' (.lays Bundle.tN Bundle.tN "backtrace" Bundle.objD) (by simp [Bundle.npeArmAtoms])) e.platform hpl
  obtain ⟨cellS, hcS', heS, -, hkeep⟩ := X.same.2.2.2.2.2 T.aS cellS0 hcS0
  have hcellS : W.heap[T.aS]? = some cellS := hcS'
  have hout' : ∀ i, (⟨T.aS, i⟩ : Loc) ∉ locs := fun i hmem => by
    have := hlocs _ hmem cellS0 hcS0
    rw [hiss] at this; cases this
  have hknownS : cellS.vm ≠ .unknown := by
    rw [heS]; intro hu
    rw [show cellS0.vm = .unknown from hu] at hiss
    cases hiss
  have hvU : cellS.slots[T.fUnassigned.slot]? = some u0.v := by rw [hkeep _ (hout' _)]; exact hu0
  have hvSen : cellS.slots[T.fSentinel.slot]? = some sen.v := by rw [hkeep _ (hout' _)]; exact hsen
  obtain ⟨tyC, dC, hdC, hdnC⟩ := Cond.laysAt hfound hk Y.cause (a' (.lays Bundle.nN Bundle.tN "cause" "Ljava/lang/Throwable;") (by simp [Bundle.npeArmAtoms]))
  obtain ⟨tyS, dS, hdS, hdnS⟩ := Cond.laysAt hfound hk Y.stack (a' (.lays Bundle.nN Bundle.tN "stackTrace" Bundle.steD) (by simp [Bundle.npeArmAtoms]))
  obtain ⟨tyP, dP, hdP, hdnP⟩ := Cond.laysAt hfound hk Y.supp (a' (.lays Bundle.nN Bundle.tN "suppressedExceptions" Bundle.listD) (by simp [Bundle.npeArmAtoms]))
  obtain ⟨tyX, dX, hdX, hdnX⟩ := Cond.laysAt hfound hk hffS (a' (.lays Bundle.nN Bundle.nN "extendedMessageState" "I") (by simp [Bundle.npeArmAtoms, Bundle.npeAtoms]))
  obtain ⟨hnX, htX⟩ := State.fieldFound?_type hffS (t := .int) (by decide +kernel)
  have xC := Cond.laysApart hdC hdX hdnC hdnX (by rw [hnX, Y.causeName]; decide)
  have xS := Cond.laysApart hdS hdX hdnS hdnX (by rw [hnX, Y.stackName]; decide)
  have xP := Cond.laysApart hdP hdX hdnP hdnX (by rw [hnX, Y.suppName]; decide)
  have hv0 : (freshCell P1.m.cls N.kN).slots[N.fState.slot]? = some (.int 0) := by
    have := fresh_default (c := P1.m.cls) tyX
    rw [htX] at this; exact this
  obtain ⟨tyB, dB, hdB, hdnB⟩ := Cond.laysAt hfound hk hffB (a' (.lays Bundle.nN Bundle.tN "backtrace" Bundle.objD) (by simp [Bundle.npeArmAtoms]))
  have bC := Cond.laysApart hdB hdC hdnB hdnC (by rw [hnB, Y.causeName]; decide)
  have bS := Cond.laysApart hdB hdS hdnB hdnS (by rw [hnB, Y.stackName]; decide)
  have bP := Cond.laysApart hdB hdP hdnB hdnP (by rw [hnB, Y.suppName]; decide)
  have bX := Cond.laysApart hdB hdX hdnB hdnX (by rw [hnB, hnX]; decide)
  have hbk : ((npeCell N.toNpeT (preparedCellV T.toThrowableT (freshCell P1.m.cls N.kN) W.heap.size u0 sen) W.cur).withEntry W.cur).slots[fB.slot]? = some .null := by
    have := fresh_default (c := P1.m.cls) tyB
    rw [htB] at this
    simpa [npeCell, preparedCellV, Cell.setSlot, Cell.withEntry, Array.getElem?_setIfInBounds, bC, bS, bP, bX, bC.symm, bS.symm, bP.symm, bX.symm, defaultValue] using this
  have tkC := Takes.of_laid (v := .ref W.heap.size) hk hordN tyC (by rw [Y.causeType]; rfl)
  have tkS := Takes.of_laid (v := u0.v) hk hordN tyS (by rw [Y.stackType]; exact fits_refV_array _ u0)
  have tkP := Takes.of_laid (v := sen.v) hk hordN tyP (by rw [Y.suppType]; exact fits_refV_object _ sen)
  have tkX := Takes.of_laid (v := .int 1) hk hordN tyX (by rw [htX]; rfl)
  have hskip : SkipFacts T e.platform s (fun u => u) u0 ((npeCell N.toNpeT (preparedCellV T.toThrowableT (freshCell P1.m.cls N.kN) W.heap.size u0 sen) W.cur).withEntry W.cur) := ⟨{ ci198 := ci198, i198 := i198, fBack := fB }, ⟨hk198, hg198, ha198, hsB⟩, hbk, fun _ _ => rfl⟩
  obtain ⟨vm', X3, st, -⟩ := X.throwsNpeColdBareVAt hexec hg hsize T L Z LZ N LN P1 L1 [PR, PE] hLs hlink1 ⟨hlinkR, hlinkE, trivial⟩ hfound hk hinit hordN hctor hsel0 hselF hcellS hknownS hvU hvSen
    hv0 xC xS xP tkC tkS tkP tkX Y.objLocals hskip (fun _ _ hA hW _ hroom _ hrest => L.nativeOff p htr hA hW hroom hrest) (by simpa using hRframes) hRlocals (by simp) hRcells (by rw [hn]; exact hRslots)
  have hlt : W.heap.size < ((W.pushCell (freshCell P1.m.cls N.kN)).setVm vm').heap.size := by
    show W.heap.size < (W.pushCell (freshCell P1.m.cls N.kN)).heap.size
    rw [State.heap_size_pushCell]; omega
  rw [hfsz] at X3
  obtain ⟨g₁, hfrM⟩ := X3.frames_eq
  have hU : ((((W.pushCell (freshCell P1.m.cls N.kN)).setVm vm').setCell W.heap.size (npeBareV T.toThrowableT N.toNpeT (freshCell P1.m.cls N.kN) W.heap.size u0 sen)).setTop g).pushFrame (.throwing W.heap.size) = (((W.pushCell (freshCell P1.m.cls N.kN)).setVm vm').setCell W.heap.size (npeBareV T.toThrowableT N.toNpeT (freshCell P1.m.cls N.kN) W.heap.size u0 sen)).setFrames (.throwing W.heap.size :: .java g :: below) := by
    rw [State.pushFrame, State.frames_setTop _ hfrM, State.setTop_of_frames _ hfrM, State.setFrames_setFrames]
  refine ⟨_, W.heap.size, _, fun target ht => st.trans (by rw [← hU]; exact ht), X3.forget (fun y hy => ?_), heapAt_setCell_self _ hlt, hfound, rfl⟩
  simp only [List.mem_cons, List.not_mem_nil, or_false] at hy
  have hge : s.heap.size ≤ W.heap.size := X.same.2.1
  rcases hy with rfl | rfl | rfl | rfl | rfl <;> exact hge
/-- the words of a machine's NullPointerException, but the four that speak of the heap -/
def vx_atN (n : Nat) : List Cond := (Bundle.npeArmAtoms n).filter vx_no
/-- the words of a machine's throw with a message, but the four that speak of the heap -/
def vx_atM (X : String) (names : List String) : List Cond := (Bundle.messageArmAtoms X names).filter vx_no
section
variable {p : Program} {l : Launch} {e : Env} {R : Room} {s : State} {m : MethodId} {args : Array Value} {below : List Frame} {meth : Method} {c : Code} {H : Heap} {locs : List Loc} {cells slots : Nat}
/-- a frame seen from a rebased start, seen from the first start again -/
theorem vx_back9 {T S : State} {R' : Room} {k n : Nat} (X : Stand p l e R s m args below meth c T locs cells slots) (Y : Stand p l e R' ((T.setVm s.vm).setFrames (.invoking m args :: below)) m args below meth c T [] 0 0) (Z : Stand p l e R' ((T.setVm s.vm).setFrames (.invoking m args :: below)) m args below meth c S [] k n) :
    Stand p l e R s m args below meth c S locs (cells + k) (slots + n) := by
  have hW0 : s.WarmedH ((T.setVm s.vm).setFrames (.invoking m args :: below)).vm := State.WarmedH.refl s
  refine { admits := X.admits, cas := X.cas, clock := X.clock, frames := X.frames, room := X.room, hears := X.hears, method := X.method, code := X.code, here := Z.here, tail := Z.tail, warmed := State.WarmedH.trans hW0 Z.warmed, limits := Z.limits.trans (Y.limits.symm.trans X.limits), bytes := Z.bytes.trans (Y.bytes.symm.trans X.bytes), same := ?_ }
  obtain ⟨e1, e2⟩ := Z.same
  rw [State.setFrames_setFrames] at e1
  have h2 : (T.setVm s.vm).sameButNew (S.setVm s.vm) [] k n := ⟨e1, e2⟩
  have h3 := X.same.trans h2
  rw [List.append_nil] at h3
  exact h3
/-- from the machine's note that E is thrown here with this text -/
def vx_Note (p : Program) (l : Launch) (e : Env) (R : Room) (s : State) (m : MethodId) (args : Array Value) (below : List Frame) (meth : Method) (c : Code) (H : Heap) (locs : List Loc) (cells slots : Nat) (Q : State → Prop) (g : JFrame) (E text : String) : Prop :=
  ∀ T : State, T.heap = H → Stand p l e R s m args below meth c T locs cells slots → ∃ t, Steps p.tables e below ((T.setTop g).pushFrame (.throwNew E (some text) none)) t ∧ Q t
theorem vx_vm {pc : Nat} {ls : Array Slot} {rest : List Value} {Q : State → Prop} (hexec : p.tables.exec = Jvm.exec) (hl : l.stackTraces = false) {cls text : String} {names : List String} {nb : Nat} {A : Nat → Prop}
    (hcls : Bundle.fit cls = true) (hnames : ∀ n ∈ names, Bundle.fit n = true) (hsoe : (cls == "java/lang/StackOverflowError") = false) (hoom : (cls == "java/lang/OutOfMemoryError") = false)
    (hat : ∀ w ∈ vx_atM cls names, w.before args s = true) (hgood : ∀ w ∈ vx_atM cls names, vx_ot w = true)
    (hU : vx_Zq Bundle.tN "UNASSIGNED_STACK" Bundle.steD A s s.heap) (hN : vx_Zq Bundle.tN "SUPPRESSED_SENTINEL" Bundle.listD A s s.heap) (hS : va_S A s.heap H locs) (hsize : ls.size = c.maxLocals)
    (htext : (text == notModelled) = false) (hnb : (stringBytes (stringToUtf16 text)).size ≤ nb) (hnb1 : nb ≤ 1000)
    (hRframes : names.length + 4 < R.frames) (hRlocals : (rest.map fun v => v.category).sum + 10240 ≤ R.locals) (hshort : 13 * names.length + 55 ≤ 10240) (hRcells : cells + 3 ≤ R.cells) (hRslots : slots + (nb + 10) ≤ R.slots) (hlocks : meth.locks = false)
    (k : ∀ (H1 : Heap) (q9 : Addr) (ce : Cell), H.size ≤ H1.size → (∀ q : Nat, q < H.size → H1[q]? = H[q]?) → va_S A s.heap H1 locs → H1[q9]? = some ce → ce.vm = .none → s.vm.findClass cls = some ce.cls → vx_W p l e R s m args below meth c H1 locs (cells + 3) (slots + (nb + 10)) Q (F0 m pc ls rest) q9) :
    vx_Note p l e R s m args below meth c H locs cells slots Q (F0 m pc ls rest) cls text := by
  intro T hT X
  have htr : e.platform.stackTraces = false := (show e.platform.stackTraces = l.stackTraces by rw [X.admits.platform]).trans hl
  have Y := vx_rebase X (R' := { frames := R.frames, locals := R.locals, cells := 3, slots := nb + 10 }) (Nat.le_refl _) (Nat.le_refl _) hRcells hRslots
  have hhp : ((T.setVm s.vm).setFrames (.invoking m args :: below)).heap = H := hT
  have hW0 : s.WarmedH ((T.setVm s.vm).setFrames (.invoking m args :: below)).vm := State.WarmedH.refl s
  have hat' : ∀ w ∈ vx_atM cls names, w.before args ((T.setVm s.vm).setFrames (.invoking m args :: below)) = true := fun w hw => vx_ot_at hW0 rfl (hgood w hw) (hat w hw)
  have hU' : vx_Zq Bundle.tN "UNASSIGNED_STACK" Bundle.steD A ((T.setVm s.vm).setFrames (.invoking m args :: below)) ((T.setVm s.vm).setFrames (.invoking m args :: below)).heap := by rw [hhp]; exact vx_Zq.moved hW0.alike (hU.kept hS.2.1)
  have hN' : vx_Zq Bundle.tN "SUPPRESSED_SENTINEL" Bundle.listD A ((T.setVm s.vm).setFrames (.invoking m args :: below)) ((T.setVm s.vm).setFrames (.invoking m args :: below)).heap := by rw [hhp]; exact vx_Zq.moved hW0.alike (hN.kept hS.2.1)
  obtain ⟨S, q, ce, st, Z, hce, hcl', hv⟩ := vx_vmAt Y hexec htr (cls := cls) (names := names) (text := text) hcls hnames hsoe hoom (vx_own hat' (vx_isRefq hU'.1) (vx_isRefq hN'.1) hU'.2.word hN'.2.word) (fun x hx => nomatch hx) htext
    (by rw [Launch.admits_arrayLengthLimit X.admits]; omega) (by rw [Launch.admits_maxHeapBytes X.admits]; simp only [componentBytes]; omega)
    (g := F0 m pc ls rest) rfl hsize hRframes (by show 2 * 0 + (rest.map fun v => v.category).sum + 10240 ≤ R.locals; omega) hshort (by show 0 + 3 ≤ 3; omega) (by show 0 + (_ + 4 + 6) ≤ nb + 10; omega) hlocks
  obtain ⟨f1, f2⟩ := vx_frame Z.same
  have f1' : H.size ≤ S.heap.size := by rw [← hT]; exact f1
  have f2' : ∀ q : Nat, q < H.size → S.heap[q]? = H[q]? := fun q hq => by
    rw [← hT]
    exact f2 q (by rw [← hT] at hq; exact hq) (fun z hz => nomatch hz)
  have X5 := vx_back9 X Y Z
  have X6 : Stand p l e R s m args below meth c S locs (cells + 3) (slots + (nb + 10)) := { X5 with same := X5.same.mono (by omega) (by omega) }
  obtain ⟨t, a1, b1⟩ := k S.heap q ce f1' f2' ⟨Nat.le_trans hS.1 f1', fun q h1 h2 => (f2' q (Nat.lt_of_lt_of_le h1 hS.1)).trans (hS.2.1 q h1 h2), hS.2.2⟩ hce hv hcl' S rfl X6
  exact ⟨t, st t a1, b1⟩
/-- from the machine's note that NullPointerException is thrown here -/
def vx_NoteN (p : Program) (l : Launch) (e : Env) (R : Room) (s : State) (m : MethodId) (args : Array Value) (below : List Frame) (meth : Method) (c : Code) (H : Heap) (locs : List Loc) (cells slots : Nat) (Q : State → Prop) (g : JFrame) : Prop :=
  ∀ T : State, T.heap = H → Stand p l e R s m args below meth c T locs cells slots → ∃ t, Steps p.tables e below ((T.setTop g).pushFrame (.throwNew "java/lang/NullPointerException" none none)) t ∧ Q t
theorem vx_npe {pc : Nat} {ls : Array Slot} {rest : List Value} {Q : State → Prop} (hexec : p.tables.exec = Jvm.exec) (hl : l.stackTraces = false) {nb : Nat} {A : Nat → Prop}
    (hat : ∀ w ∈ vx_atN nb, w.before args s = true) (hgood : ∀ w ∈ vx_atN nb, vx_ot w = true)
    (hU : vx_Zq Bundle.tN "UNASSIGNED_STACK" Bundle.steD A s s.heap) (hN : vx_Zq Bundle.tN "SUPPRESSED_SENTINEL" Bundle.listD A s s.heap) (hS : va_S A s.heap H locs) (hsize : ls.size = c.maxLocals)
    (hRframes : 7 < R.frames) (hRlocals : (rest.map fun v => v.category).sum + 10240 ≤ R.locals) (hRcells : cells + 1 ≤ R.cells) (hRslots : slots + nb ≤ R.slots) (hlocks : meth.locks = false)
    (k : ∀ (H1 : Heap) (q9 : Addr) (ce : Cell), H.size ≤ H1.size → (∀ q : Nat, q < H.size → H1[q]? = H[q]?) → va_S A s.heap H1 locs → H1[q9]? = some ce → ce.vm = .none → s.vm.findClass "java/lang/NullPointerException" = some ce.cls → vx_W p l e R s m args below meth c H1 locs (cells + 1) (slots + nb) Q (F0 m pc ls rest) q9) :
    vx_NoteN p l e R s m args below meth c H locs cells slots Q (F0 m pc ls rest) := by
  intro T hT X
  have htr : e.platform.stackTraces = false := (show e.platform.stackTraces = l.stackTraces by rw [X.admits.platform]).trans hl
  have Y := vx_rebase X (R' := { frames := R.frames, locals := R.locals, cells := 1, slots := nb }) (Nat.le_refl _) (Nat.le_refl _) hRcells hRslots
  have hhp : ((T.setVm s.vm).setFrames (.invoking m args :: below)).heap = H := hT
  have hW0 : s.WarmedH ((T.setVm s.vm).setFrames (.invoking m args :: below)).vm := State.WarmedH.refl s
  have hat' : ∀ w ∈ vx_atN nb, w.before args ((T.setVm s.vm).setFrames (.invoking m args :: below)) = true := fun w hw => vx_ot_at hW0 rfl (hgood w hw) (hat w hw)
  have hU' : vx_Zq Bundle.tN "UNASSIGNED_STACK" Bundle.steD A ((T.setVm s.vm).setFrames (.invoking m args :: below)) ((T.setVm s.vm).setFrames (.invoking m args :: below)).heap := by rw [hhp]; exact vx_Zq.moved hW0.alike (hU.kept hS.2.1)
  have hN' : vx_Zq Bundle.tN "SUPPRESSED_SENTINEL" Bundle.listD A ((T.setVm s.vm).setFrames (.invoking m args :: below)) ((T.setVm s.vm).setFrames (.invoking m args :: below)).heap := by rw [hhp]; exact vx_Zq.moved hW0.alike (hN.kept hS.2.1)
  obtain ⟨S, q, ce, st, Z, hce, hcl', hv⟩ := vx_npeAt Y hexec htr (n := nb) (vx_own hat' (vx_isRefq hU'.1) (vx_isRefq hN'.1) hU'.2.word hN'.2.word) (fun x hx => nomatch hx)
    (g := F0 m pc ls rest) rfl hsize hRframes (by show 2 * 0 + (rest.map fun v => v.category).sum + 10240 ≤ R.locals; omega) (by show 0 + 1 ≤ 1; omega) (by show 0 + nb ≤ nb; omega) hlocks
  obtain ⟨f1, f2⟩ := vx_frame Z.same
  have f1' : H.size ≤ S.heap.size := by rw [← hT]; exact f1
  have f2' : ∀ q : Nat, q < H.size → S.heap[q]? = H[q]? := fun q hq => by
    rw [← hT]
    exact f2 q (by rw [← hT] at hq; exact hq) (fun z hz => nomatch hz)
  have X5 := vx_back9 X Y Z
  have X6 : Stand p l e R s m args below meth c S locs (cells + 1) (slots + nb) := { X5 with same := X5.same.mono (by omega) (by omega) }
  obtain ⟨t, a1, b1⟩ := k S.heap q ce f1' f2' ⟨Nat.le_trans hS.1 f1', fun q h1 h2 => (f2' q (Nat.lt_of_lt_of_le h1 hS.1)).trans (hS.2.1 q h1 h2), hS.2.2⟩ hce hv hcl' S rfl X6
  exact ⟨t, st t a1, b1⟩
variable {Q : State → Prop} {cc : ByteArray} {pc : Nat} {ls : Array Slot} {rest : List Value}
theorem vx_idivZ (hexec : p.tables.exec = Jvm.exec) (hb : c.code = cc) {a b : Int32} (h0 : b = 0) (d : decode cc pc = .ok (.idiv, 1)) (k : vx_Note p l e R s m args below meth c H locs cells slots Q (F0 m pc ls rest) "java/lang/ArithmeticException" "/ by zero") :
    W p l e R s m args below meth c H locs cells slots Q (F0 m pc ls (.int b :: .int a :: rest)) := by
  intro T hT X
  obtain ⟨t, st, q⟩ := k T hT X
  exact ⟨t, X.idivZero hexec (g := F0 m pc ls (.int b :: .int a :: rest)) rfl (a := a) (rest := rest) (by rw [h0]) (by rw [hb]; exact d) t st, q⟩
theorem vx_iremZ (hexec : p.tables.exec = Jvm.exec) (hb : c.code = cc) {a b : Int32} (h0 : b = 0) (d : decode cc pc = .ok (.irem, 1)) (k : vx_Note p l e R s m args below meth c H locs cells slots Q (F0 m pc ls rest) "java/lang/ArithmeticException" "/ by zero") :
    W p l e R s m args below meth c H locs cells slots Q (F0 m pc ls (.int b :: .int a :: rest)) := by
  intro T hT X
  obtain ⟨t, st, q⟩ := k T hT X
  exact ⟨t, X.iremZero hexec (g := F0 m pc ls (.int b :: .int a :: rest)) rfl (a := a) (rest := rest) (by rw [h0]) (by rw [hb]; exact d) t st, q⟩
theorem vx_ldivZ (hexec : p.tables.exec = Jvm.exec) (hb : c.code = cc) {a b : Int64} (h0 : b = 0) (d : decode cc pc = .ok (.ldiv, 1)) (k : vx_Note p l e R s m args below meth c H locs cells slots Q (F0 m pc ls rest) "java/lang/ArithmeticException" "/ by zero") :
    W p l e R s m args below meth c H locs cells slots Q (F0 m pc ls (.long b :: .long a :: rest)) := by
  intro T hT X
  obtain ⟨t, st, q⟩ := k T hT X
  exact ⟨t, X.ldivZero hexec (g := F0 m pc ls (.long b :: .long a :: rest)) rfl (a := a) (rest := rest) (by rw [h0]) (by rw [hb]; exact d) t st, q⟩
theorem vx_lremZ (hexec : p.tables.exec = Jvm.exec) (hb : c.code = cc) {a b : Int64} (h0 : b = 0) (d : decode cc pc = .ok (.lrem, 1)) (k : vx_Note p l e R s m args below meth c H locs cells slots Q (F0 m pc ls rest) "java/lang/ArithmeticException" "/ by zero") :
    W p l e R s m args below meth c H locs cells slots Q (F0 m pc ls (.long b :: .long a :: rest)) := by
  intro T hT X
  obtain ⟨t, st, q⟩ := k T hT X
  exact ⟨t, X.lremZero hexec (g := F0 m pc ls (.long b :: .long a :: rest)) rfl (a := a) (rest := rest) (by rw [h0]) (by rw [hb]; exact d) t st, q⟩
theorem vx_ialdZ {D : va_G} {cl : List vw_C} {ws : va_W} {tys : List (ClassId × FieldType)} {a : Nat} (hexec : p.tables.exec = Jvm.exec) (hb : c.code = cc) (hK : va_K D cl tys s) (hP : va_P D cl ws H) (q0 t0 : Nat) {cA : ClassId} {n : Nat} {f : Nat → Int32} (ha : ws[q0]? = some (a, .inl (cA, n, .inl f))) (ht : tys[t0]? = some (cA, .int)) {i : Int32} (hout : ¬ vp_in i n) (hdg : decode cc pc = .ok (.iaload, 1))
    (k : ∀ tx : String, tx = (toString "Index " ++ toString i ++ toString " out of bounds for length " ++ toString n : String) → vx_Note p l e R s m args below meth c H locs cells slots Q (F0 m pc ls rest) "java/lang/ArrayIndexOutOfBoundsException" tx) : W p l e R s m args below meth c H locs cells slots Q (F0 m pc ls (.int i :: .ref a :: rest)) := by
  intro T hT X
  obtain ⟨t, st, q⟩ := k _ rfl T hT X
  refine ⟨t, ?_, q⟩
  have h1 := X.ialoadOut hexec (by rw [hT]; exact hP q0 _ ha) ((hK.2 t0 _ ht).1 n (fun j => .int (f j))) (j := i) (by show (i < 0 ∨ (arrV _ _ _).slots.size ≤ _); rw [arrV_size]; exact Classical.byContradiction hout) (g := F0 m pc ls (.int i :: .ref a :: rest)) rfl (rest := rest) rfl (by rw [hb]; exact hdg) t
  simp only [arrV_size] at h1
  exact h1 st
theorem vx_iastZ {D : va_G} {cl : List vw_C} {ws : va_W} {tys : List (ClassId × FieldType)} {a : Nat} (hexec : p.tables.exec = Jvm.exec) (hb : c.code = cc) (hK : va_K D cl tys s) (hP : va_P D cl ws H) (q0 t0 : Nat) {cA : ClassId} {n : Nat} {f : Nat → Int32} (ha : ws[q0]? = some (a, .inl (cA, n, .inl f))) (ht : tys[t0]? = some (cA, .int)) {i : Int32} {x : Int32} (hout : ¬ vp_in i n) (hdg : decode cc pc = .ok (.iastore, 1))
    (k : ∀ tx : String, tx = (toString "Index " ++ toString i ++ toString " out of bounds for length " ++ toString n : String) → vx_Note p l e R s m args below meth c H locs cells slots Q (F0 m pc ls rest) "java/lang/ArrayIndexOutOfBoundsException" tx) : W p l e R s m args below meth c H locs cells slots Q (F0 m pc ls (.int x :: .int i :: .ref a :: rest)) := by
  intro T hT X
  obtain ⟨t, st, q⟩ := k _ rfl T hT X
  refine ⟨t, ?_, q⟩
  have h1 := X.iastoreOut hexec (by rw [hT]; exact hP q0 _ ha) ((hK.2 t0 _ ht).1 n (fun j => .int (f j))) (j := i) (by show (i < 0 ∨ (arrV _ _ _).slots.size ≤ _); rw [arrV_size]; exact Classical.byContradiction hout) (g := F0 m pc ls (.int x :: .int i :: .ref a :: rest)) rfl (rest := rest) rfl (by rw [hb]; exact hdg) t
  simp only [arrV_size] at h1
  exact h1 st
theorem vx_baldZ {D : va_G} {cl : List vw_C} {ws : va_W} {tys : List (ClassId × FieldType)} {a : Nat} (hexec : p.tables.exec = Jvm.exec) (hb : c.code = cc) (hK : va_K D cl tys s) (hP : va_P D cl ws H) (q0 t0 : Nat) {cA : ClassId} {n : Nat} {f : Nat → Int32} (ha : ws[q0]? = some (a, .inl (cA, n, .inl f))) (ht : tys[t0]? = some (cA, .byte)) {i : Int32} (hout : ¬ vp_in i n) (hdg : decode cc pc = .ok (.baload, 1))
    (k : ∀ tx : String, tx = (toString "Index " ++ toString i ++ toString " out of bounds for length " ++ toString n : String) → vx_Note p l e R s m args below meth c H locs cells slots Q (F0 m pc ls rest) "java/lang/ArrayIndexOutOfBoundsException" tx) : W p l e R s m args below meth c H locs cells slots Q (F0 m pc ls (.int i :: .ref a :: rest)) := by
  intro T hT X
  obtain ⟨t, st, q⟩ := k _ rfl T hT X
  refine ⟨t, ?_, q⟩
  have h1 := X.baloadOut hexec (by rw [hT]; exact hP q0 _ ha) ((hK.2 t0 _ ht).1 n (fun j => .int (f j))) (j := i) (by show (i < 0 ∨ (arrV _ _ _).slots.size ≤ _); rw [arrV_size]; exact Classical.byContradiction hout) (g := F0 m pc ls (.int i :: .ref a :: rest)) rfl (rest := rest) rfl (by rw [hb]; exact hdg) t
  simp only [arrV_size] at h1
  exact h1 st
theorem vx_bastZ {D : va_G} {cl : List vw_C} {ws : va_W} {tys : List (ClassId × FieldType)} {a : Nat} (hexec : p.tables.exec = Jvm.exec) (hb : c.code = cc) (hK : va_K D cl tys s) (hP : va_P D cl ws H) (q0 t0 : Nat) {cA : ClassId} {n : Nat} {f : Nat → Int32} (ha : ws[q0]? = some (a, .inl (cA, n, .inl f))) (ht : tys[t0]? = some (cA, .byte)) {i : Int32} {x : Int32} (hout : ¬ vp_in i n) (hdg : decode cc pc = .ok (.bastore, 1))
    (k : ∀ tx : String, tx = (toString "Index " ++ toString i ++ toString " out of bounds for length " ++ toString n : String) → vx_Note p l e R s m args below meth c H locs cells slots Q (F0 m pc ls rest) "java/lang/ArrayIndexOutOfBoundsException" tx) : W p l e R s m args below meth c H locs cells slots Q (F0 m pc ls (.int x :: .int i :: .ref a :: rest)) := by
  intro T hT X
  obtain ⟨t, st, q⟩ := k _ rfl T hT X
  refine ⟨t, ?_, q⟩
  have h1 := X.bastoreOut hexec (by rw [hT]; exact hP q0 _ ha) ((hK.2 t0 _ ht).1 n (fun j => .int (f j))) (j := i) (by show (i < 0 ∨ (arrV _ _ _).slots.size ≤ _); rw [arrV_size]; exact Classical.byContradiction hout) (g := F0 m pc ls (.int x :: .int i :: .ref a :: rest)) rfl (rest := rest) rfl (by rw [hb]; exact hdg) t
  simp only [arrV_size] at h1
  exact h1 st
theorem vx_zaldZ {D : va_G} {cl : List vw_C} {ws : va_W} {tys : List (ClassId × FieldType)} {a : Nat} (hexec : p.tables.exec = Jvm.exec) (hb : c.code = cc) (hK : va_K D cl tys s) (hP : va_P D cl ws H) (q0 t0 : Nat) {cA : ClassId} {n : Nat} {f : Nat → Int32} (ha : ws[q0]? = some (a, .inl (cA, n, .inl f))) (ht : tys[t0]? = some (cA, .boolean)) {i : Int32} (hout : ¬ vp_in i n) (hdg : decode cc pc = .ok (.baload, 1))
    (k : ∀ tx : String, tx = (toString "Index " ++ toString i ++ toString " out of bounds for length " ++ toString n : String) → vx_Note p l e R s m args below meth c H locs cells slots Q (F0 m pc ls rest) "java/lang/ArrayIndexOutOfBoundsException" tx) : W p l e R s m args below meth c H locs cells slots Q (F0 m pc ls (.int i :: .ref a :: rest)) := by
  intro T hT X
  obtain ⟨t, st, q⟩ := k _ rfl T hT X
  refine ⟨t, ?_, q⟩
  have h1 := X.baloadOut hexec (by rw [hT]; exact hP q0 _ ha) ((hK.2 t0 _ ht).1 n (fun j => .int (f j))) (j := i) (by show (i < 0 ∨ (arrV _ _ _).slots.size ≤ _); rw [arrV_size]; exact Classical.byContradiction hout) (g := F0 m pc ls (.int i :: .ref a :: rest)) rfl (rest := rest) rfl (by rw [hb]; exact hdg) t
  simp only [arrV_size] at h1
  exact h1 st
theorem vx_zastZ {D : va_G} {cl : List vw_C} {ws : va_W} {tys : List (ClassId × FieldType)} {a : Nat} (hexec : p.tables.exec = Jvm.exec) (hb : c.code = cc) (hK : va_K D cl tys s) (hP : va_P D cl ws H) (q0 t0 : Nat) {cA : ClassId} {n : Nat} {f : Nat → Int32} (ha : ws[q0]? = some (a, .inl (cA, n, .inl f))) (ht : tys[t0]? = some (cA, .boolean)) {i : Int32} {x : Int32} (hout : ¬ vp_in i n) (hdg : decode cc pc = .ok (.bastore, 1))
    (k : ∀ tx : String, tx = (toString "Index " ++ toString i ++ toString " out of bounds for length " ++ toString n : String) → vx_Note p l e R s m args below meth c H locs cells slots Q (F0 m pc ls rest) "java/lang/ArrayIndexOutOfBoundsException" tx) : W p l e R s m args below meth c H locs cells slots Q (F0 m pc ls (.int x :: .int i :: .ref a :: rest)) := by
  intro T hT X
  obtain ⟨t, st, q⟩ := k _ rfl T hT X
  refine ⟨t, ?_, q⟩
  have h1 := X.bastoreOut hexec (by rw [hT]; exact hP q0 _ ha) ((hK.2 t0 _ ht).1 n (fun j => .int (f j))) (j := i) (by show (i < 0 ∨ (arrV _ _ _).slots.size ≤ _); rw [arrV_size]; exact Classical.byContradiction hout) (g := F0 m pc ls (.int x :: .int i :: .ref a :: rest)) rfl (rest := rest) rfl (by rw [hb]; exact hdg) t
  simp only [arrV_size] at h1
  exact h1 st
theorem vx_caldZ {D : va_G} {cl : List vw_C} {ws : va_W} {tys : List (ClassId × FieldType)} {a : Nat} (hexec : p.tables.exec = Jvm.exec) (hb : c.code = cc) (hK : va_K D cl tys s) (hP : va_P D cl ws H) (q0 t0 : Nat) {cA : ClassId} {n : Nat} {f : Nat → Int32} (ha : ws[q0]? = some (a, .inl (cA, n, .inl f))) (ht : tys[t0]? = some (cA, .char)) {i : Int32} (hout : ¬ vp_in i n) (hdg : decode cc pc = .ok (.caload, 1))
    (k : ∀ tx : String, tx = (toString "Index " ++ toString i ++ toString " out of bounds for length " ++ toString n : String) → vx_Note p l e R s m args below meth c H locs cells slots Q (F0 m pc ls rest) "java/lang/ArrayIndexOutOfBoundsException" tx) : W p l e R s m args below meth c H locs cells slots Q (F0 m pc ls (.int i :: .ref a :: rest)) := by
  intro T hT X
  obtain ⟨t, st, q⟩ := k _ rfl T hT X
  refine ⟨t, ?_, q⟩
  have h1 := X.caloadOut hexec (by rw [hT]; exact hP q0 _ ha) ((hK.2 t0 _ ht).1 n (fun j => .int (f j))) (j := i) (by show (i < 0 ∨ (arrV _ _ _).slots.size ≤ _); rw [arrV_size]; exact Classical.byContradiction hout) (g := F0 m pc ls (.int i :: .ref a :: rest)) rfl (rest := rest) rfl (by rw [hb]; exact hdg) t
  simp only [arrV_size] at h1
  exact h1 st
theorem vx_castZ {D : va_G} {cl : List vw_C} {ws : va_W} {tys : List (ClassId × FieldType)} {a : Nat} (hexec : p.tables.exec = Jvm.exec) (hb : c.code = cc) (hK : va_K D cl tys s) (hP : va_P D cl ws H) (q0 t0 : Nat) {cA : ClassId} {n : Nat} {f : Nat → Int32} (ha : ws[q0]? = some (a, .inl (cA, n, .inl f))) (ht : tys[t0]? = some (cA, .char)) {i : Int32} {x : Int32} (hout : ¬ vp_in i n) (hdg : decode cc pc = .ok (.castore, 1))
    (k : ∀ tx : String, tx = (toString "Index " ++ toString i ++ toString " out of bounds for length " ++ toString n : String) → vx_Note p l e R s m args below meth c H locs cells slots Q (F0 m pc ls rest) "java/lang/ArrayIndexOutOfBoundsException" tx) : W p l e R s m args below meth c H locs cells slots Q (F0 m pc ls (.int x :: .int i :: .ref a :: rest)) := by
  intro T hT X
  obtain ⟨t, st, q⟩ := k _ rfl T hT X
  refine ⟨t, ?_, q⟩
  have h1 := X.castoreOut hexec (by rw [hT]; exact hP q0 _ ha) ((hK.2 t0 _ ht).1 n (fun j => .int (f j))) (j := i) (by show (i < 0 ∨ (arrV _ _ _).slots.size ≤ _); rw [arrV_size]; exact Classical.byContradiction hout) (g := F0 m pc ls (.int x :: .int i :: .ref a :: rest)) rfl (rest := rest) rfl (by rw [hb]; exact hdg) t
  simp only [arrV_size] at h1
  exact h1 st
theorem vx_saldZ {D : va_G} {cl : List vw_C} {ws : va_W} {tys : List (ClassId × FieldType)} {a : Nat} (hexec : p.tables.exec = Jvm.exec) (hb : c.code = cc) (hK : va_K D cl tys s) (hP : va_P D cl ws H) (q0 t0 : Nat) {cA : ClassId} {n : Nat} {f : Nat → Int32} (ha : ws[q0]? = some (a, .inl (cA, n, .inl f))) (ht : tys[t0]? = some (cA, .short)) {i : Int32} (hout : ¬ vp_in i n) (hdg : decode cc pc = .ok (.saload, 1))
    (k : ∀ tx : String, tx = (toString "Index " ++ toString i ++ toString " out of bounds for length " ++ toString n : String) → vx_Note p l e R s m args below meth c H locs cells slots Q (F0 m pc ls rest) "java/lang/ArrayIndexOutOfBoundsException" tx) : W p l e R s m args below meth c H locs cells slots Q (F0 m pc ls (.int i :: .ref a :: rest)) := by
  intro T hT X
  obtain ⟨t, st, q⟩ := k _ rfl T hT X
  refine ⟨t, ?_, q⟩
  have h1 := X.saloadOut hexec (by rw [hT]; exact hP q0 _ ha) ((hK.2 t0 _ ht).1 n (fun j => .int (f j))) (j := i) (by show (i < 0 ∨ (arrV _ _ _).slots.size ≤ _); rw [arrV_size]; exact Classical.byContradiction hout) (g := F0 m pc ls (.int i :: .ref a :: rest)) rfl (rest := rest) rfl (by rw [hb]; exact hdg) t
  simp only [arrV_size] at h1
  exact h1 st
theorem vx_sastZ {D : va_G} {cl : List vw_C} {ws : va_W} {tys : List (ClassId × FieldType)} {a : Nat} (hexec : p.tables.exec = Jvm.exec) (hb : c.code = cc) (hK : va_K D cl tys s) (hP : va_P D cl ws H) (q0 t0 : Nat) {cA : ClassId} {n : Nat} {f : Nat → Int32} (ha : ws[q0]? = some (a, .inl (cA, n, .inl f))) (ht : tys[t0]? = some (cA, .short)) {i : Int32} {x : Int32} (hout : ¬ vp_in i n) (hdg : decode cc pc = .ok (.sastore, 1))
    (k : ∀ tx : String, tx = (toString "Index " ++ toString i ++ toString " out of bounds for length " ++ toString n : String) → vx_Note p l e R s m args below meth c H locs cells slots Q (F0 m pc ls rest) "java/lang/ArrayIndexOutOfBoundsException" tx) : W p l e R s m args below meth c H locs cells slots Q (F0 m pc ls (.int x :: .int i :: .ref a :: rest)) := by
  intro T hT X
  obtain ⟨t, st, q⟩ := k _ rfl T hT X
  refine ⟨t, ?_, q⟩
  have h1 := X.sastoreOut hexec (by rw [hT]; exact hP q0 _ ha) ((hK.2 t0 _ ht).1 n (fun j => .int (f j))) (j := i) (by show (i < 0 ∨ (arrV _ _ _).slots.size ≤ _); rw [arrV_size]; exact Classical.byContradiction hout) (g := F0 m pc ls (.int x :: .int i :: .ref a :: rest)) rfl (rest := rest) rfl (by rw [hb]; exact hdg) t
  simp only [arrV_size] at h1
  exact h1 st
theorem vx_laldZ {D : va_G} {cl : List vw_C} {ws : va_W} {tys : List (ClassId × FieldType)} {a : Nat} (hexec : p.tables.exec = Jvm.exec) (hb : c.code = cc) (hK : va_K D cl tys s) (hP : va_P D cl ws H) (q0 t0 : Nat) {cA : ClassId} {n : Nat} {f : Nat → Int64} (ha : ws[q0]? = some (a, .inl (cA, n, .inr (.inl f)))) (ht : tys[t0]? = some (cA, .long)) {i : Int32} (hout : ¬ vp_in i n) (hdg : decode cc pc = .ok (.laload, 1))
    (k : ∀ tx : String, tx = (toString "Index " ++ toString i ++ toString " out of bounds for length " ++ toString n : String) → vx_Note p l e R s m args below meth c H locs cells slots Q (F0 m pc ls rest) "java/lang/ArrayIndexOutOfBoundsException" tx) : W p l e R s m args below meth c H locs cells slots Q (F0 m pc ls (.int i :: .ref a :: rest)) := by
  intro T hT X
  obtain ⟨t, st, q⟩ := k _ rfl T hT X
  refine ⟨t, ?_, q⟩
  have h1 := X.laloadOut hexec (by rw [hT]; exact hP q0 _ ha) ((hK.2 t0 _ ht).1 n (fun j => .long (f j))) (j := i) (by show (i < 0 ∨ (arrV _ _ _).slots.size ≤ _); rw [arrV_size]; exact Classical.byContradiction hout) (g := F0 m pc ls (.int i :: .ref a :: rest)) rfl (rest := rest) rfl (by rw [hb]; exact hdg) t
  simp only [arrV_size] at h1
  exact h1 st
theorem vx_lastZ {D : va_G} {cl : List vw_C} {ws : va_W} {tys : List (ClassId × FieldType)} {a : Nat} (hexec : p.tables.exec = Jvm.exec) (hb : c.code = cc) (hK : va_K D cl tys s) (hP : va_P D cl ws H) (q0 t0 : Nat) {cA : ClassId} {n : Nat} {f : Nat → Int64} (ha : ws[q0]? = some (a, .inl (cA, n, .inr (.inl f)))) (ht : tys[t0]? = some (cA, .long)) {i : Int32} {x : Int64} (hout : ¬ vp_in i n) (hdg : decode cc pc = .ok (.lastore, 1))
    (k : ∀ tx : String, tx = (toString "Index " ++ toString i ++ toString " out of bounds for length " ++ toString n : String) → vx_Note p l e R s m args below meth c H locs cells slots Q (F0 m pc ls rest) "java/lang/ArrayIndexOutOfBoundsException" tx) : W p l e R s m args below meth c H locs cells slots Q (F0 m pc ls (.long x :: .int i :: .ref a :: rest)) := by
  intro T hT X
  obtain ⟨t, st, q⟩ := k _ rfl T hT X
  refine ⟨t, ?_, q⟩
  have h1 := X.lastoreOut hexec (by rw [hT]; exact hP q0 _ ha) ((hK.2 t0 _ ht).1 n (fun j => .long (f j))) (j := i) (by show (i < 0 ∨ (arrV _ _ _).slots.size ≤ _); rw [arrV_size]; exact Classical.byContradiction hout) (g := F0 m pc ls (.long x :: .int i :: .ref a :: rest)) rfl (rest := rest) rfl (by rw [hb]; exact hdg) t
  simp only [arrV_size] at h1
  exact h1 st
theorem vx_faldZ {D : va_G} {cl : List vw_C} {ws : va_W} {tys : List (ClassId × FieldType)} {a : Nat} (hexec : p.tables.exec = Jvm.exec) (hb : c.code = cc) (hK : va_K D cl tys s) (hP : va_P D cl ws H) (q0 t0 : Nat) {cA : ClassId} {n : Nat} {f : Nat → UInt32} (ha : ws[q0]? = some (a, .inl (cA, n, .inr (.inr (.inl f))))) (ht : tys[t0]? = some (cA, .float)) {i : Int32} (hout : ¬ vp_in i n) (hdg : decode cc pc = .ok (.faload, 1))
    (k : ∀ tx : String, tx = (toString "Index " ++ toString i ++ toString " out of bounds for length " ++ toString n : String) → vx_Note p l e R s m args below meth c H locs cells slots Q (F0 m pc ls rest) "java/lang/ArrayIndexOutOfBoundsException" tx) : W p l e R s m args below meth c H locs cells slots Q (F0 m pc ls (.int i :: .ref a :: rest)) := by
  intro T hT X
  obtain ⟨t, st, q⟩ := k _ rfl T hT X
  refine ⟨t, ?_, q⟩
  have h1 := X.faloadOut hexec (by rw [hT]; exact hP q0 _ ha) ((hK.2 t0 _ ht).1 n (fun j => .float (f j))) (j := i) (by show (i < 0 ∨ (arrV _ _ _).slots.size ≤ _); rw [arrV_size]; exact Classical.byContradiction hout) (g := F0 m pc ls (.int i :: .ref a :: rest)) rfl (rest := rest) rfl (by rw [hb]; exact hdg) t
  simp only [arrV_size] at h1
  exact h1 st
theorem vx_fastZ {D : va_G} {cl : List vw_C} {ws : va_W} {tys : List (ClassId × FieldType)} {a : Nat} (hexec : p.tables.exec = Jvm.exec) (hb : c.code = cc) (hK : va_K D cl tys s) (hP : va_P D cl ws H) (q0 t0 : Nat) {cA : ClassId} {n : Nat} {f : Nat → UInt32} (ha : ws[q0]? = some (a, .inl (cA, n, .inr (.inr (.inl f))))) (ht : tys[t0]? = some (cA, .float)) {i : Int32} {x : UInt32} (hout : ¬ vp_in i n) (hdg : decode cc pc = .ok (.fastore, 1))
    (k : ∀ tx : String, tx = (toString "Index " ++ toString i ++ toString " out of bounds for length " ++ toString n : String) → vx_Note p l e R s m args below meth c H locs cells slots Q (F0 m pc ls rest) "java/lang/ArrayIndexOutOfBoundsException" tx) : W p l e R s m args below meth c H locs cells slots Q (F0 m pc ls (.float x :: .int i :: .ref a :: rest)) := by
  intro T hT X
  obtain ⟨t, st, q⟩ := k _ rfl T hT X
  refine ⟨t, ?_, q⟩
  have h1 := X.fastoreOut hexec (by rw [hT]; exact hP q0 _ ha) ((hK.2 t0 _ ht).1 n (fun j => .float (f j))) (j := i) (by show (i < 0 ∨ (arrV _ _ _).slots.size ≤ _); rw [arrV_size]; exact Classical.byContradiction hout) (g := F0 m pc ls (.float x :: .int i :: .ref a :: rest)) rfl (rest := rest) rfl (by rw [hb]; exact hdg) t
  simp only [arrV_size] at h1
  exact h1 st
theorem vx_daldZ {D : va_G} {cl : List vw_C} {ws : va_W} {tys : List (ClassId × FieldType)} {a : Nat} (hexec : p.tables.exec = Jvm.exec) (hb : c.code = cc) (hK : va_K D cl tys s) (hP : va_P D cl ws H) (q0 t0 : Nat) {cA : ClassId} {n : Nat} {f : Nat → UInt64} (ha : ws[q0]? = some (a, .inl (cA, n, .inr (.inr (.inr (.inl f)))))) (ht : tys[t0]? = some (cA, .double)) {i : Int32} (hout : ¬ vp_in i n) (hdg : decode cc pc = .ok (.daload, 1))
    (k : ∀ tx : String, tx = (toString "Index " ++ toString i ++ toString " out of bounds for length " ++ toString n : String) → vx_Note p l e R s m args below meth c H locs cells slots Q (F0 m pc ls rest) "java/lang/ArrayIndexOutOfBoundsException" tx) : W p l e R s m args below meth c H locs cells slots Q (F0 m pc ls (.int i :: .ref a :: rest)) := by
  intro T hT X
  obtain ⟨t, st, q⟩ := k _ rfl T hT X
  refine ⟨t, ?_, q⟩
  have h1 := X.daloadOut hexec (by rw [hT]; exact hP q0 _ ha) ((hK.2 t0 _ ht).1 n (fun j => .double (f j))) (j := i) (by show (i < 0 ∨ (arrV _ _ _).slots.size ≤ _); rw [arrV_size]; exact Classical.byContradiction hout) (g := F0 m pc ls (.int i :: .ref a :: rest)) rfl (rest := rest) rfl (by rw [hb]; exact hdg) t
  simp only [arrV_size] at h1
  exact h1 st
theorem vx_dastZ {D : va_G} {cl : List vw_C} {ws : va_W} {tys : List (ClassId × FieldType)} {a : Nat} (hexec : p.tables.exec = Jvm.exec) (hb : c.code = cc) (hK : va_K D cl tys s) (hP : va_P D cl ws H) (q0 t0 : Nat) {cA : ClassId} {n : Nat} {f : Nat → UInt64} (ha : ws[q0]? = some (a, .inl (cA, n, .inr (.inr (.inr (.inl f)))))) (ht : tys[t0]? = some (cA, .double)) {i : Int32} {x : UInt64} (hout : ¬ vp_in i n) (hdg : decode cc pc = .ok (.dastore, 1))
    (k : ∀ tx : String, tx = (toString "Index " ++ toString i ++ toString " out of bounds for length " ++ toString n : String) → vx_Note p l e R s m args below meth c H locs cells slots Q (F0 m pc ls rest) "java/lang/ArrayIndexOutOfBoundsException" tx) : W p l e R s m args below meth c H locs cells slots Q (F0 m pc ls (.double x :: .int i :: .ref a :: rest)) := by
  intro T hT X
  obtain ⟨t, st, q⟩ := k _ rfl T hT X
  refine ⟨t, ?_, q⟩
  have h1 := X.dastoreOut hexec (by rw [hT]; exact hP q0 _ ha) ((hK.2 t0 _ ht).1 n (fun j => .double (f j))) (j := i) (by show (i < 0 ∨ (arrV _ _ _).slots.size ≤ _); rw [arrV_size]; exact Classical.byContradiction hout) (g := F0 m pc ls (.double x :: .int i :: .ref a :: rest)) rfl (rest := rest) rfl (by rw [hb]; exact hdg) t
  simp only [arrV_size] at h1
  exact h1 st
theorem vx_arraylengthN (hexec : p.tables.exec = Jvm.exec) (hb : c.code = cc) (hdg : decode cc pc = .ok (.arraylength, 1)) (k : vx_NoteN p l e R s m args below meth c H locs cells slots Q (F0 m pc ls rest)) : W p l e R s m args below meth c H locs cells slots Q (F0 m pc ls (.null :: rest)) := by
  intro T hT X
  obtain ⟨t, st, q⟩ := k T hT X
  exact ⟨t, X.arraylengthNull hexec (g := F0 m pc ls (.null :: rest)) rfl (rest := rest) rfl (by rw [hb]; exact hdg) t st, q⟩
theorem vx_ialoadN (hexec : p.tables.exec = Jvm.exec) (hb : c.code = cc) {i : Int32} (hdg : decode cc pc = .ok (.iaload, 1)) (k : vx_NoteN p l e R s m args below meth c H locs cells slots Q (F0 m pc ls rest)) : W p l e R s m args below meth c H locs cells slots Q (F0 m pc ls (.int i :: .null :: rest)) := by
  intro T hT X
  obtain ⟨t, st, q⟩ := k T hT X
  exact ⟨t, X.ialoadNull hexec (g := F0 m pc ls (.int i :: .null :: rest)) rfl (rest := rest) rfl (by rw [hb]; exact hdg) t st, q⟩
theorem vx_laloadN (hexec : p.tables.exec = Jvm.exec) (hb : c.code = cc) {i : Int32} (hdg : decode cc pc = .ok (.laload, 1)) (k : vx_NoteN p l e R s m args below meth c H locs cells slots Q (F0 m pc ls rest)) : W p l e R s m args below meth c H locs cells slots Q (F0 m pc ls (.int i :: .null :: rest)) := by
  intro T hT X
  obtain ⟨t, st, q⟩ := k T hT X
  exact ⟨t, X.laloadNull hexec (g := F0 m pc ls (.int i :: .null :: rest)) rfl (rest := rest) rfl (by rw [hb]; exact hdg) t st, q⟩
theorem vx_faloadN (hexec : p.tables.exec = Jvm.exec) (hb : c.code = cc) {i : Int32} (hdg : decode cc pc = .ok (.faload, 1)) (k : vx_NoteN p l e R s m args below meth c H locs cells slots Q (F0 m pc ls rest)) : W p l e R s m args below meth c H locs cells slots Q (F0 m pc ls (.int i :: .null :: rest)) := by
  intro T hT X
  obtain ⟨t, st, q⟩ := k T hT X
  exact ⟨t, X.faloadNull hexec (g := F0 m pc ls (.int i :: .null :: rest)) rfl (rest := rest) rfl (by rw [hb]; exact hdg) t st, q⟩
theorem vx_daloadN (hexec : p.tables.exec = Jvm.exec) (hb : c.code = cc) {i : Int32} (hdg : decode cc pc = .ok (.daload, 1)) (k : vx_NoteN p l e R s m args below meth c H locs cells slots Q (F0 m pc ls rest)) : W p l e R s m args below meth c H locs cells slots Q (F0 m pc ls (.int i :: .null :: rest)) := by
  intro T hT X
  obtain ⟨t, st, q⟩ := k T hT X
  exact ⟨t, X.daloadNull hexec (g := F0 m pc ls (.int i :: .null :: rest)) rfl (rest := rest) rfl (by rw [hb]; exact hdg) t st, q⟩
theorem vx_aaloadN (hexec : p.tables.exec = Jvm.exec) (hb : c.code = cc) {i : Int32} (hdg : decode cc pc = .ok (.aaload, 1)) (k : vx_NoteN p l e R s m args below meth c H locs cells slots Q (F0 m pc ls rest)) : W p l e R s m args below meth c H locs cells slots Q (F0 m pc ls (.int i :: .null :: rest)) := by
  intro T hT X
  obtain ⟨t, st, q⟩ := k T hT X
  exact ⟨t, X.aaloadNull hexec (g := F0 m pc ls (.int i :: .null :: rest)) rfl (rest := rest) rfl (by rw [hb]; exact hdg) t st, q⟩
theorem vx_baloadN (hexec : p.tables.exec = Jvm.exec) (hb : c.code = cc) {i : Int32} (hdg : decode cc pc = .ok (.baload, 1)) (k : vx_NoteN p l e R s m args below meth c H locs cells slots Q (F0 m pc ls rest)) : W p l e R s m args below meth c H locs cells slots Q (F0 m pc ls (.int i :: .null :: rest)) := by
  intro T hT X
  obtain ⟨t, st, q⟩ := k T hT X
  exact ⟨t, X.baloadNull hexec (g := F0 m pc ls (.int i :: .null :: rest)) rfl (rest := rest) rfl (by rw [hb]; exact hdg) t st, q⟩
theorem vx_caloadN (hexec : p.tables.exec = Jvm.exec) (hb : c.code = cc) {i : Int32} (hdg : decode cc pc = .ok (.caload, 1)) (k : vx_NoteN p l e R s m args below meth c H locs cells slots Q (F0 m pc ls rest)) : W p l e R s m args below meth c H locs cells slots Q (F0 m pc ls (.int i :: .null :: rest)) := by
  intro T hT X
  obtain ⟨t, st, q⟩ := k T hT X
  exact ⟨t, X.caloadNull hexec (g := F0 m pc ls (.int i :: .null :: rest)) rfl (rest := rest) rfl (by rw [hb]; exact hdg) t st, q⟩
theorem vx_saloadN (hexec : p.tables.exec = Jvm.exec) (hb : c.code = cc) {i : Int32} (hdg : decode cc pc = .ok (.saload, 1)) (k : vx_NoteN p l e R s m args below meth c H locs cells slots Q (F0 m pc ls rest)) : W p l e R s m args below meth c H locs cells slots Q (F0 m pc ls (.int i :: .null :: rest)) := by
  intro T hT X
  obtain ⟨t, st, q⟩ := k T hT X
  exact ⟨t, X.saloadNull hexec (g := F0 m pc ls (.int i :: .null :: rest)) rfl (rest := rest) rfl (by rw [hb]; exact hdg) t st, q⟩
theorem vx_iastoreN (hexec : p.tables.exec = Jvm.exec) (hb : c.code = cc) {x : Int32} {i : Int32} (hdg : decode cc pc = .ok (.iastore, 1)) (k : vx_NoteN p l e R s m args below meth c H locs cells slots Q (F0 m pc ls rest)) : W p l e R s m args below meth c H locs cells slots Q (F0 m pc ls (.int x :: .int i :: .null :: rest)) := by
  intro T hT X
  obtain ⟨t, st, q⟩ := k T hT X
  exact ⟨t, X.iastoreNull hexec (g := F0 m pc ls (.int x :: .int i :: .null :: rest)) rfl (rest := rest) rfl (by rw [hb]; exact hdg) t st, q⟩
theorem vx_lastoreN (hexec : p.tables.exec = Jvm.exec) (hb : c.code = cc) {x : Int64} {i : Int32} (hdg : decode cc pc = .ok (.lastore, 1)) (k : vx_NoteN p l e R s m args below meth c H locs cells slots Q (F0 m pc ls rest)) : W p l e R s m args below meth c H locs cells slots Q (F0 m pc ls (.long x :: .int i :: .null :: rest)) := by
  intro T hT X
  obtain ⟨t, st, q⟩ := k T hT X
  exact ⟨t, X.lastoreNull hexec (g := F0 m pc ls (.long x :: .int i :: .null :: rest)) rfl (rest := rest) rfl (by rw [hb]; exact hdg) t st, q⟩
theorem vx_fastoreN (hexec : p.tables.exec = Jvm.exec) (hb : c.code = cc) {x : UInt32} {i : Int32} (hdg : decode cc pc = .ok (.fastore, 1)) (k : vx_NoteN p l e R s m args below meth c H locs cells slots Q (F0 m pc ls rest)) : W p l e R s m args below meth c H locs cells slots Q (F0 m pc ls (.float x :: .int i :: .null :: rest)) := by
  intro T hT X
  obtain ⟨t, st, q⟩ := k T hT X
  exact ⟨t, X.fastoreNull hexec (g := F0 m pc ls (.float x :: .int i :: .null :: rest)) rfl (rest := rest) rfl (by rw [hb]; exact hdg) t st, q⟩
theorem vx_dastoreN (hexec : p.tables.exec = Jvm.exec) (hb : c.code = cc) {x : UInt64} {i : Int32} (hdg : decode cc pc = .ok (.dastore, 1)) (k : vx_NoteN p l e R s m args below meth c H locs cells slots Q (F0 m pc ls rest)) : W p l e R s m args below meth c H locs cells slots Q (F0 m pc ls (.double x :: .int i :: .null :: rest)) := by
  intro T hT X
  obtain ⟨t, st, q⟩ := k T hT X
  exact ⟨t, X.dastoreNull hexec (g := F0 m pc ls (.double x :: .int i :: .null :: rest)) rfl (rest := rest) rfl (by rw [hb]; exact hdg) t st, q⟩
theorem vx_bastoreN (hexec : p.tables.exec = Jvm.exec) (hb : c.code = cc) {x : Int32} {i : Int32} (hdg : decode cc pc = .ok (.bastore, 1)) (k : vx_NoteN p l e R s m args below meth c H locs cells slots Q (F0 m pc ls rest)) : W p l e R s m args below meth c H locs cells slots Q (F0 m pc ls (.int x :: .int i :: .null :: rest)) := by
  intro T hT X
  obtain ⟨t, st, q⟩ := k T hT X
  exact ⟨t, X.bastoreNull hexec (g := F0 m pc ls (.int x :: .int i :: .null :: rest)) rfl (rest := rest) rfl (by rw [hb]; exact hdg) t st, q⟩
theorem vx_castoreN (hexec : p.tables.exec = Jvm.exec) (hb : c.code = cc) {x : Int32} {i : Int32} (hdg : decode cc pc = .ok (.castore, 1)) (k : vx_NoteN p l e R s m args below meth c H locs cells slots Q (F0 m pc ls rest)) : W p l e R s m args below meth c H locs cells slots Q (F0 m pc ls (.int x :: .int i :: .null :: rest)) := by
  intro T hT X
  obtain ⟨t, st, q⟩ := k T hT X
  exact ⟨t, X.castoreNull hexec (g := F0 m pc ls (.int x :: .int i :: .null :: rest)) rfl (rest := rest) rfl (by rw [hb]; exact hdg) t st, q⟩
theorem vx_sastoreN (hexec : p.tables.exec = Jvm.exec) (hb : c.code = cc) {x : Int32} {i : Int32} (hdg : decode cc pc = .ok (.sastore, 1)) (k : vx_NoteN p l e R s m args below meth c H locs cells slots Q (F0 m pc ls rest)) : W p l e R s m args below meth c H locs cells slots Q (F0 m pc ls (.int x :: .int i :: .null :: rest)) := by
  intro T hT X
  obtain ⟨t, st, q⟩ := k T hT X
  exact ⟨t, X.sastoreNull hexec (g := F0 m pc ls (.int x :: .int i :: .null :: rest)) rfl (rest := rest) rfl (by rw [hb]; exact hdg) t st, q⟩
theorem vx_invokeN {own C : String} {index maxL : Nat} {y : MethodName} {bytes : ByteArray} {ret : Option FieldType} (hexec : p.tables.exec = Jvm.exec) (hb : c.code = cc) (hown : s.vm.findClass own = some m.cls) (hlink : (Cond.methodLink own index y).before args s = true) (hinst : (Cond.instanceMethod y).before args s = true) (hcode : (Cond.code y bytes maxL ret).before args s = true) (hsel : (Cond.selects C y y).before args s = true)
    (hx : y.cls ≠ "java/lang/invoke/MethodHandle" ∧ y.cls ≠ "java/lang/invoke/VarHandle") {As : List Value} (hlen : (parseMethodDescriptor y.desc).map (fun d => d.parameters.length) = some As.length) (hdg : decode cc pc = .ok (.invokevirtual index, 3))
    (k : vx_NoteN p l e R s m args below meth c H locs cells slots Q (F0 m pc ls rest)) {st0 : List Value} (hst : st0 = As.reverse ++ .null :: rest) : W p l e R s m args below meth c H locs cells slots Q (F0 m pc ls st0) := by
  intro T hT X
  obtain ⟨r0, r, hn, hrm, hstR, hsigR⟩ := va_Decl.of hinst hcode
  obtain ⟨c2, r2, m2, q1, q2, q3, q4, kP, hkP, hkPi⟩ := Cond.selects_spec hsel
  cases hn.symm.trans q3
  have hl9 : As.length = r.sig.parameters.length := by
    rw [hsigR] at hlen
    exact (Option.some.inj hlen).symm
  obtain ⟨vm', X1, st1⟩ := X.invokevirtualNull hexec hown hlink hn hrm hstR hkP hkPi hx (g := F0 m pc ls st0) rfl (argsL := As) (rest := rest) hl9 hst (by rw [hb]; exact hdg)
  obtain ⟨t, st, q⟩ := k (T.setVm vm') hT X1
  exact ⟨t, st1 t st, q⟩
theorem vx_newarrayZ {atype : ArrayType} (hexec : p.tables.exec = Jvm.exec) (hb : c.code = cc) {n : Int32} (h0 : n < 0) (hdg : decode cc pc = .ok (.newarray atype, 2)) (k : ∀ tx : String, tx = toString n → vx_Note p l e R s m args below meth c H locs cells slots Q (F0 m pc ls rest) "java/lang/NegativeArraySizeException" tx) : W p l e R s m args below meth c H locs cells slots Q (F0 m pc ls (.int n :: rest)) := by
  intro T hT X
  obtain ⟨t, st, q⟩ := k _ rfl T hT X
  exact ⟨t, X.newarrayNegative hexec (g := F0 m pc ls (.int n :: rest)) rfl h0 (rest := rest) rfl (by rw [hb]; exact hdg) t st, q⟩
end
end VXM
/-! ===== END ===== -/
/-! ===== BEGIN an exception as an object: made, kept, thrown later (no traces kept) ===== -/
section VXK
variable {p : Program} {l : Launch} {e : Env} {R : Room} {s : State} {m₀ : MethodId} {args : Array Value} {below : List Frame} {meth : Method} {c : Code} {W : State} {locs : List Loc} {cells slots : Nat}
set_option maxHeartbeats 1000000 in
theorem vx_ctorMadeS (X : Stand p l e R s m₀ args below meth c W locs cells slots) (hexec : p.tables.exec = Jvm.exec) (htr : e.platform.stackTraces = false) {own cls : String} {names : List String} {ic : Nat}
    (hown : s.vm.findClass own = some m₀.cls) (hcls : Bundle.fit cls = true) (hnames : ∀ n ∈ names, Bundle.fit n = true)
    (h : ∀ a ∈ Bundle.ownAtoms own ic cls names, a.before args s = true)
    (hlocs : ∀ x ∈ locs, ∀ cell, s.heap[x.base]? = some cell → cell.vm.isStatics = false)
    {a : Addr} {cX : ClassId} {kX : Class} (hfoundX : s.vm.findClass cls = some cX) (hkX : s.vm.classes[cX]? = some kX) (hcell : W.heap[a]? = some (freshCell cX kX)) (hnew : s.heap.size ≤ a)
    {msg : Value} (hmsg : msg.isRef = true)
    {g : JFrame} (hg : g.method = m₀) (hsize : g.locals.size = c.maxLocals) {rest : List Value} (hstack : g.stack = msg :: .ref a :: .ref a :: rest)
    (hd6 : decode c.code g.pc = .ok (.invokespecial ic, 3))
    (hRframes : names.length + 3 < R.frames) (hRlocals : 2 * g.monitorRoom + ((Value.ref a :: rest).map fun v => v.category).sum + (13 * (names.length + 1) + 42) ≤ R.locals) :
    ∃ (V : State) (ce : Cell) (L : List Loc), Stand p l e R s m₀ args below meth c (V.setCell a ce) (locs ++ L) cells slots ∧ (∀ y ∈ L, y.base = a) ∧ a < V.heap.size ∧ ce.cls = cX ∧ ce.vm = .none ∧
      ∀ target, Steps p.tables e below ((V.setCell a ce).setTop { g with stack := .ref a :: rest, pc := g.pc + 3 }) target → Steps p.tables e below (W.setTop g) target := by
  have howns : e.platform.frameOwnsMonitors = true := by rw [X.admits.platform]
  have hfin : e.platform.finalization = false := by rw [X.admits.platform]
  have hpl : e.platform.magicAccessors = ({} : Platform).magicAccessors := by rw [X.admits.platform]
  have a' : ∀ x, x ∈ Bundle.ownAtoms own ic cls names → x.holds args s none s [] = true := fun x hx => h x hx
  obtain ⟨T, Z0, L, -, Y⟩ := ThrowableC.of_atoms (args := args) howns hfin hpl (fun x hx => h x (by simp [Bundle.ownAtoms, hx]))
  obtain ⟨Z, M, LZ, LM, hnZ⟩ := Init0T.ofS_atoms (args := args) hpl L Y (fun x hx => h x (by simp [Bundle.ownAtoms, hx]))
  obtain ⟨P1, Ps, hlen, L1, hL, hP1m, hlink1, hlink⟩ := Bundle.chainS (args := args) hpl hnZ names cls hcls hnames (fun x hx => h x (by simp [Bundle.ownAtoms, hx]))
  have hfound : s.vm.findClass cls = some P1.m.cls := findClass_of_methodNamed hP1m
  cases Option.some.inj (hfoundX.symm.trans hfound)
  obtain ⟨c1, kX', hc1, hk, hord, -, -, hn6⟩ := Cond.instantiable_spec (a' (.instantiable cls 6) (by simp [Bundle.ownAtoms]))
  cases Option.some.inj (hc1.symm.trans hfound)
  cases Option.some.inj (hkX.symm.trans hk)
  have hsel0 : selectMethod e.platform s.vm P1.m.cls T.fill0 = .method T.fill0 := by
    obtain ⟨c2, r2, m2, q1, q2, q3, q4, -⟩ := Cond.selects_spec (a' (.selects cls Bundle.tFill0 Bundle.tFill0) (by simp [Bundle.ownAtoms]))
    cases Option.some.inj (q1.symm.trans hfound)
    cases Option.some.inj (q2.symm.trans (State.methodFound?_of_named Y.fill0 (by decide)))
    cases Option.some.inj (q3.symm.trans Y.fill0)
    rw [Launch.admits_selectMethod X.admits]; exact q4
  have hselF : selectMethod e.platform s.vm P1.m.cls T.fill = .method T.fill := by
    obtain ⟨c2, r2, m2, q1, q2, q3, q4, -⟩ := Cond.selects_spec (a' (.selects cls Bundle.tFill Bundle.tFill) (by simp [Bundle.ownAtoms]))
    cases Option.some.inj (q1.symm.trans hfound)
    cases Option.some.inj (q2.symm.trans (State.methodFound?_of_named Y.fill (by decide)))
    cases Option.some.inj (q3.symm.trans Y.fill)
    rw [Launch.admits_selectMethod X.admits]; exact q4
  obtain ⟨cellS0, hcS0, hiss⟩ := Y.statics
  obtain ⟨u0, hu0⟩ := Cond.staticRefV Y.unassigned L.unassignedStatic L.statics hcS0 hiss (a' (.isRef (.static Bundle.tN "UNASSIGNED_STACK" Bundle.steD)) (by simp [Bundle.ownAtoms]))
  obtain ⟨sen, hsen⟩ := Cond.staticRefV Y.sentinel L.sentinelStatic L.statics hcS0 hiss (a' (.isRef (.static Bundle.tN "SUPPRESSED_SENTINEL" Bundle.listD)) (by simp [Bundle.ownAtoms]))
  obtain ⟨ci198, i198, fB, hk198, hg198, ha198, hsB, -, hnB, htB, hffB⟩ := Cond.ownField (t := .object "java/lang/Object") Y.found L.cls (by decide +kernel) (a' (.fieldLink Bundle.tN 198 Bundle.tN "backtrace" "Ljava/lang/Object;") (by simp [Bundle.ownAtoms])) (a' (.lays Bundle.tN Bundle.tN "backtrace" "Ljava/lang/Object;") (by simp [Bundle.ownAtoms])) e.platform hpl
  obtain ⟨cellS, hcS', heS, -, hkeep⟩ := X.same.2.2.2.2.2 T.aS cellS0 hcS0
  have hcellS : W.heap[T.aS]? = some cellS := hcS'
  have hout' : ∀ i, (⟨T.aS, i⟩ : Loc) ∉ locs := fun i hmem => by
    have := hlocs _ hmem cellS0 hcS0
    rw [hiss] at this; cases this
  have hknownS : cellS.vm ≠ .unknown := by
    rw [heS]; intro hu
    rw [show cellS0.vm = .unknown from hu] at hiss
    cases hiss
  have hneS : T.aS ≠ a := Nat.ne_of_lt (Nat.lt_of_lt_of_le (Array.getElem?_eq_some_iff.mp hcS0).1 hnew)
  obtain ⟨iM, hffM⟩ := Y.msg
  obtain ⟨tyC, dC, hdC, hdnC⟩ := Cond.laysAt hfound hk Y.cause (a' (.lays cls Bundle.tN "cause" "Ljava/lang/Throwable;") (by simp [Bundle.ownAtoms]))
  obtain ⟨tyS, dS, hdS, hdnS⟩ := Cond.laysAt hfound hk Y.stack (a' (.lays cls Bundle.tN "stackTrace" Bundle.steD) (by simp [Bundle.ownAtoms]))
  obtain ⟨tyP, dP, hdP, hdnP⟩ := Cond.laysAt hfound hk Y.supp (a' (.lays cls Bundle.tN "suppressedExceptions" Bundle.listD) (by simp [Bundle.ownAtoms]))
  obtain ⟨tyM, dM, hdM, hdnM⟩ := Cond.laysAt hfound hk hffM (a' (.lays cls Bundle.tN "detailMessage" "Ljava/lang/String;") (by simp [Bundle.ownAtoms]))
  obtain ⟨tyB, dB, hdB, hdnB⟩ := Cond.laysAt hfound hk hffB (a' (.lays cls Bundle.tN "backtrace" "Ljava/lang/Object;") (by simp [Bundle.ownAtoms]))
  have bC := Cond.laysApart hdB hdC hdnB hdnC (by rw [hnB, Y.causeName]; decide)
  have bS := Cond.laysApart hdB hdS hdnB hdnS (by rw [hnB, Y.stackName]; decide)
  have bP := Cond.laysApart hdB hdP hdnB hdnP (by rw [hnB, Y.suppName]; decide)
  have hskip : SkipFacts T e.platform s (fun u => u) u0 ((preparedCellV T.toThrowableT (freshCell P1.m.cls kX) a u0 sen).withEntry W.cur) :=
    ⟨{ ci198 := ci198, i198 := i198, fBack := fB }, ⟨hk198, hg198, ha198, hsB⟩, by
      have := fresh_default (c := P1.m.cls) tyB
      rw [htB] at this
      simpa [preparedCellV, Cell.setSlot, Cell.withEntry, Array.getElem?_setIfInBounds, bC, bS, bP, bC.symm, bS.symm, bP.symm, defaultValue] using this, fun _ _ => rfl⟩
  obtain ⟨tm, methC, cdC, kC, vm₁, hnC, -, -, -, -, -, -, -, hW₁, st1⟩ := Steps.initColdS (tb := p.tables) (e := e) (below := below) (s := s) (U := W) X.here hexec X.warmed hpl hown (t := Bundle.initS cls) rfl rfl (Bundle.fit_spec hcls).2
    (a' (.methodLink own ic (Bundle.initS cls)) (by simp [Bundle.ownAtoms])) (h (.instanceMethod (Bundle.initS cls)) (by cases names <;> simp [Bundle.ownAtoms, Bundle.chainSAtoms, Bundle.passSAtoms])) (bytes := Bundle.six) (maxL := 2) (h (.code (Bundle.initS cls) Bundle.six 2 none) (by cases names <;> simp [Bundle.ownAtoms, Bundle.chainSAtoms, Bundle.passSAtoms]))
    (f := g) hg (a := a) (msg := msg) (rest := .ref a :: rest) hstack hd6
  cases Option.some.inj (hnC.symm.trans hP1m)
  have X₁ := X.noted hW₁
  obtain ⟨vm₂, X₂, st2⟩ := X₁.ctorMessageOffV hexec (g := { g with stack := .ref a :: rest }) hg hsize T L Z LZ M LM (P1 :: Ps)
    (fun P hP => by rcases List.mem_cons.mp hP with rfl | hP; exact L1; exact hL P hP) ⟨hlink1, hlink⟩ (u0 := u0) (sen := sen) (self := a) hmsg (cell := freshCell P1.m.cls kX) (cellS := cellS)
    hcell (fun _ => by simp) (by simp) rfl rfl hsel0 hselF hcellS hneS hknownS (by rw [hkeep _ (hout' _)]; exact hu0) (by rw [hkeep _ (hout' _)]; exact hsen)
    (Takes.of_laid hk hord tyC (by rw [Y.causeType]; rfl)) (Takes.of_laid hk hord tyS (by rw [Y.stackType]; exact fits_refV_array _ u0)) (Takes.of_laid hk hord tyP (by rw [Y.suppType]; exact fits_refV_object _ sen))
    (Takes.of_laid hk hord tyM (by rw [Y.msgType]; exact fits_refV_object _ ⟨msg, hmsg⟩)) Y.objLocals hskip htr [] hd6
    (by simp only [List.length_cons, hlen]; omega) (by simp only [List.length_cons, hlen]; exact hRlocals)
  have hlt : a < ((W.setVm vm₁).setVm vm₂).heap.size := (Array.getElem?_eq_some_iff.mp hcell).1
  refine ⟨(W.setVm vm₁).setVm vm₂, _, _, X₂, fun y hy => ?_, hlt, rfl, rfl, fun target hwalk => st1 _ (fun acts => ?_)⟩
  · simp only [List.mem_cons, List.not_mem_nil, or_false] at hy
    rcases hy with rfl | rfl | rfl | rfl | rfl <;> rfl
  · rw [doInvoke_state]
    exact st2 _ hwalk
set_option maxHeartbeats 1000000 in
theorem vx_ctorMade0 (X : Stand p l e R s m₀ args below meth c W locs cells slots) (hexec : p.tables.exec = Jvm.exec) (htr : e.platform.stackTraces = false) {own cls : String} {names : List String} {ic : Nat}
    (hown : s.vm.findClass own = some m₀.cls) (hcls : Bundle.fit cls = true) (hnames : ∀ n ∈ names, Bundle.fit n = true)
    (h : ∀ a ∈ Bundle.ownAtoms0 own ic cls names, a.before args s = true)
    (hlocs : ∀ x ∈ locs, ∀ cell, s.heap[x.base]? = some cell → cell.vm.isStatics = false)
    {a : Addr} {cX : ClassId} {kX : Class} (hfoundX : s.vm.findClass cls = some cX) (hkX : s.vm.classes[cX]? = some kX) (hcell : W.heap[a]? = some (freshCell cX kX)) (hnew : s.heap.size ≤ a)
    {g : JFrame} (hg : g.method = m₀) (hsize : g.locals.size = c.maxLocals) {rest : List Value} (hstack : g.stack = .ref a :: .ref a :: rest)
    (hd6 : decode c.code g.pc = .ok (.invokespecial ic, 3))
    (hRframes : names.length + 3 < R.frames) (hRlocals : 2 * g.monitorRoom + ((Value.ref a :: rest).map fun v => v.category).sum + (13 * (names.length + 1) + 41) ≤ R.locals) :
    ∃ (V : State) (ce : Cell) (L : List Loc), Stand p l e R s m₀ args below meth c (V.setCell a ce) (locs ++ L) cells slots ∧ (∀ y ∈ L, y.base = a) ∧ a < V.heap.size ∧ ce.cls = cX ∧ ce.vm = .none ∧
      ∀ target, Steps p.tables e below ((V.setCell a ce).setTop { g with stack := .ref a :: rest, pc := g.pc + 3 }) target → Steps p.tables e below (W.setTop g) target := by
  have howns : e.platform.frameOwnsMonitors = true := by rw [X.admits.platform]
  have hfin : e.platform.finalization = false := by rw [X.admits.platform]
  have hpl : e.platform.magicAccessors = ({} : Platform).magicAccessors := by rw [X.admits.platform]
  have a' : ∀ x, x ∈ Bundle.ownAtoms0 own ic cls names → x.holds args s none s [] = true := fun x hx => h x hx
  obtain ⟨T, Z, L, LZ, Y⟩ := ThrowableC.of_atoms (args := args) howns hfin hpl (fun x hx => h x (by simp [Bundle.ownAtoms0, hx]))
  obtain ⟨P1, Ps, hlen, L1, hL, hP1m, hlink1, hlink⟩ := Bundle.chain0 (args := args) hpl Y.init0 names cls hcls hnames (fun x hx => h x (by simp [Bundle.ownAtoms0, hx]))
  have hfound : s.vm.findClass cls = some P1.m.cls := findClass_of_methodNamed hP1m
  cases Option.some.inj (hfoundX.symm.trans hfound)
  obtain ⟨c1, kX', hc1, hk, hord, -, -, hn6⟩ := Cond.instantiable_spec (a' (.instantiable cls 6) (by simp [Bundle.ownAtoms0]))
  cases Option.some.inj (hc1.symm.trans hfound)
  cases Option.some.inj (hkX.symm.trans hk)
  have hsel0 : selectMethod e.platform s.vm P1.m.cls T.fill0 = .method T.fill0 := by
    obtain ⟨c2, r2, m2, q1, q2, q3, q4, -⟩ := Cond.selects_spec (a' (.selects cls Bundle.tFill0 Bundle.tFill0) (by simp [Bundle.ownAtoms0]))
    cases Option.some.inj (q1.symm.trans hfound)
    cases Option.some.inj (q2.symm.trans (State.methodFound?_of_named Y.fill0 (by decide)))
    cases Option.some.inj (q3.symm.trans Y.fill0)
    rw [Launch.admits_selectMethod X.admits]; exact q4
  have hselF : selectMethod e.platform s.vm P1.m.cls T.fill = .method T.fill := by
    obtain ⟨c2, r2, m2, q1, q2, q3, q4, -⟩ := Cond.selects_spec (a' (.selects cls Bundle.tFill Bundle.tFill) (by simp [Bundle.ownAtoms0]))
    cases Option.some.inj (q1.symm.trans hfound)
    cases Option.some.inj (q2.symm.trans (State.methodFound?_of_named Y.fill (by decide)))
    cases Option.some.inj (q3.symm.trans Y.fill)
    rw [Launch.admits_selectMethod X.admits]; exact q4
  obtain ⟨cellS0, hcS0, hiss⟩ := Y.statics
  obtain ⟨u0, hu0⟩ := Cond.staticRefV Y.unassigned L.unassignedStatic L.statics hcS0 hiss (a' (.isRef (.static Bundle.tN "UNASSIGNED_STACK" Bundle.steD)) (by simp [Bundle.ownAtoms0]))
  obtain ⟨sen, hsen⟩ := Cond.staticRefV Y.sentinel L.sentinelStatic L.statics hcS0 hiss (a' (.isRef (.static Bundle.tN "SUPPRESSED_SENTINEL" Bundle.listD)) (by simp [Bundle.ownAtoms0]))
  obtain ⟨ci198, i198, fB, hk198, hg198, ha198, hsB, -, hnB, htB, hffB⟩ := Cond.ownField (t := .object "java/lang/Object") Y.found L.cls (by decide +kernel) (a' (.fieldLink Bundle.tN 198 Bundle.tN "backtrace" "Ljava/lang/Object;") (by simp [Bundle.ownAtoms0])) (a' (.lays Bundle.tN Bundle.tN "backtrace" "Ljava/lang/Object;") (by simp [Bundle.ownAtoms0])) e.platform hpl
  obtain ⟨cellS, hcS', heS, -, hkeep⟩ := X.same.2.2.2.2.2 T.aS cellS0 hcS0
  have hcellS : W.heap[T.aS]? = some cellS := hcS'
  have hout' : ∀ i, (⟨T.aS, i⟩ : Loc) ∉ locs := fun i hmem => by
    have := hlocs _ hmem cellS0 hcS0
    rw [hiss] at this; cases this
  have hknownS : cellS.vm ≠ .unknown := by
    rw [heS]; intro hu
    rw [show cellS0.vm = .unknown from hu] at hiss
    cases hiss
  have hneS : T.aS ≠ a := Nat.ne_of_lt (Nat.lt_of_lt_of_le (Array.getElem?_eq_some_iff.mp hcS0).1 hnew)
  obtain ⟨iM, hffM⟩ := Y.msg
  obtain ⟨tyC, dC, hdC, hdnC⟩ := Cond.laysAt hfound hk Y.cause (a' (.lays cls Bundle.tN "cause" "Ljava/lang/Throwable;") (by simp [Bundle.ownAtoms0]))
  obtain ⟨tyS, dS, hdS, hdnS⟩ := Cond.laysAt hfound hk Y.stack (a' (.lays cls Bundle.tN "stackTrace" Bundle.steD) (by simp [Bundle.ownAtoms0]))
  obtain ⟨tyP, dP, hdP, hdnP⟩ := Cond.laysAt hfound hk Y.supp (a' (.lays cls Bundle.tN "suppressedExceptions" Bundle.listD) (by simp [Bundle.ownAtoms0]))
  obtain ⟨tyM, dM, hdM, hdnM⟩ := Cond.laysAt hfound hk hffM (a' (.lays cls Bundle.tN "detailMessage" "Ljava/lang/String;") (by simp [Bundle.ownAtoms0]))
  obtain ⟨tyB, dB, hdB, hdnB⟩ := Cond.laysAt hfound hk hffB (a' (.lays cls Bundle.tN "backtrace" "Ljava/lang/Object;") (by simp [Bundle.ownAtoms0]))
  have bC := Cond.laysApart hdB hdC hdnB hdnC (by rw [hnB, Y.causeName]; decide)
  have bS := Cond.laysApart hdB hdS hdnB hdnS (by rw [hnB, Y.stackName]; decide)
  have bP := Cond.laysApart hdB hdP hdnB hdnP (by rw [hnB, Y.suppName]; decide)
  have hskip : SkipFacts T e.platform s (fun u => u) u0 ((preparedCellV T.toThrowableT (freshCell P1.m.cls kX) a u0 sen).withEntry W.cur) :=
    ⟨{ ci198 := ci198, i198 := i198, fBack := fB }, ⟨hk198, hg198, ha198, hsB⟩, by
      have := fresh_default (c := P1.m.cls) tyB
      rw [htB] at this
      simpa [preparedCellV, Cell.setSlot, Cell.withEntry, Array.getElem?_setIfInBounds, bC, bS, bP, bC.symm, bS.symm, bP.symm, defaultValue] using this, fun _ _ => rfl⟩
  obtain ⟨tm, methC, cdC, kC, vm₁, hnC, -, -, -, -, -, -, -, hW₁, st1⟩ := Steps.initCold (tb := p.tables) (e := e) (below := below) (s := s) (U := W) X.here hexec X.warmed hpl hown (t := Bundle.init0 cls) rfl rfl (Bundle.fit_spec hcls).2
    (a' (.methodLink own ic (Bundle.init0 cls)) (by simp [Bundle.ownAtoms0])) (h (.instanceMethod (Bundle.init0 cls)) (by cases names <;> simp [Bundle.ownAtoms0, Bundle.chain0Atoms, Bundle.passAtoms])) (bytes := Bundle.five) (maxL := 1) (h (.code (Bundle.init0 cls) Bundle.five 1 none) (by cases names <;> simp [Bundle.ownAtoms0, Bundle.chain0Atoms, Bundle.passAtoms]))
    (f := g) hg (a := a) (rest := .ref a :: rest) hstack hd6
  cases Option.some.inj (hnC.symm.trans hP1m)
  have X₁ := X.noted hW₁
  obtain ⟨vm₂, X₂, st2⟩ := X₁.ctorPlainOffV hexec (g := { g with stack := .ref a :: rest }) hg hsize T L Z LZ (P1 :: Ps)
    (fun P hP => by rcases List.mem_cons.mp hP with rfl | hP; exact L1; exact hL P hP) ⟨hlink1, hlink⟩ (u0 := u0) (sen := sen) (self := a) (cell := freshCell P1.m.cls kX) (cellS := cellS)
    hcell (fun _ => by simp) (by simp) rfl rfl hsel0 hselF hcellS hneS hknownS (by rw [hkeep _ (hout' _)]; exact hu0) (by rw [hkeep _ (hout' _)]; exact hsen)
    (Takes.of_laid hk hord tyC (by rw [Y.causeType]; rfl)) (Takes.of_laid hk hord tyS (by rw [Y.stackType]; exact fits_refV_array _ u0)) (Takes.of_laid hk hord tyP (by rw [Y.suppType]; exact fits_refV_object _ sen)) Y.objLocals hskip htr [] hd6
    (by simp only [List.length_cons, hlen]; omega) (by simp only [List.length_cons, hlen]; exact hRlocals)
  have hlt : a < ((W.setVm vm₁).setVm vm₂).heap.size := (Array.getElem?_eq_some_iff.mp hcell).1
  refine ⟨(W.setVm vm₁).setVm vm₂, _, _, X₂, fun y hy => ?_, hlt, rfl, rfl, fun target hwalk => st1 _ (fun acts => ?_)⟩
  · simp only [List.mem_cons, List.not_mem_nil, or_false] at hy
    rcases hy with rfl | rfl | rfl | rfl <;> rfl
  · rw [doInvoke_state]
    exact st2 _ hwalk
end VXK
section VXK2
variable {p : Program} {l : Launch} {e : Env} {R : Room} {s : State} {m : MethodId} {args : Array Value} {below : List Frame} {meth : Method} {c : Code} {H : Heap} {locs : List Loc} {cells slots : Nat} {Q : State → Prop}
variable {ls : Array Slot} {rest : List Value} {D : va_G} {cl : List vw_C} {tys : List (ClassId × FieldType)} {ws : va_W}
/-- 'new E("text")' that isn't thrown at once: the object goes on the stack -/
theorem vx_makeS {cc : ByteArray} {pc : Nat} (hexec : p.tables.exec = Jvm.exec) (hb : c.code = cc) (hl : l.stackTraces = false) {own cls text : String} {names : List String} {ik is ic sa ci : Nat} {A : Nat → Prop} {T0 : u_T}
    (hown : s.vm.findClass own = some m.cls) (hcls : Bundle.fit cls = true) (hnames : ∀ n ∈ names, Bundle.fit n = true)
    (hk : (Cond.classLink own ik cls).before args s = true) (hini : (Cond.initialized cls).before args s = true) (hstr : vk_R own is text sa s) (hat : ∀ w ∈ vx_atS own ic cls names, w.before args s = true)
    (hgood : ∀ w ∈ Cond.classLink own ik cls :: Cond.initialized cls :: vx_atS own ic cls names, vx_ot w = true)
    (hU : vx_Zq Bundle.tN "UNASSIGNED_STACK" Bundle.steD A s s.heap) (hN : vx_Zq Bundle.tN "SUPPRESSED_SENTINEL" Bundle.listD A s s.heap) (hS : va_S A s.heap H locs) (hsize : ls.size = c.maxLocals)
    (d0 : decode cc pc = .ok (.new ik, 3)) (d3 : decode cc (pc + 3) = .ok (.dup, 1)) (d4 : decode cc (pc + 4) = .ok (.ldc is, 2)) (d6 : decode cc (pc + 6) = .ok (.invokespecial ic, 3))
    (hK : va_K D cl tys s) (hP : va_P D cl ws H) (hD : va_D A ws) (hA : ∀ q, s.heap.size ≤ q → A q) (hc : cl[ci]? = some (cls, T0, 0))
    (hRframes : names.length + 3 < R.frames) (hRlocals : (rest.map fun v => v.category).sum + (13 * (names.length + 1) + 43) ≤ R.locals) (hRcells : cells + 1 ≤ R.cells) (hRslots : slots + 6 ≤ R.slots)
    (kk : ∀ (q : Nat) (H1 : Heap), va_P D cl (ws ++ [(q, .inr (ci, []))]) H1 → va_D A (ws ++ [(q, .inr (ci, []))]) → va_S A s.heap H1 locs → W p l e R s m args below meth c H1 locs (cells + 1) (slots + 6) Q (F0 m (pc + 9) ls (.ref q :: rest))) :
    W p l e R s m args below meth c H locs cells slots Q (F0 m pc ls rest) := by
  intro T hT X
  subst hT
  have htr : e.platform.stackTraces = false := (show e.platform.stackTraces = l.stackTraces by rw [X.admits.platform]).trans hl
  have Y := vx_rebase X (R' := { frames := R.frames, locals := R.locals, cells := 1, slots := 6 }) (Nat.le_refl _) (Nat.le_refl _) hRcells hRslots
  obtain ⟨s', hA'⟩ : ∃ z, z = (T.setVm s.vm).setFrames (.invoking m args :: below) := ⟨_, rfl⟩
  rw [← hA'] at Y
  have hvm : s'.vm = s.vm := by rw [hA']; rfl
  have hhp : s'.heap = T.heap := by rw [hA']; rfl
  have hW0 : s.WarmedH s'.vm := by rw [hvm]; exact State.WarmedH.refl s
  have hat' : ∀ w ∈ vx_atS own ic cls names, w.before args s' = true := fun w hw => vx_ot_at hW0 hvm.symm (hgood w (List.mem_cons_of_mem _ (List.mem_cons_of_mem _ hw))) (hat w hw)
  have hk' : (Cond.classLink own ik cls).before args s' = true := vx_ot_at hW0 hvm.symm (hgood _ List.mem_cons_self) hk
  have hini' : (Cond.initialized cls).before args s' = true := vx_ot_at hW0 hvm.symm (hgood _ (List.mem_cons_of_mem _ List.mem_cons_self)) hini
  have hU' : vx_Zq Bundle.tN "UNASSIGNED_STACK" Bundle.steD A s' s'.heap := by rw [hhp]; exact vx_Zq.moved hW0.alike (hU.kept hS.2.1)
  have hN' : vx_Zq Bundle.tN "SUPPRESSED_SENTINEL" Bundle.listD A s' s'.heap := by rw [hhp]; exact vx_Zq.moved hW0.alike (hN.kept hS.2.1)
  have h : ∀ w ∈ Bundle.ownAtoms own ic cls names, w.before args s' = true := vx_own hat' (vx_isRefq hU'.1) (vx_isRefq hN'.1) hU'.2.word hN'.2.word
  have hown' : s'.vm.findClass own = some m.cls := by rw [hvm]; exact hown
  have hins : (Cond.instantiable cls 6).before args s' = true := h _ (by simp [Bundle.ownAtoms])
  obtain ⟨vm₁, cX, kX, hfX, hkX, -, -, X₁, st1⟩ := Y.newCold hexec (own := own) (C := cls) (index := ik) (n := 6) hown' hk' hins hini'
    (g := F0 m pc ls rest) rfl (by rw [hb]; exact d0) (Nat.le_refl _) (Nat.le_refl _)
  generalize hT1 : (T.setVm vm₁).pushCell { cls := cX, slots := kX.instanceTypes.map defaultValue, vm := .none } = T1 at X₁ st1
  have hcat : (Value.ref T.heap.size).category = 1 := rfl
  have hcellA : T1.heap[T.heap.size]? = some (freshCell cX kX) := by rw [← hT1]; exact State.heap_pushCell_size _ _
  have d3' : decode c.code (pc + 3) = .ok (.dup, 1) := by rw [hb]; exact d3
  have d4' : decode c.code (pc + 4) = .ok (.ldc is, 2) := by rw [hb]; exact d4
  have hstr' : vk_R own is text sa s' := vk_R.warm hW0 hstr
  obtain ⟨V, ce, L, Z, hL, hlt, hcl9, hvm9, st⟩ := vx_ctorMadeS X₁ hexec htr (own := own) (cls := cls) (names := names) (ic := ic) hown' hcls hnames h (fun x hx => nomatch hx) hfX hkX hcellA (by rw [hhp]; exact Nat.le_refl _) (msg := .ref sa) rfl
    (g := { method := m, pc := pc + 6, locals := ls, stack := .ref sa :: .ref T.heap.size :: .ref T.heap.size :: rest, locked := none }) rfl hsize (rest := rest) rfl
    (by rw [hb]; exact d6) hRframes (by simp only [List.map_cons, List.sum_cons, hcat]; omega)
  have Z0 := Stand.forget (locs := []) Z (fun y hy => by rw [hL y hy, hhp]; exact Nat.le_refl _)
  obtain ⟨f1, f2⟩ := vx_frame Z0.same
  rw [hhp] at f1 f2
  have hcid : ce.cls = D.1 ci := by
    rw [hcl9]
    have h1 := (hK.1 ci _ hc).2.1
    rw [hvm] at hfX
    exact Option.some.inj (hfX.symm.trans h1)
  have hh : (V.setCell T.heap.size ce).heap[T.heap.size]? = some ce := heapAt_setCell_self (s := V) ce hlt
  subst hA'
  have X5 := vx_back9 X Y Z0
  have X6 : Stand p l e R s m args below meth c (V.setCell T.heap.size ce) locs (cells + 1) (slots + 6) := { X5 with same := X5.same.mono (by omega) (by omega) }
  have hk9 : ∀ (k : Nat) (x : Nat × va_E), ws[k]? = some x → (V.setCell T.heap.size ce).heap[x.1]? = T.heap[x.1]? := fun k x hx => f2 x.1 ((hP k x hx).lt) (fun z hz => nomatch hz)
  obtain ⟨t, a1, b1⟩ := kk T.heap.size (V.setCell T.heap.size ce).heap ((hP.kept hk9).app (fun k x hx => by
      have hz : k < 1 := (List.getElem?_eq_some_iff.mp hx).1
      rw [show k = 0 by omega] at hx
      cases hx
      exact ⟨_, hc, ce, hh, hcid, hvm9, fun k hk => absurd hk (Nat.not_lt_zero k)⟩)) (hD.push hP rfl (hA _ hS.1)) ⟨Nat.le_trans hS.1 f1, fun q h1 h2 => (f2 q (Nat.lt_of_lt_of_le h1 hS.1) (fun z hz => nomatch hz)).trans (hS.2.1 q h1 h2), hS.2.2⟩ _ rfl X6
  refine ⟨t, st1 _ ?_, b1⟩
  show Steps p.tables e below (T1.setTop { method := m, pc := pc + 3, locals := ls, stack := .ref T.heap.size :: rest, locked := none }) _
  jvm_step X₁.here [X₁.here.top, hexec, d3', Value.category]
  exact X₁.ldcString hexec (own := own) (text := text) (index := is) (a := sa) hown' hstr'.1 hstr'.2
    (g := { method := m, pc := pc + 4, locals := ls, stack := .ref T.heap.size :: .ref T.heap.size :: rest, locked := none }) rfl d4' _ (st _ a1)
/-- 'new E()' that isn't thrown at once: the object goes on the stack -/
theorem vx_make0 {cc : ByteArray} {pc : Nat} (hexec : p.tables.exec = Jvm.exec) (hb : c.code = cc) (hl : l.stackTraces = false) {own cls : String} {names : List String} {ik ic ci : Nat} {A : Nat → Prop} {T0 : u_T}
    (hown : s.vm.findClass own = some m.cls) (hcls : Bundle.fit cls = true) (hnames : ∀ n ∈ names, Bundle.fit n = true)
    (hk : (Cond.classLink own ik cls).before args s = true) (hini : (Cond.initialized cls).before args s = true) (hat : ∀ w ∈ vx_at0 own ic cls names, w.before args s = true)
    (hgood : ∀ w ∈ Cond.classLink own ik cls :: Cond.initialized cls :: vx_at0 own ic cls names, vx_ot w = true)
    (hU : vx_Zq Bundle.tN "UNASSIGNED_STACK" Bundle.steD A s s.heap) (hN : vx_Zq Bundle.tN "SUPPRESSED_SENTINEL" Bundle.listD A s s.heap) (hS : va_S A s.heap H locs) (hsize : ls.size = c.maxLocals)
    (d0 : decode cc pc = .ok (.new ik, 3)) (d3 : decode cc (pc + 3) = .ok (.dup, 1)) (d4 : decode cc (pc + 4) = .ok (.invokespecial ic, 3))
    (hK : va_K D cl tys s) (hP : va_P D cl ws H) (hD : va_D A ws) (hA : ∀ q, s.heap.size ≤ q → A q) (hc : cl[ci]? = some (cls, T0, 0))
    (hRframes : names.length + 3 < R.frames) (hRlocals : (rest.map fun v => v.category).sum + (13 * (names.length + 1) + 42) ≤ R.locals) (hRcells : cells + 1 ≤ R.cells) (hRslots : slots + 6 ≤ R.slots)
    (kk : ∀ (q : Nat) (H1 : Heap), va_P D cl (ws ++ [(q, .inr (ci, []))]) H1 → va_D A (ws ++ [(q, .inr (ci, []))]) → va_S A s.heap H1 locs → W p l e R s m args below meth c H1 locs (cells + 1) (slots + 6) Q (F0 m (pc + 7) ls (.ref q :: rest))) :
    W p l e R s m args below meth c H locs cells slots Q (F0 m pc ls rest) := by
  intro T hT X
  subst hT
  have htr : e.platform.stackTraces = false := (show e.platform.stackTraces = l.stackTraces by rw [X.admits.platform]).trans hl
  have Y := vx_rebase X (R' := { frames := R.frames, locals := R.locals, cells := 1, slots := 6 }) (Nat.le_refl _) (Nat.le_refl _) hRcells hRslots
  obtain ⟨s', hA'⟩ : ∃ z, z = (T.setVm s.vm).setFrames (.invoking m args :: below) := ⟨_, rfl⟩
  rw [← hA'] at Y
  have hvm : s'.vm = s.vm := by rw [hA']; rfl
  have hhp : s'.heap = T.heap := by rw [hA']; rfl
  have hW0 : s.WarmedH s'.vm := by rw [hvm]; exact State.WarmedH.refl s
  have hat' : ∀ w ∈ vx_at0 own ic cls names, w.before args s' = true := fun w hw => vx_ot_at hW0 hvm.symm (hgood w (List.mem_cons_of_mem _ (List.mem_cons_of_mem _ hw))) (hat w hw)
  have hk' : (Cond.classLink own ik cls).before args s' = true := vx_ot_at hW0 hvm.symm (hgood _ List.mem_cons_self) hk
  have hini' : (Cond.initialized cls).before args s' = true := vx_ot_at hW0 hvm.symm (hgood _ (List.mem_cons_of_mem _ List.mem_cons_self)) hini
  have hU' : vx_Zq Bundle.tN "UNASSIGNED_STACK" Bundle.steD A s' s'.heap := by rw [hhp]; exact vx_Zq.moved hW0.alike (hU.kept hS.2.1)
  have hN' : vx_Zq Bundle.tN "SUPPRESSED_SENTINEL" Bundle.listD A s' s'.heap := by rw [hhp]; exact vx_Zq.moved hW0.alike (hN.kept hS.2.1)
  have h : ∀ w ∈ Bundle.ownAtoms0 own ic cls names, w.before args s' = true := vx_own hat' (vx_isRefq hU'.1) (vx_isRefq hN'.1) hU'.2.word hN'.2.word
  have hown' : s'.vm.findClass own = some m.cls := by rw [hvm]; exact hown
  have hins : (Cond.instantiable cls 6).before args s' = true := h _ (by simp [Bundle.ownAtoms0])
  obtain ⟨vm₁, cX, kX, hfX, hkX, -, -, X₁, st1⟩ := Y.newCold hexec (own := own) (C := cls) (index := ik) (n := 6) hown' hk' hins hini'
    (g := F0 m pc ls rest) rfl (by rw [hb]; exact d0) (Nat.le_refl _) (Nat.le_refl _)
  generalize hT1 : (T.setVm vm₁).pushCell { cls := cX, slots := kX.instanceTypes.map defaultValue, vm := .none } = T1 at X₁ st1
  have hcat : (Value.ref T.heap.size).category = 1 := rfl
  have hcellA : T1.heap[T.heap.size]? = some (freshCell cX kX) := by rw [← hT1]; exact State.heap_pushCell_size _ _
  have d3' : decode c.code (pc + 3) = .ok (.dup, 1) := by rw [hb]; exact d3
  obtain ⟨V, ce, L, Z, hL, hlt, hcl9, hvm9, st⟩ := vx_ctorMade0 X₁ hexec htr (own := own) (cls := cls) (names := names) (ic := ic) hown' hcls hnames h (fun x hx => nomatch hx) hfX hkX hcellA (by rw [hhp]; exact Nat.le_refl _)
    (g := { method := m, pc := pc + 4, locals := ls, stack := .ref T.heap.size :: .ref T.heap.size :: rest, locked := none }) rfl hsize (rest := rest) rfl
    (by rw [hb]; exact d4) hRframes (by simp only [List.map_cons, List.sum_cons, hcat]; omega)
  have Z0 := Stand.forget (locs := []) Z (fun y hy => by rw [hL y hy, hhp]; exact Nat.le_refl _)
  obtain ⟨f1, f2⟩ := vx_frame Z0.same
  rw [hhp] at f1 f2
  have hcid : ce.cls = D.1 ci := by
    rw [hcl9]
    have h1 := (hK.1 ci _ hc).2.1
    rw [hvm] at hfX
    exact Option.some.inj (hfX.symm.trans h1)
  have hh : (V.setCell T.heap.size ce).heap[T.heap.size]? = some ce := heapAt_setCell_self (s := V) ce hlt
  subst hA'
  have X5 := vx_back9 X Y Z0
  have X6 : Stand p l e R s m args below meth c (V.setCell T.heap.size ce) locs (cells + 1) (slots + 6) := { X5 with same := X5.same.mono (by omega) (by omega) }
  have hk9 : ∀ (k : Nat) (x : Nat × va_E), ws[k]? = some x → (V.setCell T.heap.size ce).heap[x.1]? = T.heap[x.1]? := fun k x hx => f2 x.1 ((hP k x hx).lt) (fun z hz => nomatch hz)
  obtain ⟨t, a1, b1⟩ := kk T.heap.size (V.setCell T.heap.size ce).heap ((hP.kept hk9).app (fun k x hx => by
      have hz : k < 1 := (List.getElem?_eq_some_iff.mp hx).1
      rw [show k = 0 by omega] at hx
      cases hx
      exact ⟨_, hc, ce, hh, hcid, hvm9, fun k hk => absurd hk (Nat.not_lt_zero k)⟩)) (hD.push hP rfl (hA _ hS.1)) ⟨Nat.le_trans hS.1 f1, fun q h1 h2 => (f2 q (Nat.lt_of_lt_of_le h1 hS.1) (fun z hz => nomatch hz)).trans (hS.2.1 q h1 h2), hS.2.2⟩ _ rfl X6
  refine ⟨t, st1 _ ?_, b1⟩
  show Steps p.tables e below (T1.setTop { method := m, pc := pc + 3, locals := ls, stack := .ref T.heap.size :: rest, locked := none }) _
  jvm_step X₁.here [X₁.here.top, hexec, d3', Value.category]
  exact st _ a1
/-- 'throw x' of an object that was made before -/
theorem vx_athrow {cc : ByteArray} {pc : Nat} (hexec : p.tables.exec = Jvm.exec) (hb : c.code = cc) {q : Addr} (hdg : decode cc pc = .ok (.athrow, 1)) (k : vx_W p l e R s m args below meth c H locs cells slots Q (F0 m pc ls rest) q) : W p l e R s m args below meth c H locs cells slots Q (F0 m pc ls (.ref q :: rest)) := by
  intro T hT X
  obtain ⟨t, st, hq⟩ := k T hT X
  refine ⟨t, ?_, hq⟩
  have hdg' : decode c.code pc = .ok (.athrow, 1) := by rw [hb]; exact hdg
  jvm_step X.here [X.here.top, hexec, hdg', athrow.wp_sem]
  exact st
end VXK2
/-! ===== END ===== -/
/-! ===== BEGIN a constructor that throws (launches without stack traces) ===== -/
section VXIA
variable {p : Program} {l : Launch} {e : Env} {R : Room} {s : State} {m : MethodId} {args : Array Value} {below : List Frame} {meth : Method} {c : Code} {T : State} {locs : List Loc} {cells slots : Nat}
theorem vx_callI (X : Stand p l e R s m args below meth c T locs cells slots) (hexec : p.tables.exec = Jvm.exec) {own : String} {index : Nat} {y : MethodName} {bytes : ByteArray} {maxL : Nat}
    (hown : s.vm.findClass own = some m.cls) (hy1 : y.name = "<init>") (hlink : (Cond.methodLink own index y).before args s = true) (hinst : (Cond.instanceMethod y).before args s = true)
    (hcode : (Cond.code y bytes maxL none).before args s = true) (hy : y.cls ≠ "java/lang/invoke/MethodHandle" ∧ y.cls ≠ "java/lang/invoke/VarHandle")
    {W9 : Nat} {Pre : Pt → Array Value → Prop} {Post : Pt → Array Value → Option Value → Pt → Prop} {PostX : Pt → Array Value → Addr → Pt → Prop} (hK : vx_Back l R p e below s args y 3 W9 Pre Post PostX)
    {g : JFrame} (hg : g.method = m) (hsize : g.locals.size = c.maxLocals) {a : Addr} {argsL rest : List Value} (hlen : ∀ sig, parseMethodDescriptor y.desc = some sig → argsL.length = sig.parameters.length)
    (hstack : g.stack = argsL.reverse ++ .ref a :: rest) (hW : 2 * g.monitorRoom + (rest.map fun v => v.category).sum ≤ W9) (hdg : decode c.code g.pc = .ok (.invokespecial index, 3))
    (hpre : ∀ vm₁, s.WarmedH vm₁ → Pre ⟨T.setVm vm₁, locs, cells, slots⟩ (Value.ref a :: argsL).toArray) :
    (∃ (v : Option Value) (vm₁ : Vm) (B : Pt), s.WarmedH vm₁ ∧ Stand p l e R s m args below meth c B.U B.locs B.cells B.slots ∧ Post ⟨T.setVm vm₁, locs, cells, slots⟩ (Value.ref a :: argsL).toArray v B ∧
      ∀ target, Steps p.tables e below (B.U.setTop { g with pc := g.pc + 3, stack := v.toList ++ rest }) target → Steps p.tables e below (T.setTop g) target) ∨
    (∃ (q : Addr) (vm₁ : Vm) (B : Pt), s.WarmedH vm₁ ∧ Stand p l e R s m args below meth c B.U B.locs B.cells B.slots ∧ PostX ⟨T.setVm vm₁, locs, cells, slots⟩ (Value.ref a :: argsL).toArray q B ∧
      Steps p.tables e below (T.setTop g) ((B.U.setTop { g with stack := rest }).pushFrame (.throwing q))) := by
  subst hg
  have hpl : e.platform.magicAccessors = ({} : Platform).magicAccessors := by rw [X.admits.platform]
  obtain ⟨mk, methM, cM, kP, vm₁, hnamed, hmethM, hcodeM, -, hlocalsM, -, hkP, -, hW₁, hstep₁⟩ := Steps.initColdArgs (e := e) X.here hexec X.warmed hpl hown hy1 hy hlink hinst hcode (f := g) rfl hlen hstack hdg
  have X₁ := X.noted hW₁
  rcases hK g.method meth c ⟨T.setVm vm₁, locs, cells, slots⟩ { g with stack := rest } (.invokespecial index) mk (Value.ref a :: argsL).toArray X₁ rfl hsize hdg hW (X₁.named hnamed) (hpre vm₁ X₁.warmed) with ⟨v, B, X', hpost, hsteps⟩ | ⟨q, B, X', hpost, hsteps⟩
  · exact Or.inl ⟨v, vm₁, B, X₁.warmed, X', hpost, fun target h => hstep₁ _ fun acts => by rw [doInvoke_state]; exact hsteps.trans h⟩
  · exact Or.inr ⟨q, vm₁, B, X₁.warmed, X', hpost, hstep₁ _ fun acts => by rw [doInvoke_state]; exact hsteps⟩
end VXIA
section VXIB
variable {p : Program} {l : Launch} {e : Env} {R : Room} {s : State} {m : MethodId} {args : Array Value} {below : List Frame} {meth : Method} {c : Code} {H : Heap} {locs : List Loc} {cells slots : Nat}
variable {y : MethodName} {bytes cc : ByteArray} {maxL nL mc ms n index : Nat} {ret : Option FieldType} {ws : List Cond} {rm : Room} {Pc : Array Value → State → Prop} {Qc : Array Value → State → Outcome → State → Prop} {XC : String → State → State → Prop} {free : Addr → Prop} {Ts : List Cond} {own C : String} {b : Addr} {As rest : List Value} {g : JFrame}
theorem vx_runI (S : CallFix p m c cc nL s args Ts own) (hM : vx_Met l y ws rm Pc Qc XC mc ms free) (cw : CallB R s args own index y bytes maxL none ws rm mc ms n ∧ y.name = "<init>" ∧ (Cond.instanceMethod y).before args s = true) (hp : PreS s H Pc (.ref b :: As))
    (hg : g.method = m) (hn : As.length = n) (hsize : g.locals.size = nL) (hstack : g.stack = As.reverse ++ .ref b :: rest) (hW : 2 * g.monitorRoom + (rest.map fun v => v.category).sum ≤ 8) (hdg : decode cc g.pc = .ok (.invokespecial index, 3)) (hf : cells + mc ≤ R.cells ∧ slots + ms ≤ R.slots) :
    vx_Run p l e R s m args below meth c H locs cells slots mc ms g rest (Qc (Value.ref b :: As).toArray) XC free := by
  have hK : vx_Back l R p e below s args y 3 8 (PreOf R mc ms Pc) (PostOf Qc mc ms free) (vx_Post XC mc ms free) := vx_callBack cw.1 hM hp.1
  obtain ⟨⟨-, -, -, -, -, -, hcode, -, hy, hlen, hl⟩, hy1, hin⟩ := cw
  obtain ⟨hx, hb, hml, ho, -⟩ := S
  have hPc := hp.2
  intro T hT X
  rcases vx_callI X hx (bytes := bytes) (maxL := maxL) ho hy1 hl hin hcode hy hK hg (hsize.trans hml.symm) (a := b) (argsL := As) (rest := rest) (fun sig h => hn.trans (hlen sig h)) hstack hW (by rw [hb]; exact hdg)
    (fun vm₁ hW₁ => ⟨hf.1, hf.2, hPc (T.setVm vm₁) hT hW₁⟩) with ⟨v, vm₁, ⟨U', l2, c2, s2⟩, hW₁, X', ⟨g', mk, t, L, e1, e2, hq, h1, hL, h2, h3⟩, st⟩ | ⟨q, vm₁, ⟨U', l2, c2, s2⟩, hW₁, X', ⟨g', mk, t, L, E, ce, e1, e2, hq, hce, hcv, hcl, h1, hL, h2, h3⟩, st⟩
  · dsimp only [Pt.U, Pt.locs, Pt.cells, Pt.slots] at X' e1 e2 h1 h2 h3 st
    subst h1; subst h2; subst h3
    exact Or.inl ⟨v, (T.setVm vm₁).calling g' mk (Value.ref b :: As).toArray, t, U', L, hT, X', hL, e1, e2, hq, st⟩
  · dsimp only [Pt.U, Pt.locs, Pt.cells, Pt.slots] at X' e1 e2 h1 h2 h3 st hcl
    subst h1; subst h2; subst h3
    exact Or.inr ⟨q, (T.setVm vm₁).calling g' mk (Value.ref b :: As).toArray, t, U', L, E, ce, hT, X', hL, e1, e2, hq, hce, hcv, vx_cls hW₁ hcl, st⟩
end VXIB
/-! ===== END ===== -/
/-! ===== BEGIN a private constructor of a nest mate that throws ===== -/
section VXIC
variable {p : Program} {l : Launch} {e : Env} {R : Room} {s : State} {m : MethodId} {args : Array Value} {below : List Frame} {meth : Method} {c : Code} {T : State} {locs : List Loc} {cells slots : Nat}
theorem vx_callIN (X : Stand p l e R s m args below meth c T locs cells slots) (hexec : p.tables.exec = Jvm.exec) {own : String} {index : Nat} {host : String} {y : MethodName} {bytes : ByteArray} {maxL : Nat}
    (hown : s.vm.findClass own = some m.cls) (hy1 : y.name = "<init>") (hlink : (Cond.methodLinkNest own index y host).before args s = true) (hinst : (Cond.instanceMethod y).before args s = true)
    (hcode : (Cond.code y bytes maxL none).before args s = true) (hy : y.cls ≠ "java/lang/invoke/MethodHandle" ∧ y.cls ≠ "java/lang/invoke/VarHandle")
    {W9 : Nat} {Pre : Pt → Array Value → Prop} {Post : Pt → Array Value → Option Value → Pt → Prop} {PostX : Pt → Array Value → Addr → Pt → Prop} (hK : vx_Back l R p e below s args y 3 W9 Pre Post PostX)
    {g : JFrame} (hg : g.method = m) (hsize : g.locals.size = c.maxLocals) {a : Addr} {argsL rest : List Value} (hlen : ∀ sig, parseMethodDescriptor y.desc = some sig → argsL.length = sig.parameters.length)
    (hstack : g.stack = argsL.reverse ++ .ref a :: rest) (hW : 2 * g.monitorRoom + (rest.map fun v => v.category).sum ≤ W9) (hdg : decode c.code g.pc = .ok (.invokespecial index, 3))
    (hpre : ∀ vm₁, s.WarmedH vm₁ → Pre ⟨T.setVm vm₁, locs, cells, slots⟩ (Value.ref a :: argsL).toArray) :
    (∃ (v : Option Value) (vm₁ : Vm) (B : Pt), s.WarmedH vm₁ ∧ Stand p l e R s m args below meth c B.U B.locs B.cells B.slots ∧ Post ⟨T.setVm vm₁, locs, cells, slots⟩ (Value.ref a :: argsL).toArray v B ∧
      ∀ target, Steps p.tables e below (B.U.setTop { g with pc := g.pc + 3, stack := v.toList ++ rest }) target → Steps p.tables e below (T.setTop g) target) ∨
    (∃ (q : Addr) (vm₁ : Vm) (B : Pt), s.WarmedH vm₁ ∧ Stand p l e R s m args below meth c B.U B.locs B.cells B.slots ∧ PostX ⟨T.setVm vm₁, locs, cells, slots⟩ (Value.ref a :: argsL).toArray q B ∧
      Steps p.tables e below (T.setTop g) ((B.U.setTop { g with stack := rest }).pushFrame (.throwing q))) := by
  subst hg
  have hpl : e.platform.magicAccessors = ({} : Platform).magicAccessors := by rw [X.admits.platform]
  obtain ⟨mk, methM, cM, kP, vm₁, hnamed, hmethM, hcodeM, -, hlocalsM, -, hkP, -, hW₁, hstep₁⟩ := Steps.initColdArgsNest (e := e) X.here hexec X.warmed hpl hown hy1 hy hlink hinst hcode (f := g) rfl hlen hstack hdg
  have X₁ := X.noted hW₁
  rcases hK g.method meth c ⟨T.setVm vm₁, locs, cells, slots⟩ { g with stack := rest } (.invokespecial index) mk (Value.ref a :: argsL).toArray X₁ rfl hsize hdg hW (X₁.named hnamed) (hpre vm₁ X₁.warmed) with ⟨v, B, X', hpost, hsteps⟩ | ⟨q, B, X', hpost, hsteps⟩
  · exact Or.inl ⟨v, vm₁, B, X₁.warmed, X', hpost, fun target h => hstep₁ _ fun acts => by rw [doInvoke_state]; exact hsteps.trans h⟩
  · exact Or.inr ⟨q, vm₁, B, X₁.warmed, X', hpost, hstep₁ _ fun acts => by rw [doInvoke_state]; exact hsteps⟩
end VXIC
section VXID
variable {p : Program} {l : Launch} {e : Env} {R : Room} {s : State} {m : MethodId} {args : Array Value} {below : List Frame} {meth : Method} {c : Code} {H : Heap} {locs : List Loc} {cells slots : Nat}
theorem vx_runIN {y : MethodName} {bytes cc : ByteArray} {maxL nL mc ms n index : Nat} {ws : List Cond} {rm : Room} {Pc : Array Value → State → Prop} {Qc : Array Value → State → Outcome → State → Prop} {XC : String → State → State → Prop} {free : Addr → Prop} {Ts : List Cond} {own host : String} {b : Addr} {As rest : List Value} {g : JFrame}
    (S : CallFix p m c cc nL s args Ts own) (hM : vx_Met l y ws rm Pc Qc XC mc ms free) (cw : va_CN R s args own index y host bytes maxL none ws rm mc ms n ∧ y.name = "<init>" ∧ (Cond.instanceMethod y).before args s = true) (hp : PreS s H Pc (.ref b :: As))
    (hg : g.method = m) (hn : As.length = n) (hsize : g.locals.size = nL) (hstack : g.stack = As.reverse ++ .ref b :: rest) (hW : 2 * g.monitorRoom + (rest.map fun v => v.category).sum ≤ 8) (hdg : decode cc g.pc = .ok (.invokespecial index, 3)) (hf : cells + mc ≤ R.cells ∧ slots + ms ≤ R.slots) :
    vx_Run p l e R s m args below meth c H locs cells slots mc ms g rest (Qc (Value.ref b :: As).toArray) XC free := by
  obtain ⟨⟨⟨hrc, hrs, hfr, hlo, hws, hcw⟩, hcode, hini, hy, hlen, hl⟩, hx1, hx2⟩ := cw
  have hK : vx_Back l R p e below s args y 3 8 (PreOf R mc ms Pc) (PostOf Qc mc ms free) (vx_Post XC mc ms free) := vx_back (bytes := bytes) (maxL := maxL) (ret := none) hM hp.1 hrc hrs hfr hlo hws hcw (fun a' U hW => word_at hW (Or.inl (by first | rfl | simp [Cond.onTables, Cond.keeps, Cond.steady])) hini)
  obtain ⟨hx, hb, hml, ho, -⟩ := S
  have hPc := hp.2
  intro T hT X
  rcases vx_callIN X hx (bytes := bytes) (maxL := maxL) ho hx1 hl hx2 hcode hy hK hg (hsize.trans hml.symm) (a := b) (argsL := As) (rest := rest) (fun sig h => hn.trans (hlen sig h)) hstack hW (by rw [hb]; exact hdg)
    (fun vm₁ hW₁ => ⟨hf.1, hf.2, hPc (T.setVm vm₁) hT hW₁⟩) with ⟨v, vm₁, ⟨U', l2, c2, s2⟩, hW₁, X', ⟨g', mk, t, L, e1, e2, hq, h1, hL, h2, h3⟩, st⟩ | ⟨q, vm₁, ⟨U', l2, c2, s2⟩, hW₁, X', ⟨g', mk, t, L, E, ce, e1, e2, hq, hce, hcv, hcl, h1, hL, h2, h3⟩, st⟩
  · dsimp only [Pt.U, Pt.locs, Pt.cells, Pt.slots] at X' e1 e2 h1 h2 h3 st
    subst h1; subst h2; subst h3
    exact Or.inl ⟨v, (T.setVm vm₁).calling g' mk (Value.ref b :: As).toArray, t, U', L, hT, X', hL, e1, e2, hq, st⟩
  · dsimp only [Pt.U, Pt.locs, Pt.cells, Pt.slots] at X' e1 e2 h1 h2 h3 st hcl
    subst h1; subst h2; subst h3
    exact Or.inr ⟨q, (T.setVm vm₁).calling g' mk (Value.ref b :: As).toArray, t, U', L, E, ce, hT, X', hL, e1, e2, hq, hce, hcv, vx_cls hW₁ hcl, st⟩
end VXID
/-! ===== END ===== -/
/-! ===== BEGIN a method of a class above, found by the receiver, that may throw (follows va_callVU, va_runU of this kit) ===== -/
section
variable {p : Program} {l : Launch} {e : Env} {R : Room} {s : State} {m : MethodId} {args : Array Value} {below : List Frame} {meth : Method} {c : Code} {H : Heap} {locs : List Loc} {cells slots : Nat}
theorem vx_callVU {T : State} {locs : List Loc} {cells slots : Nat} (X : Stand p l e R s m args below meth c T locs cells slots) (hexec : p.tables.exec = Jvm.exec) {own C owner : String} {index : Nat} {x y : MethodName} {bytes : ByteArray} {maxL : Nat} {ret : Option FieldType}
    (hown : s.vm.findClass own = some m.cls) (hlink : (Cond.methodLink own index x).before args s = true) (hsame : (Cond.sameMethod x.cls owner x.name x.desc).before args s = true)
    (hd0 : va_Decl s ⟨owner, x.name, x.desc⟩) (howner : owner ≠ "java/lang/invoke/MethodHandle" ∧ owner ≠ "java/lang/invoke/VarHandle")
    (hsel : (Cond.selects C x y).before args s = true) (hinst : (Cond.instanceMethod y).before args s = true) (hcode : (Cond.code y bytes maxL ret).before args s = true)
    {W : Nat} {Pre : Pt → Array Value → Prop} {Post : Pt → Array Value → Option Value → Pt → Prop} {PostX : Pt → Array Value → Addr → Pt → Prop} (hK : vx_Back l R p e below s args y 3 W Pre Post PostX)
    {b : Addr} {cellB : Cell} (hcell : T.heap[b]? = some cellB) (hobj : cellB.vm.isStatics = false) (hcls : s.vm.findClass C = some cellB.cls)
    {g : JFrame} (hg : g.method = m) (hsize : g.locals.size = c.maxLocals) {argsL rest : List Value} (hlen : ∀ sig, parseMethodDescriptor x.desc = some sig → argsL.length = sig.parameters.length)
    (hstack : g.stack = argsL.reverse ++ .ref b :: rest) (hW : 2 * g.monitorRoom + (rest.map fun v => v.category).sum ≤ W) (hdg : decode c.code g.pc = .ok (.invokevirtual index, 3))
    (hpre : ∀ vm₁, s.WarmedH vm₁ → Pre ⟨T.setVm vm₁, locs, cells, slots⟩ (Value.ref b :: argsL).toArray) :
    (∃ (v : Option Value) (vm₁ : Vm) (B : Pt), s.WarmedH vm₁ ∧ Stand p l e R s m args below meth c B.U B.locs B.cells B.slots ∧ Post ⟨T.setVm vm₁, locs, cells, slots⟩ (Value.ref b :: argsL).toArray v B ∧
      ∀ target, Steps p.tables e below (B.U.setTop { g with pc := g.pc + 3, stack := v.toList ++ rest }) target → Steps p.tables e below (T.setTop g) target) ∨
    (∃ (q : Addr) (vm₁ : Vm) (B : Pt), s.WarmedH vm₁ ∧ Stand p l e R s m args below meth c B.U B.locs B.cells B.slots ∧ PostX ⟨T.setVm vm₁, locs, cells, slots⟩ (Value.ref b :: argsL).toArray q B ∧
      Steps p.tables e below (T.setTop g) ((B.U.setTop { g with stack := rest }).pushFrame (.throwing q))) := by
  obtain ⟨r0, r, hn, hrm, hstR, hsigR⟩ := hd0
  obtain ⟨cn, ck, r1, hcn, hck, hni, hf, hn1⟩ := Cond.sameMethod_found hsame
  cases hn.symm.trans hn1
  obtain ⟨mk, methM, hnamed, hmethM, -, habM⟩ := Cond.instanceMethod_spec hinst
  obtain ⟨c2, r2, m2, q1, q2, q3, q4, kP, hkP, hkPi⟩ := Cond.selects_spec hsel
  cases hcls.symm.trans q1
  cases hf.symm.trans q2
  cases hnamed.symm.trans q3
  have hselP : selectMethod e.platform s.vm cellB.cls r0 = .method mk := by rw [Launch.admits_selectMethod X.admits]; exact q4
  obtain ⟨vm₁, X₁, hstep₁⟩ := X.invokevirtualUp hexec hown hlink hsame howner hn hrm hstR (a := b) (cell := cellB) hcell
    (fun z h => by rw [h] at hobj; cases hobj) hselP hmethM habM hkP hkPi (g := g) hg (argsL := argsL) (rest := rest) (hlen _ hsigR) hstack hdg
  rcases hK m meth c ⟨T.setVm vm₁, locs, cells, slots⟩ { g with stack := rest } (.invokevirtual index) mk (Value.ref b :: argsL).toArray X₁ hg hsize hdg hW (X₁.named hnamed) (hpre vm₁ X₁.warmed) with ⟨v, B, X', hpost, hsteps⟩ | ⟨q, B, X', hpost, hsteps⟩
  · exact Or.inl ⟨v, vm₁, B, X₁.warmed, X', hpost, fun target h => hstep₁ _ fun acts => by rw [doInvoke_state]; exact hsteps.trans h⟩
  · exact Or.inr ⟨q, vm₁, B, X₁.warmed, X', hpost, hstep₁ _ fun acts => by rw [doInvoke_state]; exact hsteps⟩
theorem vx_runU {x y : MethodName} {bytes cc : ByteArray} {maxL nL mc ms n index : Nat} {ret : Option FieldType} {ws : List Cond} {rm : Room} {Pc : Array Value → State → Prop} {Qc : Array Value → State → Outcome → State → Prop} {XC : String → State → State → Prop} {free : Addr → Prop} {Ts : List Cond} {own C owner : String} {b : Addr} {As rest : List Value} {g : JFrame}
    (S : CallFix p m c cc nL s args Ts own) (hM : vx_Met l y ws rm Pc Qc XC mc ms free) (cw : va_CU R s args own C owner index x y bytes maxL ret ws rm mc ms n) (hp : PreV s H C b Pc As)
    (hg : g.method = m) (hn : As.length = n) (hsize : g.locals.size = nL) (hstack : g.stack = As.reverse ++ .ref b :: rest) (hW : 2 * g.monitorRoom + (rest.map fun v => v.category).sum ≤ 8) (hdg : decode cc g.pc = .ok (.invokevirtual index, 3)) (hf : cells + mc ≤ R.cells ∧ slots + ms ≤ R.slots) :
    vx_Run p l e R s m args below meth c H locs cells slots mc ms g rest (Qc (Value.ref b :: As).toArray) XC free := by
  obtain ⟨hrc, hrs, hfr, hlo, hws, hcw⟩ := cw.back
  have hini := cw.init
  have hK : vx_Back l R p e below s args y 3 8 (PreOf R mc ms Pc) (PostOf Qc mc ms free) (vx_Post XC mc ms free) := vx_back (bytes := bytes) (maxL := maxL) (ret := ret) hM hp.1 hrc hrs hfr hlo hws hcw (fun a' U hW => word_at hW (Or.inl (by first | rfl | simp [Cond.onTables, Cond.keeps, Cond.steady])) hini)
  obtain ⟨hx, hb, hml, ho, -⟩ := S
  obtain ⟨-, ⟨cellB, hcB, hoB, hclB⟩, hPc⟩ := hp
  intro T hT X
  rcases vx_callVU X hx (C := C) (owner := owner) (bytes := bytes) (maxL := maxL) (ret := ret) ho cw.link cw.same cw.decl cw.notMH cw.sel cw.inst cw.code hK (by rw [hT]; exact hcB) hoB hclB hg (hsize.trans hml.symm) (argsL := As) (rest := rest) (fun sig h => hn.trans (cw.len sig h)) hstack hW (by rw [hb]; exact hdg)
    (fun vm₁ hW₁ => ⟨hf.1, hf.2, hPc (T.setVm vm₁) hT hW₁⟩) with ⟨v, vm₁, ⟨U', l2, c2, s2⟩, hW₁, X', ⟨g', mk, t, L, e1, e2, hq, h1, hL, h2, h3⟩, st⟩ | ⟨q, vm₁, ⟨U', l2, c2, s2⟩, hW₁, X', ⟨g', mk, t, L, E, ce, e1, e2, hq, hce, hcv, hcl, h1, hL, h2, h3⟩, st⟩
  · dsimp only [Pt.U, Pt.locs, Pt.cells, Pt.slots] at X' e1 e2 h1 h2 h3 st
    subst h1; subst h2; subst h3
    exact Or.inl ⟨v, (T.setVm vm₁).calling g' mk (Value.ref b :: As).toArray, t, U', L, hT, X', hL, e1, e2, hq, st⟩
  · dsimp only [Pt.U, Pt.locs, Pt.cells, Pt.slots] at X' e1 e2 h1 h2 h3 st hcl
    subst h1; subst h2; subst h3
    exact Or.inr ⟨q, (T.setVm vm₁).calling g' mk (Value.ref b :: As).toArray, t, U', L, E, ce, hT, X', hL, e1, e2, hq, hce, hcv, vx_cls hW₁ hcl, st⟩
end
/-! ===== END ===== -/
/-! ===== BEGIN super.m(..) that may throw (follows va_callSU, va_runSU) ===== -/
section
variable {p : Program} {l : Launch} {e : Env} {R : Room} {s : State} {m : MethodId} {args : Array Value} {below : List Frame} {meth : Method} {c : Code} {H : Heap} {locs : List Loc} {cells slots : Nat}
theorem vx_callSU {T : State} {locs : List Loc} {cells slots : Nat} (X : Stand p l e R s m args below meth c T locs cells slots) (hexec : p.tables.exec = Jvm.exec) {own : String} {index : Nat} {y : MethodName} {bytes : ByteArray} {maxL : Nat} {ret : Option FieldType}
    (hown : s.vm.findClass own = some m.cls) (hlink : (Cond.methodLink own index y).before args s = true) (hsame : (Cond.sameMethod y.cls y.cls y.name y.desc).before args s = true) (hsup : (Cond.superclass own y.cls).before args s = true)
    (hinst : (Cond.instanceMethod y).before args s = true) (hcode : (Cond.code y bytes maxL ret).before args s = true) (hno : y.name ≠ "<init>")
    {W : Nat} {Pre : Pt → Array Value → Prop} {Post : Pt → Array Value → Option Value → Pt → Prop} {PostX : Pt → Array Value → Addr → Pt → Prop} (hK : vx_Back l R p e below s args y 3 W Pre Post PostX)
    {b : Addr} {cellB : Cell} {kB : Class} (hcell : T.heap[b]? = some cellB) (hobj : cellB.vm.isStatics = false) (hkB : s.vm.classes[cellB.cls]? = some kB)
    {g : JFrame} (hg : g.method = m) (hsize : g.locals.size = c.maxLocals) {argsL rest : List Value} (hlen : ∀ sig, parseMethodDescriptor y.desc = some sig → argsL.length = sig.parameters.length)
    (hstack : g.stack = argsL.reverse ++ .ref b :: rest) (hW : 2 * g.monitorRoom + (rest.map fun v => v.category).sum ≤ W) (hdg : decode c.code g.pc = .ok (.invokespecial index, 3))
    (hpre : ∀ vm₁, s.WarmedH vm₁ → Pre ⟨T.setVm vm₁, locs, cells, slots⟩ (Value.ref b :: argsL).toArray) :
    (∃ (v : Option Value) (vm₁ : Vm) (B : Pt), s.WarmedH vm₁ ∧ Stand p l e R s m args below meth c B.U B.locs B.cells B.slots ∧ Post ⟨T.setVm vm₁, locs, cells, slots⟩ (Value.ref b :: argsL).toArray v B ∧
      ∀ target, Steps p.tables e below (B.U.setTop { g with pc := g.pc + 3, stack := v.toList ++ rest }) target → Steps p.tables e below (T.setTop g) target) ∨
    (∃ (q : Addr) (vm₁ : Vm) (B : Pt), s.WarmedH vm₁ ∧ Stand p l e R s m args below meth c B.U B.locs B.cells B.slots ∧ PostX ⟨T.setVm vm₁, locs, cells, slots⟩ (Value.ref b :: argsL).toArray q B ∧
      Steps p.tables e below (T.setTop g) ((B.U.setTop { g with stack := rest }).pushFrame (.throwing q))) := by
  obtain ⟨mk, methM, hnamed, hmethM, hstM, habM⟩ := Cond.instanceMethod_spec hinst
  obtain ⟨methM', cM, hmethM', -, -, -, -, -, -, hsigM⟩ := Cond.code_spec hnamed hcode
  cases hmethM.symm.trans hmethM'
  obtain ⟨ps, dk, kp, hps, hdk, hkp, hsuper, -, -, hnid⟩ := Cond.superclass_spec hown hsup
  have hn : s.methodNamed? ⟨y.cls, y.name, y.desc⟩ = some mk := hnamed
  have hpm : ps = mk.cls := Option.some.inj (hps.symm.trans (findClass_of_methodNamed hnamed))
  have hsub : s.vm.isSubclass ps mk.cls = true := by rw [hpm]; simp [Vm.isSubclass, Vm.isSubclassAux]
  obtain ⟨vm₁, X₁, hstep₁⟩ := X.invokespecialUp hexec hown hlink hsame hn hmethM hstM habM hno hdk hnid hps hsuper hsub (a := b) (cell := cellB) hcell
    (fun z h => by rw [h] at hobj; cases hobj) hkB (g := g) hg (argsL := argsL) (rest := rest) (hlen _ hsigM) hstack hdg
  rcases hK m meth c ⟨T.setVm vm₁, locs, cells, slots⟩ { g with stack := rest } (.invokespecial index) mk (Value.ref b :: argsL).toArray X₁ hg hsize hdg hW (X₁.named hnamed) (hpre vm₁ X₁.warmed) with ⟨v, B, X', hpost, hsteps⟩ | ⟨q, B, X', hpost, hsteps⟩
  · exact Or.inl ⟨v, vm₁, B, X₁.warmed, X', hpost, fun target h => hstep₁ _ (by rw [doInvoke_state]; exact hsteps.trans h)⟩
  · exact Or.inr ⟨q, vm₁, B, X₁.warmed, X', hpost, hstep₁ _ (by rw [doInvoke_state]; exact hsteps)⟩
theorem vx_runSU {y : MethodName} {bytes cc : ByteArray} {maxL nL mc ms n index : Nat} {ret : Option FieldType} {ws : List Cond} {rm : Room} {Pc : Array Value → State → Prop} {Qc : Array Value → State → Outcome → State → Prop} {XC : String → State → State → Prop} {free : Addr → Prop} {Ts : List Cond} {own C : String} {cC : ClassId} {b : Addr} {As rest : List Value} {g : JFrame}
    (hat : ClassAt s C cC) (S : CallFix p m c cc nL s args Ts own) (hM : vx_Met l y ws rm Pc Qc XC mc ms free) (cw : va_CS R s args own index y bytes maxL ret ws rm mc ms n) (hp : PreV s H C b Pc As)
    (hg : g.method = m) (hn : As.length = n) (hsize : g.locals.size = nL) (hstack : g.stack = As.reverse ++ .ref b :: rest) (hW : 2 * g.monitorRoom + (rest.map fun v => v.category).sum ≤ 8) (hdg : decode cc g.pc = .ok (.invokespecial index, 3)) (hf : cells + mc ≤ R.cells ∧ slots + ms ≤ R.slots) :
    vx_Run p l e R s m args below meth c H locs cells slots mc ms g rest (Qc (Value.ref b :: As).toArray) XC free := by
  obtain ⟨⟨hrc, hrs, hfr, hlo, hws, hcw⟩, hl1, hl2, hl3, hl4, hini, hcode, hno, hlen⟩ := cw
  have hK : vx_Back l R p e below s args y 3 8 (PreOf R mc ms Pc) (PostOf Qc mc ms free) (vx_Post XC mc ms free) := vx_back (bytes := bytes) (maxL := maxL) (ret := ret) hM hp.1 hrc hrs hfr hlo hws hcw (fun a' U hW => word_at hW (Or.inl (by first | rfl | simp [Cond.onTables, Cond.keeps, Cond.steady])) hini)
  obtain ⟨hx, hb, hml, ho, -⟩ := S
  obtain ⟨-, ⟨cellB, hcB, hoB, hclB⟩, hPc⟩ := hp
  obtain ⟨hfc, kB, hkB, -⟩ := hat
  cases hfc.symm.trans hclB
  intro T hT X
  rcases vx_callSU X hx (bytes := bytes) (maxL := maxL) (ret := ret) ho hl1 hl2 hl3 hl4 hcode hno hK (by rw [hT]; exact hcB) hoB hkB hg (hsize.trans hml.symm) (argsL := As) (rest := rest) (fun sig h => hn.trans (hlen sig h)) hstack hW (by rw [hb]; exact hdg)
    (fun vm₁ hW₁ => ⟨hf.1, hf.2, hPc (T.setVm vm₁) hT hW₁⟩) with ⟨v, vm₁, ⟨U', l2, c2, s2⟩, hW₁, X', ⟨g', mk, t, L, e1, e2, hq, h1, hL, h2, h3⟩, st⟩ | ⟨q, vm₁, ⟨U', l2, c2, s2⟩, hW₁, X', ⟨g', mk, t, L, E, ce, e1, e2, hq, hce, hcv, hcl, h1, hL, h2, h3⟩, st⟩
  · dsimp only [Pt.U, Pt.locs, Pt.cells, Pt.slots] at X' e1 e2 h1 h2 h3 st
    subst h1; subst h2; subst h3
    exact Or.inl ⟨v, (T.setVm vm₁).calling g' mk (Value.ref b :: As).toArray, t, U', L, hT, X', hL, e1, e2, hq, st⟩
  · dsimp only [Pt.U, Pt.locs, Pt.cells, Pt.slots] at X' e1 e2 h1 h2 h3 st hcl
    subst h1; subst h2; subst h3
    exact Or.inr ⟨q, (T.setVm vm₁).calling g' mk (Value.ref b :: As).toArray, t, U', L, E, ce, hT, X', hL, e1, e2, hq, hce, hcv, vx_cls hW₁ hcl, st⟩
end
/-! ===== END ===== -/
/-! ===== BEGIN a private method of a nest mate that may throw (follows va_callVN, va_callSN, va_runVN, va_runSN) ===== -/
section
variable {p : Program} {l : Launch} {e : Env} {R : Room} {s : State} {m : MethodId} {args : Array Value} {below : List Frame} {meth : Method} {c : Code} {H : Heap} {locs : List Loc} {cells slots : Nat}
variable {T : State}
theorem vx_callVN (X : Stand p l e R s m args below meth c T locs cells slots) (hexec : p.tables.exec = Jvm.exec) {own C : String} {index : Nat} {host : String} {y : MethodName} {bytes : ByteArray} {maxL : Nat} {ret : Option FieldType}
    (hown : s.vm.findClass own = some m.cls) (hlink : (Cond.methodLinkNest own index y host).before args s = true) (hinst : (Cond.instanceMethod y).before args s = true) (hsel : (Cond.selects C y y).before args s = true)
    (hcode : (Cond.code y bytes maxL ret).before args s = true) (hy : y.cls ≠ "java/lang/invoke/MethodHandle" ∧ y.cls ≠ "java/lang/invoke/VarHandle")
    {W : Nat} {Pre : Pt → Array Value → Prop} {Post : Pt → Array Value → Option Value → Pt → Prop} {PostX : Pt → Array Value → Addr → Pt → Prop} (hK : vx_Back l R p e below s args y 3 W Pre Post PostX)
    {b : Addr} {cellB : Cell} (hcell : T.heap[b]? = some cellB) (hobj : cellB.vm.isStatics = false) (hcls : s.vm.findClass C = some cellB.cls)
    {g : JFrame} (hg : g.method = m) (hsize : g.locals.size = c.maxLocals) {argsL rest : List Value} (hlen : ∀ sig, parseMethodDescriptor y.desc = some sig → argsL.length = sig.parameters.length)
    (hstack : g.stack = argsL.reverse ++ .ref b :: rest) (hW : 2 * g.monitorRoom + (rest.map fun v => v.category).sum ≤ W) (hdg : decode c.code g.pc = .ok (.invokevirtual index, 3))
    (hpre : ∀ vm₁, s.WarmedH vm₁ → Pre ⟨T.setVm vm₁, locs, cells, slots⟩ (Value.ref b :: argsL).toArray) :
    (∃ (v : Option Value) (vm₁ : Vm) (B : Pt), s.WarmedH vm₁ ∧ Stand p l e R s m args below meth c B.U B.locs B.cells B.slots ∧ Post ⟨T.setVm vm₁, locs, cells, slots⟩ (Value.ref b :: argsL).toArray v B ∧
      ∀ target, Steps p.tables e below (B.U.setTop { g with pc := g.pc + 3, stack := v.toList ++ rest }) target → Steps p.tables e below (T.setTop g) target) ∨
    (∃ (q : Addr) (vm₁ : Vm) (B : Pt), s.WarmedH vm₁ ∧ Stand p l e R s m args below meth c B.U B.locs B.cells B.slots ∧ PostX ⟨T.setVm vm₁, locs, cells, slots⟩ (Value.ref b :: argsL).toArray q B ∧
      Steps p.tables e below (T.setTop g) ((B.U.setTop { g with stack := rest }).pushFrame (.throwing q))) := by
  obtain ⟨mk, methM, hnamed, hmethM, hstM, habM⟩ := Cond.instanceMethod_spec hinst
  obtain ⟨methM', cM, hmethM', -, -, -, -, -, -, hsigM⟩ := Cond.code_spec hnamed hcode
  cases hmethM.symm.trans hmethM'
  obtain ⟨c2, r2, m2, q1, q2, q3, q4, kP, hkP, hkPi⟩ := Cond.selects_spec hsel
  cases hcls.symm.trans q1
  cases (State.methodFound?_of_named hnamed hy).symm.trans q2
  cases hnamed.symm.trans q3
  have hselP : selectMethod e.platform s.vm cellB.cls mk = .method mk := by rw [Launch.admits_selectMethod X.admits]; exact q4
  obtain ⟨vm₁, X₁, hstep₁⟩ := X.invokevirtualNest hexec hown hlink hnamed hmethM hstM hkP hkPi hy (a := b) (cell := cellB) hcell
    (fun z h => by rw [h] at hobj; cases hobj) hselP hmethM habM hkP hkPi (g := g) hg (argsL := argsL) (rest := rest) (hlen _ hsigM) hstack hdg
  rcases hK m meth c ⟨T.setVm vm₁, locs, cells, slots⟩ { g with stack := rest } (.invokevirtual index) mk (Value.ref b :: argsL).toArray X₁ hg hsize hdg hW (X₁.named hnamed) (hpre vm₁ X₁.warmed) with ⟨v, B, X', hpost, hsteps⟩ | ⟨q, B, X', hpost, hsteps⟩
  · exact Or.inl ⟨v, vm₁, B, X₁.warmed, X', hpost, fun target h => hstep₁ _ fun acts => by rw [doInvoke_state]; exact hsteps.trans h⟩
  · exact Or.inr ⟨q, vm₁, B, X₁.warmed, X', hpost, hstep₁ _ fun acts => by rw [doInvoke_state]; exact hsteps⟩
theorem vx_callSN (X : Stand p l e R s m args below meth c T locs cells slots) (hexec : p.tables.exec = Jvm.exec) {own : String} {index : Nat} {host : String} {y : MethodName} {bytes : ByteArray} {maxL : Nat} {ret : Option FieldType}
    (hown : s.vm.findClass own = some m.cls) (hlink : (Cond.methodLinkNest own index y host).before args s = true) (hstat : (Cond.static y).before args s = true) (hinit : (Cond.initialized y.cls).before args s = true)
    (hcode : (Cond.code y bytes maxL ret).before args s = true) (hy : y.cls ≠ "java/lang/invoke/MethodHandle" ∧ y.cls ≠ "java/lang/invoke/VarHandle")
    {W : Nat} {Pre : Pt → Array Value → Prop} {Post : Pt → Array Value → Option Value → Pt → Prop} {PostX : Pt → Array Value → Addr → Pt → Prop} (hK : vx_Back l R p e below s args y 3 W Pre Post PostX)
    {g : JFrame} (hg : g.method = m) (hsize : g.locals.size = c.maxLocals) {argsL rest : List Value} (hlen : ∀ sig, parseMethodDescriptor y.desc = some sig → argsL.length = sig.parameters.length)
    (hstack : g.stack = argsL.reverse ++ rest) (hW : 2 * g.monitorRoom + (rest.map fun v => v.category).sum ≤ W) (hdg : decode c.code g.pc = .ok (.invokestatic index, 3))
    (hpre : ∀ vm₁, s.WarmedH vm₁ → Pre ⟨T.setVm vm₁, locs, cells, slots⟩ argsL.toArray) :
    (∃ (v : Option Value) (vm₁ : Vm) (B : Pt), s.WarmedH vm₁ ∧ Stand p l e R s m args below meth c B.U B.locs B.cells B.slots ∧ Post ⟨T.setVm vm₁, locs, cells, slots⟩ argsL.toArray v B ∧
      ∀ target, Steps p.tables e below (B.U.setTop { g with pc := g.pc + 3, stack := v.toList ++ rest }) target → Steps p.tables e below (T.setTop g) target) ∨
    (∃ (q : Addr) (vm₁ : Vm) (B : Pt), s.WarmedH vm₁ ∧ Stand p l e R s m args below meth c B.U B.locs B.cells B.slots ∧ PostX ⟨T.setVm vm₁, locs, cells, slots⟩ argsL.toArray q B ∧
      Steps p.tables e below (T.setTop g) ((B.U.setTop { g with stack := rest }).pushFrame (.throwing q))) := by
  obtain ⟨mk, hnamed⟩ := Cond.code_named hcode
  obtain ⟨methM, cM, hmethM, -, -, -, -, -, -, hsigM⟩ := Cond.code_spec hnamed hcode
  have hstatic : methM.isStatic = true := Cond.static_spec hnamed hmethM hstat
  obtain ⟨kP, hkP, -⟩ := className_of_methodNamed hnamed
  have hinitP : kP.init = .initialized := Cond.initialized_spec (findClass_of_methodNamed hnamed) hkP hinit
  obtain ⟨vm₁, X₁, hstep₁⟩ := X.invokestaticNest hexec hown hlink hnamed hmethM hstatic hkP hinitP hy (g := g) hg (argsL := argsL) (rest := rest) (hlen _ hsigM) hstack hdg
  rcases hK m meth c ⟨T.setVm vm₁, locs, cells, slots⟩ { g with stack := rest } (.invokestatic index) mk argsL.toArray X₁ hg hsize hdg hW (X₁.named hnamed) (hpre vm₁ X₁.warmed) with ⟨v, B, X', hpost, hsteps⟩ | ⟨q, B, X', hpost, hsteps⟩
  · exact Or.inl ⟨v, vm₁, B, X₁.warmed, X', hpost, fun target h => hstep₁ _ fun acts => by rw [doInvoke_state]; exact hsteps.trans h⟩
  · exact Or.inr ⟨q, vm₁, B, X₁.warmed, X', hpost, hstep₁ _ fun acts => by rw [doInvoke_state]; exact hsteps⟩
theorem vx_runVN {y : MethodName} {bytes cc : ByteArray} {maxL nL mc ms n index : Nat} {ret : Option FieldType} {ws : List Cond} {rm : Room} {Pc : Array Value → State → Prop} {Qc : Array Value → State → Outcome → State → Prop} {XC : String → State → State → Prop} {free : Addr → Prop} {Ts : List Cond} {own C host : String} {b : Addr} {As rest : List Value} {g : JFrame}
    (S : CallFix p m c cc nL s args Ts own) (hM : vx_Met l y ws rm Pc Qc XC mc ms free) (cw : va_CN R s args own index y host bytes maxL ret ws rm mc ms n ∧ (Cond.instanceMethod y).before args s = true ∧ (Cond.selects C y y).before args s = true) (hp : PreV s H C b Pc As)
    (hg : g.method = m) (hn : As.length = n) (hsize : g.locals.size = nL) (hstack : g.stack = As.reverse ++ .ref b :: rest) (hW : 2 * g.monitorRoom + (rest.map fun v => v.category).sum ≤ 8) (hdg : decode cc g.pc = .ok (.invokevirtual index, 3)) (hf : cells + mc ≤ R.cells ∧ slots + ms ≤ R.slots) :
    vx_Run p l e R s m args below meth c H locs cells slots mc ms g rest (Qc (Value.ref b :: As).toArray) XC free := by
  obtain ⟨⟨⟨hrc, hrs, hfr, hlo, hws, hcw⟩, hcode, hini, hy, hlen, hl⟩, hx1, hx2⟩ := cw
  have hK : vx_Back l R p e below s args y 3 8 (PreOf R mc ms Pc) (PostOf Qc mc ms free) (vx_Post XC mc ms free) := vx_back (bytes := bytes) (maxL := maxL) (ret := ret) hM hp.1 hrc hrs hfr hlo hws hcw (fun a' U hW => word_at hW (Or.inl (by first | rfl | simp [Cond.onTables, Cond.keeps, Cond.steady])) hini)
  obtain ⟨hx, hb, hml, ho, -⟩ := S
  obtain ⟨-, ⟨cellB, hcB, hoB, hclB⟩, hPc⟩ := hp
  intro T hT X
  rcases vx_callVN X hx (C := C) (bytes := bytes) (maxL := maxL) (ret := ret) ho hl hx1 hx2 hcode hy hK (by rw [hT]; exact hcB) hoB hclB hg (hsize.trans hml.symm) (argsL := As) (rest := rest) (fun sig h => hn.trans (hlen sig h)) hstack hW (by rw [hb]; exact hdg)
    (fun vm₁ hW₁ => ⟨hf.1, hf.2, hPc (T.setVm vm₁) hT hW₁⟩) with ⟨v, vm₁, ⟨U', l2, c2, s2⟩, hW₁, X', ⟨g', mk, t, L, e1, e2, hq, h1, hL, h2, h3⟩, st⟩ | ⟨q, vm₁, ⟨U', l2, c2, s2⟩, hW₁, X', ⟨g', mk, t, L, E, ce, e1, e2, hq, hce, hcv, hcl, h1, hL, h2, h3⟩, st⟩
  · dsimp only [Pt.U, Pt.locs, Pt.cells, Pt.slots] at X' e1 e2 h1 h2 h3 st
    subst h1; subst h2; subst h3
    exact Or.inl ⟨v, (T.setVm vm₁).calling g' mk (Value.ref b :: As).toArray, t, U', L, hT, X', hL, e1, e2, hq, st⟩
  · dsimp only [Pt.U, Pt.locs, Pt.cells, Pt.slots] at X' e1 e2 h1 h2 h3 st hcl
    subst h1; subst h2; subst h3
    exact Or.inr ⟨q, (T.setVm vm₁).calling g' mk (Value.ref b :: As).toArray, t, U', L, E, ce, hT, X', hL, e1, e2, hq, hce, hcv, vx_cls hW₁ hcl, st⟩
theorem vx_runSN {y : MethodName} {bytes cc : ByteArray} {maxL nL mc ms n index : Nat} {ret : Option FieldType} {ws : List Cond} {rm : Room} {Pc : Array Value → State → Prop} {Qc : Array Value → State → Outcome → State → Prop} {XC : String → State → State → Prop} {free : Addr → Prop} {Ts : List Cond} {own host : String} {As rest : List Value} {g : JFrame}
    (S : CallFix p m c cc nL s args Ts own) (hM : vx_Met l y ws rm Pc Qc XC mc ms free) (cw : va_CN R s args own index y host bytes maxL ret ws rm mc ms n ∧ (Cond.static y).before args s = true ∧ True) (hp : PreS s H Pc As)
    (hg : g.method = m) (hn : As.length = n) (hsize : g.locals.size = nL) (hstack : g.stack = As.reverse ++ rest) (hW : 2 * g.monitorRoom + (rest.map fun v => v.category).sum ≤ 8) (hdg : decode cc g.pc = .ok (.invokestatic index, 3)) (hf : cells + mc ≤ R.cells ∧ slots + ms ≤ R.slots) :
    vx_Run p l e R s m args below meth c H locs cells slots mc ms g rest (Qc As.toArray) XC free := by
  obtain ⟨⟨⟨hrc, hrs, hfr, hlo, hws, hcw⟩, hcode, hini, hy, hlen, hl⟩, hx1, hx2⟩ := cw
  have hK : vx_Back l R p e below s args y 3 8 (PreOf R mc ms Pc) (PostOf Qc mc ms free) (vx_Post XC mc ms free) := vx_back (bytes := bytes) (maxL := maxL) (ret := ret) hM hp.1 hrc hrs hfr hlo hws hcw (fun a' U hW => word_at hW (Or.inl (by first | rfl | simp [Cond.onTables, Cond.keeps, Cond.steady])) hini)
  obtain ⟨hx, hb, hml, ho, -⟩ := S
  have hPc := hp.2
  intro T hT X
  rcases vx_callSN X hx (bytes := bytes) (maxL := maxL) (ret := ret) ho hl hx1 hini hcode hy hK hg (hsize.trans hml.symm) (argsL := As) (rest := rest) (fun sig h => hn.trans (hlen sig h)) hstack hW (by rw [hb]; exact hdg)
    (fun vm₁ hW₁ => ⟨hf.1, hf.2, hPc (T.setVm vm₁) hT hW₁⟩) with ⟨v, vm₁, ⟨U', l2, c2, s2⟩, hW₁, X', ⟨g', mk, t, L, e1, e2, hq, h1, hL, h2, h3⟩, st⟩ | ⟨q, vm₁, ⟨U', l2, c2, s2⟩, hW₁, X', ⟨g', mk, t, L, E, ce, e1, e2, hq, hce, hcv, hcl, h1, hL, h2, h3⟩, st⟩
  · dsimp only [Pt.U, Pt.locs, Pt.cells, Pt.slots] at X' e1 e2 h1 h2 h3 st
    subst h1; subst h2; subst h3
    exact Or.inl ⟨v, (T.setVm vm₁).calling g' mk As.toArray, t, U', L, hT, X', hL, e1, e2, hq, st⟩
  · dsimp only [Pt.U, Pt.locs, Pt.cells, Pt.slots] at X' e1 e2 h1 h2 h3 st hcl
    subst h1; subst h2; subst h3
    exact Or.inr ⟨q, (T.setVm vm₁).calling g' mk As.toArray, t, U', L, E, ce, hT, X', hL, e1, e2, hq, hce, hcv, vx_cls hW₁ hcl, st⟩
end
/-! ===== END ===== -/
/-! ===== BEGIN calls by an interface of methods that may throw (vx_callIF, vx_runF follow va_callIF, va_runF of this kit) ===== -/
section
variable {p : Program} {l : Launch} {e : Env} {R : Room} {s : State} {m : MethodId} {args : Array Value} {below : List Frame} {meth : Method} {c : Code} {H : Heap} {locs : List Loc} {cells slots : Nat} {Q : State → Prop}
variable {mc ms : Nat} {free : Addr → Prop} {A0 A1 : Nat → Prop} {H0 : Heap} {a : Array Value} {pc : Nat} {ls : Array Slot} {st0 rest : List Value}
def vx_Run5 (p : Program) (l : Launch) (e : Env) (R : Room) (s : State) (m : MethodId) (args : Array Value) (below : List Frame) (meth : Method) (c : Code) (H : Heap) (locs : List Loc) (cells slots mc ms : Nat) (g : JFrame) (rest : List Value) (Qa : State → Outcome → State → Prop) (XC : String → State → State → Prop) (free : Addr → Prop) : Prop :=
  ∀ T : State, T.heap = H → Stand p l e R s m args below meth c T locs cells slots →
    (∃ (v : Option Value) (st₀ t T' : State) (L : List Loc), st₀.heap = H ∧ Stand p l e R s m args below meth c T' (locs ++ L) (cells + mc) (slots + ms) ∧ (∀ q ∈ L, free q.base) ∧ T'.heap = t.heap ∧ T'.vm = t.vm ∧ Qa st₀ (.returned v) t ∧
      Goes p e below T g T' { g with pc := g.pc + 5, stack := v.toList ++ rest }) ∨
    (∃ (q : Addr) (st₀ t T' : State) (L : List Loc) (E : String) (ce : Cell), st₀.heap = H ∧ Stand p l e R s m args below meth c T' (locs ++ L) (cells + mc) (slots + ms) ∧ (∀ z ∈ L, free z.base) ∧ T'.heap = t.heap ∧ T'.vm = t.vm ∧ XC E st₀ t ∧ t.heap[q]? = some ce ∧ ce.vm = .none ∧ s.vm.findClass E = some ce.cls ∧
      Steps p.tables e below (T.setTop g) ((T'.setTop { g with stack := rest }).pushFrame (.throwing q)))
theorem vx_callIF {T : State} (X : Stand p l e R s m args below meth c T locs cells slots) (hexec : p.tables.exec = Jvm.exec) {own C : String} {index count : Nat} {x y : MethodName} {bytes : ByteArray} {maxL : Nat} {ret : Option FieldType}
    (hown : s.vm.findClass own = some m.cls) (hlink : (Cond.methodLink own index x).before args s = true) (hdecl : (Cond.declares x).before args s = true) (hface : (Cond.interfaceMethod x.cls x.cls x.name x.desc).before args s = true)
    (hsel : (Cond.selects C x y).before args s = true) (hinst : (Cond.instanceMethod y).before args s = true) (hpub : (Cond.publicMethod y).before args s = true) (hunh : (Cond.unhidden C x.name x.desc).before args s = true)
    (hcast : (Cond.castable C x.cls).before args s = true) (hcode : (Cond.code y bytes maxL ret).before args s = true) (hx : x.cls ≠ "java/lang/invoke/MethodHandle" ∧ x.cls ≠ "java/lang/invoke/VarHandle")
    {W9 : Nat} {Pre : Pt → Array Value → Prop} {Post : Pt → Array Value → Option Value → Pt → Prop} {PostX : Pt → Array Value → Addr → Pt → Prop} (hK : vx_Back l R p e below s args y 5 W9 Pre Post PostX)
    {b : Addr} {cellB : Cell} {kB : Class} (hcell : T.heap[b]? = some cellB) (hobj : cellB.vm.isStatics = false) (hcls : s.vm.findClass C = some cellB.cls) (hkB : s.vm.classes[cellB.cls]? = some kB)
    {g : JFrame} (hg : g.method = m) (hsize : g.locals.size = c.maxLocals) {argsL rest : List Value} (hlen : ∀ sig, parseMethodDescriptor x.desc = some sig → argsL.length = sig.parameters.length)
    (hstack : g.stack = argsL.reverse ++ .ref b :: rest) (hW : 2 * g.monitorRoom + (rest.map fun v => v.category).sum ≤ W9) (hdg : decode c.code g.pc = .ok (.invokeinterface index count, 5))
    (hpre : ∀ vm₁, s.WarmedH vm₁ → Pre ⟨T.setVm vm₁, locs, cells, slots⟩ (Value.ref b :: argsL).toArray) :
    (∃ (v : Option Value) (vm₁ : Vm) (B : Pt), s.WarmedH vm₁ ∧ Stand p l e R s m args below meth c B.U B.locs B.cells B.slots ∧ Post ⟨T.setVm vm₁, locs, cells, slots⟩ (Value.ref b :: argsL).toArray v B ∧
      ∀ target, Steps p.tables e below (B.U.setTop { g with pc := g.pc + 5, stack := v.toList ++ rest }) target → Steps p.tables e below (T.setTop g) target) ∨
    (∃ (q : Addr) (vm₁ : Vm) (B : Pt), s.WarmedH vm₁ ∧ Stand p l e R s m args below meth c B.U B.locs B.cells B.slots ∧ PostX ⟨T.setVm vm₁, locs, cells, slots⟩ (Value.ref b :: argsL).toArray q B ∧
      Steps p.tables e below (T.setTop g) ((B.U.setTop { g with stack := rest }).pushFrame (.throwing q))) := by
  obtain ⟨r0, r, hn, hrm, hstR, hsigR⟩ := Cond.declares_spec hdecl
  obtain ⟨cL, kL, r1, hcL, hkL, hiL, hfoundL, hn1⟩ := Cond.interfaceMethod_spec hface
  cases hn.symm.trans hn1
  have hr0cls : r0.cls = cL := Option.some.inj ((findClass_of_methodNamed hn).symm.trans hcL)
  obtain ⟨hnameR, hdescR⟩ := name_of_methodNamed hn hrm
  obtain ⟨mk, methM, hnamed, hmethM, -, habM⟩ := Cond.instanceMethod_spec hinst
  obtain ⟨c2, r2, m2, q1, q2, q3, q4, -⟩ := Cond.selects_spec hsel
  cases hcls.symm.trans q1
  cases hfoundL.symm.trans q2
  cases hnamed.symm.trans q3
  have hselP : selectMethod e.platform s.vm cellB.cls r0 = .method mk := by rw [Launch.admits_selectMethod X.admits]; exact q4
  have hpubM : hasFlag methM.accessFlags Acc.public_ = true := Cond.publicMethod_spec hnamed hmethM hpub
  have hway : ((cellB.cls :: s.vm.superclasses cellB.cls).any fun k => (declaredIn s.vm r.name r.desc k).any fun (_, z) => z.isPrivate || z.isStatic) = false := by
    rw [hnameR, hdescR]; exact Cond.unhidden_spec hcls hunh
  obtain ⟨c3, t3, w1, w2, w3⟩ := Cond.castable_spec hcast
  cases hcls.symm.trans w1
  cases hcL.symm.trans w2
  obtain ⟨vm₁, X₁, hstep₁⟩ := X.invokeinterface hexec hown hlink hn hrm hstR (by rw [hr0cls]; exact hkL) hiL hx (a := b) (cell := cellB) (kcell := kB) hcell
    (fun z h => by rw [h] at hobj; cases hobj) hkB (by rw [hr0cls]; exact w3) hselP hmethM hway hpubM habM (g := g) hg (argsL := argsL) (rest := rest) (hlen _ hsigR) hstack hdg
  rcases hK m meth c ⟨T.setVm vm₁, locs, cells, slots⟩ { g with stack := rest } (.invokeinterface index count) mk (Value.ref b :: argsL).toArray X₁ hg hsize hdg hW (X₁.named hnamed) (hpre vm₁ X₁.warmed) with ⟨v, B, X', hpost, hsteps⟩ | ⟨q, B, X', hpost, hsteps⟩
  · exact Or.inl ⟨v, vm₁, B, X₁.warmed, X', hpost, fun target h => hstep₁ _ fun acts => by rw [doInvoke_state]; exact hsteps.trans h⟩
  · exact Or.inr ⟨q, vm₁, B, X₁.warmed, X', hpost, hstep₁ _ fun acts => by rw [doInvoke_state]; exact hsteps⟩
theorem vx_runF {x y : MethodName} {bytes cc : ByteArray} {maxL nL mc ms n index count : Nat} {ret : Option FieldType} {ws : List Cond} {rm : Room} {Pc : Array Value → State → Prop} {Qc : Array Value → State → Outcome → State → Prop} {XC : String → State → State → Prop} {free : Addr → Prop} {Ts : List Cond} {own C : String} {cC : ClassId} {b : Addr} {As rest : List Value} {g : JFrame}
    (hat : ClassAt s C cC) (S : CallFix p m c cc nL s args Ts own) (hM : vx_Met l y ws rm Pc Qc XC mc ms free) (cw : va_CI R s args own C index x y bytes maxL ret ws rm mc ms n) (hp : PreV s H C b Pc As)
    (hg : g.method = m) (hn : As.length = n) (hsize : g.locals.size = nL) (hstack : g.stack = As.reverse ++ .ref b :: rest) (hW : 2 * g.monitorRoom + (rest.map fun v => v.category).sum ≤ 8) (hdg : decode cc g.pc = .ok (.invokeinterface index count, 5)) (hf : cells + mc ≤ R.cells ∧ slots + ms ≤ R.slots) :
    vx_Run5 p l e R s m args below meth c H locs cells slots mc ms g rest (Qc (Value.ref b :: As).toArray) XC free := by
  obtain ⟨hrc, hrs, hfr, hlo, hws, hcw⟩ := cw.back
  have hini := cw.init
  have hK : vx_Back l R p e below s args y 5 8 (PreOf R mc ms Pc) (PostOf Qc mc ms free) (vx_Post XC mc ms free) := vx_back (bytes := bytes) (maxL := maxL) (ret := ret) hM hp.1 hrc hrs hfr hlo hws hcw (fun a' U hW => word_at hW (Or.inl (by first | rfl | simp [Cond.onTables, Cond.keeps, Cond.steady])) hini)
  obtain ⟨hx, hb, hml, ho, -⟩ := S
  obtain ⟨-, ⟨cellB, hcB, hoB, hclB⟩, hPc⟩ := hp
  obtain ⟨hfc, kB, hkB, -⟩ := hat
  cases hfc.symm.trans hclB
  intro T hT X
  rcases vx_callIF X hx (C := C) (bytes := bytes) (maxL := maxL) (ret := ret) ho cw.link cw.decl cw.face cw.sel cw.inst cw.pub cw.unh cw.cast cw.code cw.notMH hK (by rw [hT]; exact hcB) hoB hclB hkB hg (hsize.trans hml.symm) (argsL := As) (rest := rest) (fun sig h => hn.trans (cw.len sig h)) hstack hW (by rw [hb]; exact hdg)
    (fun vm₁ hW₁ => ⟨hf.1, hf.2, hPc (T.setVm vm₁) hT hW₁⟩) with ⟨v, vm₁, ⟨U', l2, c2, s2⟩, hW₁, X', ⟨g', mk, t, L, e1, e2, hq, h1, hL, h2, h3⟩, st⟩ | ⟨q, vm₁, ⟨U', l2, c2, s2⟩, hW₁, X', ⟨g', mk, t, L, E, ce, e1, e2, hq, hce, hcv, hcl, h1, hL, h2, h3⟩, st⟩
  · dsimp only [Pt.U, Pt.locs, Pt.cells, Pt.slots] at X' e1 e2 h1 h2 h3 st
    subst h1; subst h2; subst h3
    exact Or.inl ⟨v, (T.setVm vm₁).calling g' mk (Value.ref b :: As).toArray, t, U', L, hT, X', hL, e1, e2, hq, st⟩
  · dsimp only [Pt.U, Pt.locs, Pt.cells, Pt.slots] at X' e1 e2 h1 h2 h3 st hcl
    subst h1; subst h2; subst h3
    exact Or.inr ⟨q, (T.setVm vm₁).calling g' mk (Value.ref b :: As).toArray, t, U', L, E, ce, hT, X', hL, e1, e2, hq, hce, hcv, vx_cls hW₁ hcl, st⟩
theorem vx_callFv {S SX : Type} {post : S → Prop} {px : SX → Prop} {B : S → State → Prop} {BX : String → SX → State → Prop} {AX : Nat → Prop} (hr : vx_Run5 p l e R s m args below meth c H locs cells slots mc ms (F0 m pc ls st0) rest (va_Qv post B A1 a) (vx_X px BX AX) free) (hS : va_S A0 H0 H locs) (hA : ∀ q, q < H.size → A1 q → A0 q) (hf : ∀ q, free q → A0 q) (hAX : ∀ q, q < H.size → AX q → A0 q)
    (kx : ∀ (E : String) (ce : Cell) (q9 : Addr) (u : SX) (t : State) (H1 : Heap) (locs1 : List Loc), t.heap = H1 → s.vm.Alike t.vm → px u → BX E u t → H.size ≤ H1.size → (∀ q : Nat, q < H.size → ¬ AX q → H1[q]? = H[q]?) → va_S A0 H0 H1 locs1 → H1[q9]? = some ce → ce.vm = .none → s.vm.findClass E = some ce.cls → vx_W p l e R s m args below meth c H1 locs1 (cells + mc) (slots + ms) Q (F0 m pc ls rest) q9)
    (kk : ∀ (u : S) (t : State) (H1 : Heap) (locs1 : List Loc), t.heap = H1 → s.vm.Alike t.vm → post u → B u t → H.size ≤ H1.size → (∀ q : Nat, q < H.size → ¬ A1 q → H1[q]? = H[q]?) → va_S A0 H0 H1 locs1 → W p l e R s m args below meth c H1 locs1 (cells + mc) (slots + ms) Q (F0 m (pc + 5) ls (rest))) : W p l e R s m args below meth c H locs cells slots Q (F0 m pc ls st0) := by
  intro T hT X
  rcases hr T hT X with ⟨v, st₀, t, T', L, h0, X', hL, e1, e2, ⟨⟨u, hv, hp, hb⟩, hF⟩, st⟩ | ⟨q, st₀, t, T', L, E, ce, h0, X', hL, e1, e2, ⟨u, hp, hb, hF⟩, hce, hcv, hcl, st⟩
  · cases hv
    obtain ⟨k1, k2, k3⟩ := vx_keep h0 e1 hS hA hf hL hF
    obtain ⟨t2, a1, b1⟩ := kk u t T'.heap (locs ++ L) e1.symm (by rw [← e2]; exact X'.warmed.alike) hp hb k1 k2 k3 T' rfl X'
    exact ⟨t2, st t2 a1, b1⟩
  · obtain ⟨k1, k2, k3⟩ := vx_keep h0 e1 hS hAX hf hL hF
    obtain ⟨t2, a1, b1⟩ := kx E ce q u t T'.heap (locs ++ L) e1.symm (by rw [← e2]; exact X'.warmed.alike) hp hb k1 k2 k3 (by rw [e1]; exact hce) hcv hcl T' rfl X'
    exact ⟨t2, st.trans a1, b1⟩
theorem vx_callFi {S SX : Type} {post : Int32 → S → Prop} {px : SX → Prop} {B : S → State → Prop} {BX : String → SX → State → Prop} {AX : Nat → Prop} (hr : vx_Run5 p l e R s m args below meth c H locs cells slots mc ms (F0 m pc ls st0) rest (va_Qi post B A1 a) (vx_X px BX AX) free) (hS : va_S A0 H0 H locs) (hA : ∀ q, q < H.size → A1 q → A0 q) (hf : ∀ q, free q → A0 q) (hAX : ∀ q, q < H.size → AX q → A0 q)
    (kx : ∀ (E : String) (ce : Cell) (q9 : Addr) (u : SX) (t : State) (H1 : Heap) (locs1 : List Loc), t.heap = H1 → s.vm.Alike t.vm → px u → BX E u t → H.size ≤ H1.size → (∀ q : Nat, q < H.size → ¬ AX q → H1[q]? = H[q]?) → va_S A0 H0 H1 locs1 → H1[q9]? = some ce → ce.vm = .none → s.vm.findClass E = some ce.cls → vx_W p l e R s m args below meth c H1 locs1 (cells + mc) (slots + ms) Q (F0 m pc ls rest) q9)
    (kk : ∀ (r : Int32) (u : S) (t : State) (H1 : Heap) (locs1 : List Loc), t.heap = H1 → s.vm.Alike t.vm → post r u → B u t → H.size ≤ H1.size → (∀ q : Nat, q < H.size → ¬ A1 q → H1[q]? = H[q]?) → va_S A0 H0 H1 locs1 → W p l e R s m args below meth c H1 locs1 (cells + mc) (slots + ms) Q (F0 m (pc + 5) ls (.int r :: rest))) : W p l e R s m args below meth c H locs cells slots Q (F0 m pc ls st0) := by
  intro T hT X
  rcases hr T hT X with ⟨v, st₀, t, T', L, h0, X', hL, e1, e2, ⟨⟨r, u, hv, hp, hb⟩, hF⟩, st⟩ | ⟨q, st₀, t, T', L, E, ce, h0, X', hL, e1, e2, ⟨u, hp, hb, hF⟩, hce, hcv, hcl, st⟩
  · cases hv
    obtain ⟨k1, k2, k3⟩ := vx_keep h0 e1 hS hA hf hL hF
    obtain ⟨t2, a1, b1⟩ := kk r u t T'.heap (locs ++ L) e1.symm (by rw [← e2]; exact X'.warmed.alike) hp hb k1 k2 k3 T' rfl X'
    exact ⟨t2, st t2 a1, b1⟩
  · obtain ⟨k1, k2, k3⟩ := vx_keep h0 e1 hS hAX hf hL hF
    obtain ⟨t2, a1, b1⟩ := kx E ce q u t T'.heap (locs ++ L) e1.symm (by rw [← e2]; exact X'.warmed.alike) hp hb k1 k2 k3 (by rw [e1]; exact hce) hcv hcl T' rfl X'
    exact ⟨t2, st.trans a1, b1⟩
theorem vx_callFl {S SX : Type} {post : Int64 → S → Prop} {px : SX → Prop} {B : S → State → Prop} {BX : String → SX → State → Prop} {AX : Nat → Prop} (hr : vx_Run5 p l e R s m args below meth c H locs cells slots mc ms (F0 m pc ls st0) rest (va_Ql post B A1 a) (vx_X px BX AX) free) (hS : va_S A0 H0 H locs) (hA : ∀ q, q < H.size → A1 q → A0 q) (hf : ∀ q, free q → A0 q) (hAX : ∀ q, q < H.size → AX q → A0 q)
    (kx : ∀ (E : String) (ce : Cell) (q9 : Addr) (u : SX) (t : State) (H1 : Heap) (locs1 : List Loc), t.heap = H1 → s.vm.Alike t.vm → px u → BX E u t → H.size ≤ H1.size → (∀ q : Nat, q < H.size → ¬ AX q → H1[q]? = H[q]?) → va_S A0 H0 H1 locs1 → H1[q9]? = some ce → ce.vm = .none → s.vm.findClass E = some ce.cls → vx_W p l e R s m args below meth c H1 locs1 (cells + mc) (slots + ms) Q (F0 m pc ls rest) q9)
    (kk : ∀ (r : Int64) (u : S) (t : State) (H1 : Heap) (locs1 : List Loc), t.heap = H1 → s.vm.Alike t.vm → post r u → B u t → H.size ≤ H1.size → (∀ q : Nat, q < H.size → ¬ A1 q → H1[q]? = H[q]?) → va_S A0 H0 H1 locs1 → W p l e R s m args below meth c H1 locs1 (cells + mc) (slots + ms) Q (F0 m (pc + 5) ls (.long r :: rest))) : W p l e R s m args below meth c H locs cells slots Q (F0 m pc ls st0) := by
  intro T hT X
  rcases hr T hT X with ⟨v, st₀, t, T', L, h0, X', hL, e1, e2, ⟨⟨r, u, hv, hp, hb⟩, hF⟩, st⟩ | ⟨q, st₀, t, T', L, E, ce, h0, X', hL, e1, e2, ⟨u, hp, hb, hF⟩, hce, hcv, hcl, st⟩
  · cases hv
    obtain ⟨k1, k2, k3⟩ := vx_keep h0 e1 hS hA hf hL hF
    obtain ⟨t2, a1, b1⟩ := kk r u t T'.heap (locs ++ L) e1.symm (by rw [← e2]; exact X'.warmed.alike) hp hb k1 k2 k3 T' rfl X'
    exact ⟨t2, st t2 a1, b1⟩
  · obtain ⟨k1, k2, k3⟩ := vx_keep h0 e1 hS hAX hf hL hF
    obtain ⟨t2, a1, b1⟩ := kx E ce q u t T'.heap (locs ++ L) e1.symm (by rw [← e2]; exact X'.warmed.alike) hp hb k1 k2 k3 (by rw [e1]; exact hce) hcv hcl T' rfl X'
    exact ⟨t2, st.trans a1, b1⟩
theorem vx_callFf {S SX : Type} {post : UInt32 → S → Prop} {px : SX → Prop} {B : S → State → Prop} {BX : String → SX → State → Prop} {AX : Nat → Prop} (hr : vx_Run5 p l e R s m args below meth c H locs cells slots mc ms (F0 m pc ls st0) rest (va_Qf post B A1 a) (vx_X px BX AX) free) (hS : va_S A0 H0 H locs) (hA : ∀ q, q < H.size → A1 q → A0 q) (hf : ∀ q, free q → A0 q) (hAX : ∀ q, q < H.size → AX q → A0 q)
    (kx : ∀ (E : String) (ce : Cell) (q9 : Addr) (u : SX) (t : State) (H1 : Heap) (locs1 : List Loc), t.heap = H1 → s.vm.Alike t.vm → px u → BX E u t → H.size ≤ H1.size → (∀ q : Nat, q < H.size → ¬ AX q → H1[q]? = H[q]?) → va_S A0 H0 H1 locs1 → H1[q9]? = some ce → ce.vm = .none → s.vm.findClass E = some ce.cls → vx_W p l e R s m args below meth c H1 locs1 (cells + mc) (slots + ms) Q (F0 m pc ls rest) q9)
    (kk : ∀ (r : UInt32) (u : S) (t : State) (H1 : Heap) (locs1 : List Loc), t.heap = H1 → s.vm.Alike t.vm → post r u → B u t → H.size ≤ H1.size → (∀ q : Nat, q < H.size → ¬ A1 q → H1[q]? = H[q]?) → va_S A0 H0 H1 locs1 → W p l e R s m args below meth c H1 locs1 (cells + mc) (slots + ms) Q (F0 m (pc + 5) ls (.float r :: rest))) : W p l e R s m args below meth c H locs cells slots Q (F0 m pc ls st0) := by
  intro T hT X
  rcases hr T hT X with ⟨v, st₀, t, T', L, h0, X', hL, e1, e2, ⟨⟨r, u, hv, hp, hb⟩, hF⟩, st⟩ | ⟨q, st₀, t, T', L, E, ce, h0, X', hL, e1, e2, ⟨u, hp, hb, hF⟩, hce, hcv, hcl, st⟩
  · cases hv
    obtain ⟨k1, k2, k3⟩ := vx_keep h0 e1 hS hA hf hL hF
    obtain ⟨t2, a1, b1⟩ := kk r u t T'.heap (locs ++ L) e1.symm (by rw [← e2]; exact X'.warmed.alike) hp hb k1 k2 k3 T' rfl X'
    exact ⟨t2, st t2 a1, b1⟩
  · obtain ⟨k1, k2, k3⟩ := vx_keep h0 e1 hS hAX hf hL hF
    obtain ⟨t2, a1, b1⟩ := kx E ce q u t T'.heap (locs ++ L) e1.symm (by rw [← e2]; exact X'.warmed.alike) hp hb k1 k2 k3 (by rw [e1]; exact hce) hcv hcl T' rfl X'
    exact ⟨t2, st.trans a1, b1⟩
theorem vx_callFd {S SX : Type} {post : UInt64 → S → Prop} {px : SX → Prop} {B : S → State → Prop} {BX : String → SX → State → Prop} {AX : Nat → Prop} (hr : vx_Run5 p l e R s m args below meth c H locs cells slots mc ms (F0 m pc ls st0) rest (va_Qd post B A1 a) (vx_X px BX AX) free) (hS : va_S A0 H0 H locs) (hA : ∀ q, q < H.size → A1 q → A0 q) (hf : ∀ q, free q → A0 q) (hAX : ∀ q, q < H.size → AX q → A0 q)
    (kx : ∀ (E : String) (ce : Cell) (q9 : Addr) (u : SX) (t : State) (H1 : Heap) (locs1 : List Loc), t.heap = H1 → s.vm.Alike t.vm → px u → BX E u t → H.size ≤ H1.size → (∀ q : Nat, q < H.size → ¬ AX q → H1[q]? = H[q]?) → va_S A0 H0 H1 locs1 → H1[q9]? = some ce → ce.vm = .none → s.vm.findClass E = some ce.cls → vx_W p l e R s m args below meth c H1 locs1 (cells + mc) (slots + ms) Q (F0 m pc ls rest) q9)
    (kk : ∀ (r : UInt64) (u : S) (t : State) (H1 : Heap) (locs1 : List Loc), t.heap = H1 → s.vm.Alike t.vm → post r u → B u t → H.size ≤ H1.size → (∀ q : Nat, q < H.size → ¬ A1 q → H1[q]? = H[q]?) → va_S A0 H0 H1 locs1 → W p l e R s m args below meth c H1 locs1 (cells + mc) (slots + ms) Q (F0 m (pc + 5) ls (.double r :: rest))) : W p l e R s m args below meth c H locs cells slots Q (F0 m pc ls st0) := by
  intro T hT X
  rcases hr T hT X with ⟨v, st₀, t, T', L, h0, X', hL, e1, e2, ⟨⟨r, u, hv, hp, hb⟩, hF⟩, st⟩ | ⟨q, st₀, t, T', L, E, ce, h0, X', hL, e1, e2, ⟨u, hp, hb, hF⟩, hce, hcv, hcl, st⟩
  · cases hv
    obtain ⟨k1, k2, k3⟩ := vx_keep h0 e1 hS hA hf hL hF
    obtain ⟨t2, a1, b1⟩ := kk r u t T'.heap (locs ++ L) e1.symm (by rw [← e2]; exact X'.warmed.alike) hp hb k1 k2 k3 T' rfl X'
    exact ⟨t2, st t2 a1, b1⟩
  · obtain ⟨k1, k2, k3⟩ := vx_keep h0 e1 hS hAX hf hL hF
    obtain ⟨t2, a1, b1⟩ := kx E ce q u t T'.heap (locs ++ L) e1.symm (by rw [← e2]; exact X'.warmed.alike) hp hb k1 k2 k3 (by rw [e1]; exact hce) hcv hcl T' rfl X'
    exact ⟨t2, st.trans a1, b1⟩
end
/-! ===== END ===== -/
/-! ===== BEGIN by an interface, a method with a table of its own that may throw (follows va_callIFW, va_runFW) ===== -/
section
variable {p : Program} {l : Launch} {e : Env} {R : Room} {s : State} {m : MethodId} {args : Array Value} {below : List Frame} {meth : Method} {c : Code} {H : Heap} {locs : List Loc} {cells slots : Nat}
theorem vx_callIFW {T : State} (X : Stand p l e R s m args below meth c T locs cells slots) (hexec : p.tables.exec = Jvm.exec) {own C : String} {index count : Nat} {x y : MethodName} {bytes : ByteArray} {maxL : Nat} {ret : Option FieldType} {hh : List (Nat × Nat × Nat × Nat)}
    (hown : s.vm.findClass own = some m.cls) (hlink : (Cond.methodLink own index x).before args s = true) (hdecl : (Cond.declares x).before args s = true) (hface : (Cond.interfaceMethod x.cls x.cls x.name x.desc).before args s = true)
    (hsel : (Cond.selects C x y).before args s = true) (hinst : (Cond.instanceMethod y).before args s = true) (hpub : (Cond.publicMethod y).before args s = true) (hunh : (Cond.unhidden C x.name x.desc).before args s = true)
    (hcast : (Cond.castable C x.cls).before args s = true) (hcode : (Cond.codeWith y bytes maxL ret hh).before args s = true) (hx : x.cls ≠ "java/lang/invoke/MethodHandle" ∧ x.cls ≠ "java/lang/invoke/VarHandle")
    {W : Nat} {Pre : Pt → Array Value → Prop} {Post : Pt → Array Value → Option Value → Pt → Prop} {PostX : Pt → Array Value → Addr → Pt → Prop} (hK : vx_Back l R p e below s args y 5 W Pre Post PostX)
    {b : Addr} {cellB : Cell} {kB : Class} (hcell : T.heap[b]? = some cellB) (hobj : cellB.vm.isStatics = false) (hcls : s.vm.findClass C = some cellB.cls) (hkB : s.vm.classes[cellB.cls]? = some kB)
    {g : JFrame} (hg : g.method = m) (hsize : g.locals.size = c.maxLocals) {argsL rest : List Value} (hlen : ∀ sig, parseMethodDescriptor x.desc = some sig → argsL.length = sig.parameters.length)
    (hstack : g.stack = argsL.reverse ++ .ref b :: rest) (hW : 2 * g.monitorRoom + (rest.map fun v => v.category).sum ≤ W) (hdg : decode c.code g.pc = .ok (.invokeinterface index count, 5))
    (hpre : ∀ vm₁, s.WarmedH vm₁ → Pre ⟨T.setVm vm₁, locs, cells, slots⟩ (Value.ref b :: argsL).toArray) :
    (∃ (v : Option Value) (vm₁ : Vm) (B : Pt), s.WarmedH vm₁ ∧ Stand p l e R s m args below meth c B.U B.locs B.cells B.slots ∧ Post ⟨T.setVm vm₁, locs, cells, slots⟩ (Value.ref b :: argsL).toArray v B ∧
      ∀ target, Steps p.tables e below (B.U.setTop { g with pc := g.pc + 5, stack := v.toList ++ rest }) target → Steps p.tables e below (T.setTop g) target) ∨
    (∃ (q : Addr) (vm₁ : Vm) (B : Pt), s.WarmedH vm₁ ∧ Stand p l e R s m args below meth c B.U B.locs B.cells B.slots ∧ PostX ⟨T.setVm vm₁, locs, cells, slots⟩ (Value.ref b :: argsL).toArray q B ∧
      Steps p.tables e below (T.setTop g) ((B.U.setTop { g with stack := rest }).pushFrame (.throwing q))) := by
  obtain ⟨r0, r, hn, hrm, hstR, hsigR⟩ := Cond.declares_spec hdecl
  obtain ⟨cL, kL, r1, hcL, hkL, hiL, hfoundL, hn1⟩ := Cond.interfaceMethod_spec hface
  cases hn.symm.trans hn1
  have hr0cls : r0.cls = cL := Option.some.inj ((findClass_of_methodNamed hn).symm.trans hcL)
  obtain ⟨hnameR, hdescR⟩ := name_of_methodNamed hn hrm
  obtain ⟨mk, methM, hnamed, hmethM, -, habM⟩ := Cond.instanceMethod_spec hinst
  obtain ⟨c2, r2, m2, q1, q2, q3, q4, -⟩ := Cond.selects_spec hsel
  cases hcls.symm.trans q1
  cases hfoundL.symm.trans q2
  cases hnamed.symm.trans q3
  have hselP : selectMethod e.platform s.vm cellB.cls r0 = .method mk := by rw [Launch.admits_selectMethod X.admits]; exact q4
  have hpubM : hasFlag methM.accessFlags Acc.public_ = true := Cond.publicMethod_spec hnamed hmethM hpub
  have hway : ((cellB.cls :: s.vm.superclasses cellB.cls).any fun k => (declaredIn s.vm r.name r.desc k).any fun (_, z) => z.isPrivate || z.isStatic) = false := by
    rw [hnameR, hdescR]; exact Cond.unhidden_spec hcls hunh
  obtain ⟨c3, t3, w1, w2, w3⟩ := Cond.castable_spec hcast
  cases hcls.symm.trans w1
  cases hcL.symm.trans w2
  obtain ⟨vm₁, X₁, hstep₁⟩ := X.invokeinterface hexec hown hlink hn hrm hstR (by rw [hr0cls]; exact hkL) hiL hx (a := b) (cell := cellB) (kcell := kB) hcell
    (fun z h => by rw [h] at hobj; cases hobj) hkB (by rw [hr0cls]; exact w3) hselP hmethM hway hpubM habM (g := g) hg (argsL := argsL) (rest := rest) (hlen _ hsigR) hstack hdg
  rcases hK m meth c ⟨T.setVm vm₁, locs, cells, slots⟩ { g with stack := rest } (.invokeinterface index count) mk (Value.ref b :: argsL).toArray X₁ hg hsize hdg hW (X₁.named hnamed) (hpre vm₁ X₁.warmed) with ⟨v, B, X', hpost, hsteps⟩ | ⟨q, B, X', hpost, hsteps⟩
  · exact Or.inl ⟨v, vm₁, B, X₁.warmed, X', hpost, fun target h => hstep₁ _ fun acts => by rw [doInvoke_state]; exact hsteps.trans h⟩
  · exact Or.inr ⟨q, vm₁, B, X₁.warmed, X', hpost, hstep₁ _ fun acts => by rw [doInvoke_state]; exact hsteps⟩
theorem vx_runFW {x y : MethodName} {bytes cc : ByteArray} {maxL nL mc ms n index count : Nat} {ret : Option FieldType} {hh : List (Nat × Nat × Nat × Nat)} {ws : List Cond} {rm : Room} {Pc : Array Value → State → Prop} {Qc : Array Value → State → Outcome → State → Prop} {XC : String → State → State → Prop} {free : Addr → Prop} {Ts : List Cond} {own C : String} {cC : ClassId} {b : Addr} {As rest : List Value} {g : JFrame}
    (hat : ClassAt s C cC) (S : CallFix p m c cc nL s args Ts own) (hM : vx_Met l y ws rm Pc Qc XC mc ms free) (cw : va_CIW R s args own C index x y bytes maxL ret hh ws rm mc ms n) (hp : PreV s H C b Pc As)
    (hg : g.method = m) (hn : As.length = n) (hsize : g.locals.size = nL) (hstack : g.stack = As.reverse ++ .ref b :: rest) (hW : 2 * g.monitorRoom + (rest.map fun v => v.category).sum ≤ 8) (hdg : decode cc g.pc = .ok (.invokeinterface index count, 5)) (hf : cells + mc ≤ R.cells ∧ slots + ms ≤ R.slots) :
    vx_Run5 p l e R s m args below meth c H locs cells slots mc ms g rest (Qc (Value.ref b :: As).toArray) XC free := by
  obtain ⟨hrc, hrs, hfr, hlo, hws, hcw⟩ := cw.back
  have hini := cw.init
  have hK : vx_Back l R p e below s args y 5 8 (PreOf R mc ms Pc) (PostOf Qc mc ms free) (vx_Post XC mc ms free) := vx_backW (hh := hh) (bytes := bytes) (maxL := maxL) (ret := ret) hM hp.1 hrc hrs hfr hlo hws hcw (fun a' U hW => word_at hW (Or.inl (by first | rfl | simp [Cond.onTables, Cond.keeps, Cond.steady])) hini)
  obtain ⟨hx, hb, hml, ho, -⟩ := S
  obtain ⟨-, ⟨cellB, hcB, hoB, hclB⟩, hPc⟩ := hp
  obtain ⟨hfc, kB, hkB, -⟩ := hat
  cases hfc.symm.trans hclB
  intro T hT X
  rcases vx_callIFW X hx (C := C) (hh := hh) (bytes := bytes) (maxL := maxL) (ret := ret) ho cw.link cw.decl cw.face cw.sel cw.inst cw.pub cw.unh cw.cast cw.code cw.notMH hK (by rw [hT]; exact hcB) hoB hclB hkB hg (hsize.trans hml.symm) (argsL := As) (rest := rest) (fun sig h => hn.trans (cw.len sig h)) hstack hW (by rw [hb]; exact hdg)
    (fun vm₁ hW₁ => ⟨hf.1, hf.2, hPc (T.setVm vm₁) hT hW₁⟩) with ⟨v, vm₁, ⟨U', l2, c2, s2⟩, hW₁, X', ⟨g', mk, t, L, e1, e2, hq, h1, hL, h2, h3⟩, st⟩ | ⟨q, vm₁, ⟨U', l2, c2, s2⟩, hW₁, X', ⟨g', mk, t, L, E, ce, e1, e2, hq, hce, hcv, hcl, h1, hL, h2, h3⟩, st⟩
  · dsimp only [Pt.U, Pt.locs, Pt.cells, Pt.slots] at X' e1 e2 h1 h2 h3 st
    subst h1; subst h2; subst h3
    exact Or.inl ⟨v, (T.setVm vm₁).calling g' mk (Value.ref b :: As).toArray, t, U', L, hT, X', hL, e1, e2, hq, st⟩
  · dsimp only [Pt.U, Pt.locs, Pt.cells, Pt.slots] at X' e1 e2 h1 h2 h3 st hcl
    subst h1; subst h2; subst h3
    exact Or.inr ⟨q, (T.setVm vm₁).calling g' mk (Value.ref b :: As).toArray, t, U', L, E, ce, hT, X', hL, e1, e2, hq, hce, hcv, vx_cls hW₁ hcl, st⟩
end
/-! ===== END ===== -/
/-! ===== BEGIN .. of methods that hand back an object of the pool ===== -/
section
variable {p : Program} {l : Launch} {e : Env} {R : Room} {s : State} {m : MethodId} {args : Array Value} {below : List Frame} {meth : Method} {c : Code} {H : Heap} {locs : List Loc} {cells slots : Nat} {Q : State → Prop}
variable {mc ms : Nat} {free : Addr → Prop} {A0 A1 : Nat → Prop} {H0 : Heap} {a : Array Value} {pc : Nat} {ls : Array Slot} {st0 rest : List Value}
theorem vx_callq {S SX : Type} {post : Option Nat → S → Prop} {px : SX → Prop} {B : S → State → Prop} {BX : String → SX → State → Prop} {AX : Nat → Prop} (hr : vx_Run p l e R s m args below meth c H locs cells slots mc ms (F0 m pc ls st0) rest (va_Qq post B A1 a) (vx_X px BX AX) free) (hS : va_S A0 H0 H locs) (hA : ∀ q, q < H.size → A1 q → A0 q) (hf : ∀ q, free q → A0 q) (hAX : ∀ q, q < H.size → AX q → A0 q)
    (kx : ∀ (E : String) (ce : Cell) (q9 : Addr) (u : SX) (t : State) (H1 : Heap) (locs1 : List Loc), t.heap = H1 → s.vm.Alike t.vm → px u → BX E u t → H.size ≤ H1.size → (∀ q : Nat, q < H.size → ¬ AX q → H1[q]? = H[q]?) → va_S A0 H0 H1 locs1 → H1[q9]? = some ce → ce.vm = .none → s.vm.findClass E = some ce.cls → vx_W p l e R s m args below meth c H1 locs1 (cells + mc) (slots + ms) Q (F0 m pc ls rest) q9)
    (kk : ∀ (r : Option Nat) (u : S) (t : State) (H1 : Heap) (locs1 : List Loc), t.heap = H1 → s.vm.Alike t.vm → post r u → B u t → H.size ≤ H1.size → (∀ q : Nat, q < H.size → ¬ A1 q → H1[q]? = H[q]?) → va_S A0 H0 H1 locs1 → W p l e R s m args below meth c H1 locs1 (cells + mc) (slots + ms) Q (F0 m (pc + 3) ls (va_rf r :: rest))) : W p l e R s m args below meth c H locs cells slots Q (F0 m pc ls st0) := by
  intro T hT X
  rcases hr T hT X with ⟨v, st₀, t, T', L, h0, X', hL, e1, e2, ⟨⟨r, u, hv, hp, hb⟩, hF⟩, st⟩ | ⟨q, st₀, t, T', L, E, ce, h0, X', hL, e1, e2, ⟨u, hp, hb, hF⟩, hce, hcv, hcl, st⟩
  · cases hv
    obtain ⟨k1, k2, k3⟩ := vx_keep h0 e1 hS hA hf hL hF
    obtain ⟨t2, a1, b1⟩ := kk r u t T'.heap (locs ++ L) e1.symm (by rw [← e2]; exact X'.warmed.alike) hp hb k1 k2 k3 T' rfl X'
    exact ⟨t2, st t2 a1, b1⟩
  · obtain ⟨k1, k2, k3⟩ := vx_keep h0 e1 hS hAX hf hL hF
    obtain ⟨t2, a1, b1⟩ := kx E ce q u t T'.heap (locs ++ L) e1.symm (by rw [← e2]; exact X'.warmed.alike) hp hb k1 k2 k3 (by rw [e1]; exact hce) hcv hcl T' rfl X'
    exact ⟨t2, st.trans a1, b1⟩
end
/-! ===== END ===== -/
/-! ===== BEGIN .. a constant ===== -/
section
variable {p : Program} {l : Launch} {e : Env} {R : Room} {s : State} {m : MethodId} {args : Array Value} {below : List Frame} {meth : Method} {c : Code} {H : Heap} {locs : List Loc} {cells slots : Nat} {Q : State → Prop}
variable {mc ms : Nat} {free : Addr → Prop} {A0 A1 : Nat → Prop} {H0 : Heap} {a : Array Value} {pc : Nat} {ls : Array Slot} {st0 rest : List Value}
theorem vx_calle {ad : Nat → Nat} {S SX : Type} {post : Option Nat → S → Prop} {px : SX → Prop} {B : S → State → Prop} {BX : String → SX → State → Prop} {AX : Nat → Prop} (hr : vx_Run p l e R s m args below meth c H locs cells slots mc ms (F0 m pc ls st0) rest (va_Qe ad post B A1 a) (vx_X px BX AX) free) (hS : va_S A0 H0 H locs) (hA : ∀ q, q < H.size → A1 q → A0 q) (hf : ∀ q, free q → A0 q) (hAX : ∀ q, q < H.size → AX q → A0 q)
    (kx : ∀ (E : String) (ce : Cell) (q9 : Addr) (u : SX) (t : State) (H1 : Heap) (locs1 : List Loc), t.heap = H1 → s.vm.Alike t.vm → px u → BX E u t → H.size ≤ H1.size → (∀ q : Nat, q < H.size → ¬ AX q → H1[q]? = H[q]?) → va_S A0 H0 H1 locs1 → H1[q9]? = some ce → ce.vm = .none → s.vm.findClass E = some ce.cls → vx_W p l e R s m args below meth c H1 locs1 (cells + mc) (slots + ms) Q (F0 m pc ls rest) q9)
    (kk : ∀ (r : Option Nat) (u : S) (t : State) (H1 : Heap) (locs1 : List Loc), t.heap = H1 → s.vm.Alike t.vm → post r u → B u t → H.size ≤ H1.size → (∀ q : Nat, q < H.size → ¬ A1 q → H1[q]? = H[q]?) → va_S A0 H0 H1 locs1 → W p l e R s m args below meth c H1 locs1 (cells + mc) (slots + ms) Q (F0 m (pc + 3) ls (va_re ad r :: rest))) : W p l e R s m args below meth c H locs cells slots Q (F0 m pc ls st0) := by
  intro T hT X
  rcases hr T hT X with ⟨v, st₀, t, T', L, h0, X', hL, e1, e2, ⟨⟨r, u, hv, hp, hb⟩, hF⟩, st⟩ | ⟨q, st₀, t, T', L, E, ce, h0, X', hL, e1, e2, ⟨u, hp, hb, hF⟩, hce, hcv, hcl, st⟩
  · cases hv
    obtain ⟨k1, k2, k3⟩ := vx_keep h0 e1 hS hA hf hL hF
    obtain ⟨t2, a1, b1⟩ := kk r u t T'.heap (locs ++ L) e1.symm (by rw [← e2]; exact X'.warmed.alike) hp hb k1 k2 k3 T' rfl X'
    exact ⟨t2, st t2 a1, b1⟩
  · obtain ⟨k1, k2, k3⟩ := vx_keep h0 e1 hS hAX hf hL hF
    obtain ⟨t2, a1, b1⟩ := kx E ce q u t T'.heap (locs ++ L) e1.symm (by rw [← e2]; exact X'.warmed.alike) hp hb k1 k2 k3 (by rw [e1]; exact hce) hcv hcl T' rfl X'
    exact ⟨t2, st.trans a1, b1⟩
end
/-! ===== END ===== -/
/-! ===== BEGIN .. by an interface, an object ===== -/
section
variable {p : Program} {l : Launch} {e : Env} {R : Room} {s : State} {m : MethodId} {args : Array Value} {below : List Frame} {meth : Method} {c : Code} {H : Heap} {locs : List Loc} {cells slots : Nat} {Q : State → Prop}
variable {mc ms : Nat} {free : Addr → Prop} {A0 A1 : Nat → Prop} {H0 : Heap} {a : Array Value} {pc : Nat} {ls : Array Slot} {st0 rest : List Value}
theorem vx_callFq {S SX : Type} {post : Option Nat → S → Prop} {px : SX → Prop} {B : S → State → Prop} {BX : String → SX → State → Prop} {AX : Nat → Prop} (hr : vx_Run5 p l e R s m args below meth c H locs cells slots mc ms (F0 m pc ls st0) rest (va_Qq post B A1 a) (vx_X px BX AX) free) (hS : va_S A0 H0 H locs) (hA : ∀ q, q < H.size → A1 q → A0 q) (hf : ∀ q, free q → A0 q) (hAX : ∀ q, q < H.size → AX q → A0 q)
    (kx : ∀ (E : String) (ce : Cell) (q9 : Addr) (u : SX) (t : State) (H1 : Heap) (locs1 : List Loc), t.heap = H1 → s.vm.Alike t.vm → px u → BX E u t → H.size ≤ H1.size → (∀ q : Nat, q < H.size → ¬ AX q → H1[q]? = H[q]?) → va_S A0 H0 H1 locs1 → H1[q9]? = some ce → ce.vm = .none → s.vm.findClass E = some ce.cls → vx_W p l e R s m args below meth c H1 locs1 (cells + mc) (slots + ms) Q (F0 m pc ls rest) q9)
    (kk : ∀ (r : Option Nat) (u : S) (t : State) (H1 : Heap) (locs1 : List Loc), t.heap = H1 → s.vm.Alike t.vm → post r u → B u t → H.size ≤ H1.size → (∀ q : Nat, q < H.size → ¬ A1 q → H1[q]? = H[q]?) → va_S A0 H0 H1 locs1 → W p l e R s m args below meth c H1 locs1 (cells + mc) (slots + ms) Q (F0 m (pc + 5) ls (va_rf r :: rest))) : W p l e R s m args below meth c H locs cells slots Q (F0 m pc ls st0) := by
  intro T hT X
  rcases hr T hT X with ⟨v, st₀, t, T', L, h0, X', hL, e1, e2, ⟨⟨r, u, hv, hp, hb⟩, hF⟩, st⟩ | ⟨q, st₀, t, T', L, E, ce, h0, X', hL, e1, e2, ⟨u, hp, hb, hF⟩, hce, hcv, hcl, st⟩
  · cases hv
    obtain ⟨k1, k2, k3⟩ := vx_keep h0 e1 hS hA hf hL hF
    obtain ⟨t2, a1, b1⟩ := kk r u t T'.heap (locs ++ L) e1.symm (by rw [← e2]; exact X'.warmed.alike) hp hb k1 k2 k3 T' rfl X'
    exact ⟨t2, st t2 a1, b1⟩
  · obtain ⟨k1, k2, k3⟩ := vx_keep h0 e1 hS hAX hf hL hF
    obtain ⟨t2, a1, b1⟩ := kx E ce q u t T'.heap (locs ++ L) e1.symm (by rw [← e2]; exact X'.warmed.alike) hp hb k1 k2 k3 (by rw [e1]; exact hce) hcv hcl T' rfl X'
    exact ⟨t2, st.trans a1, b1⟩
end
/-! ===== END ===== -/
/-! ===== BEGIN .. by an interface, a constant ===== -/
section
variable {p : Program} {l : Launch} {e : Env} {R : Room} {s : State} {m : MethodId} {args : Array Value} {below : List Frame} {meth : Method} {c : Code} {H : Heap} {locs : List Loc} {cells slots : Nat} {Q : State → Prop}
variable {mc ms : Nat} {free : Addr → Prop} {A0 A1 : Nat → Prop} {H0 : Heap} {a : Array Value} {pc : Nat} {ls : Array Slot} {st0 rest : List Value}
theorem vx_callFe {ad : Nat → Nat} {S SX : Type} {post : Option Nat → S → Prop} {px : SX → Prop} {B : S → State → Prop} {BX : String → SX → State → Prop} {AX : Nat → Prop} (hr : vx_Run5 p l e R s m args below meth c H locs cells slots mc ms (F0 m pc ls st0) rest (va_Qe ad post B A1 a) (vx_X px BX AX) free) (hS : va_S A0 H0 H locs) (hA : ∀ q, q < H.size → A1 q → A0 q) (hf : ∀ q, free q → A0 q) (hAX : ∀ q, q < H.size → AX q → A0 q)
    (kx : ∀ (E : String) (ce : Cell) (q9 : Addr) (u : SX) (t : State) (H1 : Heap) (locs1 : List Loc), t.heap = H1 → s.vm.Alike t.vm → px u → BX E u t → H.size ≤ H1.size → (∀ q : Nat, q < H.size → ¬ AX q → H1[q]? = H[q]?) → va_S A0 H0 H1 locs1 → H1[q9]? = some ce → ce.vm = .none → s.vm.findClass E = some ce.cls → vx_W p l e R s m args below meth c H1 locs1 (cells + mc) (slots + ms) Q (F0 m pc ls rest) q9)
    (kk : ∀ (r : Option Nat) (u : S) (t : State) (H1 : Heap) (locs1 : List Loc), t.heap = H1 → s.vm.Alike t.vm → post r u → B u t → H.size ≤ H1.size → (∀ q : Nat, q < H.size → ¬ A1 q → H1[q]? = H[q]?) → va_S A0 H0 H1 locs1 → W p l e R s m args below meth c H1 locs1 (cells + mc) (slots + ms) Q (F0 m (pc + 5) ls (va_re ad r :: rest))) : W p l e R s m args below meth c H locs cells slots Q (F0 m pc ls st0) := by
  intro T hT X
  rcases hr T hT X with ⟨v, st₀, t, T', L, h0, X', hL, e1, e2, ⟨⟨r, u, hv, hp, hb⟩, hF⟩, st⟩ | ⟨q, st₀, t, T', L, E, ce, h0, X', hL, e1, e2, ⟨u, hp, hb, hF⟩, hce, hcv, hcl, st⟩
  · cases hv
    obtain ⟨k1, k2, k3⟩ := vx_keep h0 e1 hS hA hf hL hF
    obtain ⟨t2, a1, b1⟩ := kk r u t T'.heap (locs ++ L) e1.symm (by rw [← e2]; exact X'.warmed.alike) hp hb k1 k2 k3 T' rfl X'
    exact ⟨t2, st t2 a1, b1⟩
  · obtain ⟨k1, k2, k3⟩ := vx_keep h0 e1 hS hAX hf hL hF
    obtain ⟨t2, a1, b1⟩ := kx E ce q u t T'.heap (locs ++ L) e1.symm (by rw [← e2]; exact X'.warmed.alike) hp hb k1 k2 k3 (by rw [e1]; exact hce) hcv hcl T' rfl X'
    exact ⟨t2, st.trans a1, b1⟩
end
/-! ===== END ===== -/
/-! ===== BEGIN what the machine throws by itself: null at a field, at athrow ===== -/
section VXM2
variable {p : Program} {l : Launch} {e : Env} {R : Room} {s : State} {m : MethodId} {args : Array Value} {below : List Frame} {meth : Method} {c : Code} {H : Heap} {locs : List Loc} {cells slots : Nat}
variable {Q : State → Prop} {cc : ByteArray} {pc : Nat} {ls : Array Slot} {rest : List Value}
theorem vx_getfN {D cl tys} {own ref C : String} {T : u_T} {N ci index : Nat} {Ts : List Cond} (hexec : p.tables.exec = Jvm.exec) (hb : c.code = cc) (hts : ∀ w ∈ Ts, w.before args s = true) (hin : ∀ w ∈ u_ws C T N, w ∈ Ts) (hown : s.vm.findClass own = some m.cls) (hK : va_K D cl tys s) (hc : cl[ci]? = some (C, T, N)) (k : Nat) (hk : k < N) (hlink : (Cond.fieldLink own index ref (T k).2.1 (T k).2.2.1).before args s = true) (hsame : ∀ x, s.fieldFound? (T k).1 (T k).2.1 (T k).2.2.1 = some x → s.fieldFound? ref (T k).2.1 (T k).2.2.1 = some x) (hdg : decode cc pc = .ok (.getfield index, 3)) (kk : vx_NoteN p l e R s m args below meth c H locs cells slots Q (F0 m pc ls rest)) : W p l e R s m args below meth c H locs cells slots Q (F0 m pc ls (.null :: rest)) := by
  obtain ⟨hS, hfc, kC, hkC, -⟩ := hK.1 ci _ hc
  obtain ⟨cf, kf, fi, f, hi, -⟩ := hS k hk
  intro U hU X
  obtain ⟨vm', X1, st1⟩ := X.getfieldNull hexec hown hlink (hsame _ hi) (u_facts hfc hkC (u_lays hts hin hk) hi).1 (g := F0 m pc ls (.null :: rest)) rfl (rest := rest) rfl (by rw [hb]; exact hdg)
  obtain ⟨t, st, q⟩ := kk (U.setVm vm') hU X1
  exact ⟨t, st1 t st, q⟩
theorem vx_getfNN {D cl tys} {own ref C host : String} {T : u_T} {N ci index : Nat} {Ts : List Cond} (hexec : p.tables.exec = Jvm.exec) (hb : c.code = cc) (hts : ∀ w ∈ Ts, w.before args s = true) (hin : ∀ w ∈ u_ws C T N, w ∈ Ts) (hown : s.vm.findClass own = some m.cls) (hK : va_K D cl tys s) (hc : cl[ci]? = some (C, T, N)) (k : Nat) (hk : k < N) (hlink : (Cond.fieldLinkNest own index ref (T k).2.1 (T k).2.2.1 host).before args s = true) (hsame : ∀ x, s.fieldFound? (T k).1 (T k).2.1 (T k).2.2.1 = some x → s.fieldFound? ref (T k).2.1 (T k).2.2.1 = some x) (hdg : decode cc pc = .ok (.getfield index, 3)) (kk : vx_NoteN p l e R s m args below meth c H locs cells slots Q (F0 m pc ls rest)) : W p l e R s m args below meth c H locs cells slots Q (F0 m pc ls (.null :: rest)) := by
  obtain ⟨hS, hfc, kC, hkC, -⟩ := hK.1 ci _ hc
  obtain ⟨cf, kf, fi, f, hi, -⟩ := hS k hk
  intro U hU X
  obtain ⟨vm', X1, st1⟩ := X.getfieldNullNest hexec hown hlink (hsame _ hi) (u_facts hfc hkC (u_lays hts hin hk) hi).1 (g := F0 m pc ls (.null :: rest)) rfl (rest := rest) rfl (by rw [hb]; exact hdg)
  obtain ⟨t, st, q⟩ := kk (U.setVm vm') hU X1
  exact ⟨t, st1 t st, q⟩
theorem vx_putfN {D cl tys} {own ref C : String} {T : u_T} {N ci index : Nat} {Ts : List Cond} (hexec : p.tables.exec = Jvm.exec) (hb : c.code = cc) (hts : ∀ w ∈ Ts, w.before args s = true) (hin : ∀ w ∈ u_ws C T N, w ∈ Ts) (hown : s.vm.findClass own = some m.cls) (hK : va_K D cl tys s) (hc : cl[ci]? = some (C, T, N)) (k : Nat) (hk : k < N) (hlink : (Cond.fieldLink own index ref (T k).2.1 (T k).2.2.1).before args s = true) (hsame : ∀ x, s.fieldFound? (T k).1 (T k).2.1 (T k).2.2.1 = some x → s.fieldFound? ref (T k).2.1 (T k).2.2.1 = some x) (hfin : (T k).2.2.2 = false) {v : Value} (hdg : decode cc pc = .ok (.putfield index, 3)) (kk : vx_NoteN p l e R s m args below meth c H locs cells slots Q (F0 m pc ls rest)) : W p l e R s m args below meth c H locs cells slots Q (F0 m pc ls (v :: .null :: rest)) := by
  obtain ⟨hS, hfc, kC, hkC, -⟩ := hK.1 ci _ hc
  obtain ⟨cf, kf, fi, f, hi, -⟩ := hS k hk
  have hlay := hts _ (hin _ (u_in_lay hk))
  unfold u_lay at hlay
  rw [if_neg (by rw [hfin]; decide)] at hlay
  obtain ⟨c9, k9, cf9, kf9, fi9, f9, -, -, hi9, hst9, hnf9, -⟩ := Cond.lays_spec hlay
  cases hi.symm.trans hi9
  intro U hU X
  obtain ⟨vm', X1, st1⟩ := X.putfieldNull hexec hown hlink (hsame _ hi) hst9 hnf9 (g := F0 m pc ls (v :: .null :: rest)) rfl (v := v) (rest := rest) rfl (by rw [hb]; exact hdg)
  obtain ⟨t, st, q⟩ := kk (U.setVm vm') hU X1
  exact ⟨t, st1 t st, q⟩
theorem vx_putfNN {D cl tys} {own ref C host : String} {T : u_T} {N ci index : Nat} {Ts : List Cond} (hexec : p.tables.exec = Jvm.exec) (hb : c.code = cc) (hts : ∀ w ∈ Ts, w.before args s = true) (hin : ∀ w ∈ u_ws C T N, w ∈ Ts) (hown : s.vm.findClass own = some m.cls) (hK : va_K D cl tys s) (hc : cl[ci]? = some (C, T, N)) (k : Nat) (hk : k < N) (hlink : (Cond.fieldLinkNest own index ref (T k).2.1 (T k).2.2.1 host).before args s = true) (hsame : ∀ x, s.fieldFound? (T k).1 (T k).2.1 (T k).2.2.1 = some x → s.fieldFound? ref (T k).2.1 (T k).2.2.1 = some x) (hfin : (T k).2.2.2 = false) {v : Value} (hdg : decode cc pc = .ok (.putfield index, 3)) (kk : vx_NoteN p l e R s m args below meth c H locs cells slots Q (F0 m pc ls rest)) : W p l e R s m args below meth c H locs cells slots Q (F0 m pc ls (v :: .null :: rest)) := by
  obtain ⟨hS, hfc, kC, hkC, -⟩ := hK.1 ci _ hc
  obtain ⟨cf, kf, fi, f, hi, -⟩ := hS k hk
  have hlay := hts _ (hin _ (u_in_lay hk))
  unfold u_lay at hlay
  rw [if_neg (by rw [hfin]; decide)] at hlay
  obtain ⟨c9, k9, cf9, kf9, fi9, f9, -, -, hi9, hst9, hnf9, -⟩ := Cond.lays_spec hlay
  cases hi.symm.trans hi9
  intro U hU X
  obtain ⟨vm', X1, st1⟩ := X.putfieldNullNest hexec hown hlink (hsame _ hi) hst9 hnf9 (g := F0 m pc ls (v :: .null :: rest)) rfl (v := v) (rest := rest) rfl (by rw [hb]; exact hdg)
  obtain ⟨t, st, q⟩ := kk (U.setVm vm') hU X1
  exact ⟨t, st1 t st, q⟩
theorem vx_athrowN (hexec : p.tables.exec = Jvm.exec) (hb : c.code = cc) (hdg : decode cc pc = .ok (.athrow, 1)) (k : vx_NoteN p l e R s m args below meth c H locs cells slots Q (F0 m pc ls rest)) : W p l e R s m args below meth c H locs cells slots Q (F0 m pc ls (.null :: rest)) := by
  intro T hT X
  obtain ⟨t, st, q⟩ := k T hT X
  exact ⟨t, X.athrowNull hexec (g := F0 m pc ls (.null :: rest)) rfl (rest := rest) rfl (by rw [hb]; exact hdg) t st, q⟩
end VXM2
/-! ===== END ===== -/
end
section
def RX0 : String := "SparePlanner$Batch"
def TX0 : u_T := fun k => match k with
  | 0 => ("SparePlanner$Batch", "part", "I", false)
  | 1 => ("SparePlanner$Batch", "quantity", "I", false)
  | _ => ("SparePlanner$Batch", "endDay", "I", false)
def tyX0 : Nat → FieldType := fun k => match k with
  | 0 => .int
  | 1 => .int
  | _ => .int
theorem nmX0 : ∀ a, a < 3 → ∀ b, b < 3 → a ≠ b → (TX0 a).2.1 ≠ (TX0 b).2.1 := by decide +kernel
theorem tyX0_ok : ∀ k, k < 3 → parseFieldDescriptor (TX0 k).2.2.1 = some (tyX0 k) := by decide +kernel
def RX1 : String := "SparePlanner$BatchList"
def TX1 : u_T := fun k => match k with
  | 0 => ("SparePlanner$BatchList", "batches", "[LSparePlanner$Batch;", true)
  | _ => ("SparePlanner$BatchList", "size", "I", false)
def tyX1 : Nat → FieldType := fun k => match k with
  | 0 => .array (.object "SparePlanner$Batch")
  | _ => .int
theorem nmX1 : ∀ a, a < 2 → ∀ b, b < 2 → a ≠ b → (TX1 a).2.1 ≠ (TX1 b).2.1 := by decide +kernel
theorem tyX1_ok : ∀ k, k < 2 → parseFieldDescriptor (TX1 k).2.2.1 = some (tyX1 k) := by decide +kernel
def RX2 : String := "SparePlanner$Kit"
def TX2 : u_T := fun k => match k with
  | 0 => ("SparePlanner$Kit", "itemCount", "I", false)
  | 1 => ("SparePlanner$Kit", "parts", "[I", true)
  | _ => ("SparePlanner$Kit", "quantities", "[I", true)
def tyX2 : Nat → FieldType := fun k => match k with
  | 0 => .int
  | 1 => .array .int
  | _ => .array .int
theorem nmX2 : ∀ a, a < 3 → ∀ b, b < 3 → a ≠ b → (TX2 a).2.1 ≠ (TX2 b).2.1 := by decide +kernel
theorem tyX2_ok : ∀ k, k < 3 → parseFieldDescriptor (TX2 k).2.2.1 = some (tyX2 k) := by decide +kernel
def RX3 : String := "SparePlanner$Part"
def TX3 : u_T := fun k => match k with
  | 0 => ("SparePlanner$Part", "stock", "I", false)
  | 1 => ("SparePlanner$Part", "broken", "I", false)
  | 2 => ("SparePlanner$Part", "lower", "I", false)
  | 3 => ("SparePlanner$Part", "upper", "I", false)
  | 4 => ("SparePlanner$Part", "orderLead", "I", false)
  | 5 => ("SparePlanner$Part", "repairLead", "I", false)
  | 6 => ("SparePlanner$Part", "percent", "I", false)
  | 7 => ("SparePlanner$Part", "hundredths", "I", false)
  | 8 => ("SparePlanner$Part", "requested", "I", false)
  | 9 => ("SparePlanner$Part", "servedAtOnce", "I", false)
  | 10 => ("SparePlanner$Part", "substituteCount", "I", false)
  | 11 => ("SparePlanner$Part", "substitutes", "[I", true)
  | _ => ("SparePlanner$Part", "movements", "[I", true)
def tyX3 : Nat → FieldType := fun k => match k with
  | 0 => .int
  | 1 => .int
  | 2 => .int
  | 3 => .int
  | 4 => .int
  | 5 => .int
  | 6 => .int
  | 7 => .int
  | 8 => .int
  | 9 => .int
  | 10 => .int
  | 11 => .array .int
  | _ => .array .int
theorem nmX3 : ∀ a, a < 13 → ∀ b, b < 13 → a ≠ b → (TX3 a).2.1 ≠ (TX3 b).2.1 := by decide +kernel
theorem tyX3_ok : ∀ k, k < 13 → parseFieldDescriptor (TX3 k).2.2.1 = some (tyX3 k) := by decide +kernel
def RX4 : String := "SparePlanner$Sample"
def TX4 : u_T := fun k => match k with
  | 0 => ("SparePlanner$Sample", "isFilled", "Z", false)
  | 1 => ("SparePlanner$Sample", "part", "I", false)
  | 2 => ("SparePlanner$Sample", "stock", "I", false)
  | 3 => ("SparePlanner$Sample", "position", "I", false)
  | _ => ("SparePlanner$Sample", "day", "I", false)
def tyX4 : Nat → FieldType := fun k => match k with
  | 0 => .boolean
  | 1 => .int
  | 2 => .int
  | 3 => .int
  | _ => .int
theorem nmX4 : ∀ a, a < 5 → ∀ b, b < 5 → a ≠ b → (TX4 a).2.1 ≠ (TX4 b).2.1 := by decide +kernel
theorem tyX4_ok : ∀ k, k < 5 → parseFieldDescriptor (TX4 k).2.2.1 = some (tyX4 k) := by decide +kernel
def RX5 : String := "SparePlanner$Text"
def TX5 : u_T := fun k => match k with
  | 0 => ("SparePlanner$Text", "characters", "[C", true)
  | 1 => ("SparePlanner$Text", "length", "I", false)
  | 2 => ("SparePlanner$Text", "kinds", "[I", true)
  | 3 => ("SparePlanner$Text", "numbers", "[I", true)
  | 4 => ("SparePlanner$Text", "quantities", "[I", true)
  | _ => ("SparePlanner$Text", "entryCount", "I", false)
def tyX5 : Nat → FieldType := fun k => match k with
  | 0 => .array .char
  | 1 => .int
  | 2 => .array .int
  | 3 => .array .int
  | 4 => .array .int
  | _ => .int
theorem nmX5 : ∀ a, a < 6 → ∀ b, b < 6 → a ≠ b → (TX5 a).2.1 ≠ (TX5 b).2.1 := by decide +kernel
theorem tyX5_ok : ∀ k, k < 6 → parseFieldDescriptor (TX5 k).2.2.1 = some (tyX5 k) := by decide +kernel
def RX6 : String := "SparePlanner$WaitingRequest"
def TX6 : u_T := fun k => match k with
  | 0 => ("SparePlanner$WaitingRequest", "number", "I", false)
  | 1 => ("SparePlanner$WaitingRequest", "part", "I", false)
  | 2 => ("SparePlanner$WaitingRequest", "quantity", "I", false)
  | 3 => ("SparePlanner$WaitingRequest", "missing", "I", false)
  | _ => ("SparePlanner$WaitingRequest", "day", "I", false)
def tyX6 : Nat → FieldType := fun k => match k with
  | 0 => .int
  | 1 => .int
  | 2 => .int
  | 3 => .int
  | _ => .int
theorem nmX6 : ∀ a, a < 5 → ∀ b, b < 5 → a ≠ b → (TX6 a).2.1 ≠ (TX6 b).2.1 := by decide +kernel
theorem tyX6_ok : ∀ k, k < 5 → parseFieldDescriptor (TX6 k).2.2.1 = some (tyX6 k) := by decide +kernel
def RX7 : String := "SparePlanner$World"
def TX7 : u_T := fun k => match k with
  | 0 => ("SparePlanner$World", "parts", "[LSparePlanner$Part;", true)
  | 1 => ("SparePlanner$World", "partCount", "I", false)
  | 2 => ("SparePlanner$World", "kits", "[LSparePlanner$Kit;", true)
  | 3 => ("SparePlanner$World", "kitCount", "I", false)
  | 4 => ("SparePlanner$World", "waiting", "[LSparePlanner$WaitingRequest;", true)
  | 5 => ("SparePlanner$World", "waitingCount", "I", false)
  | 6 => ("SparePlanner$World", "requestCount", "I", false)
  | 7 => ("SparePlanner$World", "repairs", "LSparePlanner$BatchList;", true)
  | 8 => ("SparePlanner$World", "orders", "LSparePlanner$BatchList;", true)
  | _ => ("SparePlanner$World", "day", "I", false)
def tyX7 : Nat → FieldType := fun k => match k with
  | 0 => .array (.object "SparePlanner$Part")
  | 1 => .int
  | 2 => .array (.object "SparePlanner$Kit")
  | 3 => .int
  | 4 => .array (.object "SparePlanner$WaitingRequest")
  | 5 => .int
  | 6 => .int
  | 7 => .object "SparePlanner$BatchList"
  | 8 => .object "SparePlanner$BatchList"
  | _ => .int
theorem nmX7 : ∀ a, a < 10 → ∀ b, b < 10 → a ≠ b → (TX7 a).2.1 ≠ (TX7 b).2.1 := by decide +kernel
theorem tyX7_ok : ∀ k, k < 10 → parseFieldDescriptor (TX7 k).2.2.1 = some (tyX7 k) := by decide +kernel
def RX8 : String := "SparePlanner"
def TX8 : u_T := fun k => match k with
  | 0 => ("SparePlanner", "world", "LSparePlanner$World;", true)
  | 1 => ("SparePlanner", "trial", "LSparePlanner$World;", true)
  | 2 => ("SparePlanner", "saved", "LSparePlanner$World;", true)
  | 3 => ("SparePlanner", "isSaved", "Z", false)
  | 4 => ("SparePlanner", "history", "[LSparePlanner$World;", true)
  | 5 => ("SparePlanner", "oldest", "I", false)
  | 6 => ("SparePlanner", "remembered", "I", false)
  | 7 => ("SparePlanner", "text", "LSparePlanner$Text;", true)
  | 8 => ("SparePlanner", "lastError", "I", false)
  | 9 => ("SparePlanner", "lastRefused", "I", false)
  | 10 => ("SparePlanner", "lastReason", "I", false)
  | 11 => ("SparePlanner", "reasonPart", "I", false)
  | 12 => ("SparePlanner", "reasonMissing", "I", false)
  | _ => ("SparePlanner", "samples", "[LSparePlanner$Sample;", true)
def tyX8 : Nat → FieldType := fun k => match k with
  | 0 => .object "SparePlanner$World"
  | 1 => .object "SparePlanner$World"
  | 2 => .object "SparePlanner$World"
  | 3 => .boolean
  | 4 => .array (.object "SparePlanner$World")
  | 5 => .int
  | 6 => .int
  | 7 => .object "SparePlanner$Text"
  | 8 => .int
  | 9 => .int
  | 10 => .int
  | 11 => .int
  | 12 => .int
  | _ => .array (.object "SparePlanner$Sample")
theorem nmX8 : ∀ a, a < 14 → ∀ b, b < 14 → a ≠ b → (TX8 a).2.1 ≠ (TX8 b).2.1 := by decide +kernel
theorem tyX8_ok : ∀ k, k < 14 → parseFieldDescriptor (TX8 k).2.2.1 = some (tyX8 k) := by decide +kernel
def RX9 : String := "SparePlannerModel"
def TX9 : u_T := fun k => match k with
  | 0 => ("SparePlannerModel", "thrown", "I", false)
  | 1 => ("SparePlannerModel", "now", "[I", true)
  | 2 => ("SparePlannerModel", "saved", "[I", true)
  | 3 => ("SparePlannerModel", "before", "[I", true)
  | 4 => ("SparePlannerModel", "history", "[[I", true)
  | 5 => ("SparePlannerModel", "remembered", "I", false)
  | 6 => ("SparePlannerModel", "isSaved", "Z", false)
  | 7 => ("SparePlannerModel", "reason", "I", false)
  | 8 => ("SparePlannerModel", "reasonPart", "I", false)
  | 9 => ("SparePlannerModel", "reasonMissing", "I", false)
  | 10 => ("SparePlannerModel", "lackingPart", "I", false)
  | 11 => ("SparePlannerModel", "lackingPieces", "I", false)
  | 12 => ("SparePlannerModel", "scratch", "[I", true)
  | 13 => ("SparePlannerModel", "samples", "[[I", true)
  | 14 => ("SparePlannerModel", "isHeld", "[Z", true)
  | 15 => ("SparePlannerModel", "text", "[C", true)
  | 16 => ("SparePlannerModel", "length", "I", false)
  | 17 => ("SparePlannerModel", "at", "I", false)
  | 18 => ("SparePlannerModel", "error", "I", false)
  | 19 => ("SparePlannerModel", "refusedEntry", "I", false)
  | _ => ("SparePlannerModel", "isWrong", "Z", false)
def tyX9 : Nat → FieldType := fun k => match k with
  | 0 => .int
  | 1 => .array .int
  | 2 => .array .int
  | 3 => .array .int
  | 4 => .array (.array .int)
  | 5 => .int
  | 6 => .boolean
  | 7 => .int
  | 8 => .int
  | 9 => .int
  | 10 => .int
  | 11 => .int
  | 12 => .array .int
  | 13 => .array (.array .int)
  | 14 => .array .boolean
  | 15 => .array .char
  | 16 => .int
  | 17 => .int
  | 18 => .int
  | 19 => .int
  | _ => .boolean
theorem nmX9 : ∀ a, a < 21 → ∀ b, b < 21 → a ≠ b → (TX9 a).2.1 ≠ (TX9 b).2.1 := by decide +kernel
theorem tyX9_ok : ∀ k, k < 21 → parseFieldDescriptor (TX9 k).2.2.1 = some (tyX9 k) := by decide +kernel
abbrev cls : List vw_C := [(RX0, TX0, 3), (RX1, TX1, 2), (RX2, TX2, 3), (RX3, TX3, 13), (RX4, TX4, 5), (RX5, TX5, 6), (RX6, TX6, 5), (RX7, TX7, 10), (RX8, TX8, 14), (RX9, TX9, 21)]
def fty : Nat → Nat → FieldType := fun ci => match ci with
  | 0 => tyX0
  | 1 => tyX1
  | 2 => tyX2
  | 3 => tyX3
  | 4 => tyX4
  | 5 => tyX5
  | 6 => tyX6
  | 7 => tyX7
  | 8 => tyX8
  | _ => tyX9
def TB : List Cond := lw_tbl.filter goodWord
theorem TB_m {w : Cond} (i : Nat) (h : lw_tbl[i]? = some w) (g : goodWord w = true) : w ∈ TB := List.mem_filter.mpr ⟨List.mem_of_getElem? h, g⟩
theorem inX0 : ∀ w ∈ u_ws RX0 TX0 3, w ∈ TB := by
  intro w hw
  have h : (u_ws RX0 TX0 3).all (fun w => decide (w ∈ lw_tbl) && goodWord w) = true := by decide +kernel
  have h1 := List.all_eq_true.mp h w hw
  simp only [Bool.and_eq_true, decide_eq_true_eq] at h1
  exact List.mem_filter.mpr h1
theorem inX1 : ∀ w ∈ u_ws RX1 TX1 2, w ∈ TB := by
  intro w hw
  have h : (u_ws RX1 TX1 2).all (fun w => decide (w ∈ lw_tbl) && goodWord w) = true := by decide +kernel
  have h1 := List.all_eq_true.mp h w hw
  simp only [Bool.and_eq_true, decide_eq_true_eq] at h1
  exact List.mem_filter.mpr h1
theorem inX2 : ∀ w ∈ u_ws RX2 TX2 3, w ∈ TB := by
  intro w hw
  have h : (u_ws RX2 TX2 3).all (fun w => decide (w ∈ lw_tbl) && goodWord w) = true := by decide +kernel
  have h1 := List.all_eq_true.mp h w hw
  simp only [Bool.and_eq_true, decide_eq_true_eq] at h1
  exact List.mem_filter.mpr h1
theorem inX3 : ∀ w ∈ u_ws RX3 TX3 13, w ∈ TB := by
  intro w hw
  have h : (u_ws RX3 TX3 13).all (fun w => decide (w ∈ lw_tbl) && goodWord w) = true := by decide +kernel
  have h1 := List.all_eq_true.mp h w hw
  simp only [Bool.and_eq_true, decide_eq_true_eq] at h1
  exact List.mem_filter.mpr h1
theorem inX4 : ∀ w ∈ u_ws RX4 TX4 5, w ∈ TB := by
  intro w hw
  have h : (u_ws RX4 TX4 5).all (fun w => decide (w ∈ lw_tbl) && goodWord w) = true := by decide +kernel
  have h1 := List.all_eq_true.mp h w hw
  simp only [Bool.and_eq_true, decide_eq_true_eq] at h1
  exact List.mem_filter.mpr h1
theorem inX5 : ∀ w ∈ u_ws RX5 TX5 6, w ∈ TB := by
  intro w hw
  have h : (u_ws RX5 TX5 6).all (fun w => decide (w ∈ lw_tbl) && goodWord w) = true := by decide +kernel
  have h1 := List.all_eq_true.mp h w hw
  simp only [Bool.and_eq_true, decide_eq_true_eq] at h1
  exact List.mem_filter.mpr h1
theorem inX6 : ∀ w ∈ u_ws RX6 TX6 5, w ∈ TB := by
  intro w hw
  have h : (u_ws RX6 TX6 5).all (fun w => decide (w ∈ lw_tbl) && goodWord w) = true := by decide +kernel
  have h1 := List.all_eq_true.mp h w hw
  simp only [Bool.and_eq_true, decide_eq_true_eq] at h1
  exact List.mem_filter.mpr h1
theorem inX7 : ∀ w ∈ u_ws RX7 TX7 10, w ∈ TB := by
  intro w hw
  have h : (u_ws RX7 TX7 10).all (fun w => decide (w ∈ lw_tbl) && goodWord w) = true := by decide +kernel
  have h1 := List.all_eq_true.mp h w hw
  simp only [Bool.and_eq_true, decide_eq_true_eq] at h1
  exact List.mem_filter.mpr h1
theorem inX8 : ∀ w ∈ u_ws RX8 TX8 14, w ∈ TB := by
  intro w hw
  have h : (u_ws RX8 TX8 14).all (fun w => decide (w ∈ lw_tbl) && goodWord w) = true := by decide +kernel
  have h1 := List.all_eq_true.mp h w hw
  simp only [Bool.and_eq_true, decide_eq_true_eq] at h1
  exact List.mem_filter.mpr h1
theorem inX9 : ∀ w ∈ u_ws RX9 TX9 21, w ∈ TB := by
  intro w hw
  have h : (u_ws RX9 TX9 21).all (fun w => decide (w ∈ lw_tbl) && goodWord w) = true := by decide +kernel
  have h1 := List.all_eq_true.mp h w hw
  simp only [Bool.and_eq_true, decide_eq_true_eq] at h1
  exact List.mem_filter.mpr h1
def NESTS : List (String × Nat × MethodName) := [("SparePlanner$BatchList", 17, ({ cls := "SparePlanner$Batch", name := "<init>", desc := "()V" } : MethodName)), ("SparePlanner$World", 39, ({ cls := "SparePlanner$Part", name := "<init>", desc := "()V" } : MethodName)), ("SparePlanner$World", 40, ({ cls := "SparePlanner$Kit", name := "<init>", desc := "()V" } : MethodName)), ("SparePlanner$World", 41, ({ cls := "SparePlanner$WaitingRequest", name := "<init>", desc := "()V" } : MethodName)), ("SparePlanner", 28, ({ cls := "SparePlanner$Text", name := "<init>", desc := "()V" } : MethodName)), ("SparePlanner", 49, ({ cls := "SparePlanner$Sample", name := "<init>", desc := "()V" } : MethodName))]
def AOS : List String := ["SparePlanner$Part", "SparePlanner$Kit", "SparePlanner$WaitingRequest", "SparePlanner$Batch", "SparePlanner$World", "SparePlanner$Sample"]
def STRS : List (String × Nat × String) := [("SparePlanner", 437, "a number is out of range"), ("SparePlanner", 65, "there are 8 parts"), ("SparePlanner", 428, "there is no such part"), ("SparePlanner", 98, "a part is no substitute of itself"), ("SparePlanner", 108, "the part has 4 substitutes or has this one"), ("SparePlanner", 115, "the part has no such substitute"), ("SparePlanner", 126, "there is no such kit, nor is it the next one"), ("SparePlanner", 129, "there are 4 kits"), ("SparePlanner", 141, "the kit has 4 items or has this part"), ("SparePlanner", 172, "what is not 0 to 7"), ("SparePlanner", 192, "what is not 0 to 9"), ("SparePlanner", 194, "there is no such substitute"), ("SparePlanner", 433, "there is no such kit"), ("SparePlanner", 206, "there is no such item"), ("SparePlanner", 217, "12 requests wait"), ("SparePlanner", 435, "there is nothing with this index"), ("SparePlanner", 255, "what is not 0 to 4"), ("SparePlanner", 268, "an item cannot be served"), ("SparePlanner", 281, "there are not so many broken pieces"), ("SparePlanner", 283, "12 repairs are under way"), ("SparePlanner", 316, "no pieces of the part were requested"), ("SparePlanner", 334, "no pieces were requested"), ("SparePlanner", 350, "no such reason was kept"), ("SparePlanner", 361, "shelf 0 does not hold this part"), ("SparePlanner", 376, "the place is empty"), ("SparePlanner", 381, "the input has 60 characters"), ("SparePlanner", 390, "the input is no text"), ("SparePlanner", 406, "an entry is refused"), ("SparePlanner", 408, "no error position was kept"), ("SparePlanner", 410, "no refused entry was kept"), ("SparePlanner", 415, "no change is remembered"), ("SparePlanner", 423, "nothing was saved")]
def NCS : List (String × String) := [("java/lang/IndexOutOfBoundsException", "java/lang/IllegalArgumentException"), ("java/lang/IndexOutOfBoundsException", "java/lang/IllegalStateException"), ("java/lang/IndexOutOfBoundsException", "java/util/NoSuchElementException"), ("java/lang/IndexOutOfBoundsException", "java/lang/UnsupportedOperationException"), ("java/lang/IndexOutOfBoundsException", "java/lang/ArithmeticException"), ("java/lang/IllegalArgumentException", "java/lang/IndexOutOfBoundsException"), ("java/lang/IllegalArgumentException", "java/lang/IllegalStateException"), ("java/lang/IllegalArgumentException", "java/util/NoSuchElementException"), ("java/lang/IllegalArgumentException", "java/lang/UnsupportedOperationException"), ("java/lang/IllegalArgumentException", "java/lang/ArithmeticException"), ("java/lang/IllegalStateException", "java/lang/IndexOutOfBoundsException"), ("java/lang/IllegalStateException", "java/lang/IllegalArgumentException"), ("java/lang/IllegalStateException", "java/util/NoSuchElementException"), ("java/lang/IllegalStateException", "java/lang/UnsupportedOperationException"), ("java/lang/IllegalStateException", "java/lang/ArithmeticException"), ("java/util/NoSuchElementException", "java/lang/IndexOutOfBoundsException"), ("java/util/NoSuchElementException", "java/lang/IllegalArgumentException"), ("java/util/NoSuchElementException", "java/lang/IllegalStateException"), ("java/util/NoSuchElementException", "java/lang/UnsupportedOperationException"), ("java/util/NoSuchElementException", "java/lang/ArithmeticException"), ("java/lang/UnsupportedOperationException", "java/lang/IndexOutOfBoundsException"), ("java/lang/UnsupportedOperationException", "java/lang/IllegalArgumentException"), ("java/lang/UnsupportedOperationException", "java/lang/IllegalStateException"), ("java/lang/UnsupportedOperationException", "java/util/NoSuchElementException"), ("java/lang/UnsupportedOperationException", "java/lang/ArithmeticException"), ("java/lang/ArithmeticException", "java/lang/IndexOutOfBoundsException"), ("java/lang/ArithmeticException", "java/lang/IllegalArgumentException"), ("java/lang/ArithmeticException", "java/lang/IllegalStateException"), ("java/lang/ArithmeticException", "java/util/NoSuchElementException"), ("java/lang/ArithmeticException", "java/lang/UnsupportedOperationException")]
def ATY : List (Nat × FieldType) := [(20, .int), (21, .boolean), (22, .char), (23, .long), (24, .double), (25, .array .int), (30, .object RX0), (32, .object RX2), (33, .object RX3), (34, .object RX4), (36, .object RX6), (37, .object RX7)]
end
section
section BASE
set_option maxHeartbeats 1000000 in
theorem TB_good : TB.all goodWord = true := by
  unfold TB
  exact List.all_eq_true.mpr (fun w hw => (List.mem_filter.mp hw).2)
/-- the abstract heap: the next address; an address's kind and length; ints, references (0: null), longs, doubles by address and place -/
abbrev Hp : Type := Nat × (Nat → Nat × Nat) × (Nat → Nat → Int32) × (Nat → Nat → Nat) × (Nat → Nat → Int64) × (Nat → Nat → UInt64)
def hn (h : Hp) : Nat := h.1
def hs (h : Hp) (a : Nat) : Nat × Nat := h.2.1 a
def hI (h : Hp) (a : Nat) : Nat → Int32 := h.2.2.1 a
def hR (h : Hp) (a : Nat) : Nat → Nat := h.2.2.2.1 a
def hL (h : Hp) (a : Nat) : Nat → Int64 := h.2.2.2.2.1 a
def hD (h : Hp) (a : Nat) : Nat → UInt64 := h.2.2.2.2.2 a
def u2 {α : Type} (f : Nat → Nat → α) (a k : Nat) (x : α) : Nat → Nat → α := fun b j => if b = a then (if j = k then x else f b j) else f b j
def z2 {α : Type} (f : Nat → Nat → α) (a : Nat) (x : α) : Nat → Nat → α := fun b j => if b = a then x else f b j
def wI (h : Hp) (a k : Nat) (x : Int32) : Hp := (h.1, h.2.1, u2 h.2.2.1 a k x, h.2.2.2)
def wR (h : Hp) (a k : Nat) (x : Nat) : Hp := (h.1, h.2.1, h.2.2.1, u2 h.2.2.2.1 a k x, h.2.2.2.2)
def wL (h : Hp) (a k : Nat) (x : Int64) : Hp := (h.1, h.2.1, h.2.2.1, h.2.2.2.1, u2 h.2.2.2.2.1 a k x, h.2.2.2.2.2)
def wD (h : Hp) (a k : Nat) (x : UInt64) : Hp := (h.1, h.2.1, h.2.2.1, h.2.2.2.1, h.2.2.2.2.1, u2 h.2.2.2.2.2 a k x)
/-- a new thing at the next address, of kind and length q, all its places 0 -/
def al (h : Hp) (q : Nat × Nat) : Hp := (h.1 + 1, (fun b => if b = h.1 then q else h.2.1 b), z2 h.2.2.1 h.1 0, z2 h.2.2.2.1 h.1 0, z2 h.2.2.2.2.1 h.1 0, z2 h.2.2.2.2.2 h.1 0)
def hxn (h : Hp) (n : Nat) : Hp := (n, h.2)
/-- n numbers of the ints copied from a at sp to b at dp -/
def cpI (h : Hp) (a sp b dp n : Nat) : Hp := (h.1, h.2.1, (fun x => if x = b then va_cpy (h.2.2.1 a) (h.2.2.1 b) sp dp n else h.2.2.1 x), h.2.2.2)
def ro (r : Nat) : Option Nat := if r = 0 then none else some r
theorem ro_ne {r : Nat} (h : r ≠ 0) : va_rf (ro r) = .ref r := by unfold ro; rw [if_neg h]; rfl
/-- the same at b -/
def ag (h h' : Hp) (b : Nat) : Prop := hs h' b = hs h b ∧ hI h' b = hI h b ∧ hR h' b = hR h b ∧ hL h' b = hL h b ∧ hD h' b = hD h b
theorem ag_wI {h : Hp} {a k b : Nat} {x : Int32} (hb : b ≠ a) : ag h (wI h a k x) b := ⟨rfl, funext fun j => if_neg hb, rfl, rfl, rfl⟩
theorem ag_wR {h : Hp} {a k b : Nat} {x : Nat} (hb : b ≠ a) : ag h (wR h a k x) b := ⟨rfl, rfl, funext fun j => if_neg hb, rfl, rfl⟩
theorem ag_wL {h : Hp} {a k b : Nat} {x : Int64} (hb : b ≠ a) : ag h (wL h a k x) b := ⟨rfl, rfl, rfl, funext fun j => if_neg hb, rfl⟩
theorem ag_wD {h : Hp} {a k b : Nat} {x : UInt64} (hb : b ≠ a) : ag h (wD h a k x) b := ⟨rfl, rfl, rfl, rfl, funext fun j => if_neg hb⟩
theorem ag_cpI {h : Hp} {a sp c dp n b : Nat} (hb : b ≠ c) : ag h (cpI h a sp c dp n) b := ⟨rfl, if_neg hb, rfl, rfl, rfl⟩
theorem ag_al {h : Hp} {q : Nat × Nat} {b : Nat} (hb : b ≠ hn h) : ag h (al h q) b := ⟨if_neg hb, funext fun j => if_neg hb, funext fun j => if_neg hb, funext fun j => if_neg hb, funext fun j => if_neg hb⟩
def fv (h : Hp) (ci a j : Nat) : Value := match fty ci j with
  | .object _ => va_rf (ro (hR h a j))
  | .array _ => va_rf (ro (hR h a j))
  | _ => .int (hI h a j)
def av (h : Hp) (k a j : Nat) : Value := if k ≤ 22 then .int (hI h a j) else if k = 23 then .long (hL h a j) else if k = 24 then .double (hD h a j) else va_rf (ro (hR h a j))
/-- the cell at a is as the abstract heap says -/
def CellOk (D : va_G) (dA : Nat → ClassId) (h : Hp) (H : Heap) (a : Nat) : Prop :=
  if (hs h a).1 < 20 then (∃ q : vw_C, cls[(hs h a).1 - 1]? = some q ∧ q.2.2 = (hs h a).2 ∧ t_OB a (D.1 ((hs h a).1 - 1)) (hs h a).2 (D.2 ((hs h a).1 - 1)) H (fun j => fv h ((hs h a).1 - 1) a j))
  else H[a]? = some (arrV (dA (hs h a).1) (hs h a).2 (fun j => av h (hs h a).1 a j))
theorem fv_ag {h h' : Hp} {b : Nat} (g : ag h h' b) (ci j : Nat) : fv h' ci b j = fv h ci b j := by
  obtain ⟨g1, g2, g3, g4, g5⟩ := g
  unfold fv; rw [g2, g3]
theorem av_ag {h h' : Hp} {b : Nat} (g : ag h h' b) (k j : Nat) : av h' k b j = av h k b j := by
  obtain ⟨g1, g2, g3, g4, g5⟩ := g
  unfold av; rw [g2, g3, g4, g5]
theorem CellOk.kept {D : va_G} {dA : Nat → ClassId} {h h' : Hp} {H H' : Heap} {a : Nat} (g : ag h h' a) (e : H'[a]? = H[a]?) (k : CellOk D dA h H a) : CellOk D dA h' H' a := by
  have gs := g.1
  unfold CellOk at k ⊢
  rw [gs]
  split
  · rename_i hk
    rw [if_pos hk] at k
    obtain ⟨q, h1, h2, h3⟩ := k
    exact ⟨q, h1, h2, (h3.kept e).to (fun j _ => (fv_ag g _ j).symm)⟩
  · rename_i hk
    rw [if_neg hk] at k
    rw [e, k]
    congr 2
    funext j
    exact (av_ag g _ j).symm
def Rp (D : va_G) (dA : Nat → ClassId) (A : Nat → Prop) (H : Heap) (h : Hp) : Prop := H.size = hn h ∧ ∀ a, (hs h a).1 ≠ 0 → A a ∧ a < H.size ∧ CellOk D dA h H a
theorem Rp.set {D : va_G} {dA : Nat → ClassId} {A : Nat → Prop} {h h' : Hp} {H H' : Heap} {a0 : Nat} (R0 : Rp D dA A H h) (z : H'.size = H.size) (oq : ∀ q : Nat, q ≠ a0 → H'[q]? = H[q]?) (hn' : hn h' = hn h) (hs' : hs h' a0 = hs h a0) (g : ∀ b, b ≠ a0 → ag h h' b) (hc : CellOk D dA h' H' a0) : Rp D dA A H' h' := by
  refine ⟨by rw [z, hn']; exact R0.1, fun a ha => ?_⟩
  by_cases e : a = a0
  · subst e
    rw [hs'] at ha
    obtain ⟨h1, h2, -⟩ := R0.2 a ha
    exact ⟨h1, by rw [z]; exact h2, hc⟩
  · have ga := g a e
    rw [ga.1] at ha
    obtain ⟨h1, h2, h3⟩ := R0.2 a ha
    exact ⟨h1, by rw [z]; exact h2, h3.kept ga (oq a e)⟩
theorem Rp.push {D : va_G} {dA : Nat → ClassId} {A : Nat → Prop} {h : Hp} {q : Nat × Nat} {H H' : Heap} (R0 : Rp D dA A H h) (z : H'.size = H.size + 1) (oq : ∀ q : Nat, q < H.size → H'[q]? = H[q]?) (hA : A (hn h)) (hc : CellOk D dA (al h q) H' (hn h)) : Rp D dA A H' (al h q) := by
  refine ⟨by rw [z, R0.1]; rfl, fun a ha => ?_⟩
  by_cases e : a = hn h
  · subst e
    exact ⟨hA, by rw [z, R0.1]; exact Nat.lt_succ_self _, hc⟩
  · have ga := ag_al (q := q) e
    rw [ga.1] at ha
    obtain ⟨h1, h2, h3⟩ := R0.2 a ha
    exact ⟨h1, by rw [z]; exact Nat.lt_succ_of_lt h2, h3.kept ga (oq a h2)⟩
theorem Rp.grow {D : va_G} {dA : Nat → ClassId} {A : Nat → Prop} {h : Hp} {H H' : Heap} (R0 : Rp D dA A H h) (z : H.size ≤ H'.size) (oq : ∀ q : Nat, q < H.size → H'[q]? = H[q]?) : Rp D dA A H' (hxn h H'.size) := by
  refine ⟨rfl, fun a ha => ?_⟩
  obtain ⟨h1, h2, h3⟩ := R0.2 a ha
  exact ⟨h1, Nat.lt_of_lt_of_le h2 z, h3.kept (h' := hxn h H'.size) ⟨rfl, rfl, rfl, rfl, rfl⟩ (oq a h2)⟩
/-- what a method may write -/
def Af (h : Hp) : Nat → Prop := fun q => (hs h q).1 ≠ 0 ∨ hn h ≤ q
/-- words of the start that no list of good words carries -/
def NBk (s : State) : Prop := (∀ q ∈ NESTS, va_Nw (.methodLinkNest q.1 q.2.1 q.2.2 "SparePlanner") s) ∧ (∀ C ∈ AOS, va_AO C s) ∧ (∀ q ∈ STRS, ∃ sa, vk_R q.1 q.2.1 q.2.2 sa s) ∧ (∀ q ∈ NCS, va_Nc q.1 q.2 s) ∧ (Cond.arrayOver (.array .int)).before #[] s = true
def tysOf (dA : Nat → ClassId) : List (ClassId × FieldType) := ATY.map (fun q => (dA q.1, q.2))
def Wd (D : va_G) (dA : Nat → ClassId) (A : Nat → Prop) (s : State) : Prop := va_K D cls (tysOf dA) s ∧ NBk s ∧ vx_Zq Bundle.tN "UNASSIGNED_STACK" Bundle.steD A s s.heap ∧ vx_Zq Bundle.tN "SUPPRESSED_SENTINEL" Bundle.listD A s s.heap ∧ ¬ A 0
/-- the machine's side of a frame -/
abbrev ME : Type := Program × Launch × Env × Room × State × MethodId × Array Value × List Frame × Method × Code × (State → Prop) × va_G × (Nat → ClassId) × (Nat → Prop)
abbrev LV : Type := List (Nat × Value)
abbrev FT : Type := LV → List Value → Hp → Nat × Nat → Prop
def EnvOk (E : ME) (own : String) (cc : ByteArray) (nL : Nat) (rm : Room) : Prop := match E with
  | (p, l, _, R, s, m, args, _, meth, c, _, D, dA, A) => p.tables.exec = Jvm.exec ∧ c.code = cc ∧ c.maxLocals = nL ∧ s.vm.findClass own = some m.cls ∧ (∀ w ∈ TB, w.before args s = true) ∧ meth.locks = false ∧ R = rm ∧ Wd D dA A s ∧ (∀ q, s.heap.size ≤ q → A q) ∧ l.stackTraces = false
/-- the frame at pc with these locals and this stack comes to the end, wherever the abstract heap h is what lies there -/
def G (E : ME) (pc : Nat) : FT := fun L S h u => match E with
  | (p, l, e, R, s, m, args, below, meth, c, Qm, D, dA, A) => ∀ (H : Heap) (locs : List Loc) (cells slots : Nat) (ls : Array Slot), lv_has ls c.maxLocals L → Rp D dA A H h → va_S A s.heap H locs → cells ≤ u.1 → slots ≤ u.2 → W p l e R s m args below meth c H locs cells slots Qm (F0 m pc ls S)
def At (E : ME) (pc : Nat) (f : FT) : Prop := ∀ L S h u, f L S h u → G E pc L S h u
theorem At_G (E : ME) (pc : Nat) : At E pc (G E pc) := fun _ _ _ _ h => h
def lget (L : LV) (i : Nat) : Option Value := (L.find? (fun q => q.1 == i)).map (fun q => q.2)
theorem lget_at {ls : Array Slot} {nL : Nat} {L : LV} {i : Nat} {v : Value} (h : lv_has ls nL L) (e : lget L i = some v) : ls[i]? = some (.val v) := by
  unfold lget at e
  cases hq : L.find? (fun q => q.1 == i) with
  | none => rw [hq] at e; cases e
  | some q =>
    rw [hq] at e
    have e2 : q.2 = v := Option.some.inj e
    have h1 := List.find?_some hq
    have h2 := List.mem_of_find?_eq_some hq
    have h3 := h.2.2 q h2
    have h4 : q.1 = i := by simpa using h1
    rw [h4, e2] at h3
    exact h3
def lset1 (L : LV) (i : Nat) (v : Value) : LV := (i, v) :: L.filter (fun q => !(q.1 == i) && !(q.1 + 1 == i && q.2.category == 2))
def lset2 (L : LV) (i : Nat) (v : Value) : LV := (i, v) :: L.filter (fun q => !(q.1 == i) && (!(q.1 == i + 1) && !(q.1 + 1 == i && q.2.category == 2)))
def o_iload (i : Nat) (f : FT) : FT := fun L S h u => match lget L i with
  | some (.int x) => f L (.int x :: S) h u
  | _ => False
theorem r_iload {E : ME} {own : String} {cc : ByteArray} {nL : Nat} {rm : Room} (hE : EnvOk E own cc nL rm) {pc : Nat} {f : FT} {i : Nat} (d : decode cc pc = .ok (.iload i, 2)) (hf : At E (pc + 2) f) : At E pc (o_iload i f) := by
  intro L S h u q
  obtain ⟨p, l, e, R, s, m, args, below, meth, c, Qm, D, dA, A⟩ := E
  obtain ⟨kx, kb, kl, kown, kts, klk, kR, kW, kA, kst⟩ := hE
  unfold o_iload at q
  split at q
  · rename_i x hx
    intro H locs cells slots ls yl yR yS yc ys
    exact lv_iload kx kb d (lget_at yl hx) (hf _ _ _ _ q H locs cells slots ls yl yR yS yc ys)
  · exact q.elim
theorem r_iload_n {E : ME} {own : String} {cc : ByteArray} {nL : Nat} {rm : Room} (hE : EnvOk E own cc nL rm) {pc : Nat} {f : FT} {k : Fin 4} {i : Nat} (hi : (k : Nat) = i) (d : decode cc pc = .ok (.iload_n k, 1)) (hf : At E (pc + 1) f) : At E pc (o_iload i f) := by
  intro L S h u q
  obtain ⟨p, l, e, R, s, m, args, below, meth, c, Qm, D, dA, A⟩ := E
  obtain ⟨kx, kb, kl, kown, kts, klk, kR, kW, kA, kst⟩ := hE
  unfold o_iload at q
  split at q
  · rename_i x hx
    intro H locs cells slots ls yl yR yS yc ys
    exact lv_iload_n kx kb d hi (lget_at yl hx) (hf _ _ _ _ q H locs cells slots ls yl yR yS yc ys)
  · exact q.elim
def o_aload (i : Nat) (f : FT) : FT := fun L S h u => match lget L i with
  | some (.ref x) => f L (.ref x :: S) h u
  | _ => False
theorem r_aload {E : ME} {own : String} {cc : ByteArray} {nL : Nat} {rm : Room} (hE : EnvOk E own cc nL rm) {pc : Nat} {f : FT} {i : Nat} (d : decode cc pc = .ok (.aload i, 2)) (hf : At E (pc + 2) f) : At E pc (o_aload i f) := by
  intro L S h u q
  obtain ⟨p, l, e, R, s, m, args, below, meth, c, Qm, D, dA, A⟩ := E
  obtain ⟨kx, kb, kl, kown, kts, klk, kR, kW, kA, kst⟩ := hE
  unfold o_aload at q
  split at q
  · rename_i x hx
    intro H locs cells slots ls yl yR yS yc ys
    exact lv_aload kx kb d (lget_at yl hx) (hf _ _ _ _ q H locs cells slots ls yl yR yS yc ys)
  · exact q.elim
theorem r_aload_n {E : ME} {own : String} {cc : ByteArray} {nL : Nat} {rm : Room} (hE : EnvOk E own cc nL rm) {pc : Nat} {f : FT} {k : Fin 4} {i : Nat} (hi : (k : Nat) = i) (d : decode cc pc = .ok (.aload_n k, 1)) (hf : At E (pc + 1) f) : At E pc (o_aload i f) := by
  intro L S h u q
  obtain ⟨p, l, e, R, s, m, args, below, meth, c, Qm, D, dA, A⟩ := E
  obtain ⟨kx, kb, kl, kown, kts, klk, kR, kW, kA, kst⟩ := hE
  unfold o_aload at q
  split at q
  · rename_i x hx
    intro H locs cells slots ls yl yR yS yc ys
    exact lv_aload_n kx kb d hi (lget_at yl hx) (hf _ _ _ _ q H locs cells slots ls yl yR yS yc ys)
  · exact q.elim
def o_fload (i : Nat) (f : FT) : FT := fun L S h u => match lget L i with
  | some (.float x) => f L (.float x :: S) h u
  | _ => False
theorem r_fload {E : ME} {own : String} {cc : ByteArray} {nL : Nat} {rm : Room} (hE : EnvOk E own cc nL rm) {pc : Nat} {f : FT} {i : Nat} (d : decode cc pc = .ok (.fload i, 2)) (hf : At E (pc + 2) f) : At E pc (o_fload i f) := by
  intro L S h u q
  obtain ⟨p, l, e, R, s, m, args, below, meth, c, Qm, D, dA, A⟩ := E
  obtain ⟨kx, kb, kl, kown, kts, klk, kR, kW, kA, kst⟩ := hE
  unfold o_fload at q
  split at q
  · rename_i x hx
    intro H locs cells slots ls yl yR yS yc ys
    exact lv_fload kx kb d (lget_at yl hx) (hf _ _ _ _ q H locs cells slots ls yl yR yS yc ys)
  · exact q.elim
theorem r_fload_n {E : ME} {own : String} {cc : ByteArray} {nL : Nat} {rm : Room} (hE : EnvOk E own cc nL rm) {pc : Nat} {f : FT} {k : Fin 4} {i : Nat} (hi : (k : Nat) = i) (d : decode cc pc = .ok (.fload_n k, 1)) (hf : At E (pc + 1) f) : At E pc (o_fload i f) := by
  intro L S h u q
  obtain ⟨p, l, e, R, s, m, args, below, meth, c, Qm, D, dA, A⟩ := E
  obtain ⟨kx, kb, kl, kown, kts, klk, kR, kW, kA, kst⟩ := hE
  unfold o_fload at q
  split at q
  · rename_i x hx
    intro H locs cells slots ls yl yR yS yc ys
    exact lv_fload_n kx kb d hi (lget_at yl hx) (hf _ _ _ _ q H locs cells slots ls yl yR yS yc ys)
  · exact q.elim
def o_dload (i : Nat) (f : FT) : FT := fun L S h u => match lget L i with
  | some (.double x) => f L (.double x :: S) h u
  | _ => False
theorem r_dload {E : ME} {own : String} {cc : ByteArray} {nL : Nat} {rm : Room} (hE : EnvOk E own cc nL rm) {pc : Nat} {f : FT} {i : Nat} (d : decode cc pc = .ok (.dload i, 2)) (hf : At E (pc + 2) f) : At E pc (o_dload i f) := by
  intro L S h u q
  obtain ⟨p, l, e, R, s, m, args, below, meth, c, Qm, D, dA, A⟩ := E
  obtain ⟨kx, kb, kl, kown, kts, klk, kR, kW, kA, kst⟩ := hE
  unfold o_dload at q
  split at q
  · rename_i x hx
    intro H locs cells slots ls yl yR yS yc ys
    exact lv_dload kx kb d (lget_at yl hx) (hf _ _ _ _ q H locs cells slots ls yl yR yS yc ys)
  · exact q.elim
theorem r_dload_n {E : ME} {own : String} {cc : ByteArray} {nL : Nat} {rm : Room} (hE : EnvOk E own cc nL rm) {pc : Nat} {f : FT} {k : Fin 4} {i : Nat} (hi : (k : Nat) = i) (d : decode cc pc = .ok (.dload_n k, 1)) (hf : At E (pc + 1) f) : At E pc (o_dload i f) := by
  intro L S h u q
  obtain ⟨p, l, e, R, s, m, args, below, meth, c, Qm, D, dA, A⟩ := E
  obtain ⟨kx, kb, kl, kown, kts, klk, kR, kW, kA, kst⟩ := hE
  unfold o_dload at q
  split at q
  · rename_i x hx
    intro H locs cells slots ls yl yR yS yc ys
    exact lv_dload_n kx kb d hi (lget_at yl hx) (hf _ _ _ _ q H locs cells slots ls yl yR yS yc ys)
  · exact q.elim
def o_lload (i : Nat) (f : FT) : FT := fun L S h u => match lget L i with
  | some (.long x) => f L (.long x :: S) h u
  | _ => False
theorem r_lload {E : ME} {own : String} {cc : ByteArray} {nL : Nat} {rm : Room} (hE : EnvOk E own cc nL rm) {pc : Nat} {f : FT} {i : Nat} (d : decode cc pc = .ok (.lload i, 2)) (hf : At E (pc + 2) f) : At E pc (o_lload i f) := by
  intro L S h u q
  obtain ⟨p, l, e, R, s, m, args, below, meth, c, Qm, D, dA, A⟩ := E
  obtain ⟨kx, kb, kl, kown, kts, klk, kR, kW, kA, kst⟩ := hE
  unfold o_lload at q
  split at q
  · rename_i x hx
    intro H locs cells slots ls yl yR yS yc ys
    exact lv_lload kx kb d (lget_at yl hx) (hf _ _ _ _ q H locs cells slots ls yl yR yS yc ys)
  · exact q.elim
theorem r_lload_n {E : ME} {own : String} {cc : ByteArray} {nL : Nat} {rm : Room} (hE : EnvOk E own cc nL rm) {pc : Nat} {f : FT} {k : Fin 4} {i : Nat} (hi : (k : Nat) = i) (d : decode cc pc = .ok (.lload_n k, 1)) (hf : At E (pc + 1) f) : At E pc (o_lload i f) := by
  intro L S h u q
  obtain ⟨p, l, e, R, s, m, args, below, meth, c, Qm, D, dA, A⟩ := E
  obtain ⟨kx, kb, kl, kown, kts, klk, kR, kW, kA, kst⟩ := hE
  unfold o_lload at q
  split at q
  · rename_i x hx
    intro H locs cells slots ls yl yR yS yc ys
    exact lv_lload_n kx kb d hi (lget_at yl hx) (hf _ _ _ _ q H locs cells slots ls yl yR yS yc ys)
  · exact q.elim
def o_istore (i : Nat) (f : FT) : FT := fun L S h u => match S with
  | .int x :: S => f (lset1 L i (.int x)) S h u
  | _ => False
theorem r_istore {E : ME} {own : String} {cc : ByteArray} {nL : Nat} {rm : Room} (hE : EnvOk E own cc nL rm) {pc : Nat} {f : FT} {i : Nat} (d : decode cc pc = .ok (.istore i, 2)) (hn : i < nL) (hf : At E (pc + 2) f) : At E pc (o_istore i f) := by
  intro L S h u q
  obtain ⟨p, l, e, R, s, m, args, below, meth, c, Qm, D, dA, A⟩ := E
  obtain ⟨kx, kb, kl, kown, kts, klk, kR, kW, kA, kst⟩ := hE
  unfold o_istore at q
  split at q
  · rename_i x S
    intro H locs cells slots ls yl yR yS yc ys
    exact lv_istore kx kb d yl (by rw [kl]; exact hn) rfl (fun ls' yl' => hf _ _ _ _ q H locs cells slots ls' yl' yR yS yc ys)
  · exact q.elim
theorem r_istore_n {E : ME} {own : String} {cc : ByteArray} {nL : Nat} {rm : Room} (hE : EnvOk E own cc nL rm) {pc : Nat} {f : FT} {k : Fin 4} {i : Nat} (hi : (k : Nat) = i) (d : decode cc pc = .ok (.istore_n k, 1)) (hn : i < nL) (hf : At E (pc + 1) f) : At E pc (o_istore i f) := by
  intro L S h u q
  obtain ⟨p, l, e, R, s, m, args, below, meth, c, Qm, D, dA, A⟩ := E
  obtain ⟨kx, kb, kl, kown, kts, klk, kR, kW, kA, kst⟩ := hE
  unfold o_istore at q
  split at q
  · rename_i x S
    intro H locs cells slots ls yl yR yS yc ys
    exact lv_istore_n kx kb d hi yl (by rw [kl]; exact hn) rfl (fun ls' yl' => hf _ _ _ _ q H locs cells slots ls' yl' yR yS yc ys)
  · exact q.elim
def o_astore (i : Nat) (f : FT) : FT := fun L S h u => match S with
  | .ref x :: S => f (lset1 L i (.ref x)) S h u
  | _ => False
theorem r_astore {E : ME} {own : String} {cc : ByteArray} {nL : Nat} {rm : Room} (hE : EnvOk E own cc nL rm) {pc : Nat} {f : FT} {i : Nat} (d : decode cc pc = .ok (.astore i, 2)) (hn : i < nL) (hf : At E (pc + 2) f) : At E pc (o_astore i f) := by
  intro L S h u q
  obtain ⟨p, l, e, R, s, m, args, below, meth, c, Qm, D, dA, A⟩ := E
  obtain ⟨kx, kb, kl, kown, kts, klk, kR, kW, kA, kst⟩ := hE
  unfold o_astore at q
  split at q
  · rename_i x S
    intro H locs cells slots ls yl yR yS yc ys
    exact lv_astore kx kb d yl (by rw [kl]; exact hn) rfl (fun ls' yl' => hf _ _ _ _ q H locs cells slots ls' yl' yR yS yc ys)
  · exact q.elim
theorem r_astore_n {E : ME} {own : String} {cc : ByteArray} {nL : Nat} {rm : Room} (hE : EnvOk E own cc nL rm) {pc : Nat} {f : FT} {k : Fin 4} {i : Nat} (hi : (k : Nat) = i) (d : decode cc pc = .ok (.astore_n k, 1)) (hn : i < nL) (hf : At E (pc + 1) f) : At E pc (o_astore i f) := by
  intro L S h u q
  obtain ⟨p, l, e, R, s, m, args, below, meth, c, Qm, D, dA, A⟩ := E
  obtain ⟨kx, kb, kl, kown, kts, klk, kR, kW, kA, kst⟩ := hE
  unfold o_astore at q
  split at q
  · rename_i x S
    intro H locs cells slots ls yl yR yS yc ys
    exact lv_astore_n kx kb d hi yl (by rw [kl]; exact hn) rfl (fun ls' yl' => hf _ _ _ _ q H locs cells slots ls' yl' yR yS yc ys)
  · exact q.elim
def o_fstore (i : Nat) (f : FT) : FT := fun L S h u => match S with
  | .float x :: S => f (lset1 L i (.float x)) S h u
  | _ => False
theorem r_fstore {E : ME} {own : String} {cc : ByteArray} {nL : Nat} {rm : Room} (hE : EnvOk E own cc nL rm) {pc : Nat} {f : FT} {i : Nat} (d : decode cc pc = .ok (.fstore i, 2)) (hn : i < nL) (hf : At E (pc + 2) f) : At E pc (o_fstore i f) := by
  intro L S h u q
  obtain ⟨p, l, e, R, s, m, args, below, meth, c, Qm, D, dA, A⟩ := E
  obtain ⟨kx, kb, kl, kown, kts, klk, kR, kW, kA, kst⟩ := hE
  unfold o_fstore at q
  split at q
  · rename_i x S
    intro H locs cells slots ls yl yR yS yc ys
    exact lv_fstore kx kb d yl (by rw [kl]; exact hn) rfl (fun ls' yl' => hf _ _ _ _ q H locs cells slots ls' yl' yR yS yc ys)
  · exact q.elim
theorem r_fstore_n {E : ME} {own : String} {cc : ByteArray} {nL : Nat} {rm : Room} (hE : EnvOk E own cc nL rm) {pc : Nat} {f : FT} {k : Fin 4} {i : Nat} (hi : (k : Nat) = i) (d : decode cc pc = .ok (.fstore_n k, 1)) (hn : i < nL) (hf : At E (pc + 1) f) : At E pc (o_fstore i f) := by
  intro L S h u q
  obtain ⟨p, l, e, R, s, m, args, below, meth, c, Qm, D, dA, A⟩ := E
  obtain ⟨kx, kb, kl, kown, kts, klk, kR, kW, kA, kst⟩ := hE
  unfold o_fstore at q
  split at q
  · rename_i x S
    intro H locs cells slots ls yl yR yS yc ys
    exact lv_fstore_n kx kb d hi yl (by rw [kl]; exact hn) rfl (fun ls' yl' => hf _ _ _ _ q H locs cells slots ls' yl' yR yS yc ys)
  · exact q.elim
def o_dstore (i : Nat) (f : FT) : FT := fun L S h u => match S with
  | .double x :: S => f (lset2 L i (.double x)) S h u
  | _ => False
theorem r_dstore {E : ME} {own : String} {cc : ByteArray} {nL : Nat} {rm : Room} (hE : EnvOk E own cc nL rm) {pc : Nat} {f : FT} {i : Nat} (d : decode cc pc = .ok (.dstore i, 2)) (hn : i + 1 < nL) (hf : At E (pc + 2) f) : At E pc (o_dstore i f) := by
  intro L S h u q
  obtain ⟨p, l, e, R, s, m, args, below, meth, c, Qm, D, dA, A⟩ := E
  obtain ⟨kx, kb, kl, kown, kts, klk, kR, kW, kA, kst⟩ := hE
  unfold o_dstore at q
  split at q
  · rename_i x S
    intro H locs cells slots ls yl yR yS yc ys
    exact lv_dstore kx kb d yl (by rw [kl]; exact hn) rfl (fun ls' yl' => hf _ _ _ _ q H locs cells slots ls' yl' yR yS yc ys)
  · exact q.elim
theorem r_dstore_n {E : ME} {own : String} {cc : ByteArray} {nL : Nat} {rm : Room} (hE : EnvOk E own cc nL rm) {pc : Nat} {f : FT} {k : Fin 4} {i : Nat} (hi : (k : Nat) = i) (d : decode cc pc = .ok (.dstore_n k, 1)) (hn : i + 1 < nL) (hf : At E (pc + 1) f) : At E pc (o_dstore i f) := by
  intro L S h u q
  obtain ⟨p, l, e, R, s, m, args, below, meth, c, Qm, D, dA, A⟩ := E
  obtain ⟨kx, kb, kl, kown, kts, klk, kR, kW, kA, kst⟩ := hE
  unfold o_dstore at q
  split at q
  · rename_i x S
    intro H locs cells slots ls yl yR yS yc ys
    exact lv_dstore_n kx kb d hi yl (by rw [kl]; exact hn) rfl (fun ls' yl' => hf _ _ _ _ q H locs cells slots ls' yl' yR yS yc ys)
  · exact q.elim
def o_lstore (i : Nat) (f : FT) : FT := fun L S h u => match S with
  | .long x :: S => f (lset2 L i (.long x)) S h u
  | _ => False
theorem r_lstore {E : ME} {own : String} {cc : ByteArray} {nL : Nat} {rm : Room} (hE : EnvOk E own cc nL rm) {pc : Nat} {f : FT} {i : Nat} (d : decode cc pc = .ok (.lstore i, 2)) (hn : i + 1 < nL) (hf : At E (pc + 2) f) : At E pc (o_lstore i f) := by
  intro L S h u q
  obtain ⟨p, l, e, R, s, m, args, below, meth, c, Qm, D, dA, A⟩ := E
  obtain ⟨kx, kb, kl, kown, kts, klk, kR, kW, kA, kst⟩ := hE
  unfold o_lstore at q
  split at q
  · rename_i x S
    intro H locs cells slots ls yl yR yS yc ys
    exact lv_lstore kx kb d yl (by rw [kl]; exact hn) rfl (fun ls' yl' => hf _ _ _ _ q H locs cells slots ls' yl' yR yS yc ys)
  · exact q.elim
theorem r_lstore_n {E : ME} {own : String} {cc : ByteArray} {nL : Nat} {rm : Room} (hE : EnvOk E own cc nL rm) {pc : Nat} {f : FT} {k : Fin 4} {i : Nat} (hi : (k : Nat) = i) (d : decode cc pc = .ok (.lstore_n k, 1)) (hn : i + 1 < nL) (hf : At E (pc + 1) f) : At E pc (o_lstore i f) := by
  intro L S h u q
  obtain ⟨p, l, e, R, s, m, args, below, meth, c, Qm, D, dA, A⟩ := E
  obtain ⟨kx, kb, kl, kown, kts, klk, kR, kW, kA, kst⟩ := hE
  unfold o_lstore at q
  split at q
  · rename_i x S
    intro H locs cells slots ls yl yR yS yc ys
    exact lv_lstore_n kx kb d hi yl (by rw [kl]; exact hn) rfl (fun ls' yl' => hf _ _ _ _ q H locs cells slots ls' yl' yR yS yc ys)
  · exact q.elim
def o_push (v : Value) (f : FT) : FT := fun L S h u => f L (v :: S) h u
theorem r_iconst {E : ME} {own : String} {cc : ByteArray} {nL : Nat} {rm : Room} (hE : EnvOk E own cc nL rm) {pc : Nat} {f : FT} {n : Int} {v : Int32} (d : decode cc pc = .ok (.iconst n, 1)) (hv : Int32.ofInt n = v) (hf : At E (pc + 1) f) : At E pc (o_push (.int v) f) := by
  intro L S h u q
  obtain ⟨p, l, e, R, s, m, args, below, meth, c, Qm, D, dA, A⟩ := E
  obtain ⟨kx, kb, kl, kown, kts, klk, kR, kW, kA, kst⟩ := hE
  intro H locs cells slots ls yl yR yS yc ys
  exact lv_iconst kx kb d hv (hf _ _ _ _ q H locs cells slots ls yl yR yS yc ys)
theorem r_bipush {E : ME} {own : String} {cc : ByteArray} {nL : Nat} {rm : Room} (hE : EnvOk E own cc nL rm) {pc : Nat} {f : FT} {n : Int} {v : Int32} (d : decode cc pc = .ok (.bipush n, 2)) (hv : (Int8.ofInt n).toInt32 = v) (hf : At E (pc + 2) f) : At E pc (o_push (.int v) f) := by
  intro L S h u q
  obtain ⟨p, l, e, R, s, m, args, below, meth, c, Qm, D, dA, A⟩ := E
  obtain ⟨kx, kb, kl, kown, kts, klk, kR, kW, kA, kst⟩ := hE
  intro H locs cells slots ls yl yR yS yc ys
  exact lv_bipush kx kb d hv (hf _ _ _ _ q H locs cells slots ls yl yR yS yc ys)
theorem r_sipush {E : ME} {own : String} {cc : ByteArray} {nL : Nat} {rm : Room} (hE : EnvOk E own cc nL rm) {pc : Nat} {f : FT} {n : Int} {v : Int32} (d : decode cc pc = .ok (.sipush n, 3)) (hv : (Int16.ofInt n).toInt32 = v) (hf : At E (pc + 3) f) : At E pc (o_push (.int v) f) := by
  intro L S h u q
  obtain ⟨p, l, e, R, s, m, args, below, meth, c, Qm, D, dA, A⟩ := E
  obtain ⟨kx, kb, kl, kown, kts, klk, kR, kW, kA, kst⟩ := hE
  intro H locs cells slots ls yl yR yS yc ys
  exact lv_sipush kx kb d hv (hf _ _ _ _ q H locs cells slots ls yl yR yS yc ys)
theorem r_lconst {E : ME} {own : String} {cc : ByteArray} {nL : Nat} {rm : Room} (hE : EnvOk E own cc nL rm) {pc : Nat} {f : FT} {n : Fin 2} {v : Int64} (d : decode cc pc = .ok (.lconst n, 1)) (hv : Int64.ofNat (n : Nat) = v) (hf : At E (pc + 1) f) : At E pc (o_push (.long v) f) := by
  intro L S h u q
  obtain ⟨p, l, e, R, s, m, args, below, meth, c, Qm, D, dA, A⟩ := E
  obtain ⟨kx, kb, kl, kown, kts, klk, kR, kW, kA, kst⟩ := hE
  intro H locs cells slots ls yl yR yS yc ys
  exact lv_lconst kx kb d hv (hf _ _ _ _ q H locs cells slots ls yl yR yS yc ys)
theorem r_ldc {E : ME} {own : String} {cc : ByteArray} {nL : Nat} {rm : Room} (hE : EnvOk E own cc nL rm) {pc : Nat} {f : FT} {i : Nat} {v : Int32} (d : decode cc pc = .ok (.ldc i, 2)) (hw : Cond.constant own i v ∈ TB) (hf : At E (pc + 2) f) : At E pc (o_push (.int v) f) := by
  intro L S h u q
  obtain ⟨p, l, e, R, s, m, args, below, meth, c, Qm, D, dA, A⟩ := E
  obtain ⟨kx, kb, kl, kown, kts, klk, kR, kW, kA, kst⟩ := hE
  intro H locs cells slots ls yl yR yS yc ys
  exact lv_ldc kx kb kown (kts _ hw) d (hf _ _ _ _ q H locs cells slots ls yl yR yS yc ys)
theorem r_ldcf {E : ME} {own : String} {cc : ByteArray} {nL : Nat} {rm : Room} (hE : EnvOk E own cc nL rm) {pc : Nat} {f : FT} {i : Nat} {v : UInt32} (d : decode cc pc = .ok (.ldc i, 2)) (hw : Cond.constantFloat own i v ∈ TB) (hf : At E (pc + 2) f) : At E pc (o_push (.float v) f) := by
  intro L S h u q
  obtain ⟨p, l, e, R, s, m, args, below, meth, c, Qm, D, dA, A⟩ := E
  obtain ⟨kx, kb, kl, kown, kts, klk, kR, kW, kA, kst⟩ := hE
  intro H locs cells slots ls yl yR yS yc ys
  exact lv_ldcf kx kb kown (kts _ hw) d (hf _ _ _ _ q H locs cells slots ls yl yR yS yc ys)
theorem r_ldc2 {E : ME} {own : String} {cc : ByteArray} {nL : Nat} {rm : Room} (hE : EnvOk E own cc nL rm) {pc : Nat} {f : FT} {i : Nat} {v : Int64} (d : decode cc pc = .ok (.ldc2_w i, 3)) (hw : Cond.constantLong own i v ∈ TB) (hf : At E (pc + 3) f) : At E pc (o_push (.long v) f) := by
  intro L S h u q
  obtain ⟨p, l, e, R, s, m, args, below, meth, c, Qm, D, dA, A⟩ := E
  obtain ⟨kx, kb, kl, kown, kts, klk, kR, kW, kA, kst⟩ := hE
  intro H locs cells slots ls yl yR yS yc ys
  exact lv_ldc2 kx kb kown (kts _ hw) d (hf _ _ _ _ q H locs cells slots ls yl yR yS yc ys)
theorem r_ldc2d {E : ME} {own : String} {cc : ByteArray} {nL : Nat} {rm : Room} (hE : EnvOk E own cc nL rm) {pc : Nat} {f : FT} {i : Nat} {v : UInt64} (d : decode cc pc = .ok (.ldc2_w i, 3)) (hw : Cond.constantDouble own i v ∈ TB) (hf : At E (pc + 3) f) : At E pc (o_push (.double v) f) := by
  intro L S h u q
  obtain ⟨p, l, e, R, s, m, args, below, meth, c, Qm, D, dA, A⟩ := E
  obtain ⟨kx, kb, kl, kown, kts, klk, kR, kW, kA, kst⟩ := hE
  intro H locs cells slots ls yl yR yS yc ys
  exact lv_ldc2d kx kb kown (kts _ hw) d (hf _ _ _ _ q H locs cells slots ls yl yR yS yc ys)
theorem r_ldcw {E : ME} {own : String} {cc : ByteArray} {nL : Nat} {rm : Room} (hE : EnvOk E own cc nL rm) {pc : Nat} {f : FT} {i : Nat} {v : Int32} (d : decode cc pc = .ok (.ldc_w i, 3)) (hw : Cond.constant own i v ∈ TB) (hf : At E (pc + 3) f) : At E pc (o_push (.int v) f) := by
  intro L S h u q
  obtain ⟨p, l, e, R, s, m, args, below, meth, c, Qm, D, dA, A⟩ := E
  obtain ⟨kx, kb, kl, kown, kts, klk, kR, kW, kA, kst⟩ := hE
  intro H locs cells slots ls yl yR yS yc ys
  exact lv_ldcw kx kb kown (kts _ hw) d (hf _ _ _ _ q H locs cells slots ls yl yR yS yc ys)
def o_iinc (i : Nat) (n : Int32) (f : FT) : FT := fun L S h u => match lget L i with
  | some (.int x) => f (lset1 L i (.int (x + n))) S h u
  | _ => False
theorem r_iinc {E : ME} {own : String} {cc : ByteArray} {nL : Nat} {rm : Room} (hE : EnvOk E own cc nL rm) {pc : Nat} {f : FT} {i : Nat} {n : Int} {v : Int32} (d : decode cc pc = .ok (.iinc i n, 3)) (hv : Int32.ofInt n = v) (hn : i < nL) (hf : At E (pc + 3) f) : At E pc (o_iinc i v f) := by
  intro L S h u q
  obtain ⟨p, l, e, R, s, m, args, below, meth, c, Qm, D, dA, A⟩ := E
  obtain ⟨kx, kb, kl, kown, kts, klk, kR, kW, kA, kst⟩ := hE
  unfold o_iinc at q
  split at q
  · rename_i x hx
    intro H locs cells slots ls yl yR yS yc ys
    have hx2 : ∃ k : Nat, L[k]? = some (i, .int x) := by
      unfold lget at hx
      cases hq : L.find? (fun q => q.1 == i) with
      | none => rw [hq] at hx; cases hx
      | some z =>
        rw [hq] at hx
        have e2 : z.2 = .int x := Option.some.inj hx
        have h1 := List.find?_some hq
        have h4 : z.1 = i := by simpa using h1
        obtain ⟨k, hk⟩ := List.getElem?_of_mem (List.mem_of_find?_eq_some hq)
        exact ⟨k, by rw [hk, ← h4, ← e2]⟩
    obtain ⟨k, hk⟩ := hx2
    exact lv_iinc kx kb d yl hk (by rw [hv]) (by rw [kl]; exact hn) rfl (fun ls' yl' => hf _ _ _ _ q H locs cells slots ls' yl' yR yS yc ys)
  · exact q.elim
def o_iadd (f : FT) : FT := fun L S h u => match S with
  | .int y :: .int x :: S => f L (.int (x + y) :: S) h u
  | _ => False
theorem r_iadd {E : ME} {own : String} {cc : ByteArray} {nL : Nat} {rm : Room} (hE : EnvOk E own cc nL rm) {pc : Nat} {f : FT} (d : decode cc pc = .ok (.iadd, 1)) (hf : At E (pc + 1) f) : At E pc (o_iadd f) := by
  intro L S h u q
  obtain ⟨p, l, e, R, s, m, args, below, meth, c, Qm, D, dA, A⟩ := E
  obtain ⟨kx, kb, kl, kown, kts, klk, kR, kW, kA, kst⟩ := hE
  unfold o_iadd at q
  split at q
  · rename_i y x S
    intro H locs cells slots ls yl yR yS yc ys
    exact lv_iadd kx kb d (hf _ _ _ _ q H locs cells slots ls yl yR yS yc ys)
  · exact q.elim
def o_isub (f : FT) : FT := fun L S h u => match S with
  | .int y :: .int x :: S => f L (.int (x - y) :: S) h u
  | _ => False
theorem r_isub {E : ME} {own : String} {cc : ByteArray} {nL : Nat} {rm : Room} (hE : EnvOk E own cc nL rm) {pc : Nat} {f : FT} (d : decode cc pc = .ok (.isub, 1)) (hf : At E (pc + 1) f) : At E pc (o_isub f) := by
  intro L S h u q
  obtain ⟨p, l, e, R, s, m, args, below, meth, c, Qm, D, dA, A⟩ := E
  obtain ⟨kx, kb, kl, kown, kts, klk, kR, kW, kA, kst⟩ := hE
  unfold o_isub at q
  split at q
  · rename_i y x S
    intro H locs cells slots ls yl yR yS yc ys
    exact lv_isub kx kb d (hf _ _ _ _ q H locs cells slots ls yl yR yS yc ys)
  · exact q.elim
def o_imul (f : FT) : FT := fun L S h u => match S with
  | .int y :: .int x :: S => f L (.int (x * y) :: S) h u
  | _ => False
theorem r_imul {E : ME} {own : String} {cc : ByteArray} {nL : Nat} {rm : Room} (hE : EnvOk E own cc nL rm) {pc : Nat} {f : FT} (d : decode cc pc = .ok (.imul, 1)) (hf : At E (pc + 1) f) : At E pc (o_imul f) := by
  intro L S h u q
  obtain ⟨p, l, e, R, s, m, args, below, meth, c, Qm, D, dA, A⟩ := E
  obtain ⟨kx, kb, kl, kown, kts, klk, kR, kW, kA, kst⟩ := hE
  unfold o_imul at q
  split at q
  · rename_i y x S
    intro H locs cells slots ls yl yR yS yc ys
    exact lv_imul kx kb d (hf _ _ _ _ q H locs cells slots ls yl yR yS yc ys)
  · exact q.elim
def o_iand (f : FT) : FT := fun L S h u => match S with
  | .int y :: .int x :: S => f L (.int (x &&& y) :: S) h u
  | _ => False
theorem r_iand {E : ME} {own : String} {cc : ByteArray} {nL : Nat} {rm : Room} (hE : EnvOk E own cc nL rm) {pc : Nat} {f : FT} (d : decode cc pc = .ok (.iand, 1)) (hf : At E (pc + 1) f) : At E pc (o_iand f) := by
  intro L S h u q
  obtain ⟨p, l, e, R, s, m, args, below, meth, c, Qm, D, dA, A⟩ := E
  obtain ⟨kx, kb, kl, kown, kts, klk, kR, kW, kA, kst⟩ := hE
  unfold o_iand at q
  split at q
  · rename_i y x S
    intro H locs cells slots ls yl yR yS yc ys
    exact lv_iand kx kb d (hf _ _ _ _ q H locs cells slots ls yl yR yS yc ys)
  · exact q.elim
def o_ior (f : FT) : FT := fun L S h u => match S with
  | .int y :: .int x :: S => f L (.int (x ||| y) :: S) h u
  | _ => False
theorem r_ior {E : ME} {own : String} {cc : ByteArray} {nL : Nat} {rm : Room} (hE : EnvOk E own cc nL rm) {pc : Nat} {f : FT} (d : decode cc pc = .ok (.ior, 1)) (hf : At E (pc + 1) f) : At E pc (o_ior f) := by
  intro L S h u q
  obtain ⟨p, l, e, R, s, m, args, below, meth, c, Qm, D, dA, A⟩ := E
  obtain ⟨kx, kb, kl, kown, kts, klk, kR, kW, kA, kst⟩ := hE
  unfold o_ior at q
  split at q
  · rename_i y x S
    intro H locs cells slots ls yl yR yS yc ys
    exact lv_ior kx kb d (hf _ _ _ _ q H locs cells slots ls yl yR yS yc ys)
  · exact q.elim
def o_idiv (f : FT) : FT := fun L S h u => match S with
  | .int y :: .int x :: S => ¬ y = 0 ∧ f L (.int (x / y) :: S) h u
  | _ => False
theorem r_idiv {E : ME} {own : String} {cc : ByteArray} {nL : Nat} {rm : Room} (hE : EnvOk E own cc nL rm) {pc : Nat} {f : FT} (d : decode cc pc = .ok (.idiv, 1)) (hf : At E (pc + 1) f) : At E pc (o_idiv f) := by
  intro L S h u q
  obtain ⟨p, l, e, R, s, m, args, below, meth, c, Qm, D, dA, A⟩ := E
  obtain ⟨kx, kb, kl, kown, kts, klk, kR, kW, kA, kst⟩ := hE
  unfold o_idiv at q
  split at q
  · rename_i y x S
    intro H locs cells slots ls yl yR yS yc ys
    exact lv_idiv kx kb d q.1 (hf _ _ _ _ q.2 H locs cells slots ls yl yR yS yc ys)
  · exact q.elim
def o_irem (f : FT) : FT := fun L S h u => match S with
  | .int y :: .int x :: S => ¬ y = 0 ∧ f L (.int (x - x / y * y) :: S) h u
  | _ => False
theorem r_irem {E : ME} {own : String} {cc : ByteArray} {nL : Nat} {rm : Room} (hE : EnvOk E own cc nL rm) {pc : Nat} {f : FT} (d : decode cc pc = .ok (.irem, 1)) (hf : At E (pc + 1) f) : At E pc (o_irem f) := by
  intro L S h u q
  obtain ⟨p, l, e, R, s, m, args, below, meth, c, Qm, D, dA, A⟩ := E
  obtain ⟨kx, kb, kl, kown, kts, klk, kR, kW, kA, kst⟩ := hE
  unfold o_irem at q
  split at q
  · rename_i y x S
    intro H locs cells slots ls yl yR yS yc ys
    exact lv_irem kx kb d q.1 (hf _ _ _ _ q.2 H locs cells slots ls yl yR yS yc ys)
  · exact q.elim
def o_ishl (f : FT) : FT := fun L S h u => match S with
  | .int y :: .int x :: S => f L (.int (x <<< (y &&& 31)) :: S) h u
  | _ => False
theorem r_ishl {E : ME} {own : String} {cc : ByteArray} {nL : Nat} {rm : Room} (hE : EnvOk E own cc nL rm) {pc : Nat} {f : FT} (d : decode cc pc = .ok (.ishl, 1)) (hf : At E (pc + 1) f) : At E pc (o_ishl f) := by
  intro L S h u q
  obtain ⟨p, l, e, R, s, m, args, below, meth, c, Qm, D, dA, A⟩ := E
  obtain ⟨kx, kb, kl, kown, kts, klk, kR, kW, kA, kst⟩ := hE
  unfold o_ishl at q
  split at q
  · rename_i y x S
    intro H locs cells slots ls yl yR yS yc ys
    exact lv_ishl kx kb d (hf _ _ _ _ q H locs cells slots ls yl yR yS yc ys)
  · exact q.elim
def o_lsub (f : FT) : FT := fun L S h u => match S with
  | .long y :: .long x :: S => f L (.long (x - y) :: S) h u
  | _ => False
theorem r_lsub {E : ME} {own : String} {cc : ByteArray} {nL : Nat} {rm : Room} (hE : EnvOk E own cc nL rm) {pc : Nat} {f : FT} (d : decode cc pc = .ok (.lsub, 1)) (hf : At E (pc + 1) f) : At E pc (o_lsub f) := by
  intro L S h u q
  obtain ⟨p, l, e, R, s, m, args, below, meth, c, Qm, D, dA, A⟩ := E
  obtain ⟨kx, kb, kl, kown, kts, klk, kR, kW, kA, kst⟩ := hE
  unfold o_lsub at q
  split at q
  · rename_i y x S
    intro H locs cells slots ls yl yR yS yc ys
    exact lv_lsub kx kb d (hf _ _ _ _ q H locs cells slots ls yl yR yS yc ys)
  · exact q.elim
def o_lor (f : FT) : FT := fun L S h u => match S with
  | .long y :: .long x :: S => f L (.long (x ||| y) :: S) h u
  | _ => False
theorem r_lor {E : ME} {own : String} {cc : ByteArray} {nL : Nat} {rm : Room} (hE : EnvOk E own cc nL rm) {pc : Nat} {f : FT} (d : decode cc pc = .ok (.lor, 1)) (hf : At E (pc + 1) f) : At E pc (o_lor f) := by
  intro L S h u q
  obtain ⟨p, l, e, R, s, m, args, below, meth, c, Qm, D, dA, A⟩ := E
  obtain ⟨kx, kb, kl, kown, kts, klk, kR, kW, kA, kst⟩ := hE
  unfold o_lor at q
  split at q
  · rename_i y x S
    intro H locs cells slots ls yl yR yS yc ys
    exact lv_lor kx kb d (hf _ _ _ _ q H locs cells slots ls yl yR yS yc ys)
  · exact q.elim
def o_lshl (f : FT) : FT := fun L S h u => match S with
  | .int y :: .long x :: S => f L (.long (x <<< (y.toInt64 &&& 63)) :: S) h u
  | _ => False
theorem r_lshl {E : ME} {own : String} {cc : ByteArray} {nL : Nat} {rm : Room} (hE : EnvOk E own cc nL rm) {pc : Nat} {f : FT} (d : decode cc pc = .ok (.lshl, 1)) (hf : At E (pc + 1) f) : At E pc (o_lshl f) := by
  intro L S h u q
  obtain ⟨p, l, e, R, s, m, args, below, meth, c, Qm, D, dA, A⟩ := E
  obtain ⟨kx, kb, kl, kown, kts, klk, kR, kW, kA, kst⟩ := hE
  unfold o_lshl at q
  split at q
  · rename_i y x S
    intro H locs cells slots ls yl yR yS yc ys
    exact lv_lshl kx kb d rfl (hf _ _ _ _ q H locs cells slots ls yl yR yS yc ys)
  · exact q.elim
def o_fdiv (f : FT) : FT := fun L S h u => match S with
  | .float y :: .float x :: S => vf_n32 (FP.fdiv x y) ∧ f L (.float (FP.fdiv x y) :: S) h u
  | _ => False
theorem r_fdiv {E : ME} {own : String} {cc : ByteArray} {nL : Nat} {rm : Room} (hE : EnvOk E own cc nL rm) {pc : Nat} {f : FT} (d : decode cc pc = .ok (.fdiv, 1)) (hf : At E (pc + 1) f) : At E pc (o_fdiv f) := by
  intro L S h u q
  obtain ⟨p, l, e, R, s, m, args, below, meth, c, Qm, D, dA, A⟩ := E
  obtain ⟨kx, kb, kl, kown, kts, klk, kR, kW, kA, kst⟩ := hE
  unfold o_fdiv at q
  split at q
  · rename_i y x S
    intro H locs cells slots ls yl yR yS yc ys
    exact lv_fdiv kx kb d q.1 (hf _ _ _ _ q.2 H locs cells slots ls yl yR yS yc ys)
  · exact q.elim
def o_fmul (f : FT) : FT := fun L S h u => match S with
  | .float y :: .float x :: S => vf_n32 (FP.fmul x y) ∧ f L (.float (FP.fmul x y) :: S) h u
  | _ => False
theorem r_fmul {E : ME} {own : String} {cc : ByteArray} {nL : Nat} {rm : Room} (hE : EnvOk E own cc nL rm) {pc : Nat} {f : FT} (d : decode cc pc = .ok (.fmul, 1)) (hf : At E (pc + 1) f) : At E pc (o_fmul f) := by
  intro L S h u q
  obtain ⟨p, l, e, R, s, m, args, below, meth, c, Qm, D, dA, A⟩ := E
  obtain ⟨kx, kb, kl, kown, kts, klk, kR, kW, kA, kst⟩ := hE
  unfold o_fmul at q
  split at q
  · rename_i y x S
    intro H locs cells slots ls yl yR yS yc ys
    exact lv_fmul kx kb d q.1 (hf _ _ _ _ q.2 H locs cells slots ls yl yR yS yc ys)
  · exact q.elim
def o_fsub (f : FT) : FT := fun L S h u => match S with
  | .float y :: .float x :: S => vf_n32 (FP.fsub x y) ∧ f L (.float (FP.fsub x y) :: S) h u
  | _ => False
theorem r_fsub {E : ME} {own : String} {cc : ByteArray} {nL : Nat} {rm : Room} (hE : EnvOk E own cc nL rm) {pc : Nat} {f : FT} (d : decode cc pc = .ok (.fsub, 1)) (hf : At E (pc + 1) f) : At E pc (o_fsub f) := by
  intro L S h u q
  obtain ⟨p, l, e, R, s, m, args, below, meth, c, Qm, D, dA, A⟩ := E
  obtain ⟨kx, kb, kl, kown, kts, klk, kR, kW, kA, kst⟩ := hE
  unfold o_fsub at q
  split at q
  · rename_i y x S
    intro H locs cells slots ls yl yR yS yc ys
    exact lv_fsub kx kb d q.1 (hf _ _ _ _ q.2 H locs cells slots ls yl yR yS yc ys)
  · exact q.elim
def o_ddiv (f : FT) : FT := fun L S h u => match S with
  | .double y :: .double x :: S => vf_n64 (FP.ddiv x y) ∧ f L (.double (FP.ddiv x y) :: S) h u
  | _ => False
theorem r_ddiv {E : ME} {own : String} {cc : ByteArray} {nL : Nat} {rm : Room} (hE : EnvOk E own cc nL rm) {pc : Nat} {f : FT} (d : decode cc pc = .ok (.ddiv, 1)) (hf : At E (pc + 1) f) : At E pc (o_ddiv f) := by
  intro L S h u q
  obtain ⟨p, l, e, R, s, m, args, below, meth, c, Qm, D, dA, A⟩ := E
  obtain ⟨kx, kb, kl, kown, kts, klk, kR, kW, kA, kst⟩ := hE
  unfold o_ddiv at q
  split at q
  · rename_i y x S
    intro H locs cells slots ls yl yR yS yc ys
    exact lv_ddiv kx kb d q.1 (hf _ _ _ _ q.2 H locs cells slots ls yl yR yS yc ys)
  · exact q.elim
def o_dmul (f : FT) : FT := fun L S h u => match S with
  | .double y :: .double x :: S => vf_n64 (FP.dmul x y) ∧ f L (.double (FP.dmul x y) :: S) h u
  | _ => False
theorem r_dmul {E : ME} {own : String} {cc : ByteArray} {nL : Nat} {rm : Room} (hE : EnvOk E own cc nL rm) {pc : Nat} {f : FT} (d : decode cc pc = .ok (.dmul, 1)) (hf : At E (pc + 1) f) : At E pc (o_dmul f) := by
  intro L S h u q
  obtain ⟨p, l, e, R, s, m, args, below, meth, c, Qm, D, dA, A⟩ := E
  obtain ⟨kx, kb, kl, kown, kts, klk, kR, kW, kA, kst⟩ := hE
  unfold o_dmul at q
  split at q
  · rename_i y x S
    intro H locs cells slots ls yl yR yS yc ys
    exact lv_dmul kx kb d q.1 (hf _ _ _ _ q.2 H locs cells slots ls yl yR yS yc ys)
  · exact q.elim
def o_dsub (f : FT) : FT := fun L S h u => match S with
  | .double y :: .double x :: S => vf_n64 (FP.dsub x y) ∧ f L (.double (FP.dsub x y) :: S) h u
  | _ => False
theorem r_dsub {E : ME} {own : String} {cc : ByteArray} {nL : Nat} {rm : Room} (hE : EnvOk E own cc nL rm) {pc : Nat} {f : FT} (d : decode cc pc = .ok (.dsub, 1)) (hf : At E (pc + 1) f) : At E pc (o_dsub f) := by
  intro L S h u q
  obtain ⟨p, l, e, R, s, m, args, below, meth, c, Qm, D, dA, A⟩ := E
  obtain ⟨kx, kb, kl, kown, kts, klk, kR, kW, kA, kst⟩ := hE
  unfold o_dsub at q
  split at q
  · rename_i y x S
    intro H locs cells slots ls yl yR yS yc ys
    exact lv_dsub kx kb d q.1 (hf _ _ _ _ q.2 H locs cells slots ls yl yR yS yc ys)
  · exact q.elim
def o_dadd (f : FT) : FT := fun L S h u => match S with
  | .double y :: .double x :: S => vf_n64 (FP.dadd x y) ∧ f L (.double (FP.dadd x y) :: S) h u
  | _ => False
theorem r_dadd {E : ME} {own : String} {cc : ByteArray} {nL : Nat} {rm : Room} (hE : EnvOk E own cc nL rm) {pc : Nat} {f : FT} (d : decode cc pc = .ok (.dadd, 1)) (hf : At E (pc + 1) f) : At E pc (o_dadd f) := by
  intro L S h u q
  obtain ⟨p, l, e, R, s, m, args, below, meth, c, Qm, D, dA, A⟩ := E
  obtain ⟨kx, kb, kl, kown, kts, klk, kR, kW, kA, kst⟩ := hE
  unfold o_dadd at q
  split at q
  · rename_i y x S
    intro H locs cells slots ls yl yR yS yc ys
    exact lv_dadd kx kb d q.1 (hf _ _ _ _ q.2 H locs cells slots ls yl yR yS yc ys)
  · exact q.elim
def o_ineg (f : FT) : FT := fun L S h u => match S with
  | .int x :: S => f L (.int (-x) :: S) h u
  | _ => False
theorem r_ineg {E : ME} {own : String} {cc : ByteArray} {nL : Nat} {rm : Room} (hE : EnvOk E own cc nL rm) {pc : Nat} {f : FT} (d : decode cc pc = .ok (.ineg, 1)) (hf : At E (pc + 1) f) : At E pc (o_ineg f) := by
  intro L S h u q
  obtain ⟨p, l, e, R, s, m, args, below, meth, c, Qm, D, dA, A⟩ := E
  obtain ⟨kx, kb, kl, kown, kts, klk, kR, kW, kA, kst⟩ := hE
  unfold o_ineg at q
  split at q
  · rename_i x S
    intro H locs cells slots ls yl yR yS yc ys
    exact lv_ineg kx kb d (hf _ _ _ _ q H locs cells slots ls yl yR yS yc ys)
  · exact q.elim
def o_i2l (f : FT) : FT := fun L S h u => match S with
  | .int x :: S => f L (.long (x.toInt64) :: S) h u
  | _ => False
theorem r_i2l {E : ME} {own : String} {cc : ByteArray} {nL : Nat} {rm : Room} (hE : EnvOk E own cc nL rm) {pc : Nat} {f : FT} (d : decode cc pc = .ok (.i2l, 1)) (hf : At E (pc + 1) f) : At E pc (o_i2l f) := by
  intro L S h u q
  obtain ⟨p, l, e, R, s, m, args, below, meth, c, Qm, D, dA, A⟩ := E
  obtain ⟨kx, kb, kl, kown, kts, klk, kR, kW, kA, kst⟩ := hE
  unfold o_i2l at q
  split at q
  · rename_i x S
    intro H locs cells slots ls yl yR yS yc ys
    exact lv_i2l kx kb d rfl (hf _ _ _ _ q H locs cells slots ls yl yR yS yc ys)
  · exact q.elim
def o_i2c (f : FT) : FT := fun L S h u => match S with
  | .int x :: S => f L (.int ((x.toUInt32 % 65536).toInt32) :: S) h u
  | _ => False
theorem r_i2c {E : ME} {own : String} {cc : ByteArray} {nL : Nat} {rm : Room} (hE : EnvOk E own cc nL rm) {pc : Nat} {f : FT} (d : decode cc pc = .ok (.i2c, 1)) (hf : At E (pc + 1) f) : At E pc (o_i2c f) := by
  intro L S h u q
  obtain ⟨p, l, e, R, s, m, args, below, meth, c, Qm, D, dA, A⟩ := E
  obtain ⟨kx, kb, kl, kown, kts, klk, kR, kW, kA, kst⟩ := hE
  unfold o_i2c at q
  split at q
  · rename_i x S
    intro H locs cells slots ls yl yR yS yc ys
    exact lv_i2c kx kb d rfl (hf _ _ _ _ q H locs cells slots ls yl yR yS yc ys)
  · exact q.elim
def o_i2f (f : FT) : FT := fun L S h u => match S with
  | .int x :: S => f L (.float (FP.i2f x) :: S) h u
  | _ => False
theorem r_i2f {E : ME} {own : String} {cc : ByteArray} {nL : Nat} {rm : Room} (hE : EnvOk E own cc nL rm) {pc : Nat} {f : FT} (d : decode cc pc = .ok (.i2f, 1)) (hf : At E (pc + 1) f) : At E pc (o_i2f f) := by
  intro L S h u q
  obtain ⟨p, l, e, R, s, m, args, below, meth, c, Qm, D, dA, A⟩ := E
  obtain ⟨kx, kb, kl, kown, kts, klk, kR, kW, kA, kst⟩ := hE
  unfold o_i2f at q
  split at q
  · rename_i x S
    intro H locs cells slots ls yl yR yS yc ys
    exact lv_i2f kx kb d (hf _ _ _ _ q H locs cells slots ls yl yR yS yc ys)
  · exact q.elim
def o_i2d (f : FT) : FT := fun L S h u => match S with
  | .int x :: S => f L (.double (FP.i2d x) :: S) h u
  | _ => False
theorem r_i2d {E : ME} {own : String} {cc : ByteArray} {nL : Nat} {rm : Room} (hE : EnvOk E own cc nL rm) {pc : Nat} {f : FT} (d : decode cc pc = .ok (.i2d, 1)) (hf : At E (pc + 1) f) : At E pc (o_i2d f) := by
  intro L S h u q
  obtain ⟨p, l, e, R, s, m, args, below, meth, c, Qm, D, dA, A⟩ := E
  obtain ⟨kx, kb, kl, kown, kts, klk, kR, kW, kA, kst⟩ := hE
  unfold o_i2d at q
  split at q
  · rename_i x S
    intro H locs cells slots ls yl yR yS yc ys
    exact lv_i2d kx kb d (hf _ _ _ _ q H locs cells slots ls yl yR yS yc ys)
  · exact q.elim
def o_f2i (f : FT) : FT := fun L S h u => match S with
  | .float x :: S => f L (.int (FP.f2i x) :: S) h u
  | _ => False
theorem r_f2i {E : ME} {own : String} {cc : ByteArray} {nL : Nat} {rm : Room} (hE : EnvOk E own cc nL rm) {pc : Nat} {f : FT} (d : decode cc pc = .ok (.f2i, 1)) (hf : At E (pc + 1) f) : At E pc (o_f2i f) := by
  intro L S h u q
  obtain ⟨p, l, e, R, s, m, args, below, meth, c, Qm, D, dA, A⟩ := E
  obtain ⟨kx, kb, kl, kown, kts, klk, kR, kW, kA, kst⟩ := hE
  unfold o_f2i at q
  split at q
  · rename_i x S
    intro H locs cells slots ls yl yR yS yc ys
    exact lv_f2i kx kb d (hf _ _ _ _ q H locs cells slots ls yl yR yS yc ys)
  · exact q.elim
def o_d2l (f : FT) : FT := fun L S h u => match S with
  | .double x :: S => f L (.long (FP.d2l x) :: S) h u
  | _ => False
theorem r_d2l {E : ME} {own : String} {cc : ByteArray} {nL : Nat} {rm : Room} (hE : EnvOk E own cc nL rm) {pc : Nat} {f : FT} (d : decode cc pc = .ok (.d2l, 1)) (hf : At E (pc + 1) f) : At E pc (o_d2l f) := by
  intro L S h u q
  obtain ⟨p, l, e, R, s, m, args, below, meth, c, Qm, D, dA, A⟩ := E
  obtain ⟨kx, kb, kl, kown, kts, klk, kR, kW, kA, kst⟩ := hE
  unfold o_d2l at q
  split at q
  · rename_i x S
    intro H locs cells slots ls yl yR yS yc ys
    exact lv_d2l kx kb d (hf _ _ _ _ q H locs cells slots ls yl yR yS yc ys)
  · exact q.elim
def o_f2d (f : FT) : FT := fun L S h u => match S with
  | .float x :: S => vf_n64 (FP.f2d x) ∧ f L (.double (FP.f2d x) :: S) h u
  | _ => False
theorem r_f2d {E : ME} {own : String} {cc : ByteArray} {nL : Nat} {rm : Room} (hE : EnvOk E own cc nL rm) {pc : Nat} {f : FT} (d : decode cc pc = .ok (.f2d, 1)) (hf : At E (pc + 1) f) : At E pc (o_f2d f) := by
  intro L S h u q
  obtain ⟨p, l, e, R, s, m, args, below, meth, c, Qm, D, dA, A⟩ := E
  obtain ⟨kx, kb, kl, kown, kts, klk, kR, kW, kA, kst⟩ := hE
  unfold o_f2d at q
  split at q
  · rename_i x S
    intro H locs cells slots ls yl yR yS yc ys
    exact lv_f2d kx kb d q.1 (hf _ _ _ _ q.2 H locs cells slots ls yl yR yS yc ys)
  · exact q.elim
def o_fcmp (op : CmpOp) (f : FT) : FT := fun L S h u => match S with
  | .float y :: .float x :: S => f L (.int (Op.cmpValue (FP.fcmp x y) op) :: S) h u
  | _ => False
theorem r_fcmp {E : ME} {own : String} {cc : ByteArray} {nL : Nat} {rm : Room} (hE : EnvOk E own cc nL rm) {pc : Nat} {f : FT} {op : CmpOp} (d : decode cc pc = .ok (.fcmp op, 1)) (hf : At E (pc + 1) f) : At E pc (o_fcmp op f) := by
  intro L S h u q
  obtain ⟨p, l, e, R, s, m, args, below, meth, c, Qm, D, dA, A⟩ := E
  obtain ⟨kx, kb, kl, kown, kts, klk, kR, kW, kA, kst⟩ := hE
  unfold o_fcmp at q
  split at q
  · rename_i y x S
    intro H locs cells slots ls yl yR yS yc ys
    exact lv_fcmp kx kb d (hf _ _ _ _ q H locs cells slots ls yl yR yS yc ys)
  · exact q.elim
def o_dcmp (op : CmpOp) (f : FT) : FT := fun L S h u => match S with
  | .double y :: .double x :: S => f L (.int (Op.cmpValue (FP.dcmp x y) op) :: S) h u
  | _ => False
theorem r_dcmp {E : ME} {own : String} {cc : ByteArray} {nL : Nat} {rm : Room} (hE : EnvOk E own cc nL rm) {pc : Nat} {f : FT} {op : CmpOp} (d : decode cc pc = .ok (.dcmp op, 1)) (hf : At E (pc + 1) f) : At E pc (o_dcmp op f) := by
  intro L S h u q
  obtain ⟨p, l, e, R, s, m, args, below, meth, c, Qm, D, dA, A⟩ := E
  obtain ⟨kx, kb, kl, kown, kts, klk, kR, kW, kA, kst⟩ := hE
  unfold o_dcmp at q
  split at q
  · rename_i y x S
    intro H locs cells slots ls yl yR yS yc ys
    exact lv_dcmp kx kb d (hf _ _ _ _ q H locs cells slots ls yl yR yS yc ys)
  · exact q.elim
def o_dup (f : FT) : FT := fun L S h u => match S with
  | .int x :: S => f L (.int x :: .int x :: S) h u
  | .ref x :: S => f L (.ref x :: .ref x :: S) h u
  | _ => False
theorem r_dup {E : ME} {own : String} {cc : ByteArray} {nL : Nat} {rm : Room} (hE : EnvOk E own cc nL rm) {pc : Nat} {f : FT} (d : decode cc pc = .ok (.dup, 1)) (hf : At E (pc + 1) f) : At E pc (o_dup f) := by
  intro L S h u q
  obtain ⟨p, l, e, R, s, m, args, below, meth, c, Qm, D, dA, A⟩ := E
  obtain ⟨kx, kb, kl, kown, kts, klk, kR, kW, kA, kst⟩ := hE
  unfold o_dup at q
  split at q
  · rename_i x S
    intro H locs cells slots ls yl yR yS yc ys
    exact lv_dup kx kb d rfl (hf _ _ _ _ q H locs cells slots ls yl yR yS yc ys)
  · rename_i x S
    intro H locs cells slots ls yl yR yS yc ys
    exact lv_dup kx kb d rfl (hf _ _ _ _ q H locs cells slots ls yl yR yS yc ys)
  · exact q.elim
def o_pop (f : FT) : FT := fun L S h u => match S with
  | .int _ :: S => f L S h u
  | .ref _ :: S => f L S h u
  | _ => False
theorem r_pop {E : ME} {own : String} {cc : ByteArray} {nL : Nat} {rm : Room} (hE : EnvOk E own cc nL rm) {pc : Nat} {f : FT} (d : decode cc pc = .ok (.pop, 1)) (hf : At E (pc + 1) f) : At E pc (o_pop f) := by
  intro L S h u q
  obtain ⟨p, l, e, R, s, m, args, below, meth, c, Qm, D, dA, A⟩ := E
  obtain ⟨kx, kb, kl, kown, kts, klk, kR, kW, kA, kst⟩ := hE
  unfold o_pop at q
  split at q
  · rename_i x S
    intro H locs cells slots ls yl yR yS yc ys
    exact lv_pop kx kb d rfl (hf _ _ _ _ q H locs cells slots ls yl yR yS yc ys)
  · rename_i x S
    intro H locs cells slots ls yl yR yS yc ys
    exact lv_pop kx kb d rfl (hf _ _ _ _ q H locs cells slots ls yl yR yS yc ys)
  · exact q.elim
def o_dup2 (f : FT) : FT := fun L S h u => match S with
  | .int x :: .ref y :: S => f L (.int x :: .ref y :: .int x :: .ref y :: S) h u
  | _ => False
theorem r_dup2 {E : ME} {own : String} {cc : ByteArray} {nL : Nat} {rm : Room} (hE : EnvOk E own cc nL rm) {pc : Nat} {f : FT} (d : decode cc pc = .ok (.dup2, 1)) (hf : At E (pc + 1) f) : At E pc (o_dup2 f) := by
  intro L S h u q
  obtain ⟨p, l, e, R, s, m, args, below, meth, c, Qm, D, dA, A⟩ := E
  obtain ⟨kx, kb, kl, kown, kts, klk, kR, kW, kA, kst⟩ := hE
  unfold o_dup2 at q
  split at q
  · rename_i x y S
    intro H locs cells slots ls yl yR yS yc ys
    exact lv_dup2_11 kx kb d rfl rfl (hf _ _ _ _ q H locs cells slots ls yl yR yS yc ys)
  · exact q.elim
def o_icmp_eq (f g : FT) : FT := fun L S h u => match S with
  | .int y :: .int x :: S => (x = y → g L S h u) ∧ (¬ (x = y) → f L S h u)
  | _ => False
theorem r_icmp_eq {E : ME} {own : String} {cc : ByteArray} {nL : Nat} {rm : Room} (hE : EnvOk E own cc nL rm) {pc : Nat} {f : FT} {g : FT} {off : Int} {tgt : Nat} (d : decode cc pc = .ok (.if_icmp .eq off, 3)) (ht : (pc : Int) + off = (tgt : Int)) (hf : At E (pc + 3) f) (hg : At E tgt g) : At E pc (o_icmp_eq f g) := by
  intro L S h u q
  obtain ⟨p, l, e, R, s, m, args, below, meth, c, Qm, D, dA, A⟩ := E
  obtain ⟨kx, kb, kl, kown, kts, klk, kR, kW, kA, kst⟩ := hE
  unfold o_icmp_eq at q
  split at q
  · rename_i y x S
    intro H locs cells slots ls yl yR yS yc ys
    exact lv_icmp_eq kx kb d ht (fun z => hg _ _ _ _ (q.1 z) H locs cells slots ls yl yR yS yc ys) (fun z => hf _ _ _ _ (q.2 z) H locs cells slots ls yl yR yS yc ys)
  · exact q.elim
def o_if_eq (f g : FT) : FT := fun L S h u => match S with
  | .int x :: S => (x = 0 → g L S h u) ∧ (¬ (x = 0) → f L S h u)
  | _ => False
theorem r_if_eq {E : ME} {own : String} {cc : ByteArray} {nL : Nat} {rm : Room} (hE : EnvOk E own cc nL rm) {pc : Nat} {f : FT} {g : FT} {off : Int} {tgt : Nat} (d : decode cc pc = .ok (.ifCond .eq off, 3)) (ht : (pc : Int) + off = (tgt : Int)) (hf : At E (pc + 3) f) (hg : At E tgt g) : At E pc (o_if_eq f g) := by
  intro L S h u q
  obtain ⟨p, l, e, R, s, m, args, below, meth, c, Qm, D, dA, A⟩ := E
  obtain ⟨kx, kb, kl, kown, kts, klk, kR, kW, kA, kst⟩ := hE
  unfold o_if_eq at q
  split at q
  · rename_i x S
    intro H locs cells slots ls yl yR yS yc ys
    exact lv_if_eq kx kb d ht (fun z => hg _ _ _ _ (q.1 z) H locs cells slots ls yl yR yS yc ys) (fun z => hf _ _ _ _ (q.2 z) H locs cells slots ls yl yR yS yc ys)
  · exact q.elim
def o_icmp_ne (f g : FT) : FT := fun L S h u => match S with
  | .int y :: .int x :: S => (¬ x = y → g L S h u) ∧ (x = y → f L S h u)
  | _ => False
theorem r_icmp_ne {E : ME} {own : String} {cc : ByteArray} {nL : Nat} {rm : Room} (hE : EnvOk E own cc nL rm) {pc : Nat} {f : FT} {g : FT} {off : Int} {tgt : Nat} (d : decode cc pc = .ok (.if_icmp .ne off, 3)) (ht : (pc : Int) + off = (tgt : Int)) (hf : At E (pc + 3) f) (hg : At E tgt g) : At E pc (o_icmp_ne f g) := by
  intro L S h u q
  obtain ⟨p, l, e, R, s, m, args, below, meth, c, Qm, D, dA, A⟩ := E
  obtain ⟨kx, kb, kl, kown, kts, klk, kR, kW, kA, kst⟩ := hE
  unfold o_icmp_ne at q
  split at q
  · rename_i y x S
    intro H locs cells slots ls yl yR yS yc ys
    exact lv_icmp_ne kx kb d ht (fun z => hg _ _ _ _ (q.1 z) H locs cells slots ls yl yR yS yc ys) (fun z => hf _ _ _ _ (q.2 z) H locs cells slots ls yl yR yS yc ys)
  · exact q.elim
def o_if_ne (f g : FT) : FT := fun L S h u => match S with
  | .int x :: S => (¬ x = 0 → g L S h u) ∧ (x = 0 → f L S h u)
  | _ => False
theorem r_if_ne {E : ME} {own : String} {cc : ByteArray} {nL : Nat} {rm : Room} (hE : EnvOk E own cc nL rm) {pc : Nat} {f : FT} {g : FT} {off : Int} {tgt : Nat} (d : decode cc pc = .ok (.ifCond .ne off, 3)) (ht : (pc : Int) + off = (tgt : Int)) (hf : At E (pc + 3) f) (hg : At E tgt g) : At E pc (o_if_ne f g) := by
  intro L S h u q
  obtain ⟨p, l, e, R, s, m, args, below, meth, c, Qm, D, dA, A⟩ := E
  obtain ⟨kx, kb, kl, kown, kts, klk, kR, kW, kA, kst⟩ := hE
  unfold o_if_ne at q
  split at q
  · rename_i x S
    intro H locs cells slots ls yl yR yS yc ys
    exact lv_if_ne kx kb d ht (fun z => hg _ _ _ _ (q.1 z) H locs cells slots ls yl yR yS yc ys) (fun z => hf _ _ _ _ (q.2 z) H locs cells slots ls yl yR yS yc ys)
  · exact q.elim
def o_icmp_lt (f g : FT) : FT := fun L S h u => match S with
  | .int y :: .int x :: S => (x < y → g L S h u) ∧ (¬ (x < y) → f L S h u)
  | _ => False
theorem r_icmp_lt {E : ME} {own : String} {cc : ByteArray} {nL : Nat} {rm : Room} (hE : EnvOk E own cc nL rm) {pc : Nat} {f : FT} {g : FT} {off : Int} {tgt : Nat} (d : decode cc pc = .ok (.if_icmp .lt off, 3)) (ht : (pc : Int) + off = (tgt : Int)) (hf : At E (pc + 3) f) (hg : At E tgt g) : At E pc (o_icmp_lt f g) := by
  intro L S h u q
  obtain ⟨p, l, e, R, s, m, args, below, meth, c, Qm, D, dA, A⟩ := E
  obtain ⟨kx, kb, kl, kown, kts, klk, kR, kW, kA, kst⟩ := hE
  unfold o_icmp_lt at q
  split at q
  · rename_i y x S
    intro H locs cells slots ls yl yR yS yc ys
    exact lv_icmp_lt kx kb d ht (fun z => hg _ _ _ _ (q.1 z) H locs cells slots ls yl yR yS yc ys) (fun z => hf _ _ _ _ (q.2 z) H locs cells slots ls yl yR yS yc ys)
  · exact q.elim
def o_if_lt (f g : FT) : FT := fun L S h u => match S with
  | .int x :: S => (x < 0 → g L S h u) ∧ (¬ (x < 0) → f L S h u)
  | _ => False
theorem r_if_lt {E : ME} {own : String} {cc : ByteArray} {nL : Nat} {rm : Room} (hE : EnvOk E own cc nL rm) {pc : Nat} {f : FT} {g : FT} {off : Int} {tgt : Nat} (d : decode cc pc = .ok (.ifCond .lt off, 3)) (ht : (pc : Int) + off = (tgt : Int)) (hf : At E (pc + 3) f) (hg : At E tgt g) : At E pc (o_if_lt f g) := by
  intro L S h u q
  obtain ⟨p, l, e, R, s, m, args, below, meth, c, Qm, D, dA, A⟩ := E
  obtain ⟨kx, kb, kl, kown, kts, klk, kR, kW, kA, kst⟩ := hE
  unfold o_if_lt at q
  split at q
  · rename_i x S
    intro H locs cells slots ls yl yR yS yc ys
    exact lv_if_lt kx kb d ht (fun z => hg _ _ _ _ (q.1 z) H locs cells slots ls yl yR yS yc ys) (fun z => hf _ _ _ _ (q.2 z) H locs cells slots ls yl yR yS yc ys)
  · exact q.elim
def o_icmp_ge (f g : FT) : FT := fun L S h u => match S with
  | .int y :: .int x :: S => (y ≤ x → g L S h u) ∧ (¬ (y ≤ x) → f L S h u)
  | _ => False
theorem r_icmp_ge {E : ME} {own : String} {cc : ByteArray} {nL : Nat} {rm : Room} (hE : EnvOk E own cc nL rm) {pc : Nat} {f : FT} {g : FT} {off : Int} {tgt : Nat} (d : decode cc pc = .ok (.if_icmp .ge off, 3)) (ht : (pc : Int) + off = (tgt : Int)) (hf : At E (pc + 3) f) (hg : At E tgt g) : At E pc (o_icmp_ge f g) := by
  intro L S h u q
  obtain ⟨p, l, e, R, s, m, args, below, meth, c, Qm, D, dA, A⟩ := E
  obtain ⟨kx, kb, kl, kown, kts, klk, kR, kW, kA, kst⟩ := hE
  unfold o_icmp_ge at q
  split at q
  · rename_i y x S
    intro H locs cells slots ls yl yR yS yc ys
    exact lv_icmp_ge kx kb d ht (fun z => hg _ _ _ _ (q.1 z) H locs cells slots ls yl yR yS yc ys) (fun z => hf _ _ _ _ (q.2 z) H locs cells slots ls yl yR yS yc ys)
  · exact q.elim
def o_if_ge (f g : FT) : FT := fun L S h u => match S with
  | .int x :: S => (0 ≤ x → g L S h u) ∧ (¬ (0 ≤ x) → f L S h u)
  | _ => False
theorem r_if_ge {E : ME} {own : String} {cc : ByteArray} {nL : Nat} {rm : Room} (hE : EnvOk E own cc nL rm) {pc : Nat} {f : FT} {g : FT} {off : Int} {tgt : Nat} (d : decode cc pc = .ok (.ifCond .ge off, 3)) (ht : (pc : Int) + off = (tgt : Int)) (hf : At E (pc + 3) f) (hg : At E tgt g) : At E pc (o_if_ge f g) := by
  intro L S h u q
  obtain ⟨p, l, e, R, s, m, args, below, meth, c, Qm, D, dA, A⟩ := E
  obtain ⟨kx, kb, kl, kown, kts, klk, kR, kW, kA, kst⟩ := hE
  unfold o_if_ge at q
  split at q
  · rename_i x S
    intro H locs cells slots ls yl yR yS yc ys
    exact lv_if_ge kx kb d ht (fun z => hg _ _ _ _ (q.1 z) H locs cells slots ls yl yR yS yc ys) (fun z => hf _ _ _ _ (q.2 z) H locs cells slots ls yl yR yS yc ys)
  · exact q.elim
def o_icmp_gt (f g : FT) : FT := fun L S h u => match S with
  | .int y :: .int x :: S => (y < x → g L S h u) ∧ (¬ (y < x) → f L S h u)
  | _ => False
theorem r_icmp_gt {E : ME} {own : String} {cc : ByteArray} {nL : Nat} {rm : Room} (hE : EnvOk E own cc nL rm) {pc : Nat} {f : FT} {g : FT} {off : Int} {tgt : Nat} (d : decode cc pc = .ok (.if_icmp .gt off, 3)) (ht : (pc : Int) + off = (tgt : Int)) (hf : At E (pc + 3) f) (hg : At E tgt g) : At E pc (o_icmp_gt f g) := by
  intro L S h u q
  obtain ⟨p, l, e, R, s, m, args, below, meth, c, Qm, D, dA, A⟩ := E
  obtain ⟨kx, kb, kl, kown, kts, klk, kR, kW, kA, kst⟩ := hE
  unfold o_icmp_gt at q
  split at q
  · rename_i y x S
    intro H locs cells slots ls yl yR yS yc ys
    exact lv_icmp_gt kx kb d ht (fun z => hg _ _ _ _ (q.1 z) H locs cells slots ls yl yR yS yc ys) (fun z => hf _ _ _ _ (q.2 z) H locs cells slots ls yl yR yS yc ys)
  · exact q.elim
def o_if_gt (f g : FT) : FT := fun L S h u => match S with
  | .int x :: S => (0 < x → g L S h u) ∧ (¬ (0 < x) → f L S h u)
  | _ => False
theorem r_if_gt {E : ME} {own : String} {cc : ByteArray} {nL : Nat} {rm : Room} (hE : EnvOk E own cc nL rm) {pc : Nat} {f : FT} {g : FT} {off : Int} {tgt : Nat} (d : decode cc pc = .ok (.ifCond .gt off, 3)) (ht : (pc : Int) + off = (tgt : Int)) (hf : At E (pc + 3) f) (hg : At E tgt g) : At E pc (o_if_gt f g) := by
  intro L S h u q
  obtain ⟨p, l, e, R, s, m, args, below, meth, c, Qm, D, dA, A⟩ := E
  obtain ⟨kx, kb, kl, kown, kts, klk, kR, kW, kA, kst⟩ := hE
  unfold o_if_gt at q
  split at q
  · rename_i x S
    intro H locs cells slots ls yl yR yS yc ys
    exact lv_if_gt kx kb d ht (fun z => hg _ _ _ _ (q.1 z) H locs cells slots ls yl yR yS yc ys) (fun z => hf _ _ _ _ (q.2 z) H locs cells slots ls yl yR yS yc ys)
  · exact q.elim
def o_icmp_le (f g : FT) : FT := fun L S h u => match S with
  | .int y :: .int x :: S => (x ≤ y → g L S h u) ∧ (¬ (x ≤ y) → f L S h u)
  | _ => False
theorem r_icmp_le {E : ME} {own : String} {cc : ByteArray} {nL : Nat} {rm : Room} (hE : EnvOk E own cc nL rm) {pc : Nat} {f : FT} {g : FT} {off : Int} {tgt : Nat} (d : decode cc pc = .ok (.if_icmp .le off, 3)) (ht : (pc : Int) + off = (tgt : Int)) (hf : At E (pc + 3) f) (hg : At E tgt g) : At E pc (o_icmp_le f g) := by
  intro L S h u q
  obtain ⟨p, l, e, R, s, m, args, below, meth, c, Qm, D, dA, A⟩ := E
  obtain ⟨kx, kb, kl, kown, kts, klk, kR, kW, kA, kst⟩ := hE
  unfold o_icmp_le at q
  split at q
  · rename_i y x S
    intro H locs cells slots ls yl yR yS yc ys
    exact lv_icmp_le kx kb d ht (fun z => hg _ _ _ _ (q.1 z) H locs cells slots ls yl yR yS yc ys) (fun z => hf _ _ _ _ (q.2 z) H locs cells slots ls yl yR yS yc ys)
  · exact q.elim
def o_if_le (f g : FT) : FT := fun L S h u => match S with
  | .int x :: S => (x ≤ 0 → g L S h u) ∧ (¬ (x ≤ 0) → f L S h u)
  | _ => False
theorem r_if_le {E : ME} {own : String} {cc : ByteArray} {nL : Nat} {rm : Room} (hE : EnvOk E own cc nL rm) {pc : Nat} {f : FT} {g : FT} {off : Int} {tgt : Nat} (d : decode cc pc = .ok (.ifCond .le off, 3)) (ht : (pc : Int) + off = (tgt : Int)) (hf : At E (pc + 3) f) (hg : At E tgt g) : At E pc (o_if_le f g) := by
  intro L S h u q
  obtain ⟨p, l, e, R, s, m, args, below, meth, c, Qm, D, dA, A⟩ := E
  obtain ⟨kx, kb, kl, kown, kts, klk, kR, kW, kA, kst⟩ := hE
  unfold o_if_le at q
  split at q
  · rename_i x S
    intro H locs cells slots ls yl yR yS yc ys
    exact lv_if_le kx kb d ht (fun z => hg _ _ _ _ (q.1 z) H locs cells slots ls yl yR yS yc ys) (fun z => hf _ _ _ _ (q.2 z) H locs cells slots ls yl yR yS yc ys)
  · exact q.elim
theorem r_goto {E : ME} {own : String} {cc : ByteArray} {nL : Nat} {rm : Room} (hE : EnvOk E own cc nL rm) {pc : Nat} {f : FT} {off : Int} {tgt : Nat} (d : decode cc pc = .ok (.goto off, 3)) (ht : (pc : Int) + off = (tgt : Int)) (hf : At E tgt f) : At E pc f := by
  intro L S h u q
  obtain ⟨p, l, e, R, s, m, args, below, meth, c, Qm, D, dA, A⟩ := E
  obtain ⟨kx, kb, kl, kown, kts, klk, kR, kW, kA, kst⟩ := hE
  intro H locs cells slots ls yl yR yS yc ys
  exact lv_goto kx kb d ht (hf _ _ _ _ q H locs cells slots ls yl yR yS yc ys)
-- fields
def o_gI (ci N k : Nat) (f : FT) : FT := fun L S h u => match S with
  | .ref a :: S => hs h a = (ci + 1, N) ∧ f L (.int (hI h a k) :: S) h u
  | _ => False
def o_gR (ci N k : Nat) (f : FT) : FT := fun L S h u => match S with
  | .ref a :: S => hs h a = (ci + 1, N) ∧ hR h a k ≠ 0 ∧ f L (.ref (hR h a k) :: S) h u
  | _ => False
def o_pI (ci N k : Nat) (f : FT) : FT := fun L S h u => match S with
  | .int x :: .ref a :: S => hs h a = (ci + 1, N) ∧ f L S (wI h a k x) u
  | _ => False
def o_pZ (ci N k : Nat) (f : FT) : FT := fun L S h u => match S with
  | .int x :: .ref a :: S => hs h a = (ci + 1, N) ∧ (x = 0 ∨ x = 1) ∧ f L S (wI h a k x) u
  | _ => False
def o_pR (ci N k : Nat) (f : FT) : FT := fun L S h u => match S with
  | .ref v :: .ref a :: S => hs h a = (ci + 1, N) ∧ v ≠ 0 ∧ f L S (wR h a k v) u
  | _ => False
theorem Rp.ob {D : va_G} {dA : Nat → ClassId} {A : Nat → Prop} {H : Heap} {h : Hp} (qR : Rp D dA A H h) {a ci N : Nat} (e : hs h a = (ci + 1, N)) (hci : ci + 1 < 20) : A a ∧ ∃ q : vw_C, cls[ci]? = some q ∧ q.2.2 = N ∧ t_OB a (D.1 ci) N (D.2 ci) H (fun j => fv h ci a j) := by
  obtain ⟨h1, -, h3⟩ := qR.2 a (by rw [e]; exact Nat.succ_ne_zero _)
  refine ⟨h1, ?_⟩
  unfold CellOk at h3
  rw [e, if_pos hci] at h3
  exact h3
theorem CellOk.obj {D : va_G} {dA : Nat → ClassId} {H : Heap} {h : Hp} {a ci N : Nat} (e : hs h a = (ci + 1, N)) (hci : ci + 1 < 20) {q : vw_C} (h1 : cls[ci]? = some q) (h2 : q.2.2 = N) (h3 : t_OB a (D.1 ci) N (D.2 ci) H (fun j => fv h ci a j)) : CellOk D dA h H a := by
  unfold CellOk
  rw [e, if_pos hci]
  exact ⟨q, h1, h2, h3⟩
theorem va_get1 {E : ME} {own : String} {cc : ByteArray} {nL : Nat} {rm : Room} (hE : EnvOk E own cc nL rm) {pc : Nat} {f : FT} {idx ci N k : Nat} {C : String} {T : u_T} (d : decode cc pc = .ok (.getfield idx, 3)) (hci : ci + 1 < 20) (hc : cls[ci]? = some (C, T, N)) (hk : k < N) (hin : ∀ w ∈ u_ws C T N, w ∈ TB) (hl : Cond.fieldLink own idx (T k).1 (T k).2.1 (T k).2.2.1 ∈ TB) (hf : At E (pc + 3) f) {L : LV} {S : List Value} {h : Hp} {u : Nat × Nat} {a : Nat} (q1 : hs h a = (ci + 1, N)) {v : Value} (hv : fv h ci a k = v) (q2 : f L (v :: S) h u) : G E pc L (.ref a :: S) h u := by
  obtain ⟨p, l, e, R, s, m, args, below, meth, c, Qm, D, dA, A⟩ := E
  obtain ⟨kx, kb, kl, kown, kts, klk, kR, kW, kA, kst⟩ := hE
  intro H locs cells slots ls yl yR yS yc ys
  obtain ⟨-, q, g1, g2, cell, c1, c2, c3, c4⟩ := yR.ob q1 hci
  have hq : q = (C, T, N) := Option.some.inj (g1.symm.trans hc)
  subst hq
  obtain ⟨jS, jc, kC, jk, jkind⟩ := kW.1.1 ci _ hc
  obtain ⟨cf, kf, fi, fd, hi, hsl⟩ := jS k hk
  refine W.getf kx kb kown (kts _ hl) hi (u_facts jc jk (u_lays kts hin hk) hi).1 c1 (by rw [c3]; exact fun h => by cases h) (v := v) ?_ rfl rfl d (hf _ _ _ _ q2 H locs cells slots ls yl yR yS yc ys)
  rw [hsl, c4 k hk]
  exact congrArg some hv
theorem r_gI {E : ME} {own : String} {cc : ByteArray} {nL : Nat} {rm : Room} (hE : EnvOk E own cc nL rm) {pc : Nat} {f : FT} {idx ci N k : Nat} {C : String} {T : u_T} (d : decode cc pc = .ok (.getfield idx, 3)) (hci : ci + 1 < 20) (hc : cls[ci]? = some (C, T, N)) (hk : k < N) (hin : ∀ w ∈ u_ws C T N, w ∈ TB) (hl : Cond.fieldLink own idx (T k).1 (T k).2.1 (T k).2.2.1 ∈ TB) (hv : ∀ h a, fv h ci a k = .int (hI h a k)) (hf : At E (pc + 3) f) : At E pc (o_gI ci N k f) := by
  intro L S h u q
  unfold o_gI at q
  split at q
  · exact va_get1 hE d hci hc hk hin hl hf q.1 (hv _ _) q.2
  · exact q.elim
theorem r_gR {E : ME} {own : String} {cc : ByteArray} {nL : Nat} {rm : Room} (hE : EnvOk E own cc nL rm) {pc : Nat} {f : FT} {idx ci N k : Nat} {C : String} {T : u_T} (d : decode cc pc = .ok (.getfield idx, 3)) (hci : ci + 1 < 20) (hc : cls[ci]? = some (C, T, N)) (hk : k < N) (hin : ∀ w ∈ u_ws C T N, w ∈ TB) (hl : Cond.fieldLink own idx (T k).1 (T k).2.1 (T k).2.2.1 ∈ TB) (hv : ∀ h a, fv h ci a k = va_rf (ro (hR h a k))) (hf : At E (pc + 3) f) : At E pc (o_gR ci N k f) := by
  intro L S h u q
  unfold o_gR at q
  split at q
  · exact va_get1 hE d hci hc hk hin hl hf q.1 ((hv _ _).trans (ro_ne q.2.1)) q.2.2
  · exact q.elim
theorem va_put1 {E : ME} {own : String} {cc : ByteArray} {nL : Nat} {rm : Room} (hE : EnvOk E own cc nL rm) {pc : Nat} {f : FT} {idx ci N k : Nat} {C : String} {T : u_T} (d : decode cc pc = .ok (.putfield idx, 3)) (hci : ci + 1 < 20) (hc : cls[ci]? = some (C, T, N)) (hk : k < N) (hin : ∀ w ∈ u_ws C T N, w ∈ TB) (hl : Cond.fieldLink own idx (T k).1 (T k).2.1 (T k).2.2.1 ∈ TB) (ty0 : Nat → FieldType) (hty : ∀ k, k < N → parseFieldDescriptor (T k).2.2.1 = some (ty0 k)) (hnm : ∀ a, a < N → ∀ b, b < N → a ≠ b → (T a).2.1 ≠ (T b).2.1)
    (hfin : (T k).2.2.2 = false ∨ (E.2.2.2.2.2.2.2.2.1.name = "<init>" ∧ (T k).1 = own ∧ (T k).2.2.2 = true)) (hf : At E (pc + 3) f) {L : LV} {S : List Value} {h h' : Hp} {u : Nat × Nat} {a : Nat} (q1 : hs h a = (ci + 1, N)) {v : Value} (hna : narrow (ty0 k) v = v) (hfit : fits (ty0 k) v = true) (e1 : hn h' = hn h) (e2 : hs h' a = hs h a) (g : ∀ b, b ≠ a → ag h h' b) (hu : ∀ j, j < N → updV (fun j => fv h ci a j) k v j = fv h' ci a j) (q2 : f L S h' u) : G E pc L (v :: .ref a :: S) h u := by
  obtain ⟨p, l, e, R, s, m, args, below, meth, c, Qm, D, dA, A⟩ := E
  obtain ⟨kx, kb, kl, kown, kts, klk, kR, kW, kA, kst⟩ := hE
  intro H locs cells slots ls yl yR yS yc ys
  have hap := va_apart (own := own) (D := D) (cl := cls) kts hin ty0 hty hnm kW.1 hc
  obtain ⟨ya, q, g1, g2, cell, c1, c2, c3, c4⟩ := yR.ob q1 hci
  have hq : q = (C, T, N) := Option.some.inj (g1.symm.trans hc)
  subst hq
  obtain ⟨jS, jc, kC, jk, jkind⟩ := kW.1.1 ci _ hc
  obtain ⟨cf, kf, fi, fd, hi, hsl⟩ := jS k hk
  have hlay := kts _ (hin _ (u_in_lay hk))
  have hst := (u_facts jc jk (u_lays kts hin hk) hi).1
  have fin : ∀ (H' : Heap) (locs' : List Loc), H'[a]? = some (cell.setSlot (D.2 ci k) v) → H'.size = H.size → (∀ q, q ≠ a → H'[q]? = H[q]?) → va_S A s.heap H' locs' → W p l e R s m args below meth c H' locs' cells slots Qm (F0 m (pc + 3) ls S) := by
    intro H' locs' i1 i2 i3 i4
    refine hf _ _ _ _ q2 H' locs' cells slots ls yl (yR.set i2 i3 e1 e2 g ?_) i4 yc ys
    exact CellOk.obj (by rw [e2]; exact q1) hci hc rfl (t_OB.to (V := updV (fun j => fv h ci a j) k v) ⟨_, i1, c2, c3, t_set c4 hap hk v⟩ hu)
  rcases hfin with hfin | ⟨hin2, hdecl, hfin⟩
  · unfold u_lay at hlay
    rw [if_neg (by rw [hfin]; decide)] at hlay
    have h6 := u_store jc jk jkind hlay hi (hty k hk) hna hfit
    refine W.putK kx kb (f := fd) ⟨kown, kts _ hl, ⟨_, _, _, hi⟩, hst⟩ (by rw [c2]; exact h6) c1 c3 (by rw [hsl]; exact k2_hasslot (c4 k hk)) rfl rfl d fun H' i1 i2 i3 => ?_
    rw [hsl] at i1
    exact fin H' _ i1 i2 i3 (yS.put i2 i3 ya)
  · unfold u_lay at hlay
    rw [if_pos hfin] at hlay
    have hcf : m.cls = cf := by
      obtain ⟨_, _, c', _, _, _, -, -, hf', -, -, -, hown2, -⟩ := Cond.laysFinal_spec hlay
      have e1 : c' = cf := by have := hi.symm.trans hf'; simp at this; exact this.1.symm
      rw [hdecl] at hown2
      rw [← e1]; exact Option.some.inj (kown.symm.trans hown2)
    have h6 := u_fits jc jk jkind (Or.inr hlay) hi (hty k hk) hna hfit
    refine W.putFinK kx kb kown (kts _ hl) hi hst hcf hin2 (by rw [c2]; exact h6) c1 c3 (by rw [hsl]; exact k2_hasslot (c4 k hk)) rfl rfl d fun H' i1 i2 i3 => ?_
    rw [hsl] at i1
    exact fin H' _ i1 i2 i3 (yS.put i2 i3 ya)
theorem updV_wI {h : Hp} {ci a k : Nat} {x : Int32} (hv : ∀ h a, fv h ci a k = .int (hI h a k)) (j : Nat) : updV (fun j => fv h ci a j) k (.int x) j = fv (wI h a k x) ci a j := by
  unfold updV
  by_cases e : j = k
  · subst e
    rw [if_pos rfl, hv]
    show _ = Value.int (if a = a then (if j = j then x else _) else _)
    rw [if_pos rfl, if_pos rfl]
  · rw [if_neg e]
    have h1 : hI (wI h a k x) a j = hI h a j := by
      show (if a = a then (if j = k then x else _) else _) = _
      rw [if_pos rfl, if_neg e]; rfl
    unfold fv
    rw [h1]; rfl
theorem updV_wR {h : Hp} {ci a k x : Nat} (hx0 : x ≠ 0) (hv : ∀ h a, fv h ci a k = va_rf (ro (hR h a k))) (j : Nat) : updV (fun j => fv h ci a j) k (.ref x) j = fv (wR h a k x) ci a j := by
  unfold updV
  by_cases e : j = k
  · subst e
    rw [if_pos rfl, hv]
    show _ = va_rf (ro (if a = a then (if j = j then x else _) else _))
    rw [if_pos rfl, if_pos rfl, ro_ne hx0]
  · rw [if_neg e]
    have h1 : hR (wR h a k x) a j = hR h a j := by
      show (if a = a then (if j = k then x else _) else _) = _
      rw [if_pos rfl, if_neg e]; rfl
    unfold fv
    rw [h1]; rfl
theorem r_pI {E : ME} {own : String} {cc : ByteArray} {nL : Nat} {rm : Room} (hE : EnvOk E own cc nL rm) {pc : Nat} {f : FT} {idx ci N k : Nat} {C : String} {T : u_T} (d : decode cc pc = .ok (.putfield idx, 3)) (hci : ci + 1 < 20) (hc : cls[ci]? = some (C, T, N)) (hk : k < N) (hin : ∀ w ∈ u_ws C T N, w ∈ TB) (hl : Cond.fieldLink own idx (T k).1 (T k).2.1 (T k).2.2.1 ∈ TB) (ty0 : Nat → FieldType) (hty : ∀ k, k < N → parseFieldDescriptor (T k).2.2.1 = some (ty0 k)) (hnm : ∀ a, a < N → ∀ b, b < N → a ≠ b → (T a).2.1 ≠ (T b).2.1) (hfin : (T k).2.2.2 = false) (hv : ∀ h a, fv h ci a k = .int (hI h a k)) (ht : ty0 k = .int) (hf : At E (pc + 3) f) : At E pc (o_pI ci N k f) := by
  intro L S h u q
  unfold o_pI at q
  split at q
  · rename_i x a S
    exact va_put1 (h' := wI h a k x) hE d hci hc hk hin hl ty0 hty hnm (Or.inl hfin) hf q.1 (by rw [ht]; rfl) (by rw [ht]; rfl) rfl rfl (fun b hb => ag_wI hb) (fun j _ => updV_wI hv j) q.2
  · exact q.elim
theorem r_pZ {E : ME} {own : String} {cc : ByteArray} {nL : Nat} {rm : Room} (hE : EnvOk E own cc nL rm) {pc : Nat} {f : FT} {idx ci N k : Nat} {C : String} {T : u_T} (d : decode cc pc = .ok (.putfield idx, 3)) (hci : ci + 1 < 20) (hc : cls[ci]? = some (C, T, N)) (hk : k < N) (hin : ∀ w ∈ u_ws C T N, w ∈ TB) (hl : Cond.fieldLink own idx (T k).1 (T k).2.1 (T k).2.2.1 ∈ TB) (ty0 : Nat → FieldType) (hty : ∀ k, k < N → parseFieldDescriptor (T k).2.2.1 = some (ty0 k)) (hnm : ∀ a, a < N → ∀ b, b < N → a ≠ b → (T a).2.1 ≠ (T b).2.1) (hfin : (T k).2.2.2 = false) (hv : ∀ h a, fv h ci a k = .int (hI h a k)) (ht : ty0 k = .boolean) (hf : At E (pc + 3) f) : At E pc (o_pZ ci N k f) := by
  intro L S h u q
  unfold o_pZ at q
  split at q
  · rename_i x a S
    exact va_put1 (h' := wI h a k x) hE d hci hc hk hin hl ty0 hty hnm (Or.inl hfin) hf q.1 (by rw [ht]; rcases q.2.1 with e | e <;> subst e <;> rfl) (by rw [ht]; rcases q.2.1 with e | e <;> subst e <;> rfl) rfl rfl (fun b hb => ag_wI hb) (fun j _ => updV_wI hv j) q.2.2
  · exact q.elim
theorem r_pR {E : ME} {own : String} {cc : ByteArray} {nL : Nat} {rm : Room} (hE : EnvOk E own cc nL rm) {pc : Nat} {f : FT} {idx ci N k : Nat} {C : String} {T : u_T} (d : decode cc pc = .ok (.putfield idx, 3)) (hci : ci + 1 < 20) (hc : cls[ci]? = some (C, T, N)) (hk : k < N) (hin : ∀ w ∈ u_ws C T N, w ∈ TB) (hl : Cond.fieldLink own idx (T k).1 (T k).2.1 (T k).2.2.1 ∈ TB) (ty0 : Nat → FieldType) (hty : ∀ k, k < N → parseFieldDescriptor (T k).2.2.1 = some (ty0 k)) (hnm : ∀ a, a < N → ∀ b, b < N → a ≠ b → (T a).2.1 ≠ (T b).2.1) (hin2 : E.2.2.2.2.2.2.2.2.1.name = "<init>") (hdecl : (T k).1 = own) (hfin : (T k).2.2.2 = true) (hv : ∀ h a, fv h ci a k = va_rf (ro (hR h a k))) (ht : (ty0 k).isReference = true) (hf : At E (pc + 3) f) : At E pc (o_pR ci N k f) := by
  intro L S h u q
  unfold o_pR at q
  split at q
  · rename_i x a S
    exact va_put1 (h' := wR h a k x) hE d hci hc hk hin hl ty0 hty hnm (Or.inr ⟨hin2, hdecl, hfin⟩) hf q.1 (by cases hz : ty0 k <;> rw [hz] at ht <;> first | rfl | cases ht) (by cases hz : ty0 k <;> rw [hz] at ht <;> first | rfl | cases ht) rfl rfl (fun b hb => ag_wR hb) (fun j _ => updV_wR q.2.1 hv j) q.2.2
  · exact q.elim
theorem Rp.ar {D : va_G} {dA : Nat → ClassId} {A : Nat → Prop} {H : Heap} {h : Hp} (qR : Rp D dA A H h) {a k : Nat} (e : (hs h a).1 = k) (hk : 20 ≤ k) : A a ∧ H[a]? = some (arrV (dA k) (hs h a).2 (fun j => av h k a j)) := by
  obtain ⟨h1, -, h3⟩ := qR.2 a (by rw [e]; omega)
  refine ⟨h1, ?_⟩
  unfold CellOk at h3
  rw [e, if_neg (by omega)] at h3
  exact h3
theorem CellOk.arr {D : va_G} {dA : Nat → ClassId} {H : Heap} {h : Hp} {a k : Nat} (e : (hs h a).1 = k) (hk : 20 ≤ k) (h3 : H[a]? = some (arrV (dA k) (hs h a).2 (fun j => av h k a j))) : CellOk D dA h H a := by
  unfold CellOk
  rw [e, if_neg (by omega)]
  exact h3
theorem Wd.arr {D : va_G} {dA : Nat → ClassId} {A : Nat → Prop} {s : State} (kW : Wd D dA A s) {k t : Nat} {ty : FieldType} (h : ATY[t]? = some (k, ty)) : ArrOfT s (dA k) ty ∧ va_RA s (dA k) ty := by
  have h2 : (tysOf dA)[t]? = some (dA k, ty) := by unfold tysOf; rw [List.getElem?_map, h]; rfl
  exact kW.1.2 t _ h2
theorem vin_lt {i : Int32} {n : Nat} (q : vp_in i n) : i.toNatClampNeg < n := Nat.not_le.mp fun z => q (Or.inr z)
theorem in_arr {cI : ClassId} {n : Nat} {g : Nat → Value} {i : Int32} (q : vp_in i n) : ¬ (i < 0 ∨ (arrV cI n g).slots.size ≤ i.toNatClampNeg) := by rw [arrV_size]; exact q
theorem av_int {h : Hp} {k a j : Nat} (hk : k ≤ 22) : av h k a j = .int (hI h a j) := by unfold av; rw [if_pos hk]
theorem av_long {h : Hp} {a j : Nat} : av h 23 a j = .long (hL h a j) := by unfold av; rw [if_neg (by decide), if_pos rfl]
theorem av_dbl {h : Hp} {a j : Nat} : av h 24 a j = .double (hD h a j) := by unfold av; rw [if_neg (by decide), if_neg (by decide), if_pos rfl]
theorem av_ref {h : Hp} {k a j : Nat} (hk : 25 ≤ k) : av h k a j = va_rf (ro (hR h a j)) := by unfold av; rw [if_neg (by omega), if_neg (by omega), if_neg (by omega)]
theorem u2_in {α : Type} {f : Nat → Nat → α} {a i j : Nat} {x : α} (e : j = i) : u2 f a i x a j = x := by unfold u2; rw [if_pos rfl, if_pos e]
theorem u2_ne {α : Type} {f : Nat → Nat → α} {a i j : Nat} {x : α} (e : ¬ j = i) : u2 f a i x a j = f a j := by unfold u2; rw [if_pos rfl, if_neg e]
theorem updV_av {h h' : Hp} {k a i : Nat} {v : Value} (h1 : ∀ j, j = i → av h' k a j = v) (h2 : ∀ j, ¬ j = i → av h' k a j = av h k a j) : updV (fun j => av h k a j) i v = fun j => av h' k a j := by
  funext j
  show (if j = i then v else av h k a j) = _
  by_cases e : j = i
  · rw [if_pos e, h1 j e]
  · rw [if_neg e, h2 j e]
theorem updV_avI {h : Hp} {k a i : Nat} {x : Int32} (hk : k ≤ 22) : updV (fun j => av h k a j) i (.int x) = fun j => av (wI h a i x) k a j :=
  updV_av (fun j e => by rw [av_int hk]; exact congrArg Value.int (u2_in e)) (fun j e => by rw [av_int hk, av_int hk]; exact congrArg Value.int (u2_ne e))
theorem updV_avL {h : Hp} {a i : Nat} {x : Int64} : updV (fun j => av h 23 a j) i (.long x) = fun j => av (wL h a i x) 23 a j :=
  updV_av (fun j e => by rw [av_long]; exact congrArg Value.long (u2_in e)) (fun j e => by rw [av_long, av_long]; exact congrArg Value.long (u2_ne e))
theorem updV_avD {h : Hp} {a i : Nat} {x : UInt64} : updV (fun j => av h 24 a j) i (.double x) = fun j => av (wD h a i x) 24 a j :=
  updV_av (fun j e => by rw [av_dbl]; exact congrArg Value.double (u2_in e)) (fun j e => by rw [av_dbl, av_dbl]; exact congrArg Value.double (u2_ne e))
theorem updV_avR {h : Hp} {k a i x : Nat} (hx : x ≠ 0) (hk : 25 ≤ k) : updV (fun j => av h k a j) i (.ref x) = fun j => av (wR h a i x) k a j :=
  updV_av (fun j e => by rw [av_ref hk]; exact (congrArg (fun z => va_rf (ro z)) (u2_in e)).trans (ro_ne hx)) (fun j e => by rw [av_ref hk, av_ref hk]; exact congrArg (fun z => va_rf (ro z)) (u2_ne e))
def o_iaload (f : FT) : FT := fun L S h u => match S with
  | .int i :: .ref a :: S => (hs h a).1 = 20 ∧ vp_in i (hs h a).2 ∧ f L (.int (hI h a i.toNatClampNeg) :: S) h u
  | _ => False
theorem r_iaload {E : ME} {own : String} {cc : ByteArray} {nL : Nat} {rm : Room} (hE : EnvOk E own cc nL rm) {pc : Nat} {f : FT} (d : decode cc pc = .ok (.iaload, 1)) (hf : At E (pc + 1) f) : At E pc (o_iaload f) := by
  intro L S h u q
  unfold o_iaload at q
  split at q
  · rename_i i a S
    obtain ⟨p, l, e, R, s, m, args, below, meth, c, Qm, D, dA, A⟩ := E
    obtain ⟨kx, kb, kl, kown, kts, klk, kR, kW, kA, kst⟩ := hE
    intro H locs cells slots ls yl yR yS yc ys
    obtain ⟨q1, q2, q3⟩ := q
    obtain ⟨-, g2⟩ := yR.ar q1 (by decide)
    exact W.iald (v := .int (hI h a i.toNatClampNeg)) kx kb g2 ((kW.arr (t := 0) rfl).1 _ _) (fun z => by cases z) (in_arr q2) (by rw [arrV_read _ _ (vin_lt q2)]; rfl) rfl rfl d (hf _ _ _ _ q3 H locs cells slots ls yl yR yS yc ys)
  · exact q.elim
def o_zaload (f : FT) : FT := fun L S h u => match S with
  | .int i :: .ref a :: S => (hs h a).1 = 21 ∧ vp_in i (hs h a).2 ∧ f L (.int (hI h a i.toNatClampNeg) :: S) h u
  | _ => False
theorem r_zaload {E : ME} {own : String} {cc : ByteArray} {nL : Nat} {rm : Room} (hE : EnvOk E own cc nL rm) {pc : Nat} {f : FT} (d : decode cc pc = .ok (.baload, 1)) (hf : At E (pc + 1) f) : At E pc (o_zaload f) := by
  intro L S h u q
  unfold o_zaload at q
  split at q
  · rename_i i a S
    obtain ⟨p, l, e, R, s, m, args, below, meth, c, Qm, D, dA, A⟩ := E
    obtain ⟨kx, kb, kl, kown, kts, klk, kR, kW, kA, kst⟩ := hE
    intro H locs cells slots ls yl yR yS yc ys
    obtain ⟨q1, q2, q3⟩ := q
    obtain ⟨-, g2⟩ := yR.ar q1 (by decide)
    exact W.zald (v := .int (hI h a i.toNatClampNeg)) kx kb g2 ((kW.arr (t := 1) rfl).1 _ _) (fun z => by cases z) (in_arr q2) (by rw [arrV_read _ _ (vin_lt q2)]; rfl) rfl rfl d (hf _ _ _ _ q3 H locs cells slots ls yl yR yS yc ys)
  · exact q.elim
def o_caload (f : FT) : FT := fun L S h u => match S with
  | .int i :: .ref a :: S => (hs h a).1 = 22 ∧ vp_in i (hs h a).2 ∧ f L (.int (hI h a i.toNatClampNeg) :: S) h u
  | _ => False
theorem r_caload {E : ME} {own : String} {cc : ByteArray} {nL : Nat} {rm : Room} (hE : EnvOk E own cc nL rm) {pc : Nat} {f : FT} (d : decode cc pc = .ok (.caload, 1)) (hf : At E (pc + 1) f) : At E pc (o_caload f) := by
  intro L S h u q
  unfold o_caload at q
  split at q
  · rename_i i a S
    obtain ⟨p, l, e, R, s, m, args, below, meth, c, Qm, D, dA, A⟩ := E
    obtain ⟨kx, kb, kl, kown, kts, klk, kR, kW, kA, kst⟩ := hE
    intro H locs cells slots ls yl yR yS yc ys
    obtain ⟨q1, q2, q3⟩ := q
    obtain ⟨-, g2⟩ := yR.ar q1 (by decide)
    exact W.cald (v := .int (hI h a i.toNatClampNeg)) kx kb g2 ((kW.arr (t := 2) rfl).1 _ _) (fun z => by cases z) (in_arr q2) (by rw [arrV_read _ _ (vin_lt q2)]; rfl) rfl rfl d (hf _ _ _ _ q3 H locs cells slots ls yl yR yS yc ys)
  · exact q.elim
def o_laload (f : FT) : FT := fun L S h u => match S with
  | .int i :: .ref a :: S => (hs h a).1 = 23 ∧ vp_in i (hs h a).2 ∧ f L (.long (hL h a i.toNatClampNeg) :: S) h u
  | _ => False
theorem r_laload {E : ME} {own : String} {cc : ByteArray} {nL : Nat} {rm : Room} (hE : EnvOk E own cc nL rm) {pc : Nat} {f : FT} (d : decode cc pc = .ok (.laload, 1)) (hf : At E (pc + 1) f) : At E pc (o_laload f) := by
  intro L S h u q
  unfold o_laload at q
  split at q
  · rename_i i a S
    obtain ⟨p, l, e, R, s, m, args, below, meth, c, Qm, D, dA, A⟩ := E
    obtain ⟨kx, kb, kl, kown, kts, klk, kR, kW, kA, kst⟩ := hE
    intro H locs cells slots ls yl yR yS yc ys
    obtain ⟨q1, q2, q3⟩ := q
    obtain ⟨-, g2⟩ := yR.ar q1 (by decide)
    exact W.lald (v := .long (hL h a i.toNatClampNeg)) kx kb g2 ((kW.arr (t := 3) rfl).1 _ _) (fun z => by cases z) (in_arr q2) (by rw [arrV_read _ _ (vin_lt q2)]; rfl) rfl rfl d (hf _ _ _ _ q3 H locs cells slots ls yl yR yS yc ys)
  · exact q.elim
def o_daload (f : FT) : FT := fun L S h u => match S with
  | .int i :: .ref a :: S => (hs h a).1 = 24 ∧ vp_in i (hs h a).2 ∧ f L (.double (hD h a i.toNatClampNeg) :: S) h u
  | _ => False
theorem r_daload {E : ME} {own : String} {cc : ByteArray} {nL : Nat} {rm : Room} (hE : EnvOk E own cc nL rm) {pc : Nat} {f : FT} (d : decode cc pc = .ok (.daload, 1)) (hf : At E (pc + 1) f) : At E pc (o_daload f) := by
  intro L S h u q
  unfold o_daload at q
  split at q
  · rename_i i a S
    obtain ⟨p, l, e, R, s, m, args, below, meth, c, Qm, D, dA, A⟩ := E
    obtain ⟨kx, kb, kl, kown, kts, klk, kR, kW, kA, kst⟩ := hE
    intro H locs cells slots ls yl yR yS yc ys
    obtain ⟨q1, q2, q3⟩ := q
    obtain ⟨-, g2⟩ := yR.ar q1 (by decide)
    exact W.dald (v := .double (hD h a i.toNatClampNeg)) kx kb g2 ((kW.arr (t := 4) rfl).1 _ _) (fun z => by cases z) (in_arr q2) (by rw [arrV_read _ _ (vin_lt q2)]; rfl) rfl rfl d (hf _ _ _ _ q3 H locs cells slots ls yl yR yS yc ys)
  · exact q.elim
def o_iastore (f : FT) : FT := fun L S h u => match S with
  | .int x :: .int i :: .ref a :: S => (hs h a).1 = 20 ∧ vp_in i (hs h a).2 ∧ f L S (wI h a i.toNatClampNeg x) u
  | _ => False
theorem r_iastore {E : ME} {own : String} {cc : ByteArray} {nL : Nat} {rm : Room} (hE : EnvOk E own cc nL rm) {pc : Nat} {f : FT} (d : decode cc pc = .ok (.iastore, 1)) (hf : At E (pc + 1) f) : At E pc (o_iastore f) := by
  intro L S h u q
  unfold o_iastore at q
  split at q
  · rename_i x i a S
    obtain ⟨p, l, e, R, s, m, args, below, meth, c, Qm, D, dA, A⟩ := E
    obtain ⟨kx, kb, kl, kown, kts, klk, kR, kW, kA, kst⟩ := hE
    intro H locs cells slots ls yl yR yS yc ys
    obtain ⟨q1, q2, q3⟩ := q
    obtain ⟨g1, g2⟩ := yR.ar q1 (by decide)
    refine W.iast kx kb g2 ((kW.arr (t := 0) rfl).1 _ _) (fun z => by cases z) (in_arr q2) rfl rfl d fun H1 i1 i2 i3 => ?_
    refine hf _ _ _ _ q3 H1 _ cells slots ls yl (yR.set i2 i3 rfl rfl (fun b hb => ag_wI hb) ?_) (yS.put i2 i3 g1) yc ys
    refine CellOk.arr q1 (by decide) ?_
    rw [i1, arrV_store]
    rw [updV_avI (by decide)]
    rfl
  · exact q.elim
def o_zastore (f : FT) : FT := fun L S h u => match S with
  | .int x :: .int i :: .ref a :: S => (hs h a).1 = 21 ∧ vp_in i (hs h a).2 ∧ narrow .boolean (.int x) = .int x ∧ f L S (wI h a i.toNatClampNeg x) u
  | _ => False
theorem r_zastore {E : ME} {own : String} {cc : ByteArray} {nL : Nat} {rm : Room} (hE : EnvOk E own cc nL rm) {pc : Nat} {f : FT} (d : decode cc pc = .ok (.bastore, 1)) (hf : At E (pc + 1) f) : At E pc (o_zastore f) := by
  intro L S h u q
  unfold o_zastore at q
  split at q
  · rename_i x i a S
    obtain ⟨p, l, e, R, s, m, args, below, meth, c, Qm, D, dA, A⟩ := E
    obtain ⟨kx, kb, kl, kown, kts, klk, kR, kW, kA, kst⟩ := hE
    intro H locs cells slots ls yl yR yS yc ys
    obtain ⟨q1, q2, q4, q3⟩ := q
    obtain ⟨g1, g2⟩ := yR.ar q1 (by decide)
    refine W.zast kx kb g2 ((kW.arr (t := 1) rfl).1 _ _) (fun z => by cases z) (in_arr q2) rfl rfl d fun H1 i1 i2 i3 => ?_
    rw [q4] at i1
    refine hf _ _ _ _ q3 H1 _ cells slots ls yl (yR.set i2 i3 rfl rfl (fun b hb => ag_wI hb) ?_) (yS.put i2 i3 g1) yc ys
    refine CellOk.arr q1 (by decide) ?_
    rw [i1, arrV_store]
    rw [updV_avI (by decide)]
    rfl
  · exact q.elim
def o_castore (f : FT) : FT := fun L S h u => match S with
  | .int x :: .int i :: .ref a :: S => (hs h a).1 = 22 ∧ vp_in i (hs h a).2 ∧ narrow .char (.int x) = .int x ∧ f L S (wI h a i.toNatClampNeg x) u
  | _ => False
theorem r_castore {E : ME} {own : String} {cc : ByteArray} {nL : Nat} {rm : Room} (hE : EnvOk E own cc nL rm) {pc : Nat} {f : FT} (d : decode cc pc = .ok (.castore, 1)) (hf : At E (pc + 1) f) : At E pc (o_castore f) := by
  intro L S h u q
  unfold o_castore at q
  split at q
  · rename_i x i a S
    obtain ⟨p, l, e, R, s, m, args, below, meth, c, Qm, D, dA, A⟩ := E
    obtain ⟨kx, kb, kl, kown, kts, klk, kR, kW, kA, kst⟩ := hE
    intro H locs cells slots ls yl yR yS yc ys
    obtain ⟨q1, q2, q4, q3⟩ := q
    obtain ⟨g1, g2⟩ := yR.ar q1 (by decide)
    refine W.cast kx kb g2 ((kW.arr (t := 2) rfl).1 _ _) (fun z => by cases z) (in_arr q2) rfl rfl d fun H1 i1 i2 i3 => ?_
    rw [q4] at i1
    refine hf _ _ _ _ q3 H1 _ cells slots ls yl (yR.set i2 i3 rfl rfl (fun b hb => ag_wI hb) ?_) (yS.put i2 i3 g1) yc ys
    refine CellOk.arr q1 (by decide) ?_
    rw [i1, arrV_store]
    rw [updV_avI (by decide)]
    rfl
  · exact q.elim
def o_lastore (f : FT) : FT := fun L S h u => match S with
  | .long x :: .int i :: .ref a :: S => (hs h a).1 = 23 ∧ vp_in i (hs h a).2 ∧ f L S (wL h a i.toNatClampNeg x) u
  | _ => False
theorem r_lastore {E : ME} {own : String} {cc : ByteArray} {nL : Nat} {rm : Room} (hE : EnvOk E own cc nL rm) {pc : Nat} {f : FT} (d : decode cc pc = .ok (.lastore, 1)) (hf : At E (pc + 1) f) : At E pc (o_lastore f) := by
  intro L S h u q
  unfold o_lastore at q
  split at q
  · rename_i x i a S
    obtain ⟨p, l, e, R, s, m, args, below, meth, c, Qm, D, dA, A⟩ := E
    obtain ⟨kx, kb, kl, kown, kts, klk, kR, kW, kA, kst⟩ := hE
    intro H locs cells slots ls yl yR yS yc ys
    obtain ⟨q1, q2, q3⟩ := q
    obtain ⟨g1, g2⟩ := yR.ar q1 (by decide)
    refine W.last kx kb g2 ((kW.arr (t := 3) rfl).1 _ _) (fun z => by cases z) (in_arr q2) rfl rfl d fun H1 i1 i2 i3 => ?_
    refine hf _ _ _ _ q3 H1 _ cells slots ls yl (yR.set i2 i3 rfl rfl (fun b hb => ag_wL hb) ?_) (yS.put i2 i3 g1) yc ys
    refine CellOk.arr q1 (by decide) ?_
    rw [i1, arrV_store]
    rw [updV_avL]
    rfl
  · exact q.elim
def o_dastore (f : FT) : FT := fun L S h u => match S with
  | .double x :: .int i :: .ref a :: S => (hs h a).1 = 24 ∧ vp_in i (hs h a).2 ∧ f L S (wD h a i.toNatClampNeg x) u
  | _ => False
theorem r_dastore {E : ME} {own : String} {cc : ByteArray} {nL : Nat} {rm : Room} (hE : EnvOk E own cc nL rm) {pc : Nat} {f : FT} (d : decode cc pc = .ok (.dastore, 1)) (hf : At E (pc + 1) f) : At E pc (o_dastore f) := by
  intro L S h u q
  unfold o_dastore at q
  split at q
  · rename_i x i a S
    obtain ⟨p, l, e, R, s, m, args, below, meth, c, Qm, D, dA, A⟩ := E
    obtain ⟨kx, kb, kl, kown, kts, klk, kR, kW, kA, kst⟩ := hE
    intro H locs cells slots ls yl yR yS yc ys
    obtain ⟨q1, q2, q3⟩ := q
    obtain ⟨g1, g2⟩ := yR.ar q1 (by decide)
    refine W.dast kx kb g2 ((kW.arr (t := 4) rfl).1 _ _) (fun z => by cases z) (in_arr q2) rfl rfl d fun H1 i1 i2 i3 => ?_
    refine hf _ _ _ _ q3 H1 _ cells slots ls yl (yR.set i2 i3 rfl rfl (fun b hb => ag_wD hb) ?_) (yS.put i2 i3 g1) yc ys
    refine CellOk.arr q1 (by decide) ?_
    rw [i1, arrV_store]
    rw [updV_avD]
    rfl
  · exact q.elim
def o_aaload (k : Nat) (f : FT) : FT := fun L S h u => match S with
  | .int i :: .ref a :: S => (hs h a).1 = k ∧ vp_in i (hs h a).2 ∧ hR h a i.toNatClampNeg ≠ 0 ∧ f L (.ref (hR h a i.toNatClampNeg) :: S) h u
  | _ => False
theorem r_aaload {E : ME} {own : String} {cc : ByteArray} {nL : Nat} {rm : Room} (hE : EnvOk E own cc nL rm) {pc : Nat} {f : FT} {k t : Nat} {ty : FieldType} (hk : 25 ≤ k) (ht : ATY[t]? = some (k, ty)) (hty : ty.isReference = true) (d : decode cc pc = .ok (.aaload, 1)) (hf : At E (pc + 1) f) : At E pc (o_aaload k f) := by
  intro L S h u q
  unfold o_aaload at q
  split at q
  · rename_i i a S
    obtain ⟨p, l, e, R, s, m, args, below, meth, c, Qm, D, dA, A⟩ := E
    obtain ⟨kx, kb, kl, kown, kts, klk, kR, kW, kA, kst⟩ := hE
    intro H locs cells slots ls yl yR yS yc ys
    obtain ⟨q1, q2, q4, q3⟩ := q
    obtain ⟨-, g2⟩ := yR.ar q1 (by omega)
    have hv : av h k a i.toNatClampNeg = .ref (hR h a i.toNatClampNeg) := by
      unfold av; rw [if_neg (by omega), if_neg (by omega), if_neg (by omega)]; exact ro_ne q4
    exact W.aald (ty := ty) kx kb g2 ((kW.arr ht).1 _ _) hty (fun z => by cases z) (in_arr q2) (by rw [arrV_read _ _ (vin_lt q2), hv]) rfl rfl d (hf _ _ _ _ q3 H locs cells slots ls yl yR yS yc ys)
  · exact q.elim
def o_aastore (k ci N : Nat) (f : FT) : FT := fun L S h u => match S with
  | .ref v :: .int i :: .ref a :: S => (hs h a).1 = k ∧ vp_in i (hs h a).2 ∧ hs h v = (ci + 1, N) ∧ v ≠ 0 ∧ f L S (wR h a i.toNatClampNeg v) u
  | _ => False
theorem r_aastore {E : ME} {own : String} {cc : ByteArray} {nL : Nat} {rm : Room} (hE : EnvOk E own cc nL rm) {pc : Nat} {f : FT} {k t ci N : Nat} {C : String} {T : u_T} (hk : 25 ≤ k) (hci : ci + 1 < 20) (hc : cls[ci]? = some (C, T, N)) (ht : ATY[t]? = some (k, .object C)) (d : decode cc pc = .ok (.aastore, 1)) (hf : At E (pc + 1) f) : At E pc (o_aastore k ci N f) := by
  intro L S h u q
  unfold o_aastore at q
  split at q
  · rename_i v i a S
    obtain ⟨p, l, e, R, s, m, args, below, meth, c, Qm, D, dA, A⟩ := E
    obtain ⟨kx, kb, kl, kown, kts, klk, kR, kW, kA, kst⟩ := hE
    intro H locs cells slots ls yl yR yS yc ys
    obtain ⟨q1, q2, q4, q5, q3⟩ := q
    obtain ⟨g1, g2⟩ := yR.ar q1 (by omega)
    obtain ⟨-, qq, w1, w2, cellV, c1, c2, c3, c4⟩ := yR.ob q4 hci
    have hcls := (kW.1.1 ci _ hc).2
    obtain ⟨kA, comp, k1, k2, k3, -⟩ := (kW.arr ht).2
    have hcomp : comp = D.1 ci := Option.some.inj (k3.symm.trans hcls.1)
    subst hcomp
    obtain ⟨kC, hkC, -⟩ := hcls.2
    have h0 : ¬ i < 0 := fun z => q2 (Or.inl z)
    refine W.aast kx kb g2 (fun q h => by cases h) (fun h => by cases h) k1 k2 rfl hkC ⟨h0, by rw [arrV_size]; exact vin_lt q2⟩ c1 (fun q h => by rw [c3] at h; cases h) (by rw [c2]; exact hkC) (by rw [c2]; exact va_assign hcls) rfl rfl d fun H1 i1 i2 i3 => ?_
    refine hf _ _ _ _ q3 H1 _ cells slots ls yl (yR.set i2 i3 rfl rfl (fun b hb => ag_wR hb) ?_) (yS.put i2 i3 g1) yc ys
    refine CellOk.arr q1 (by omega) ?_
    rw [i1, arrV_store]
    rw [updV_avR q5 hk]
    rfl
  · exact q.elim
end BASE
end
section
section CALLS
-- new things
def o_new (ci N mc ms : Nat) (f : FT) : FT := fun L S h u => u.1 + 1 ≤ mc ∧ u.2 + N ≤ ms ∧ f L (.ref (hn h) :: S) (al h (ci + 1, N)) (u.1 + 1, u.2 + N)
def o_newa (k mc ms : Nat) (f : FT) : FT := fun L S h u => match S with
  | .int n :: S => ¬ n < 0 ∧ n.toNatClampNeg ≤ 1000 ∧ u.1 + 1 ≤ mc ∧ u.2 + n.toNatClampNeg ≤ ms ∧ f L (.ref (hn h) :: S) (al h (k, n.toNatClampNeg)) (u.1 + 1, u.2 + n.toNatClampNeg)
  | _ => False
theorem hs_al {h : Hp} {q : Nat × Nat} : hs (al h q) (hn h) = q := if_pos rfl
theorem hI_al {h : Hp} {q : Nat × Nat} : hI (al h q) (hn h) = fun _ => 0 := funext fun j => if_pos rfl
theorem hR_al {h : Hp} {q : Nat × Nat} : hR (al h q) (hn h) = fun _ => 0 := funext fun j => if_pos rfl
theorem hL_al {h : Hp} {q : Nat × Nat} : hL (al h q) (hn h) = fun _ => 0 := funext fun j => if_pos rfl
theorem hD_al {h : Hp} {q : Nat × Nat} : hD (al h q) (hn h) = fun _ => 0 := funext fun j => if_pos rfl
theorem r_new {E : ME} {own : String} {cc : ByteArray} {nL : Nat} {rm : Room} (hE : EnvOk E own cc nL rm) {pc : Nat} {f : FT} {idx ci N : Nat} {C : String} {T : u_T} (d : decode cc pc = .ok (.new idx, 3)) (hci : ci + 1 < 20) (hc : cls[ci]? = some (C, T, N)) (hin : ∀ w ∈ u_ws C T N, w ∈ TB) (ty : Nat → FieldType) (hty : ∀ k, k < N → parseFieldDescriptor (T k).2.2.1 = some (ty k)) (hdv : ∀ h a j, j < N → (∀ j, hI h a j = 0) → (∀ j, hR h a j = 0) → defaultValue (ty j) = fv h ci a j)
    (w1 : Cond.classLink own idx C ∈ TB) (w2 : Cond.instantiable C N ∈ TB) (w3 : Cond.initialized C ∈ TB) (hf : At E (pc + 3) f) : At E pc (o_new ci N rm.cells rm.slots f) := by
  intro L S h u q
  obtain ⟨p, l, e, R, s, m, args, below, meth, c, Qm, D, dA, A⟩ := E
  obtain ⟨kx, kb, kl, kown, kts, klk, kR, kW, kA, kst⟩ := hE
  intro H locs cells slots ls yl yR yS yc ys
  subst kR
  obtain ⟨q1, q2, q3⟩ := q
  have hKn := kW.1.1 ci _ hc
  refine W.newcK kx kb kown (kts _ w1) (kts _ w2) (kts _ w3) rfl d (by omega) (by omega) hKn.2.1 rfl fun H1 kC hkC e1 z1 o1 => ?_
  have hz : hn h = H.size := yR.1.symm
  refine W.eq (g2 := F0 m (pc + 3) ls (.ref (hn h) :: S)) (by rw [hz]) ?_
  refine hf _ _ _ _ q3 H1 locs (cells + 1) (slots + N) ls yl (yR.push z1 o1 (kA _ (by rw [hz]; exact yS.1)) ?_) ⟨Nat.le_trans yS.1 (by omega), fun x h1 h2 => (o1 x (Nat.lt_of_lt_of_le h1 yS.1)).trans (yS.2.1 x h1 h2), yS.2.2⟩ (by show cells + 1 ≤ u.1 + 1; omega) (by show slots + N ≤ u.2 + N; omega)
  refine CellOk.obj hs_al hci hc rfl ?_
  rw [hz]
  refine (u_born ty kts hin hKn hkC e1 hty).to (fun j hj => ?_)
  rw [← hz]
  exact hdv _ _ j hj (fun j => congrFun hI_al j) (fun j => congrFun hR_al j)
theorem r_newa {E : ME} {own : String} {cc : ByteArray} {nL : Nat} {rm : Room} (hE : EnvOk E own cc nL rm) {pc : Nat} {f : FT} {k t : Nat} {at9 : ArrayType} (d : decode cc pc = .ok (.newarray at9, 2)) (hk : 20 ≤ k) (hk2 : k ≤ 24) (ht : ATY[t]? = some (k, newarray.typeOf at9)) (w1 : Cond.arrayClass (newarray.typeOf at9) ∈ TB) (hb8 : componentBytes (newarray.typeOf at9) ≤ 8) (hdv : ∀ h a j, (∀ j, hI h a j = 0) → (∀ j, hL h a j = 0) → (∀ j, hD h a j = 0) → defaultValue (newarray.typeOf at9) = av h k a j) (hf : At E (pc + 2) f) : At E pc (o_newa k rm.cells rm.slots f) := by
  intro L S h u q
  unfold o_newa at q
  split at q
  · rename_i n S
    obtain ⟨p, l, e, R, s, m, args, below, meth, c, Qm, D, dA, A⟩ := E
    obtain ⟨kx, kb, kl, kown, kts, klk, kR, kW, kA, kst⟩ := hE
    intro H locs cells slots ls yl yR yS yc ys
    subst kR
    obtain ⟨q0, q9, q1, q2, q3⟩ := q
    have hbb : n.toNatClampNeg * componentBytes (newarray.typeOf at9) ≤ 536870912 := Nat.le_trans (Nat.mul_le_mul q9 hb8) (by decide)
    refine va_newaK kx kb (kts _ w1) rfl d rfl q0 rfl hbb (by omega) (by omega) rfl fun H1 cA e1 z1 o1 hAr hNm => ?_
    have hz : hn h = H.size := yR.1.symm
    have hcA : cA = dA k := by
      have h9 := (kW.arr ht).2
      have h8 : s.vm.findClass ("[" ++ (newarray.typeOf at9).toString) = some (dA k) := by cases at9 <;> exact h9
      exact Option.some.inj (hNm.symm.trans h8)
    refine W.eq (g2 := F0 m (pc + 2) ls (.ref (hn h) :: S)) (by rw [hz]) ?_
    refine hf _ _ _ _ q3 H1 locs (cells + 1) (slots + n.toNatClampNeg) ls yl (yR.push z1 o1 (kA _ (by rw [hz]; exact yS.1)) ?_) ⟨Nat.le_trans yS.1 (by omega), fun x h1 h2 => (o1 x (Nat.lt_of_lt_of_le h1 yS.1)).trans (yS.2.1 x h1 h2), yS.2.2⟩ (by show cells + 1 ≤ u.1 + 1; omega) (by show slots + _ ≤ u.2 + _; omega)
    refine CellOk.arr (k := k) (by rw [hs_al]) hk ?_
    rw [hs_al, hz, e1, hcA]
    congr 2
    funext j
    rw [← hz]
    exact hdv _ _ j (fun j => congrFun hI_al j) (fun j => congrFun hL_al j) (fun j => congrFun hD_al j)
  · exact q.elim
theorem r_newq {E : ME} {own : String} {cc : ByteArray} {nL : Nat} {rm : Room} (hE : EnvOk E own cc nL rm) {pc : Nat} {f : FT} {k t idx : Nat} {C : String} (d : decode cc pc = .ok (.anewarray idx, 3)) (hk : 25 ≤ k) (ht : ATY[t]? = some (k, .object C)) (w1 : Cond.classLink own idx C ∈ TB) (w2 : C ∈ AOS) (hf : At E (pc + 3) f) : At E pc (o_newa k rm.cells rm.slots f) := by
  intro L S h u q
  unfold o_newa at q
  split at q
  · rename_i n S
    obtain ⟨p, l, e, R, s, m, args, below, meth, c, Qm, D, dA, A⟩ := E
    obtain ⟨kx, kb, kl, kown, kts, klk, kR, kW, kA, kst⟩ := hE
    intro H locs cells slots ls yl yR yS yc ys
    subst kR
    obtain ⟨q0, q9, q1, q2, q3⟩ := q
    have hbb : n.toNatClampNeg * 4 ≤ 536870912 := Nat.le_trans (Nat.mul_le_mul_right 4 q9) (by decide)
    have hao : (Cond.arrayOver (.object C)).before args s = true := va_AO.use (kW.2.1.2.1 C w2)
    refine W.anew kx kb kown (kts _ w1) hao rfl d rfl q0 hbb (by omega) (by omega) fun cA kA9 comp f1 f2 f3 f4 => ?_
    generalize hH1 : H.push ({ cls := cA, slots := Array.replicate n.toNatClampNeg .null, vm := .none } : Cell) = H1
    have z1 : H1.size = H.size + 1 := by rw [← hH1, Array.size_push]
    have e1 : H1[H.size]? = some (arrV cA n.toNatClampNeg (fun _ => .null)) := by rw [← hH1, Array.getElem?_push_size, ← arrV_new]
    have o1 : ∀ q : Nat, q < H.size → H1[q]? = H[q]? := fun q hq => by rw [← hH1, Array.getElem?_push, if_neg (Nat.ne_of_lt hq)]
    have hz : hn h = H.size := yR.1.symm
    have hcA : cA = dA k := by
      obtain ⟨_, _, _, _, _, h8⟩ := (kW.arr ht).2
      exact Option.some.inj (f1.symm.trans h8)
    refine W.eq (g2 := F0 m (pc + 3) ls (.ref (hn h) :: S)) (by rw [hz]) ?_
    refine hf _ _ _ _ q3 H1 locs (cells + 1) (slots + n.toNatClampNeg) ls yl (yR.push z1 o1 (kA _ (by rw [hz]; exact yS.1)) ?_) ⟨Nat.le_trans yS.1 (by omega), fun x h1 h2 => (o1 x (Nat.lt_of_lt_of_le h1 yS.1)).trans (yS.2.1 x h1 h2), yS.2.2⟩ (by show cells + 1 ≤ u.1 + 1; omega) (by show slots + _ ≤ u.2 + _; omega)
    refine CellOk.arr (k := k) (by rw [hs_al]) (by omega) ?_
    rw [hs_al, hz, e1, hcA]
    congr 2
    funext j
    rw [← hz, av_ref hk, hR_al]
    rfl
  · exact q.elim
def o_oinit (f : FT) : FT := fun L S h u => match S with
    | [.ref _] => f L [] h u
    | _ => False
theorem r_objInit {E : ME} {own : String} {cc : ByteArray} {nL : Nat} {rm : Room} (hE : EnvOk E own cc nL rm) {pc : Nat} {f : FT} {idx : Nat} (d : decode cc pc = .ok (.invokespecial idx, 3)) (w1 : Cond.methodLink own idx Lib.objectInit ∈ TB) (w2 : Cond.instanceMethod Lib.objectInit ∈ TB) (w3 : Cond.code Lib.objectInit ⟨#[0xb1]⟩ 1 none ∈ TB) (hr1 : 1 ≤ rm.frames) (hr2 : 12 ≤ rm.locals) (hf : At E (pc + 3) f) : At E pc (o_oinit f) := by
  intro L S h u q
  unfold o_oinit at q
  split at q
  · rename_i a
    obtain ⟨p, l, e, R, s, m, args, below, meth, c, Qm, D, dA, A⟩ := E
    obtain ⟨kx, kb, kl, kown, kts, klk, kR, kW, kA, kst⟩ := hE
    intro H locs cells slots ls yl yR yS yc ys
    subst kR
    exact W.objInit kx kb kown (kts _ w1) (kts _ w2) (kts _ w3) rfl yl.1 rfl d hr1 (by show 2 * 0 + 0 + 12 ≤ _; omega) (hf _ _ _ _ q H locs cells slots ls yl yR yS yc ys)
  · exact q.elim
-- contracts
def QcOf (D : va_G) (dA : Nat → ClassId) (h0 : Hp) (Qr : Option Value → Hp → Prop) : Array Value → State → Outcome → State → Prop := fun _ st o t => (∃ v h', o = .returned v ∧ Qr v h' ∧ Rp D dA (Af h0) t.heap h') ∧ va_F (Af h0) st t
def XcOf (D : va_G) (dA : Nat → ClassId) (h0 : Hp) (Xr : String → Hp → Prop) : String → State → State → Prop := fun E st t => (∃ h', Xr E h' ∧ Rp D dA (Af h0) t.heap h') ∧ va_F (Af h0) st t
def PcOf (D : va_G) (dA : Nat → ClassId) (h : Hp) (av : List Value) : Array Value → State → Prop := va_Pc av (fun U => Wd D dA (Af h) U ∧ Rp D dA (Af h) U.heap h)
def Ct (l : Launch) (y : MethodName) (hd : Cond) (rm : Room) (av : List Value) (h : Hp) (Qr : Option Value → Hp → Prop) (Xr : String → Hp → Prop) : Prop :=
  ∀ (D : va_G) (dA : Nat → ClassId), vx_Met l y (hd :: TB) rm (PcOf D dA h av) (QcOf D dA h Qr) (XcOf D dA h Xr) rm.cells rm.slots (Af h)
def MEnv (E : ME) (y : MethodName) (h0 : Hp) (Qr : Option Value → Hp → Prop) (Xr : String → Hp → Prop) (ret : Option FieldType) (tb : List ExceptionTableEntry) : Prop := match E with
  | (_, _, _, R, s, _, args, below, meth, c, Qm, D, dA, A) => Qm = vx_MQ below (QcOf D dA h0 Qr) (XcOf D dA h0 Xr) args s R.cells R.slots (Af h0) ∧ A = Af h0 ∧ meth.sig.returnType = ret ∧ s.heap.size = hn h0 ∧ c.exceptionTable.toList = tb ∧ meth.name = y.name
theorem Ct_of {l : Launch} (hst : l.stackTraces = false) {y : MethodName} {b : ByteArray} {nL : Nat} {ret : Option FieldType} {rm : Room} {av : List Value} {h : Hp} {Qr : Option Value → Hp → Prop} {Xr : String → Hp → Prop} (hy : plainName y.cls = true) (hl : (lg_sl av).length ≤ nL)
    (body : ∀ E : ME, E.2.1 = l → EnvOk E y.cls b nL rm → MEnv E y h Qr Xr ret [] → G E 0 (lv_args 0 av) [] h (0, 0)) : Ct l y (.code y b nL ret) rm av h Qr Xr := by
  intro D dA
  refine vx_ofW (cc := b) (maxL := nL) (ret := ret) hy rfl ?_
  intro p e s m args below meth c s₁ B hml ht hP
  obtain ⟨rfl, hW, hRp⟩ := hP
  have hts := atoms_spec (ws := Cond.code y b nL ret :: TB) B.pre
  have ht0 : c.exceptionTable.toList = [] := List.eq_nil_iff_forall_not_mem.mpr (fun x hx => ht x hx)
  have hG := body (p, l, e, rm, s, m, av.toArray, below, meth, c, vx_MQ below (QcOf D dA h Qr) (XcOf D dA h Xr) av.toArray s rm.cells rm.slots (Af h), D, dA, Af h) rfl
    ⟨B.exec, B.bytes, hml, findClass_of_methodNamed B.named, fun w hw => hts w (List.mem_cons_of_mem _ hw), B.notSynchronized, rfl, hW, fun q hq => Or.inr (by rw [← hRp.1]; exact hq), hst⟩
    ⟨rfl, rfl, B.returns, hRp.1, ht0, (name_of_methodNamed B.named B.method).1⟩
  rw [lg_entry_eq]
  exact hG s.heap [] 0 0 _ (by rw [hml]; exact lv_entry av hl) hRp va_S.rf (Nat.le_refl _) (Nat.le_refl _)
theorem Ct_ofH {l : Launch} (hst : l.stackTraces = false) {y : MethodName} {b : ByteArray} {nL : Nat} {ret : Option FieldType} {hh : List (Nat × Nat × Nat × Nat)} {rm : Room} {av : List Value} {h : Hp} {Qr : Option Value → Hp → Prop} {Xr : String → Hp → Prop} (hy : plainName y.cls = true) (hl : (lg_sl av).length ≤ nL)
    (body : ∀ E : ME, E.2.1 = l → EnvOk E y.cls b nL rm → MEnv E y h Qr Xr ret (tableOf hh) → G E 0 (lv_args 0 av) [] h (0, 0)) : Ct l y (.codeWith y b nL ret hh) rm av h Qr Xr := by
  intro D dA
  refine vx_ofWH (cc := b) (maxL := nL) (ret := ret) (hh := hh) hy rfl ?_
  intro p e s m args below meth c s₁ B hml hP
  obtain ⟨rfl, hW, hRp⟩ := hP
  have hts := atoms_spec (ws := Cond.codeWith y b nL ret hh :: TB) B.pre
  have ht0 : c.exceptionTable.toList = tableOf hh := vx_table (x := y) B (hts _ List.mem_cons_self)
  have hG := body (p, l, e, rm, s, m, av.toArray, below, meth, c, vx_MQ below (QcOf D dA h Qr) (XcOf D dA h Xr) av.toArray s rm.cells rm.slots (Af h), D, dA, Af h) rfl
    ⟨B.exec, B.bytes, hml, findClass_of_methodNamed B.named, fun w hw => hts w (List.mem_cons_of_mem _ hw), B.notSynchronized, rfl, hW, fun q hq => Or.inr (by rw [← hRp.1]; exact hq), hst⟩
    ⟨rfl, rfl, B.returns, hRp.1, ht0, (name_of_methodNamed B.named B.method).1⟩
  rw [lg_entry_eq]
  exact hG s.heap [] 0 0 _ (by rw [hml]; exact lv_entry av hl) hRp va_S.rf (Nat.le_refl _) (Nat.le_refl _)
theorem Rp.narrow {D : va_G} {dA : Nat → ClassId} {A B : Nat → Prop} {H : Heap} {h : Hp} (R0 : Rp D dA A H h) (hAB : ∀ q, A q → B q) : Rp D dA B H h := ⟨R0.1, fun a ha => ⟨hAB a (R0.2 a ha).1, (R0.2 a ha).2⟩⟩
theorem Rp.self {D : va_G} {dA : Nat → ClassId} {A : Nat → Prop} {H : Heap} {h : Hp} (R0 : Rp D dA A H h) : Rp D dA (Af h) H h := ⟨R0.1, fun a ha => ⟨Or.inl ha, (R0.2 a ha).2⟩⟩
-- ends
def o_iret (mc ms : Nat) (Qr : Option Value → Hp → Prop) : FT := fun _ S h u => match S with
  | [.int v] => u.1 ≤ mc ∧ u.2 ≤ ms ∧ Qr (some (.int v)) h
  | _ => False
def o_zret (mc ms : Nat) (Qr : Option Value → Hp → Prop) : FT := fun _ S h u => match S with
  | [.int v] => u.1 ≤ mc ∧ u.2 ≤ ms ∧ (v = 0 ∨ v = 1) ∧ Qr (some (.int v)) h
  | _ => False
def o_lret (mc ms : Nat) (Qr : Option Value → Hp → Prop) : FT := fun _ S h u => match S with
  | [.long v] => u.1 ≤ mc ∧ u.2 ≤ ms ∧ Qr (some (.long v)) h
  | _ => False
def o_fret (mc ms : Nat) (Qr : Option Value → Hp → Prop) : FT := fun _ S h u => match S with
  | [.float v] => u.1 ≤ mc ∧ u.2 ≤ ms ∧ Qr (some (.float v)) h
  | _ => False
def o_dret (mc ms : Nat) (Qr : Option Value → Hp → Prop) : FT := fun _ S h u => match S with
  | [.double v] => u.1 ≤ mc ∧ u.2 ≤ ms ∧ Qr (some (.double v)) h
  | _ => False
def o_vret (mc ms : Nat) (Qr : Option Value → Hp → Prop) : FT := fun _ S h u => match S with
  | [] => u.1 ≤ mc ∧ u.2 ≤ ms ∧ Qr none h
  | _ => False
theorem r_iret {E : ME} {own : String} {cc : ByteArray} {nL : Nat} {rm : Room} (hE : EnvOk E own cc nL rm) {y : MethodName} {h0 : Hp} {Qr : Option Value → Hp → Prop} {Xr : String → Hp → Prop} {tb : List ExceptionTableEntry} (hM : MEnv E y h0 Qr Xr (some .int) tb) {pc : Nat} (d : decode cc pc = .ok (.ireturn, 1)) : At E pc (o_iret rm.cells rm.slots Qr) := by
  intro L S h u q
  unfold o_iret at q
  split at q
  · rename_i v
    obtain ⟨p, l, e, R, s, m, args, below, meth, c, Qm, D, dA, A⟩ := E
    obtain ⟨kx, kb, kl, kown, kts, klk, kR, kW, kA, kst⟩ := hE
    obtain ⟨m1, m2, m3, m4, m5, -⟩ := hM
    intro H locs cells slots ls yl yR yS yc ys
    subst kR; subst m1; subst m2
    obtain ⟨q1, q2, q3⟩ := q
    refine W.widen (k := R.cells) (n := R.slots) (by omega) (by omega) (vx_ret ?_)
    exact W.iret kx kb m3 (fun t ht hW => ⟨⟨_, h, rfl, q3, by rw [ht]; exact yR⟩, yS.F ht⟩) yS.2.2 d
  · exact q.elim
theorem r_zret {E : ME} {own : String} {cc : ByteArray} {nL : Nat} {rm : Room} (hE : EnvOk E own cc nL rm) {y : MethodName} {h0 : Hp} {Qr : Option Value → Hp → Prop} {Xr : String → Hp → Prop} {tb : List ExceptionTableEntry} (hM : MEnv E y h0 Qr Xr (some .boolean) tb) {pc : Nat} (d : decode cc pc = .ok (.ireturn, 1)) : At E pc (o_zret rm.cells rm.slots Qr) := by
  intro L S h u q
  unfold o_zret at q
  split at q
  · rename_i v
    obtain ⟨p, l, e, R, s, m, args, below, meth, c, Qm, D, dA, A⟩ := E
    obtain ⟨kx, kb, kl, kown, kts, klk, kR, kW, kA, kst⟩ := hE
    obtain ⟨m1, m2, m3, m4, m5, -⟩ := hM
    intro H locs cells slots ls yl yR yS yc ys
    subst kR; subst m1; subst m2
    obtain ⟨q1, q2, q4, q3⟩ := q
    refine W.widen (k := R.cells) (n := R.slots) (by omega) (by omega) (vx_ret ?_)
    exact W.zret kx kb m3 (by rcases q4 with e9 | e9 <;> subst e9 <;> rfl) (fun t ht hW => ⟨⟨_, h, rfl, q3, by rw [ht]; exact yR⟩, yS.F ht⟩) yS.2.2 d
  · exact q.elim
theorem r_vret {E : ME} {own : String} {cc : ByteArray} {nL : Nat} {rm : Room} (hE : EnvOk E own cc nL rm) {y : MethodName} {h0 : Hp} {Qr : Option Value → Hp → Prop} {Xr : String → Hp → Prop} {tb : List ExceptionTableEntry} (hM : MEnv E y h0 Qr Xr none tb) {pc : Nat} (d : decode cc pc = .ok (.return_, 1)) : At E pc (o_vret rm.cells rm.slots Qr) := by
  intro L S h u q
  unfold o_vret at q
  split at q
  · obtain ⟨p, l, e, R, s, m, args, below, meth, c, Qm, D, dA, A⟩ := E
    obtain ⟨kx, kb, kl, kown, kts, klk, kR, kW, kA, kst⟩ := hE
    obtain ⟨m1, m2, m3, m4, m5, -⟩ := hM
    intro H locs cells slots ls yl yR yS yc ys
    subst kR; subst m1; subst m2
    obtain ⟨q1, q2, q3⟩ := q
    refine W.widen (k := R.cells) (n := R.slots) (by omega) (by omega) (vx_ret ?_)
    exact W.vret kx kb m3 (fun t ht hW => ⟨⟨_, h, rfl, q3, by rw [ht]; exact yR⟩, yS.F ht⟩) yS.2.2 d
  · exact q.elim
theorem r_lret {E : ME} {own : String} {cc : ByteArray} {nL : Nat} {rm : Room} (hE : EnvOk E own cc nL rm) {y : MethodName} {h0 : Hp} {Qr : Option Value → Hp → Prop} {Xr : String → Hp → Prop} {tb : List ExceptionTableEntry} (hM : MEnv E y h0 Qr Xr (some .long) tb) {pc : Nat} (d : decode cc pc = .ok (.lreturn, 1)) : At E pc (o_lret rm.cells rm.slots Qr) := by
  intro L S h u q
  unfold o_lret at q
  split at q
  · rename_i v
    obtain ⟨p, l, e, R, s, m, args, below, meth, c, Qm, D, dA, A⟩ := E
    obtain ⟨kx, kb, kl, kown, kts, klk, kR, kW, kA, kst⟩ := hE
    obtain ⟨m1, m2, m3, m4, m5, -⟩ := hM
    intro H locs cells slots ls yl yR yS yc ys
    subst kR; subst m1; subst m2
    obtain ⟨q1, q2, q3⟩ := q
    refine W.widen (k := R.cells) (n := R.slots) (by omega) (by omega) (vx_ret ?_)
    exact W.lret kx kb m3 (fun t ht hW => ⟨⟨_, h, rfl, q3, by rw [ht]; exact yR⟩, yS.F ht⟩) yS.2.2 d
  · exact q.elim
theorem r_fret {E : ME} {own : String} {cc : ByteArray} {nL : Nat} {rm : Room} (hE : EnvOk E own cc nL rm) {y : MethodName} {h0 : Hp} {Qr : Option Value → Hp → Prop} {Xr : String → Hp → Prop} {tb : List ExceptionTableEntry} (hM : MEnv E y h0 Qr Xr (some .float) tb) {pc : Nat} (d : decode cc pc = .ok (.freturn, 1)) : At E pc (o_fret rm.cells rm.slots Qr) := by
  intro L S h u q
  unfold o_fret at q
  split at q
  · rename_i v
    obtain ⟨p, l, e, R, s, m, args, below, meth, c, Qm, D, dA, A⟩ := E
    obtain ⟨kx, kb, kl, kown, kts, klk, kR, kW, kA, kst⟩ := hE
    obtain ⟨m1, m2, m3, m4, m5, -⟩ := hM
    intro H locs cells slots ls yl yR yS yc ys
    subst kR; subst m1; subst m2
    obtain ⟨q1, q2, q3⟩ := q
    refine W.widen (k := R.cells) (n := R.slots) (by omega) (by omega) (vx_ret ?_)
    exact W.fret kx kb m3 (fun t ht hW => ⟨⟨_, h, rfl, q3, by rw [ht]; exact yR⟩, yS.F ht⟩) yS.2.2 d
  · exact q.elim
theorem r_dret {E : ME} {own : String} {cc : ByteArray} {nL : Nat} {rm : Room} (hE : EnvOk E own cc nL rm) {y : MethodName} {h0 : Hp} {Qr : Option Value → Hp → Prop} {Xr : String → Hp → Prop} {tb : List ExceptionTableEntry} (hM : MEnv E y h0 Qr Xr (some .double) tb) {pc : Nat} (d : decode cc pc = .ok (.dreturn, 1)) : At E pc (o_dret rm.cells rm.slots Qr) := by
  intro L S h u q
  unfold o_dret at q
  split at q
  · rename_i v
    obtain ⟨p, l, e, R, s, m, args, below, meth, c, Qm, D, dA, A⟩ := E
    obtain ⟨kx, kb, kl, kown, kts, klk, kR, kW, kA, kst⟩ := hE
    obtain ⟨m1, m2, m3, m4, m5, -⟩ := hM
    intro H locs cells slots ls yl yR yS yc ys
    subst kR; subst m1; subst m2
    obtain ⟨q1, q2, q3⟩ := q
    refine W.widen (k := R.cells) (n := R.slots) (by omega) (by omega) (vx_ret ?_)
    exact W.dret kx kb m3 (fun t ht hW => ⟨⟨_, h, rfl, q3, by rw [ht]; exact yR⟩, yS.F ht⟩) yS.2.2 d
  · exact q.elim
-- calls
theorem AOA_moved {ty : FieldType} {u U : State} (hvm : u.vm.Alike U.vm) (h : (Cond.arrayOver (.array ty)).before #[] u = true) : (Cond.arrayOver (.array ty)).before #[] U = true := by
  have h9 : (Cond.arrayOver (.array ty)).holds #[] u none u [] = true := h
  simp only [Cond.holds, Cond.value, beq_iff_eq] at h9
  cases hc : u.vm.findClass (FieldType.array ty).toString with
  | none => simp [hc] at h9
  | some comp =>
    simp only [hc, Option.bind_some, Option.bind_eq_some_iff, Option.map_eq_some_iff] at h9
    obtain ⟨c, hi, k, hk, hb⟩ := h9
    obtain ⟨k', hk', he⟩ := hvm.2.2 _ _ hk
    have hi2 : (U.vm.classes.findIdx? fun (x : Class) => match x.kind with | .array component _ => component == comp | _ => false) = some c := by
      have h1 := va_idx_bare u.vm comp
      have h2 := va_idx_bare U.vm comp
      have h3 : u.vm.bare = U.vm.bare := by first | exact hvm.bare_eq | exact hvm.bare_eq.symm
      rw [h3] at h1
      exact h2.symm.trans (h1.trans hi)
    have f1 : U.vm.findClass (FieldType.array ty).toString = some comp := by rw [hvm.findClass]; exact hc
    have f2 : U.vm.findClass ("[" ++ (FieldType.array ty).toString) = u.vm.findClass ("[" ++ (FieldType.array ty).toString) := by rw [hvm.findClass]
    unfold Cond.before Cond.holds
    simp only [Cond.value]
    rw [f1, Option.bind_some]
    refine (congrArg (fun o : Option Nat => (o.bind (fun c => (U.vm.classes[c]?).map fun (k : Class) => match k.kind with | .array _ ty' => decide (ty' = FieldType.array ty) && decide (U.vm.findClass ("[" ++ (FieldType.array ty).toString) = some c) | _ => false) == some true)) hi2).trans ?_
    simp only [Option.bind_some, hk', Option.map_some, beq_iff_eq, Option.some.injEq]
    rw [he, f2]
    exact hb
theorem NBk.warm {s U : State} (hW : s.WarmedH U.vm) (h : NBk s) : NBk U := by
  obtain ⟨h1, h2, h3, h4, h5⟩ := h
  refine ⟨fun q hq => va_Nw.warmM hW (h1 q hq), fun C hC => (h2 C hC).moved hW.alike, fun q hq => ?_, fun q hq => (h4 q hq).moved hW.alike, AOA_moved hW.alike h5⟩
  obtain ⟨sa, h9⟩ := h3 q hq
  exact ⟨sa, h9.warm hW⟩
theorem NBk.same {s U : State} (hv : s.vm = U.vm) (h : NBk s) : NBk U := by
  obtain ⟨h1, h2, h3, h4, h5⟩ := h
  have ha : s.vm.Alike U.vm := by rw [hv]; exact Vm.Alike.refl _
  refine ⟨fun q hq => va_Nw.same rfl hv (h1 q hq), fun C hC => (h2 C hC).moved ha, fun q hq => ?_, fun q hq => (h4 q hq).moved ha, AOA_moved ha h5⟩
  obtain ⟨sa, h9⟩ := h3 q hq
  exact ⟨sa, h9.same hv.symm⟩
theorem blind_ok {D : va_G} {dA : Nat → ClassId} {h : Hp} {av : List Value} : FrameBlind (PcOf D dA h av) := by
  intro a U g mk q
  obtain ⟨e, ⟨w1, w2, w3, w4, w5⟩, r⟩ := q
  exact ⟨e, ⟨va_K.moved (u := U) (U := U.calling g mk a) (Vm.Alike.refl U.vm) w1, NBk.same (s := U) (U := U.calling g mk a) rfl w2, vx_Zq.moved (u := U) (U := U.calling g mk a) (Vm.Alike.refl U.vm) w3, vx_Zq.moved (u := U) (U := U.calling g mk a) (Vm.Alike.refl U.vm) w4, w5⟩, r⟩
theorem Af_sub {D : va_G} {dA : Nat → ClassId} {A : Nat → Prop} {s : State} {H : Heap} {h : Hp} {locs : List Loc} (yR : Rp D dA A H h) (yS : va_S A s.heap H locs) (kA : ∀ q, s.heap.size ≤ q → A q) : ∀ q, Af h q → A q := by
  intro q hq
  rcases hq with h1 | h1
  · exact (yR.2 q h1).1
  · exact kA q (Nat.le_trans yS.1 (by rw [yR.1]; exact h1))
theorem pre_ok {D : va_G} {dA : Nat → ClassId} {A : Nat → Prop} {s : State} {H : Heap} {h : Hp} {locs : List Loc} (kW : Wd D dA A s) (yR : Rp D dA A H h) (yS : va_S A s.heap H locs) (kA : ∀ q, s.heap.size ≤ q → A q) {U : State} (hU : U.heap = H) (hW : s.WarmedH U.vm) : Wd D dA (Af h) U ∧ Rp D dA (Af h) U.heap h := by
  obtain ⟨w1, w2, w3, w4, w5⟩ := kW
  have hsub := Af_sub yR yS kA
  rw [hU]
  refine ⟨⟨w1.moved hW.alike, w2.warm hW, ?_, ?_, fun z => w5 (hsub _ z)⟩, yR.self⟩
  · exact ((w3.moved hW.alike).kept (fun a h1 h2 => by rw [hU]; exact yS.2.1 a h1 h2)).narrow hsub
  · exact ((w4.moved hW.alike).kept (fun a h1 h2 => by rw [hU]; exact yS.2.1 a h1 h2)).narrow hsub
theorem call_go {p : Program} {l : Launch} {e : Env} {R : Room} {s : State} {m : MethodId} {args : Array Value} {below : List Frame} {meth : Method} {c : Code} {H : Heap} {locs : List Loc} {cells slots mc ms : Nat} {Q : State → Prop} {pc : Nat} {ls : Array Slot} {st0 rest : List Value} {D : va_G} {dA : Nat → ClassId} {A : Nat → Prop} {h : Hp} {Qr : Option Value → Hp → Prop} {Xr : String → Hp → Prop} {aa : Array Value}
    (hr : vx_Run p l e R s m args below meth c H locs cells slots mc ms (F0 m pc ls st0) rest (QcOf D dA h Qr aa) (XcOf D dA h Xr) (Af h)) (yS : va_S A s.heap H locs) (hsub : ∀ q, Af h q → A q)
    (kx : ∀ (E : String) (ce : Cell) (q9 : Addr) (h' : Hp) (H1 : Heap) (locs1 : List Loc), Xr E h' → Rp D dA A H1 h' → va_S A s.heap H1 locs1 → H1[q9]? = some ce → ce.vm = .none → s.vm.findClass E = some ce.cls → vx_W p l e R s m args below meth c H1 locs1 (cells + mc) (slots + ms) Q (F0 m pc ls rest) q9)
    (kk : ∀ (v : Option Value) (h' : Hp) (H1 : Heap) (locs1 : List Loc), Qr v h' → Rp D dA A H1 h' → va_S A s.heap H1 locs1 → W p l e R s m args below meth c H1 locs1 (cells + mc) (slots + ms) Q (F0 m (pc + 3) ls (v.toList ++ rest))) : W p l e R s m args below meth c H locs cells slots Q (F0 m pc ls st0) := by
  intro T hT X
  rcases hr T hT X with ⟨v, st₀, t, T', L, h0, X', hL, e1, e2, ⟨⟨v', h', hv, q1, q2⟩, hF⟩, st⟩ | ⟨q, st₀, t, T', L, E, ce, h0, X', hL, e1, e2, ⟨⟨h', q1, q2⟩, hF⟩, hce, hcv, hcl, st⟩
  · cases hv
    obtain ⟨k1, k2, k3⟩ := vx_keep h0 e1 yS (fun q _ z => hsub q z) hsub hL hF
    obtain ⟨t2, a1, b1⟩ := kk v h' T'.heap (locs ++ L) q1 (by rw [e1]; exact q2.narrow hsub) k3 T' rfl X'
    exact ⟨t2, st t2 a1, b1⟩
  · obtain ⟨k1, k2, k3⟩ := vx_keep h0 e1 yS (fun q _ z => hsub q z) hsub hL hF
    obtain ⟨t2, a1, b1⟩ := kx E ce q h' T'.heap (locs ++ L) q1 (by rw [e1]; exact q2.narrow hsub) k3 (by rw [e1]; exact hce) hcv hcl T' rfl X'
    exact ⟨t2, st.trans a1, b1⟩
/-- what a thrown thing does that no row of this method's table takes -/
def XOk (E : ME) (rm : Room) (Xr : String → Hp → Prop) : Prop := match E with
  | (p, l, e, R, s, m, args, below, meth, c, Qm, D, dA, A) => ∀ (pc : Nat) (ls : Array Slot) (rest : List Value) (En : String) (ce : Cell) (q9 : Addr) (H : Heap) (h : Hp) (locs : List Loc) (cells slots : Nat), Xr En h → Rp D dA A H h → va_S A s.heap H locs → H[q9]? = some ce → ce.vm = .none → s.vm.findClass En = some ce.cls → cells ≤ rm.cells → slots ≤ rm.slots → vx_W p l e R s m args below meth c H locs cells slots Qm (F0 m pc ls rest) q9
theorem XOk_none {E : ME} {rm : Room} : XOk E rm (fun _ _ => False) := by
  obtain ⟨p, l, e, R, s, m, args, below, meth, c, Qm, D, dA, A⟩ := E
  intro pc ls rest En ce q9 H h locs cells slots hx
  exact hx.elim
theorem XOk_out {E : ME} {own : String} {cc : ByteArray} {nL : Nat} {rm : Room} (hE : EnvOk E own cc nL rm) {y : MethodName} {h0 : Hp} {Qr : Option Value → Hp → Prop} {Xr : String → Hp → Prop} {ret : Option FieldType} (hM : MEnv E y h0 Qr Xr ret []) : XOk E rm Xr := by
  obtain ⟨p, l, e, R, s, m, args, below, meth, c, Qm, D, dA, A⟩ := E
  obtain ⟨kx, kb, kl, kown, kts, klk, kR, kW, kA, kst⟩ := hE
  obtain ⟨m1, m2, m3, m4, m5, -⟩ := hM
  intro pc ls rest En ce q9 H h locs cells slots hx yR yS hce hcv hcl hc hs'
  subst kR; subst m1; subst m2
  refine vx_out (fun x hx9 => by rw [m5] at hx9; cases hx9) klk hce hcv hcl (fun t ht hW => ⟨⟨h, hx, by rw [ht]; exact yR⟩, yS.F ht⟩) yS.2.2 hc hs'
abbrev SpT : Type := List Value → Hp → (Option Value → Hp → Prop) → (String → Hp → Prop) → Prop
/-- a call of a method of an object of class ci with n arguments -/
def o_callV (n ci N mc ms MC MS : Nat) (sp : SpT) (Xr : String → Hp → Prop) (f : FT) : FT := fun L S h u => match (S.take (n + 1)).reverse with
  | .ref b :: As => As.length = n ∧ ((S.drop (n + 1)).map fun v => v.category).sum ≤ 8 ∧ hs h b = (ci + 1, N) ∧ u.1 + mc ≤ MC ∧ u.2 + ms ≤ MS ∧ sp (.ref b :: As) h (fun v h' => f L (v.toList ++ S.drop (n + 1)) h' (u.1 + mc, u.2 + ms)) Xr
  | _ => False
def o_callS (n mc ms MC MS : Nat) (sp : SpT) (Xr : String → Hp → Prop) (f : FT) : FT := fun L S h u => (S.take n).length = n ∧ ((S.drop n).map fun v => v.category).sum ≤ 8 ∧ u.1 + mc ≤ MC ∧ u.2 + ms ≤ MS ∧ sp (S.take n).reverse h (fun v h' => f L (v.toList ++ S.drop n) h' (u.1 + mc, u.2 + ms)) Xr
theorem GoodTB {ws : List Cond} (h : ∀ w ∈ ws, w ∈ TB) : GoodIn TB ws := fun w hw => ⟨h w hw, good_of_word (List.all_eq_true.mp TB_good w (h w hw))⟩
theorem in_c {w : Cond} {l : List Cond} (h : w ∈ TB) (k : ∀ x ∈ l, x ∈ TB) : ∀ x ∈ w :: l, x ∈ TB := fun x hx => (List.mem_cons.mp hx).elim (fun e => by rw [e]; exact h) (k x)
theorem r_callV {E : ME} {own : String} {cc : ByteArray} {nL : Nat} {rm : Room} (hE : EnvOk E own cc nL rm) {pc : Nat} {f : FT} {idx ci N n : Nat} {C : String} {T : u_T} {y : MethodName} {bytes : ByteArray} {maxL : Nat} {ret : Option FieldType} {rm' : Room} {Xr : String → Hp → Prop} (d : decode cc pc = .ok (.invokevirtual idx, 3)) (hci : ci + 1 < 20) (hc : cls[ci]? = some (C, T, N))
    (w1 : Cond.methodLink own idx y ∈ TB) (w2 : Cond.instanceMethod y ∈ TB) (w3 : Cond.selects C y y ∈ TB) (w4 : Cond.initialized C ∈ TB) (w5 : Cond.code y bytes maxL ret ∈ TB)
    (hd : y.cls = C ∧ y.cls ≠ "java/lang/invoke/MethodHandle" ∧ y.cls ≠ "java/lang/invoke/VarHandle" ∧ (parseMethodDescriptor y.desc).map (fun d => d.parameters.length) = some n) (hR9 : rm'.frames + 1 ≤ rm.frames ∧ 8 + (maxL + 11) + rm'.locals ≤ rm.locals) (hX : XOk E rm Xr) (hf : At E (pc + 3) f) : At E pc (o_callV n ci N rm'.cells rm'.slots rm.cells rm.slots (Ct E.2.1 y (.code y bytes maxL ret) rm') Xr f) := by
  intro L S h u q
  unfold o_callV at q
  split at q
  · rename_i b As hAs
    obtain ⟨p, l, e, R, s, m, args, below, meth, c, Qm, D, dA, A⟩ := E
    obtain ⟨kx, kb, kl, kown, kts, klk, kR, kW, kA, kst⟩ := hE
    intro H locs cells slots ls yl yR yS yc ys
    subst kR
    obtain ⟨q1, q2, q3, q4, q5, q6⟩ := q
    have hst : S = As.reverse ++ .ref b :: S.drop (n + 1) := by
      have h1 := List.take_append_drop (n + 1) S
      have h2 : S.take (n + 1) = As.reverse ++ [.ref b] := by rw [← List.reverse_reverse (S.take (n + 1)), hAs]; simp
      rw [h2] at h1
      simpa using h1.symm
    have hsub := Af_sub yR yS kA
    obtain ⟨-, qq, g1, g2, cellB, c1, c2, c3, -⟩ := yR.ob q3 hci
    have hcls := (kW.1.1 ci _ hc).2.1
    have hrun := vx_runV (e := e) (below := below) (meth := meth) (locs := locs) (As := As) (rest := S.drop (n + 1)) (g := F0 m pc ls S) ⟨kx, kb, kl, kown, kts⟩ (q6 D dA) (cwV n kts (GoodTB (in_c w1 (in_c w2 (in_c w3 (in_c w4 (in_c w5 (fun x hx => hx))))))) rfl rfl rfl hd hR9) ⟨blind_ok, ⟨cellB, c1, by rw [c3]; rfl, by rw [c2]; exact hcls⟩, fun U hU hW => ⟨rfl, pre_ok kW yR yS kA hU hW⟩⟩ rfl q1 (by show ls.size = nL; rw [yl.1, kl]) hst (lv_room q2) d (cells := cells) (slots := slots) ⟨by omega, by omega⟩
    refine call_go hrun yS hsub (fun En ce q9 h' H1 locs1 hx zR zS hce hcv hcl => hX pc ls _ En ce q9 H1 h' locs1 _ _ hx zR zS hce hcv hcl (by omega) (by omega)) (fun v h' H1 locs1 hq zR zS => ?_)
    exact hf _ _ _ _ hq H1 locs1 _ _ ls yl zR zS (by show cells + _ ≤ u.1 + _; omega) (by show slots + _ ≤ u.2 + _; omega)
  · exact q.elim
theorem r_callS {E : ME} {own : String} {cc : ByteArray} {nL : Nat} {rm : Room} (hE : EnvOk E own cc nL rm) {pc : Nat} {f : FT} {idx n : Nat} {y : MethodName} {bytes : ByteArray} {maxL : Nat} {ret : Option FieldType} {rm' : Room} {Xr : String → Hp → Prop} (d : decode cc pc = .ok (.invokestatic idx, 3))
    (w1 : Cond.methodLink own idx y ∈ TB) (w2 : Cond.static y ∈ TB) (w4 : Cond.initialized y.cls ∈ TB) (w5 : Cond.code y bytes maxL ret ∈ TB)
    (hd : y.cls ≠ "java/lang/invoke/MethodHandle" ∧ y.cls ≠ "java/lang/invoke/VarHandle" ∧ (parseMethodDescriptor y.desc).map (fun d => d.parameters.length) = some n) (hR9 : rm'.frames + 1 ≤ rm.frames ∧ 8 + (maxL + 11) + rm'.locals ≤ rm.locals) (hX : XOk E rm Xr) (hf : At E (pc + 3) f) : At E pc (o_callS n rm'.cells rm'.slots rm.cells rm.slots (Ct E.2.1 y (.code y bytes maxL ret) rm') Xr f) := by
  intro L S h u q
  obtain ⟨p, l, e, R, s, m, args, below, meth, c, Qm, D, dA, A⟩ := E
  obtain ⟨kx, kb, kl, kown, kts, klk, kR, kW, kA, kst⟩ := hE
  intro H locs cells slots ls yl yR yS yc ys
  subst kR
  obtain ⟨q1, q2, q4, q5, q6⟩ := q
  have hst : S = (S.take n).reverse.reverse ++ S.drop n := by rw [List.reverse_reverse, List.take_append_drop]
  have hsub := Af_sub yR yS kA
  have hrun := vx_runS (e := e) (below := below) (meth := meth) (locs := locs) (As := (S.take n).reverse) (rest := S.drop n) (g := F0 m pc ls S) ⟨kx, kb, kl, kown, kts⟩ (q6 D dA) ⟨callB_of n kts (GoodTB (in_c w5 (fun x hx => hx))) rfl rfl rfl (kts _ w4) (kts _ w1) hd hR9, kts _ w2⟩ ⟨blind_ok, fun U hU hW => ⟨rfl, pre_ok kW yR yS kA hU hW⟩⟩ rfl (by rw [List.length_reverse]; exact q1) (by show ls.size = nL; rw [yl.1, kl]) hst (lv_room q2) d (cells := cells) (slots := slots) ⟨by omega, by omega⟩
  refine call_go hrun yS hsub (fun En ce q9 h' H1 locs1 hx zR zS hce hcv hcl => hX pc ls _ En ce q9 H1 h' locs1 _ _ hx zR zS hce hcv hcl (by omega) (by omega)) (fun v h' H1 locs1 hq zR zS => ?_)
  exact hf _ _ _ _ hq H1 locs1 _ _ ls yl zR zS (by show cells + _ ≤ u.1 + _; omega) (by show slots + _ ≤ u.2 + _; omega)
-- constructors' calls
theorem Met_of {l : Launch} {y : MethodName} {hd : Cond} {rm : Room} {av : List Value} {h : Hp} {Qr : Option Value → Hp → Prop} (hC : Ct l y hd rm av h Qr (fun _ _ => False)) (D : va_G) (dA : Nat → ClassId) : Met l y (hd :: TB) rm (PcOf D dA h av) (QcOf D dA h Qr) rm.cells rm.slots (Af h) := by
  refine Jvm.Free.MetFree.mono (hC D dA) (fun a s z => z) (fun _ _ _ _ _ z => z) (fun a s o s' _ z => ?_)
  rcases z with z | ⟨q, e, E, ce, L, ⟨⟨h', f, -⟩, -⟩, -⟩
  · exact z
  · exact f.elim
theorem run_to {p : Program} {l : Launch} {e : Env} {R : Room} {s : State} {m : MethodId} {args : Array Value} {below : List Frame} {meth : Method} {c : Code} {H : Heap} {locs : List Loc} {cells slots mc ms : Nat} {g : JFrame} {rest : List Value} {Qa : State → Outcome → State → Prop} {free : Addr → Prop} {XC : String → State → State → Prop} (h : va_Run p l e R s m args below meth c H locs cells slots mc ms g rest Qa free) : vx_Run p l e R s m args below meth c H locs cells slots mc ms g rest Qa XC free := fun T hT X => Or.inl (h T hT X)
/-- a constructor's call: n arguments beside the object -/
def o_callI (n mc ms MC MS : Nat) (sp : SpT) (f : FT) : FT := fun L S h u => match (S.take (n + 1)).reverse with
  | .ref b :: As => As.length = n ∧ ((S.drop (n + 1)).map fun v => v.category).sum ≤ 8 ∧ u.1 + mc ≤ MC ∧ u.2 + ms ≤ MS ∧ sp (.ref b :: As) h (fun v h' => f L (v.toList ++ S.drop (n + 1)) h' (u.1 + mc, u.2 + ms)) (fun _ _ => False)
  | _ => False
theorem st_split {S As : List Value} {b n : Nat} (hAs : (S.take (n + 1)).reverse = .ref b :: As) : S = As.reverse ++ .ref b :: S.drop (n + 1) := by
  have h1 := List.take_append_drop (n + 1) S
  have h2 : S.take (n + 1) = As.reverse ++ [.ref b] := by rw [← List.reverse_reverse (S.take (n + 1)), hAs]; simp
  rw [h2] at h1
  simpa using h1.symm
theorem r_callI {E : ME} {own : String} {cc : ByteArray} {nL : Nat} {rm : Room} (hE : EnvOk E own cc nL rm) {pc : Nat} {f : FT} {idx n : Nat} {y : MethodName} {bytes : ByteArray} {maxL : Nat} {rm' : Room} (d : decode cc pc = .ok (.invokespecial idx, 3))
    (w1 : Cond.methodLink own idx y ∈ TB) (w2 : Cond.instanceMethod y ∈ TB) (w4 : Cond.initialized y.cls ∈ TB) (w5 : Cond.code y bytes maxL none ∈ TB) (hy1 : y.name = "<init>")
    (hd : y.cls ≠ "java/lang/invoke/MethodHandle" ∧ y.cls ≠ "java/lang/invoke/VarHandle" ∧ (parseMethodDescriptor y.desc).map (fun d => d.parameters.length) = some n) (hR9 : rm'.frames + 1 ≤ rm.frames ∧ 8 + (maxL + 11) + rm'.locals ≤ rm.locals) (hf : At E (pc + 3) f) : At E pc (o_callI n rm'.cells rm'.slots rm.cells rm.slots (Ct E.2.1 y (.code y bytes maxL none) rm') f) := by
  intro L S h u q
  unfold o_callI at q
  split at q
  · rename_i b As hAs
    obtain ⟨p, l, e, R, s, m, args, below, meth, c, Qm, D, dA, A⟩ := E
    obtain ⟨kx, kb, kl, kown, kts, klk, kR, kW, kA, kst⟩ := hE
    intro H locs cells slots ls yl yR yS yc ys
    subst kR
    obtain ⟨q1, q2, q4, q5, q6⟩ := q
    have hsub := Af_sub yR yS kA
    have hrun := va_runI (e := e) (below := below) (meth := meth) (locs := locs) (As := As) (rest := S.drop (n + 1)) (g := F0 m pc ls S) ⟨kx, kb, kl, kown, kts⟩ (Met_of q6 D dA) (cwI n kts (GoodTB (in_c w5 (fun x hx => hx))) rfl rfl rfl (kts _ w4) (kts _ w1) (kts _ w2) hy1 hd hR9) ⟨blind_ok, fun U hU hW => ⟨rfl, pre_ok kW yR yS kA hU hW⟩⟩ rfl q1 (by show ls.size = nL; rw [yl.1, kl]) (st_split hAs) (lv_room q2) d (cells := cells) (slots := slots) ⟨by omega, by omega⟩
    refine call_go (Xr := fun _ _ => False) (run_to hrun) yS hsub (fun En ce q9 h' H1 locs1 hx => hx.elim) (fun v h' H1 locs1 hq zR zS => ?_)
    exact hf _ _ _ _ hq H1 locs1 _ _ ls yl zR zS (by show cells + _ ≤ u.1 + _; omega) (by show slots + _ ≤ u.2 + _; omega)
  · exact q.elim
theorem r_callIN {E : ME} {own : String} {cc : ByteArray} {nL : Nat} {rm : Room} (hE : EnvOk E own cc nL rm) {pc : Nat} {f : FT} {idx n : Nat} {y : MethodName} {bytes : ByteArray} {maxL : Nat} {rm' : Room} (d : decode cc pc = .ok (.invokespecial idx, 3))
    (w1 : (own, idx, y) ∈ NESTS) (w2 : Cond.instanceMethod y ∈ TB) (w4 : Cond.initialized y.cls ∈ TB) (w5 : Cond.code y bytes maxL none ∈ TB) (hy1 : y.name = "<init>")
    (hd : y.cls ≠ "java/lang/invoke/MethodHandle" ∧ y.cls ≠ "java/lang/invoke/VarHandle" ∧ (parseMethodDescriptor y.desc).map (fun d => d.parameters.length) = some n) (hR9 : rm'.frames + 1 ≤ rm.frames ∧ 8 + (maxL + 11) + rm'.locals ≤ rm.locals) (hf : At E (pc + 3) f) : At E pc (o_callI n rm'.cells rm'.slots rm.cells rm.slots (Ct E.2.1 y (.code y bytes maxL none) rm') f) := by
  intro L S h u q
  unfold o_callI at q
  split at q
  · rename_i b As hAs
    obtain ⟨p, l, e, R, s, m, args, below, meth, c, Qm, D, dA, A⟩ := E
    obtain ⟨kx, kb, kl, kown, kts, klk, kR, kW, kA, kst⟩ := hE
    intro H locs cells slots ls yl yR yS yc ys
    subst kR
    obtain ⟨q1, q2, q4, q5, q6⟩ := q
    have hsub := Af_sub yR yS kA
    have hrun := va_runIN (e := e) (below := below) (meth := meth) (locs := locs) (As := As) (rest := S.drop (n + 1)) (g := F0 m pc ls S) ⟨kx, kb, kl, kown, kts⟩ (Met_of q6 D dA) ⟨va_cnB n kts (GoodTB (in_c w5 (fun x hx => hx))) rfl rfl rfl (kW.2.1.1 _ w1) (kts _ w4) hd hR9, hy1, kts _ w2⟩ ⟨blind_ok, fun U hU hW => ⟨rfl, pre_ok kW yR yS kA hU hW⟩⟩ rfl q1 (by show ls.size = nL; rw [yl.1, kl]) (st_split hAs) (lv_room q2) d (cells := cells) (slots := slots) ⟨by omega, by omega⟩
    refine call_go (Xr := fun _ _ => False) (run_to hrun) yS hsub (fun En ce q9 h' H1 locs1 hx => hx.elim) (fun v h' H1 locs1 hq zR zS => ?_)
    exact hf _ _ _ _ hq H1 locs1 _ _ ls yl zR zS (by show cells + _ ≤ u.1 + _; omega) (by show slots + _ ≤ u.2 + _; omega)
  · exact q.elim
-- throws
def o_throw (cl : String) (mc ms : Nat) (Xr : String → Hp → Prop) : FT := fun _ S h u => match S with
  | [] => u.1 + 1 ≤ mc ∧ u.2 + 6 ≤ ms ∧ ∀ n, hn h ≤ n → Xr cl (hxn h n)
  | _ => False
theorem r_throw {E : ME} {own : String} {cc : ByteArray} {nL : Nat} {rm : Room} (hE : EnvOk E own cc nL rm) {y : MethodName} {h0 : Hp} {Qr : Option Value → Hp → Prop} {Xr : String → Hp → Prop} {ret : Option FieldType} (hM : MEnv E y h0 Qr Xr ret []) {pc ik is ic : Nat} {cl text : String} {names : List String}
    (d : (decode cc pc = .ok (.new ik, 3) ∧ decode cc (pc + 3) = .ok (.dup, 1)) ∧ ((decode cc (pc + 4) = .ok (.ldc is, 2) ∧ decode cc (pc + 6) = .ok (.invokespecial ic, 3) ∧ decode cc (pc + 9) = .ok (.athrow, 1)) ∨ (decode cc (pc + 4) = .ok (.ldc_w is, 3) ∧ decode cc (pc + 7) = .ok (.invokespecial ic, 3) ∧ decode cc (pc + 10) = .ok (.athrow, 1))))
    (hcls : Bundle.fit cl = true) (hnames : ∀ n ∈ names, Bundle.fit n = true) (w1 : Cond.classLink own ik cl ∈ TB) (w2 : Cond.initialized cl ∈ TB) (w3 : (own, is, text) ∈ STRS) (w4 : ∀ w ∈ vx_atS own ic cl names, w ∈ TB) (w5 : ∀ w ∈ Cond.classLink own ik cl :: Cond.initialized cl :: vx_atS own ic cl names, vx_ot w = true)
    (hr1 : names.length + 3 < rm.frames) (hr2 : 13 * (names.length + 1) + 43 ≤ rm.locals) : At E pc (o_throw cl rm.cells rm.slots Xr) := by
  intro L S h u q
  unfold o_throw at q
  split at q
  · obtain ⟨p, l, e, R, s, m, args, below, meth, c, Qm, D, dA, A⟩ := E
    obtain ⟨kx, kb, kl, kown, kts, klk, kR, kW, kA, kst⟩ := hE
    obtain ⟨m1, m2, m3, m4, m5, -⟩ := hM
    intro H locs cells slots ls yl yR yS yc ys
    subst kR; subst m1; subst m2
    obtain ⟨q1, q2, q3⟩ := q
    obtain ⟨sa, hsa⟩ := kW.2.1.2.2.1 _ w3
    have hx : ∀ t : State, s.vm.Alike t.vm → H.size ≤ t.heap.size → (∀ q : Nat, q < H.size → t.heap[q]? = H[q]?) → XcOf D dA h0 Xr cl s t := by
      intro t _ hz hq
      refine ⟨⟨hxn h t.heap.size, q3 _ (by rw [← yR.1]; exact hz), yR.grow hz hq⟩, Nat.le_trans yS.1 hz, fun q h1 h2 => ?_⟩
      rw [hq q (Nat.lt_of_lt_of_le h1 yS.1)]
      exact yS.2.1 q h1 h2
    obtain ⟨⟨d0, d3⟩, ⟨d4, d6, d9⟩ | ⟨d4, d6, d9⟩⟩ := d
    · exact vx_throwS (names := names) kx kb kst kown hcls hnames (kts _ w1) (kts _ w2) hsa (fun w hw => kts _ (w4 w hw)) w5 kW.2.2.1 kW.2.2.2.1 yS yl.1 d0 d3 d4 d6 d9 (fun x hx9 => by rw [m5] at hx9; cases hx9) hr1 (by show 0 + _ ≤ _; omega) (by omega) (by omega) klk hx yS.2.2 (by omega) (by omega)
    · exact vx_throwSW (names := names) kx kb kst kown hcls hnames (kts _ w1) (kts _ w2) hsa (fun w hw => kts _ (w4 w hw)) w5 kW.2.2.1 kW.2.2.2.1 yS yl.1 d0 d3 d4 d6 d9 (fun x hx9 => by rw [m5] at hx9; cases hx9) hr1 (by show 0 + _ ≤ _; omega) (by omega) (by omega) klk hx yS.2.2 (by omega) (by omega)
  · exact q.elim
-- switches
def tsP : List FT → Int → Int32 → FT
  | [], _, _ => fun _ _ _ _ => True
  | f :: fs, lo, x => fun L S h u => (x.toInt = lo → f L S h u) ∧ tsP fs (lo + 1) x L S h u
def o_tsw (lo : Int) (fs : List FT) (fd : FT) : FT := fun L S h u => match S with
  | .int x :: S => tsP fs lo x L S h u ∧ (x.toInt < lo ∨ lo + fs.length ≤ x.toInt → fd L S h u)
  | _ => False
def TsOk (E : ME) (pc : Nat) : List Int → List FT → Prop
  | [], [] => True
  | o :: os, f :: fs => (∃ tgt : Nat, (pc : Int) + o = (tgt : Int) ∧ At E tgt f) ∧ TsOk E pc os fs
  | _, _ => False
theorem TsOk_at {E : ME} {pc : Nat} : ∀ {os : List Int} {fs : List FT}, TsOk E pc os fs → os.length = fs.length ∧ ∀ (k : Nat) (lo : Int) (x : Int32) (L : LV) (S : List Value) (h : Hp) (u : Nat × Nat), tsP fs lo x L S h u → x.toInt = lo + k → k < fs.length → ∃ (o : Int) (tgt : Nat) (f : FT), os[k]? = some o ∧ (pc : Int) + o = (tgt : Int) ∧ At E tgt f ∧ f L S h u
  | [], [], _ => ⟨rfl, fun k lo x L S h u _ _ hk => absurd hk (Nat.not_lt_zero _)⟩
  | o :: os, f :: fs, ⟨⟨tgt, h1, h2⟩, h3⟩ => by
    obtain ⟨i1, i2⟩ := TsOk_at h3
    refine ⟨by rw [List.length_cons, List.length_cons, i1], fun k lo x L S h u q hx hk => ?_⟩
    cases k with
    | zero => exact ⟨o, tgt, f, rfl, h1, h2, q.1 (by simpa using hx)⟩
    | succ k =>
      obtain ⟨o', t', f', j1, j2, j3, j4⟩ := i2 k (lo + 1) x L S h u q.2 (by rw [hx]; push_cast; omega) (by simpa using hk)
      exact ⟨o', t', f', j1, j2, j3, j4⟩
  | [], _ :: _, h => h.elim
  | _ :: _, [], h => h.elim
theorem r_tsw {E : ME} {own : String} {cc : ByteArray} {nL : Nat} {rm : Room} (hE : EnvOk E own cc nL rm) {pc : Nat} {lo hi dflt : Int} {offs : List Int} {len : Nat} {fs : List FT} {fd : FT} {tgt : Nat} (d : decode cc pc = .ok (.tableswitch dflt lo hi offs.toArray, len)) (hhi : hi + 1 = lo + offs.length) (hts : TsOk E pc offs fs) (ht : (pc : Int) + dflt = (tgt : Int)) (hd : At E tgt fd) : At E pc (o_tsw lo fs fd) := by
  intro L S h u q
  unfold o_tsw at q
  split at q
  · rename_i x S
    obtain ⟨t1, t2⟩ := TsOk_at hts
    by_cases hx : x.toInt < lo ∨ lo + fs.length ≤ x.toInt
    · have g := hd _ _ _ _ (q.2 hx)
      obtain ⟨p, l, e, R, s, m, args, below, meth, c, Qm, D, dA, A⟩ := E
      obtain ⟨kx, kb, kl, kown, kts, klk, kR, kW, kA, kst⟩ := hE
      intro H locs cells slots ls yl yR yS yc ys
      exact lv_tableOut kx kb d (by omega) ht (g H locs cells slots ls yl yR yS yc ys)
    · obtain ⟨o, t', f', j1, j2, j3, j4⟩ := t2 (x.toInt - lo).toNat lo x L S h u q.1 (by omega) (by omega)
      have g := j3 _ _ _ _ j4
      obtain ⟨p, l, e, R, s, m, args, below, meth, c, Qm, D, dA, A⟩ := E
      obtain ⟨kx, kb, kl, kown, kts, klk, kR, kW, kA, kst⟩ := hE
      intro H locs cells slots ls yl yR yS yc ys
      exact lv_tableIn kx kb d (by omega) (by omega) (by simpa using j1) j2 (g H locs cells slots ls yl yR yS yc ys)
  · exact q.elim
def lkP : List (Int × FT) → Int32 → FT → FT
  | [], _, fd => fd
  | (k, f) :: fs, x, fd => fun L S h u => (x.toInt = k → f L S h u) ∧ (¬ x.toInt = k → lkP fs x fd L S h u)
def o_lsw (fs : List (Int × FT)) (fd : FT) : FT := fun L S h u => match S with
  | .int x :: S => lkP fs x fd L S h u
  | _ => False
def LkOk (E : ME) (pc : Nat) (dflt : Int) (fd : FT) : List (Int × Int) → List (Int × FT) → Prop
  | [], [] => ∃ tgt : Nat, (pc : Int) + dflt = (tgt : Int) ∧ At E tgt fd
  | o :: os, f :: fs => o.1 = f.1 ∧ (∃ tgt : Nat, (pc : Int) + o.2 = (tgt : Int) ∧ At E tgt f.2) ∧ LkOk E pc dflt fd os fs
  | _, _ => False
theorem LkOk_at {E : ME} {pc : Nat} {dflt : Int} {fd : FT} : ∀ {os : List (Int × Int)} {fs : List (Int × FT)}, LkOk E pc dflt fd os fs → ∀ (x : Int32) (L : LV) (S : List Value) (h : Hp) (u : Nat × Nat), lkP fs x fd L S h u → ∃ (tgt : Nat) (f : FT), (pc : Int) + Op.lookupswitch.offset os dflt x.toInt = (tgt : Int) ∧ At E tgt f ∧ f L S h u
  | [], [], ⟨tgt, h1, h2⟩ => fun x L S h u q => ⟨tgt, fd, h1, h2, q⟩
  | o :: os, f :: fs, ⟨h0, ⟨tgt, h1, h2⟩, h3⟩ => by
    intro x L S h u q
    obtain ⟨k, f⟩ := f
    by_cases hx : x.toInt = k
    · refine ⟨tgt, f, ?_, h2, q.1 hx⟩
      rw [← h1]
      congr 1
      obtain ⟨a, b⟩ := o
      simp [Op.lookupswitch.offset, show a = k from h0, hx]
    · obtain ⟨t', f', j1, j2, j3⟩ := LkOk_at h3 x L S h u (q.2 hx)
      refine ⟨t', f', ?_, j2, j3⟩
      rw [← j1]
      congr 1
      obtain ⟨a, b⟩ := o
      have hne : ¬ (k = x.toInt) := fun z => hx z.symm
      simp [Op.lookupswitch.offset, show a = k from h0, hne]
  | [], _ :: _, h => h.elim
  | _ :: _, [], h => h.elim
theorem r_lsw {E : ME} {own : String} {cc : ByteArray} {nL : Nat} {rm : Room} (hE : EnvOk E own cc nL rm) {pc : Nat} {dflt : Int} {ps : List (Int × Int)} {len : Nat} {fs : List (Int × FT)} {fd : FT} (d : decode cc pc = .ok (.lookupswitch dflt ps.toArray, len)) (hp : (ps.zip (ps.drop 1)).all (fun (a, next) => a.1 < next.1) = true) (hts : LkOk E pc dflt fd ps fs) : At E pc (o_lsw fs fd) := by
  intro L S h u q
  unfold o_lsw at q
  split at q
  · rename_i x S
    obtain ⟨t', f', j1, j2, j3⟩ := LkOk_at hts x L S h u q
    have g := j2 _ _ _ _ j3
    obtain ⟨p, l, e, R, s, m, args, below, meth, c, Qm, D, dA, A⟩ := E
    obtain ⟨kx, kb, kl, kown, kts, klk, kR, kW, kA, kst⟩ := hE
    intro H locs cells slots ls yl yR yS yc ys
    exact lv_lookup kx kb d (by simpa using hp) rfl (by simpa using j1) (g H locs cells slots ls yl yR yS yc ys)
  · exact q.elim
-- natives
def o_acopy (f : FT) : FT := fun L S h u => match S with
  | .int n :: .int dp :: .ref b :: .int sp :: .ref a :: S => (hs h a).1 = 20 ∧ (hs h b).1 = 20 ∧ ¬ sp < 0 ∧ ¬ dp < 0 ∧ ¬ n < 0 ∧ sp.toNatClampNeg + n.toNatClampNeg ≤ (hs h a).2 ∧ dp.toNatClampNeg + n.toNatClampNeg ≤ (hs h b).2 ∧ (S.map fun v => v.category).sum ≤ 8 ∧ f L S (cpI h a sp.toNatClampNeg b dp.toNatClampNeg n.toNatClampNeg) u
  | _ => False
theorem nn32 (z : Int32) (hz : ¬ z < 0) : z.toInt = (z.toNatClampNeg : Int) := by
  have hz0 : (0 : Int) ≤ z.toInt := by
    have := Int32.not_lt.mp hz
    simpa using Int32.le_iff_toInt_le.mp this
  show z.toInt = ((z.toInt.toNat : Nat) : Int)
  omega
theorem r_acopy {E : ME} {own : String} {cc : ByteArray} {nL : Nat} {rm : Room} (hE : EnvOk E own cc nL rm) {pc : Nat} {f : FT} {idx : Nat} (d : decode cc pc = .ok (.invokestatic idx, 3)) (w1 : Cond.methodLink own idx arraycopyName ∈ TB) (w2 : Cond.native arraycopyName ∈ TB) (w3 : Cond.static arraycopyName ∈ TB) (w4 : Cond.initialized "java/lang/System" ∈ TB) (hr1 : 1 ≤ rm.frames) (hr2 : 8 + (nativeFrameWords "java/lang/System" "arraycopy" 5 + 11) ≤ rm.locals) (hf : At E (pc + 3) f) : At E pc (o_acopy f) := by
  intro L S h u q
  unfold o_acopy at q
  split at q
  · rename_i n dp b sp a S
    obtain ⟨p, l, e, R, s, m, args, below, meth, c, Qm, D, dA, A⟩ := E
    obtain ⟨kx, kb, kl, kown, kts, klk, kR, kW, kA, kst⟩ := hE
    intro H locs cells slots ls yl yR yS yc ys
    subst kR
    obtain ⟨q1, q2, h1, h2, h3, h4, h5, q8, q9⟩ := q
    obtain ⟨-, g0⟩ := yR.ar q1 (by decide)
    obtain ⟨gA, g1⟩ := yR.ar q2 (by decide)
    have i0 : (fun j => av h 20 a j) = fun j => Value.int (hI h a j) := funext fun j => av_int (by decide)
    have i1 : (fun j => av h 20 b j) = fun j => Value.int (hI h b j) := funext fun j => av_int (by decide)
    rw [i0] at g0
    rw [i1] at g1
    have hty := (kW.arr (t := 0) (k := 20) (ty := .int) rfl).1
    generalize hcA : dA 20 = cA at g0 g1 hty
    generalize hN0 : (hs h a).2 = N0 at g0 h4
    generalize hN1 : (hs h b).2 = N1 at g1 h5
    have hc0 : H[a]? = some (vp_cell cA (N0, .inl (hI h a))) := g0
    have hc1 : H[b]? = some (vp_cell cA (N1, .inl (hI h b))) := g1
    obtain ⟨-, k0, hk0, cm0, hkk0⟩ := hty N0 (fun j => .int (hI h a j))
    intro T hT X
    obtain ⟨vm', X', step⟩ := X.arraycopy kx kown (kts _ w1) (kts _ w2) (kts _ w3) (kts _ w4) (src := a) (dst := b) (cs := vp_cell cA (N0, .inl (hI h a))) (cd := vp_cell cA (N1, .inl (hI h b))) (srcPos := sp) (destPos := dp) (n := n) (by rw [hT]; exact hc0) (by rw [hT]; exact hc1)
      (fun _ h => by cases h) (fun _ h => by cases h) (fun h => by cases h) (fun h => by cases h) hk0 hk0 hkk0 hkk0 (by simp [refKind]) h1 h2 h3
      (by rw [nn32 sp h1, nn32 n h3]; show ¬ _ > ((arrV cA N0 (fun j => .int (hI h a j))).slots.size : Int); rw [arrV_size]; omega)
      (by rw [nn32 dp h2, nn32 n h3]; show ¬ _ > ((arrV cA N1 (fun j => .int (hI h b j))).slots.size : Int); rw [arrV_size]; omega)
      (fun vm₁ _ i hi => by
        have e : (vp_cell cA (N0, .inl (hI h a))).slots.getD (sp.toNatClampNeg + i) .null = .int (hI h a (sp.toNatClampNeg + i)) := by
          show (arrV cA N0 (fun j => .int (hI h a j))).slots.getD _ _ = _
          rw [Array.getD_eq_getD_getElem?, arrV_read _ _ (by omega)]
          rfl
        refine ⟨?_, ?_⟩
        · rw [e]
          rfl
        · rw [e]
          exact trivial)
      (g := F0 m pc ls (.int n :: .int dp :: .ref b :: .int sp :: .ref a :: S)) rfl (by show ls.size = _; rw [yl.1]) (rest := S) rfl (by rw [kb]; exact d) hr1 (by show 2 * 0 + _ + _ ≤ _; omega)
    have e1 : copied (vp_cell cA (N0, .inl (hI h a))) (vp_cell cA (N1, .inl (hI h b))) sp dp n = vp_cell cA (N1, .inl (va_cpy (hI h a) (hI h b) sp.toNatClampNeg dp.toNatClampNeg n.toNatClampNeg)) := va_copied (fun z => .int z) cA cA (hI h a) (hI h b) h4
    rw [e1] at X' step
    have hl : b < H.size := (Array.getElem?_eq_some_iff.mp hc1).1
    generalize hcell : vp_cell cA (N1, .inl (va_cpy (hI h a) (hI h b) sp.toNatClampNeg dp.toNatClampNeg n.toNatClampNeg)) = cell9 at X' step
    have hheap : ((T.setVm vm').setCell b cell9).heap = H.setIfInBounds b cell9 := by rw [← hT]; rfl
    have oq : ∀ q : Nat, q ≠ b → (H.setIfInBounds b cell9)[q]? = H[q]? := fun q hq => by simp [Array.getElem?_setIfInBounds, Ne.symm hq]
    obtain ⟨t, a1, b1⟩ := hf _ _ _ _ q9 (H.setIfInBounds b cell9) _ cells slots ls yl (yR.set (a0 := b) (by simp) oq rfl rfl (fun x hx => ag_cpI hx) (CellOk.arr q2 (by decide) (by
        show (H.setIfInBounds b cell9)[b]? = some _
        have i2 : (fun j => av (cpI h a sp.toNatClampNeg b dp.toNatClampNeg n.toNatClampNeg) 20 b j) = fun j => Value.int (va_cpy (hI h a) (hI h b) sp.toNatClampNeg dp.toNatClampNeg n.toNatClampNeg j) := funext fun j => by
          rw [av_int (by decide)]
          exact congrArg Value.int (congrFun (show hI (cpI h a sp.toNatClampNeg b dp.toNatClampNeg n.toNatClampNeg) b = _ from if_pos rfl) j)
        rw [i2, hcA]
        show _ = some (arrV cA (hs h b).2 _)
        rw [hN1]
        simp [Array.getElem?_setIfInBounds, hl, ← hcell]
        rfl))) ⟨by simp; exact yS.1, fun q g1 g2 => by
        rw [oq q (fun e => g2 (by rw [e]; exact gA))]
        exact yS.2.1 q g1 g2, fun q hq => by
        rcases List.mem_append.mp hq with h | h
        · exact yS.2.2 q h
        · obtain ⟨z, -, hz⟩ := List.mem_map.mp h
          rw [← hz]
          exact gA⟩ yc ys _ hheap X'
    exact ⟨t, step t a1, b1⟩
  · exact q.elim
def o_f2raw (f : FT) : FT := fun L S h u => match S with
  | .float x :: S => (S.map fun v => v.category).sum ≤ 8 ∧ f L (.int x.toInt32 :: S) h u
  | _ => False
theorem r_f2raw {E : ME} {own : String} {cc : ByteArray} {nL : Nat} {rm : Room} (hE : EnvOk E own cc nL rm) {pc : Nat} {f : FT} {idx : Nat} (d : decode cc pc = .ok (.invokestatic idx, 3)) (w1 : Cond.methodLink own idx ⟨"java/lang/Float", "floatToRawIntBits", "(F)I"⟩ ∈ TB) (w2 : Cond.native ⟨"java/lang/Float", "floatToRawIntBits", "(F)I"⟩ ∈ TB) (w3 : Cond.static ⟨"java/lang/Float", "floatToRawIntBits", "(F)I"⟩ ∈ TB) (w4 : Cond.initialized "java/lang/Float" ∈ TB) (hr1 : 1 ≤ rm.frames) (hr2 : 8 + 15 ≤ rm.locals) (hf : At E (pc + 3) f) : At E pc (o_f2raw f) := by
  intro L S h u q
  unfold o_f2raw at q
  split at q
  · rename_i x S
    obtain ⟨p, l, e, R, s, m, args, below, meth, c, Qm, D, dA, A⟩ := E
    obtain ⟨kx, kb, kl, kown, kts, klk, kR, kW, kA, kst⟩ := hE
    intro H locs cells slots ls yl yR yS yc ys
    subst kR
    exact vn_f2i kx kb yl.1.symm kown (kts _ w1) (kts _ w2) (kts _ w3) (kts _ w4) hr1 (by have := q.1; omega) d (hf _ _ _ _ q.2 H locs cells slots ls yl yR yS yc ys)
  · exact q.elim
def o_d2raw (f : FT) : FT := fun L S h u => match S with
  | .double x :: S => (S.map fun v => v.category).sum ≤ 8 ∧ f L (.long x.toInt64 :: S) h u
  | _ => False
theorem r_d2raw {E : ME} {own : String} {cc : ByteArray} {nL : Nat} {rm : Room} (hE : EnvOk E own cc nL rm) {pc : Nat} {f : FT} {idx : Nat} (d : decode cc pc = .ok (.invokestatic idx, 3)) (w1 : Cond.methodLink own idx ⟨"java/lang/Double", "doubleToRawLongBits", "(D)J"⟩ ∈ TB) (w2 : Cond.native ⟨"java/lang/Double", "doubleToRawLongBits", "(D)J"⟩ ∈ TB) (w3 : Cond.static ⟨"java/lang/Double", "doubleToRawLongBits", "(D)J"⟩ ∈ TB) (w4 : Cond.initialized "java/lang/Double" ∈ TB) (hr1 : 1 ≤ rm.frames) (hr2 : 8 + 15 ≤ rm.locals) (hf : At E (pc + 3) f) : At E pc (o_d2raw f) := by
  intro L S h u q
  unfold o_d2raw at q
  split at q
  · rename_i x S
    obtain ⟨p, l, e, R, s, m, args, below, meth, c, Qm, D, dA, A⟩ := E
    obtain ⟨kx, kb, kl, kown, kts, klk, kR, kW, kA, kst⟩ := hE
    intro H locs cells slots ls yl yR yS yc ys
    subst kR
    exact vn_d2l kx kb yl.1.symm kown (kts _ w1) (kts _ w2) (kts _ w3) (kts _ w4) hr1 (by have := q.1; omega) d (hf _ _ _ _ q.2 H locs cells slots ls yl yR yS yc ys)
  · exact q.elim
def o_lcmp (f : FT) : FT := fun L S h u => match S with
  | .long y :: .long x :: S => f L (.int (lg_cmp x y) :: S) h u
  | _ => False
theorem r_lcmp {E : ME} {own : String} {cc : ByteArray} {nL : Nat} {rm : Room} (hE : EnvOk E own cc nL rm) {pc : Nat} {f : FT} (d : decode cc pc = .ok (.lcmp, 1)) (hf : At E (pc + 1) f) : At E pc (o_lcmp f) := by
  intro L S h u q
  unfold o_lcmp at q
  split at q
  · rename_i y x S
    obtain ⟨p, l, e, R, s, m, args, below, meth, c, Qm, D, dA, A⟩ := E
    obtain ⟨kx, kb, kl, kown, kts, klk, kR, kW, kA, kst⟩ := hE
    intro H locs cells slots ls yl yR yS yc ys
    refine W.lcmp kx kb d ?_
    exact hf _ _ _ _ q H locs cells slots ls yl yR yS yc ys
  · exact q.elim
theorem r_fconst0 {E : ME} {own : String} {cc : ByteArray} {nL : Nat} {rm : Room} (hE : EnvOk E own cc nL rm) {pc : Nat} {f : FT} (d : decode cc pc = .ok (.fconst 0, 1)) (hf : At E (pc + 1) f) : At E pc (o_push (.float 0) f) := by
  intro L S h u q
  obtain ⟨p, l, e, R, s, m, args, below, meth, c, Qm, D, dA, A⟩ := E
  obtain ⟨kx, kb, kl, kown, kts, klk, kR, kW, kA, kst⟩ := hE
  intro H locs cells slots ls yl yR yS yc ys
  exact lv_fconst0 kx kb d (hf _ _ _ _ q H locs cells slots ls yl yR yS yc ys)
theorem r_fconst1 {E : ME} {own : String} {cc : ByteArray} {nL : Nat} {rm : Room} (hE : EnvOk E own cc nL rm) {pc : Nat} {f : FT} (d : decode cc pc = .ok (.fconst 1, 1)) (hf : At E (pc + 1) f) : At E pc (o_push (.float 1065353216) f) := by
  intro L S h u q
  obtain ⟨p, l, e, R, s, m, args, below, meth, c, Qm, D, dA, A⟩ := E
  obtain ⟨kx, kb, kl, kown, kts, klk, kR, kW, kA, kst⟩ := hE
  intro H locs cells slots ls yl yR yS yc ys
  exact lv_fconst1 kx kb d (hf _ _ _ _ q H locs cells slots ls yl yR yS yc ys)
theorem r_fconst2 {E : ME} {own : String} {cc : ByteArray} {nL : Nat} {rm : Room} (hE : EnvOk E own cc nL rm) {pc : Nat} {f : FT} (d : decode cc pc = .ok (.fconst 2, 1)) (hf : At E (pc + 1) f) : At E pc (o_push (.float 1073741824) f) := by
  intro L S h u q
  obtain ⟨p, l, e, R, s, m, args, below, meth, c, Qm, D, dA, A⟩ := E
  obtain ⟨kx, kb, kl, kown, kts, klk, kR, kW, kA, kst⟩ := hE
  intro H locs cells slots ls yl yR yS yc ys
  exact lv_fconst2 kx kb d (hf _ _ _ _ q H locs cells slots ls yl yR yS yc ys)
theorem r_dconst0 {E : ME} {own : String} {cc : ByteArray} {nL : Nat} {rm : Room} (hE : EnvOk E own cc nL rm) {pc : Nat} {f : FT} (d : decode cc pc = .ok (.dconst 0, 1)) (hf : At E (pc + 1) f) : At E pc (o_push (.double 0) f) := by
  intro L S h u q
  obtain ⟨p, l, e, R, s, m, args, below, meth, c, Qm, D, dA, A⟩ := E
  obtain ⟨kx, kb, kl, kown, kts, klk, kR, kW, kA, kst⟩ := hE
  intro H locs cells slots ls yl yR yS yc ys
  exact lv_dconst0 kx kb d (hf _ _ _ _ q H locs cells slots ls yl yR yS yc ys)
theorem r_dconst1 {E : ME} {own : String} {cc : ByteArray} {nL : Nat} {rm : Room} (hE : EnvOk E own cc nL rm) {pc : Nat} {f : FT} (d : decode cc pc = .ok (.dconst 1, 1)) (hf : At E (pc + 1) f) : At E pc (o_push (.double 4607182418800017408) f) := by
  intro L S h u q
  obtain ⟨p, l, e, R, s, m, args, below, meth, c, Qm, D, dA, A⟩ := E
  obtain ⟨kx, kb, kl, kown, kts, klk, kR, kW, kA, kst⟩ := hE
  intro H locs cells slots ls yl yR yS yc ys
  exact lv_dconst1 kx kb d (hf _ _ _ _ q H locs cells slots ls yl yR yS yc ys)
theorem r_ldcwf {E : ME} {own : String} {cc : ByteArray} {nL : Nat} {rm : Room} (hE : EnvOk E own cc nL rm) {pc : Nat} {f : FT} {i : Nat} {v : UInt32} (d : decode cc pc = .ok (.ldc_w i, 3)) (hw : Cond.constantFloat own i v ∈ TB) (hf : At E (pc + 3) f) : At E pc (o_push (.float v) f) := by
  intro L S h u q
  obtain ⟨p, l, e, R, s, m, args, below, meth, c, Qm, D, dA, A⟩ := E
  obtain ⟨kx, kb, kl, kown, kts, klk, kR, kW, kA, kst⟩ := hE
  intro H locs cells slots ls yl yR yS yc ys
  intro T hT X
  obtain ⟨k, cf, hk, hcf, hcp⟩ := Cond.constantFloat_spec kown (kts _ hw)
  obtain ⟨k', hk', he⟩ := X.warmed.alike.2.2 _ _ hk
  obtain ⟨t, a1, b1⟩ := hf _ _ _ _ q H locs cells slots ls yl yR yS yc ys T hT X
  refine ⟨t, ?_, b1⟩
  jvm_step X.here [kx, kb, d, ldc_w.wp_float (s := T) (f := F0 m pc ls S) X.here.top hk' (by rw [he]; exact hcf) hcp]
  exact a1
-- the script
def o_sload (b L0 : Nat) (xs : Nat → Int32) (f : FT) : FT := fun L S h u => match S with
  | .int i :: .ref a :: S => a = b ∧ vp_in i L0 ∧ f L (.int (xs i.toNatClampNeg) :: S) h u
  | _ => False
def o_slen (b L0 : Nat) (f : FT) : FT := fun L S h u => match S with
  | .ref a :: S => a = b ∧ f L (.int (Int32.ofNat L0) :: S) h u
  | _ => False
def ScrOk (E : ME) (b L0 : Nat) (xs : Nat → Int32) : Prop := match E with
  | (_, _, _, _, s, _, _, _, _, _, _, _, _, A) => va_X b L0 xs s s.heap ∧ b < s.heap.size ∧ ¬ A b
theorem r_sload {E : ME} {own : String} {cc : ByteArray} {nL : Nat} {rm : Room} (hE : EnvOk E own cc nL rm) {b L0 : Nat} {xs : Nat → Int32} (hX : ScrOk E b L0 xs) {pc : Nat} {f : FT} (d : decode cc pc = .ok (.iaload, 1)) (hf : At E (pc + 1) f) : At E pc (o_sload b L0 xs f) := by
  intro L S h u q
  unfold o_sload at q
  split at q
  · rename_i i a S
    obtain ⟨p, l, e, R, s, m, args, below, meth, c, Qm, D, dA, A⟩ := E
    obtain ⟨kx, kb, kl, kown, kts, klk, kR, kW, kA, kst⟩ := hE
    obtain ⟨x1, x2, x3⟩ := hX
    intro H locs cells slots ls yl yR yS yc ys
    obtain ⟨q1, q2, q3⟩ := q
    subst q1
    exact va_sld kx kb x1 x2 x3 yS q2 d (hf _ _ _ _ q3 H locs cells slots ls yl yR yS yc ys)
  · exact q.elim
theorem r_slen {E : ME} {own : String} {cc : ByteArray} {nL : Nat} {rm : Room} (hE : EnvOk E own cc nL rm) {b L0 : Nat} {xs : Nat → Int32} (hX : ScrOk E b L0 xs) {pc : Nat} {f : FT} (d : decode cc pc = .ok (.arraylength, 1)) (hf : At E (pc + 1) f) : At E pc (o_slen b L0 f) := by
  intro L S h u q
  unfold o_slen at q
  split at q
  · rename_i a S
    obtain ⟨p, l, e, R, s, m, args, below, meth, c, Qm, D, dA, A⟩ := E
    obtain ⟨kx, kb, kl, kown, kts, klk, kR, kW, kA, kst⟩ := hE
    obtain ⟨x1, x2, x3⟩ := hX
    intro H locs cells slots ls yl yR yS yc ys
    obtain ⟨q1, q3⟩ := q
    subst q1
    exact va_slen kx kb x1 x2 x3 yS d (hf _ _ _ _ q3 H locs cells slots ls yl yR yS yc ys)
  · exact q.elim
-- a call whose throws are caught here, and the call of such a method
def HOk (E : ME) (own : String) (pc : Nat) : List String → List ExceptionTableEntry → List (String × FT) → Prop
  | _, [], [] => True
  | seen, x :: xs, g :: gs => covers x pc = true ∧ x.catchType ≠ 0 ∧ Cond.classLink own x.catchType g.1 ∈ TB ∧ Cond.castable g.1 g.1 ∈ TB ∧ (∀ nm ∈ seen, (g.1, nm) ∈ NCS) ∧ At E x.handlerPc g.2 ∧ HOk E own pc (seen ++ [g.1]) xs gs
  | _, _, _ => False
theorem HOk_at {E : ME} {own : String} {pc : Nat} : ∀ {seen : List String} {tb : List ExceptionTableEntry} {gs : List (String × FT)}, HOk E own pc seen tb gs → ∀ (g : String × FT), g ∈ gs → ∃ (pre : List ExceptionTableEntry) (x : ExceptionTableEntry) (suf : List ExceptionTableEntry), tb = pre ++ x :: suf ∧ (∀ z ∈ pre, z.catchType ≠ 0 ∧ ∃ nm : String, Cond.classLink own z.catchType nm ∈ TB ∧ (g.1, nm) ∈ NCS) ∧ covers x pc = true ∧ x.catchType ≠ 0 ∧ Cond.classLink own x.catchType g.1 ∈ TB ∧ Cond.castable g.1 g.1 ∈ TB ∧ (∀ nm ∈ seen, (g.1, nm) ∈ NCS) ∧ At E x.handlerPc g.2
  | _, [], [], _, g, hg => absurd hg List.not_mem_nil
  | seen, x :: xs, g0 :: gs, ⟨h1, h2, h3, h4, h5, h6, h7⟩, g, hg => by
    rcases List.mem_cons.mp hg with e | hg
    · subst e
      exact ⟨[], x, xs, rfl, fun z hz => absurd hz List.not_mem_nil, h1, h2, h3, h4, h5, h6⟩
    · obtain ⟨pre, y, suf, i1, i2, i3, i4, i5, i6, i7, i8⟩ := HOk_at h7 g hg
      refine ⟨x :: pre, y, suf, by rw [i1]; rfl, fun z hz => ?_, i3, i4, i5, i6, fun nm hm => i7 nm (List.mem_append_left _ hm), i8⟩
      rcases List.mem_cons.mp hz with e | hz
      · subst e
        exact ⟨h2, g0.1, h3, i7 g0.1 (List.mem_append_right _ List.mem_cons_self)⟩
      · exact i2 z hz
  | _, [], _ :: _, h, _, _ => h.elim
  | _, _ :: _, [], h, _, _ => h.elim
def o_callH (n ci N mc ms MC MS : Nat) (sp : SpT) (gs : List (String × FT)) (f : FT) : FT := fun L S h u => match (S.take (n + 1)).reverse with
  | .ref b :: As => As.length = n ∧ ((S.drop (n + 1)).map fun v => v.category).sum ≤ 8 ∧ hs h b = (ci + 1, N) ∧ u.1 + mc ≤ MC ∧ u.2 + ms ≤ MS ∧ sp (.ref b :: As) h (fun v h' => f L (v.toList ++ S.drop (n + 1)) h' (u.1 + mc, u.2 + ms)) (fun En h' => ∃ g : FT, (En, g) ∈ gs ∧ ∀ q9 : Nat, g L [.ref q9] h' (u.1 + mc, u.2 + ms))
  | _ => False
theorem r_callH {E : ME} {own : String} {cc : ByteArray} {nL : Nat} {rm : Room} (hE : EnvOk E own cc nL rm) {y0 : MethodName} {h0 : Hp} {Qr : Option Value → Hp → Prop} {Xr : String → Hp → Prop} {ret0 : Option FieldType} {tb : List ExceptionTableEntry} (hM : MEnv E y0 h0 Qr Xr ret0 tb) {pc : Nat} {f : FT} {gs : List (String × FT)} {idx ci N n : Nat} {C : String} {T : u_T} {y : MethodName} {bytes : ByteArray} {maxL : Nat} {ret : Option FieldType} {rm' : Room} (d : decode cc pc = .ok (.invokevirtual idx, 3)) (hci : ci + 1 < 20) (hc : cls[ci]? = some (C, T, N))
    (w1 : Cond.methodLink own idx y ∈ TB) (w2 : Cond.instanceMethod y ∈ TB) (w3 : Cond.selects C y y ∈ TB) (w4 : Cond.initialized C ∈ TB) (w5 : Cond.code y bytes maxL ret ∈ TB)
    (hd : y.cls = C ∧ y.cls ≠ "java/lang/invoke/MethodHandle" ∧ y.cls ≠ "java/lang/invoke/VarHandle" ∧ (parseMethodDescriptor y.desc).map (fun d => d.parameters.length) = some n) (hR9 : rm'.frames + 1 ≤ rm.frames ∧ 8 + (maxL + 11) + rm'.locals ≤ rm.locals) (hh : HOk E own pc [] tb gs) (hf : At E (pc + 3) f) : At E pc (o_callH n ci N rm'.cells rm'.slots rm.cells rm.slots (Ct E.2.1 y (.code y bytes maxL ret) rm') gs f) := by
  intro L S h u q
  unfold o_callH at q
  split at q
  · rename_i b As hAs
    have hat := HOk_at hh
    obtain ⟨p, l, e, R, s, m, args, below, meth, c, Qm, D, dA, A⟩ := E
    obtain ⟨kx, kb, kl, kown, kts, klk, kR, kW, kA, kst⟩ := hE
    obtain ⟨-, -, -, -, m5, -⟩ := hM
    intro H locs cells slots ls yl yR yS yc ys
    subst kR
    obtain ⟨q1, q2, q3, q4, q5, q6⟩ := q
    have hsub := Af_sub yR yS kA
    obtain ⟨-, qq, g1, g2, cellB, c1, c2, c3, -⟩ := yR.ob q3 hci
    have hcls := (kW.1.1 ci _ hc).2.1
    have hrun := vx_runV (e := e) (below := below) (meth := meth) (locs := locs) (As := As) (rest := S.drop (n + 1)) (g := F0 m pc ls S) ⟨kx, kb, kl, kown, kts⟩ (q6 D dA) (cwV n kts (GoodTB (in_c w1 (in_c w2 (in_c w3 (in_c w4 (in_c w5 (fun x hx => hx))))))) rfl rfl rfl hd hR9) ⟨blind_ok, ⟨cellB, c1, by rw [c3]; rfl, by rw [c2]; exact hcls⟩, fun U hU hW => ⟨rfl, pre_ok kW yR yS kA hU hW⟩⟩ rfl q1 (by show ls.size = nL; rw [yl.1, kl]) (st_split hAs) (lv_room q2) d (cells := cells) (slots := slots) ⟨by omega, by omega⟩
    refine call_go hrun yS hsub (fun En ce q9 h' H1 locs1 hx zR zS hce hcv hcl => ?_) (fun v h' H1 locs1 hq zR zS => ?_)
    · obtain ⟨g, hg, hgo⟩ := hx
      obtain ⟨pre, x, suf, i1, i2, i3, i4, i5, i6, i7, i8⟩ := hat (En, g) hg
      refine vx_catch (E := En) kown pre x suf (by rw [m5]; exact i1) (fun z hz => ?_) i3 i4 (kts _ i5) (kts _ i6) hce hcv hcl (i8 _ _ _ _ (hgo q9) H1 locs1 _ _ ls yl zR zS (by show cells + _ ≤ u.1 + _; omega) (by show slots + _ ≤ u.2 + _; omega))
      obtain ⟨j1, nm, j2, j3⟩ := i2 z hz
      exact Or.inr ⟨j1, nm, kts _ j2, kW.2.1.2.2.2.1 _ j3⟩
    · exact hf _ _ _ _ hq H1 locs1 _ _ ls yl zR zS (by show cells + _ ≤ u.1 + _; omega) (by show slots + _ ≤ u.2 + _; omega)
  · exact q.elim
theorem r_callSX {E : ME} {own : String} {cc : ByteArray} {nL : Nat} {rm : Room} (hE : EnvOk E own cc nL rm) {pc : Nat} {f : FT} {idx n : Nat} {y : MethodName} {bytes : ByteArray} {maxL : Nat} {ret : Option FieldType} {hh : List (Nat × Nat × Nat × Nat)} {rm' : Room} {Xr : String → Hp → Prop} (d : decode cc pc = .ok (.invokestatic idx, 3))
    (w1 : Cond.methodLink own idx y ∈ TB) (w2 : Cond.static y ∈ TB) (w4 : Cond.initialized y.cls ∈ TB) (w5 : Cond.codeWith y bytes maxL ret hh ∈ TB)
    (hd : y.cls ≠ "java/lang/invoke/MethodHandle" ∧ y.cls ≠ "java/lang/invoke/VarHandle" ∧ (parseMethodDescriptor y.desc).map (fun d => d.parameters.length) = some n) (hR9 : rm'.frames + 1 ≤ rm.frames ∧ 8 + (maxL + 11) + rm'.locals ≤ rm.locals) (hX : XOk E rm Xr) (hf : At E (pc + 3) f) : At E pc (o_callS n rm'.cells rm'.slots rm.cells rm.slots (Ct E.2.1 y (.codeWith y bytes maxL ret hh) rm') Xr f) := by
  intro L S h u q
  obtain ⟨p, l, e, R, s, m, args, below, meth, c, Qm, D, dA, A⟩ := E
  obtain ⟨kx, kb, kl, kown, kts, klk, kR, kW, kA, kst⟩ := hE
  intro H locs cells slots ls yl yR yS yc ys
  subst kR
  obtain ⟨q1, q2, q4, q5, q6⟩ := q
  have hst : S = (S.take n).reverse.reverse ++ S.drop n := by rw [List.reverse_reverse, List.take_append_drop]
  have hsub := Af_sub yR yS kA
  have hrun := vx_runSX (e := e) (below := below) (meth := meth) (locs := locs) (As := (S.take n).reverse) (rest := S.drop n) (g := F0 m pc ls S) ⟨kx, kb, kl, kown, kts⟩ (q6 D dA) (vx_cwSW n kts (GoodTB (in_c w1 (in_c w2 (in_c w4 (in_c w5 (fun x hx => hx)))))) rfl rfl rfl hd hR9) ⟨blind_ok, fun U hU hW => ⟨rfl, pre_ok kW yR yS kA hU hW⟩⟩ rfl (by rw [List.length_reverse]; exact q1) (by show ls.size = nL; rw [yl.1, kl]) hst (lv_room q2) d (cells := cells) (slots := slots) ⟨by omega, by omega⟩
  refine call_go hrun yS hsub (fun En ce q9 h' H1 locs1 hx zR zS hce hcv hcl => hX pc ls _ En ce q9 H1 h' locs1 _ _ hx zR zS hce hcv hcl (by omega) (by omega)) (fun v h' H1 locs1 hq zR zS => ?_)
  exact hf _ _ _ _ hq H1 locs1 _ _ ls yl zR zS (by show cells + _ ≤ u.1 + _; omega) (by show slots + _ ≤ u.2 + _; omega)
-- int[n][k]
theorem mn_outer (c : ClassId) (N h0 : Nat) : ∀ i : Nat, Jvm.Free.Multi.outerC c N h0 i = arrV c N (fun j => va_rf (if j < i then some (h0 + 1 + j) else none))
  | 0 => by
    show ({ cls := c, slots := Array.replicate N .null, vm := .none } : Cell) = _
    rw [arrV_new]
    refine congrArg (arrV c N) (funext fun j => ?_)
    simp [va_rf]
  | i + 1 => by
    show (Jvm.Free.Multi.outerC c N h0 i).setSlot i (.ref (h0 + 1 + i)) = _
    rw [mn_outer c N h0 i, arrV_store]
    refine congrArg (arrV c N) (funext fun j => ?_)
    by_cases e : j = i
    · subst e
      simp [updV, va_rf]
    · by_cases h : j < i
      · simp [updV, e, h, Nat.lt_succ_of_lt h]
      · simp [updV, e, h, show ¬ j < i + 1 by omega]
def zr {α : Type} (f : Nat → Nat → α) (a b : Nat) (x : α) : Nat → Nat → α := fun y j => if a ≤ y ∧ y ≤ b then x else f y j
def alM (h : Hp) (N K : Nat) : Hp := (h.1 + 1 + N, (fun y => if y = h.1 then (25, N) else if h.1 < y ∧ y ≤ h.1 + N then (20, K) else h.2.1 y), zr h.2.2.1 h.1 (h.1 + N) 0, (fun y j => if y = h.1 then (if j < N then h.1 + 1 + j else 0) else zr h.2.2.2.1 h.1 (h.1 + N) 0 y j), zr h.2.2.2.2.1 h.1 (h.1 + N) 0, zr h.2.2.2.2.2 h.1 (h.1 + N) 0)
theorem ag_alM {h : Hp} {N K b : Nat} (hb : ¬ (hn h ≤ b ∧ b ≤ hn h + N)) : ag h (alM h N K) b := by
  have hb1 : ¬ b = h.1 := fun e => hb ⟨Nat.le_of_eq e.symm, by rw [e]; exact Nat.le_add_right _ _⟩
  have hb2 : ¬ (h.1 < b ∧ b ≤ h.1 + N) := fun e => hb ⟨Nat.le_of_lt e.1, e.2⟩
  refine ⟨(if_neg hb1).trans (if_neg hb2), funext fun j => if_neg hb, funext fun j => (if_neg hb1).trans (if_neg hb), funext fun j => if_neg hb, funext fun j => if_neg hb⟩
def o_mna (mc ms : Nat) (f : FT) : FT := fun L S h u => match S with
  | .int k :: .int n :: S => ¬ n < 0 ∧ ¬ k < 0 ∧ n.toNatClampNeg ≤ 1000 ∧ k.toNatClampNeg ≤ 1000 ∧ u.1 + (1 + n.toNatClampNeg) ≤ mc ∧ u.2 + (n.toNatClampNeg + n.toNatClampNeg * k.toNatClampNeg) ≤ ms ∧ f L (.ref (hn h) :: S) (alM h n.toNatClampNeg k.toNatClampNeg) (u.1 + (1 + n.toNatClampNeg), u.2 + (n.toNatClampNeg + n.toNatClampNeg * k.toNatClampNeg))
  | _ => False
theorem r_mna {E : ME} {own : String} {cc : ByteArray} {nL : Nat} {rm : Room} (hE : EnvOk E own cc nL rm) {pc : Nat} {f : FT} {idx : Nat} (d : decode cc pc = .ok (.multianewarray idx 2, 4)) (w1 : Cond.classLink own idx ("[" ++ (FieldType.array .int).toString) ∈ TB) (w2 : Cond.arrayClass .int ∈ TB) (hf : At E (pc + 4) f) : At E pc (o_mna rm.cells rm.slots f) := by
  intro L S h u q
  unfold o_mna at q
  split at q
  · rename_i k n S
    obtain ⟨p, l, e, R, s, m, args, below, meth, c, Qm, D, dA, A⟩ := E
    obtain ⟨kx, kb, kl, kown, kts, klk, kR, kW, kA, kst⟩ := hE
    intro H locs cells slots ls yl yR yS yc ys
    subst kR
    obtain ⟨q1, q2, q3, q4, q5, q6, q7⟩ := q
    generalize hN : n.toNatClampNeg = N at q3 q5 q6 q7
    generalize hK : k.toNatClampNeg = K at q4 q6 q7
    intro T hT X
    have hover : (Cond.arrayOver (.array .int)).before args s = true := kW.2.1.2.2.2.2
    obtain ⟨vm₁, cA, comp, -, fA, fC, hO, -, X', step⟩ := X.multianewarray2F kx kown (kts _ w1) hover (kts _ w2) (g := F0 m pc ls (.int k :: .int n :: S)) rfl (by rw [kb]; exact d) rfl q1 q2 (by omega) (by show _ * 4 ≤ _; omega) (by omega) rfl rfl (by omega) (by rw [hN, hK]; omega)
    have ec : comp = dA 20 := by
      have h9 := (kW.arr (t := 0) (k := 20) (ty := .int) rfl).2
      exact Option.some.inj (fC.symm.trans h9)
    have ea : cA = dA 25 := by
      have h9 := (kW.arr (t := 5) (k := 25) (ty := .array .int) rfl).2
      exact Option.some.inj (fA.symm.trans h9)
    subst ec
    rw [hN, hK] at X' step
    generalize hF : Jvm.Free.Multi.fill (T.setVm vm₁) cA (dA 20) N K (defaultValue .int) N = F at X' step
    have hTh : (T.setVm vm₁).heap = H := hT
    obtain ⟨f1, f2, -, -⟩ := Jvm.Free.Multi.fill_facts (T.setVm vm₁) cA (dA 20) N K (defaultValue .int) N
    rw [hF, hTh] at f1 f2
    have hold : ∀ x : Nat, x < H.size → F.heap[x]? = H[x]? := fun x hx => by
      have := Jvm.Free.Multi.fill_old (T.setVm vm₁) cA (dA 20) N K (defaultValue .int) (a := x) (by rw [hTh]; exact hx) N
      rw [hF, hTh] at this
      exact this
    have hrow : ∀ j : Nat, j < N → F.heap[H.size + 1 + j]? = some (arrV (dA 20) K (fun _ => .int 0)) := fun j hj => by
      have := Jvm.Free.Multi.fill_inner (T.setVm vm₁) cA (dA 20) N K (defaultValue .int) N j hj
      rw [hF, hTh] at this
      rw [this, ← arrV_new]
      rfl
    rw [mn_outer] at f2
    have hz : hn h = H.size := yR.1.symm
    have hRp : Rp D dA A F.heap (alM h N K) := by
      refine ⟨by rw [f1, ← hz]; rfl, fun a ha => ?_⟩
      by_cases g1 : a = hn h
      · refine ⟨by rw [g1, hz]; exact kA _ yS.1, by rw [f1, g1, hz]; omega, ?_⟩
        have es : hs (alM h N K) a = (25, N) := if_pos g1
        refine CellOk.arr (k := 25) (by rw [es]) (by decide) ?_
        rw [es, g1, hz, f2, ea]
        congr 2
        funext j
        rw [av_ref (by decide), ← hz]
        have er : hR (alM h N K) (hn h) j = if j < N then hn h + 1 + j else 0 := if_pos rfl
        rw [er]
        by_cases hj : j < N
        · rw [if_pos hj, if_pos hj]
          exact (ro_ne (by omega)).symm
        · rw [if_neg hj, if_neg hj]
          rfl
      · by_cases g2 : hn h < a ∧ a ≤ hn h + N
        · obtain ⟨j, hj, rfl⟩ : ∃ j, j < N ∧ a = hn h + 1 + j := ⟨a - hn h - 1, by omega, by omega⟩
          refine ⟨kA _ (by rw [hz]; have := yS.1; omega), by rw [f1, hz]; omega, ?_⟩
          have es : hs (alM h N K) (hn h + 1 + j) = (20, K) := (if_neg g1).trans (if_pos g2)
          refine CellOk.arr (k := 20) (by rw [es]) (by decide) ?_
          rw [es, hz, hrow j hj]
          congr 2
          funext i
          rw [av_int (by decide), ← hz]
          exact congrArg Value.int (show (0 : Int32) = _ from (if_pos (show h.1 ≤ hn h + 1 + j ∧ hn h + 1 + j ≤ h.1 + N from ⟨Nat.le_of_lt g2.1, g2.2⟩)).symm)
        · have ga := ag_alM (h := h) (N := N) (K := K) (b := a) (by omega)
          rw [ga.1] at ha
          obtain ⟨h1, h2, h3⟩ := yR.2 a ha
          exact ⟨h1, by rw [f1]; omega, h3.kept ga (hold a h2)⟩
    obtain ⟨t, a1, b1⟩ := hf _ _ _ _ q7 F.heap locs _ _ ls yl hRp ⟨by rw [f1]; have := yS.1; omega, fun x h1 h2 => (hold x (Nat.lt_of_lt_of_le h1 yS.1)).trans (yS.2.1 x h1 h2), yS.2.2⟩ (by show cells + 1 + N ≤ u.1 + (1 + N); omega) (by show slots + N + N * K ≤ u.2 + (N + N * K); omega) F rfl X'
    refine ⟨t, step t ?_, b1⟩
    have e9 : T.heap.size = hn h := by rw [hT, hz]
    rw [e9]
    exact a1
  · exact q.elim
end CALLS
end
