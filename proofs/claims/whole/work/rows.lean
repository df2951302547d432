section
-- ===== PART A: goes FIRST, ahead of the names: the tables' words, and 'selects' of the private methods out of them =====
/-- a private method of a class that the tables say can be made, by its rows of tables_1 -/
def lw_okq (q : MethodName × Nat) : Prop := (q.1.cls ≠ "java/lang/invoke/MethodHandle" ∧ q.1.cls ≠ "java/lang/invoke/VarHandle") ∧ Cond.instantiable q.1.cls q.2 ∈ tables_1 ∧ Cond.privateMethod q.1 ∈ tables_1 ∧ Cond.instanceMethod q.1 ∈ tables_1
theorem lw_p0 : lw_okq (⟨"FairWalls$FairText", "readNumber", "(III)I"⟩, 5) := ⟨⟨by decide +kernel, by decide +kernel⟩, List.mem_of_getElem? (i := 197) (by decide +kernel), List.mem_of_getElem? (i := 352) (by decide +kernel), List.mem_of_getElem? (i := 353) (by decide +kernel)⟩
theorem lw_p1 : lw_okq (⟨"FairWalls$FairText", "readDigit", "()I"⟩, 5) := ⟨⟨by decide +kernel, by decide +kernel⟩, List.mem_of_getElem? (i := 197) (by decide +kernel), List.mem_of_getElem? (i := 356) (by decide +kernel), List.mem_of_getElem? (i := 357) (by decide +kernel)⟩
theorem lw_p2 : lw_okq (⟨"java/lang/Throwable", "fillInStackTrace", "(I)Ljava/lang/Throwable;"⟩, 6) := ⟨⟨by decide +kernel, by decide +kernel⟩, List.mem_of_getElem? (i := 414) (by decide +kernel), List.mem_of_getElem? (i := 412) (by decide +kernel), List.mem_of_getElem? (i := 413) (by decide +kernel)⟩
theorem lw_p3 : lw_okq (⟨"FairWalls$Power", "serve", "(LFairWalls$State;I)V"⟩, 3) := ⟨⟨by decide +kernel, by decide +kernel⟩, List.mem_of_getElem? (i := 135) (by decide +kernel), List.mem_of_getElem? (i := 491) (by decide +kernel), List.mem_of_getElem? (i := 492) (by decide +kernel)⟩
theorem lw_p4 : lw_okq (⟨"FairWalls$Power", "nearest", "(LFairWalls$State;I)I"⟩, 3) := ⟨⟨by decide +kernel, by decide +kernel⟩, List.mem_of_getElem? (i := 135) (by decide +kernel), List.mem_of_getElem? (i := 495) (by decide +kernel), List.mem_of_getElem? (i := 496) (by decide +kernel)⟩
theorem lw_p5 : lw_okq (⟨"FairWalls$Power", "hasFreePlug", "(LFairWalls$State;II)Z"⟩, 3) := ⟨⟨by decide +kernel, by decide +kernel⟩, List.mem_of_getElem? (i := 135) (by decide +kernel), List.mem_of_getElem? (i := 499) (by decide +kernel), List.mem_of_getElem? (i := 500) (by decide +kernel)⟩
theorem lw_p6 : lw_okq (⟨"FairWalls$Fair", "isFreeButFor", "(IIIII)Z"⟩, 2) := ⟨⟨by decide +kernel, by decide +kernel⟩, List.mem_of_getElem? (i := 33) (by decide +kernel), List.mem_of_getElem? (i := 570) (by decide +kernel), List.mem_of_getElem? (i := 571) (by decide +kernel)⟩
theorem lw_p7 : lw_okq (⟨"FairWalls$Fair", "fitsBothAway", "(II)Z"⟩, 2) := ⟨⟨by decide +kernel, by decide +kernel⟩, List.mem_of_getElem? (i := 33) (by decide +kernel), List.mem_of_getElem? (i := 593) (by decide +kernel), List.mem_of_getElem? (i := 594) (by decide +kernel)⟩
theorem lw_p8 : lw_okq (⟨"FairWalls$Fair", "areNeighbours", "(II)Z"⟩, 2) := ⟨⟨by decide +kernel, by decide +kernel⟩, List.mem_of_getElem? (i := 33) (by decide +kernel), List.mem_of_getElem? (i := 618) (by decide +kernel), List.mem_of_getElem? (i := 619) (by decide +kernel)⟩
theorem lw_p9 : lw_okq (⟨"FairWalls", "rentsBehindSwap", "(II)I"⟩, 6) := ⟨⟨by decide +kernel, by decide +kernel⟩, List.mem_of_getElem? (i := 25) (by decide +kernel), List.mem_of_getElem? (i := 938) (by decide +kernel), List.mem_of_getElem? (i := 939) (by decide +kernel)⟩
theorem lw_p10 : lw_okq (⟨"FairWalls", "splitScript", "(IJ)J"⟩, 6) := ⟨⟨by decide +kernel, by decide +kernel⟩, List.mem_of_getElem? (i := 25) (by decide +kernel), List.mem_of_getElem? (i := 957) (by decide +kernel), List.mem_of_getElem? (i := 958) (by decide +kernel)⟩
theorem lw_p11 : lw_okq (⟨"FairWallsModel", "refused", "(I)Z"⟩, 16) := ⟨⟨by decide +kernel, by decide +kernel⟩, List.mem_of_getElem? (i := 1010) (by decide +kernel), List.mem_of_getElem? (i := 1080) (by decide +kernel), List.mem_of_getElem? (i := 1081) (by decide +kernel)⟩
theorem lw_p12 : lw_okq (⟨"FairWallsModel", "readAll", "()I"⟩, 16) := ⟨⟨by decide +kernel, by decide +kernel⟩, List.mem_of_getElem? (i := 1010) (by decide +kernel), List.mem_of_getElem? (i := 1092) (by decide +kernel), List.mem_of_getElem? (i := 1093) (by decide +kernel)⟩
theorem lw_p13 : lw_okq (⟨"FairWallsModel", "here", "()I"⟩, 16) := ⟨⟨by decide +kernel, by decide +kernel⟩, List.mem_of_getElem? (i := 1010) (by decide +kernel), List.mem_of_getElem? (i := 1096) (by decide +kernel), List.mem_of_getElem? (i := 1097) (by decide +kernel)⟩
theorem lw_p14 : lw_okq (⟨"FairWallsModel", "take", "(Z)V"⟩, 16) := ⟨⟨by decide +kernel, by decide +kernel⟩, List.mem_of_getElem? (i := 1010) (by decide +kernel), List.mem_of_getElem? (i := 1100) (by decide +kernel), List.mem_of_getElem? (i := 1101) (by decide +kernel)⟩
theorem lw_p15 : lw_okq (⟨"FairWallsModel", "readCommand", "()I"⟩, 16) := ⟨⟨by decide +kernel, by decide +kernel⟩, List.mem_of_getElem? (i := 1010) (by decide +kernel), List.mem_of_getElem? (i := 1104) (by decide +kernel), List.mem_of_getElem? (i := 1105) (by decide +kernel)⟩
def lw_privs_1 : List (MethodName × Nat) := [(⟨"FairWalls$FairText", "readNumber", "(III)I"⟩, 5), (⟨"FairWalls$FairText", "readDigit", "()I"⟩, 5), (⟨"java/lang/Throwable", "fillInStackTrace", "(I)Ljava/lang/Throwable;"⟩, 6), (⟨"FairWalls$Power", "serve", "(LFairWalls$State;I)V"⟩, 3), (⟨"FairWalls$Power", "nearest", "(LFairWalls$State;I)I"⟩, 3), (⟨"FairWalls$Power", "hasFreePlug", "(LFairWalls$State;II)Z"⟩, 3), (⟨"FairWalls$Fair", "isFreeButFor", "(IIIII)Z"⟩, 2), (⟨"FairWalls$Fair", "fitsBothAway", "(II)Z"⟩, 2), (⟨"FairWalls$Fair", "areNeighbours", "(II)Z"⟩, 2), (⟨"FairWalls", "rentsBehindSwap", "(II)I"⟩, 6), (⟨"FairWalls", "splitScript", "(IJ)J"⟩, 6), (⟨"FairWallsModel", "refused", "(I)Z"⟩, 16), (⟨"FairWallsModel", "readAll", "()I"⟩, 16), (⟨"FairWallsModel", "here", "()I"⟩, 16), (⟨"FairWallsModel", "take", "(Z)V"⟩, 16), (⟨"FairWallsModel", "readCommand", "()I"⟩, 16)]
theorem lw_r1 : ∀ q ∈ lw_privs_1, lw_okq q := List.forall_mem_cons.mpr ⟨lw_p0, List.forall_mem_cons.mpr ⟨lw_p1, List.forall_mem_cons.mpr ⟨lw_p2, List.forall_mem_cons.mpr ⟨lw_p3, List.forall_mem_cons.mpr ⟨lw_p4, List.forall_mem_cons.mpr ⟨lw_p5, List.forall_mem_cons.mpr ⟨lw_p6, List.forall_mem_cons.mpr ⟨lw_p7, List.forall_mem_cons.mpr ⟨lw_p8, List.forall_mem_cons.mpr ⟨lw_p9, List.forall_mem_cons.mpr ⟨lw_p10, List.forall_mem_cons.mpr ⟨lw_p11, List.forall_mem_cons.mpr ⟨lw_p12, List.forall_mem_cons.mpr ⟨lw_p13, List.forall_mem_cons.mpr ⟨lw_p14, List.forall_mem_cons.mpr ⟨lw_p15, fun _ h => absurd h List.not_mem_nil⟩⟩⟩⟩⟩⟩⟩⟩⟩⟩⟩⟩⟩⟩⟩⟩
theorem lw_p16 : lw_okq (⟨"FairWallsModel", "readOutlet", "()I"⟩, 16) := ⟨⟨by decide +kernel, by decide +kernel⟩, List.mem_of_getElem? (i := 1010) (by decide +kernel), List.mem_of_getElem? (i := 1108) (by decide +kernel), List.mem_of_getElem? (i := 1109) (by decide +kernel)⟩
theorem lw_p17 : lw_okq (⟨"FairWallsModel", "digit", "(II)I"⟩, 16) := ⟨⟨by decide +kernel, by decide +kernel⟩, List.mem_of_getElem? (i := 1010) (by decide +kernel), List.mem_of_getElem? (i := 1112) (by decide +kernel), List.mem_of_getElem? (i := 1113) (by decide +kernel)⟩
theorem lw_p18 : lw_okq (⟨"FairWallsModel", "two", "(II)I"⟩, 16) := ⟨⟨by decide +kernel, by decide +kernel⟩, List.mem_of_getElem? (i := 1010) (by decide +kernel), List.mem_of_getElem? (i := 1116) (by decide +kernel), List.mem_of_getElem? (i := 1117) (by decide +kernel)⟩
theorem lw_p19 : lw_okq (⟨"FairWallsModel", "goes", "(Z)Z"⟩, 16) := ⟨⟨by decide +kernel, by decide +kernel⟩, List.mem_of_getElem? (i := 1010) (by decide +kernel), List.mem_of_getElem? (i := 1126) (by decide +kernel), List.mem_of_getElem? (i := 1127) (by decide +kernel)⟩
theorem lw_p20 : lw_okq (⟨"FairWallsModel", "readDealer", "()I"⟩, 16) := ⟨⟨by decide +kernel, by decide +kernel⟩, List.mem_of_getElem? (i := 1010) (by decide +kernel), List.mem_of_getElem? (i := 1133) (by decide +kernel), List.mem_of_getElem? (i := 1134) (by decide +kernel)⟩
theorem lw_p21 : lw_okq (⟨"FairWallsModel", "readPlace", "()I"⟩, 16) := ⟨⟨by decide +kernel, by decide +kernel⟩, List.mem_of_getElem? (i := 1010) (by decide +kernel), List.mem_of_getElem? (i := 1143) (by decide +kernel), List.mem_of_getElem? (i := 1144) (by decide +kernel)⟩
theorem lw_p22 : lw_okq (⟨"FairWallsModel", "readSwap", "()I"⟩, 16) := ⟨⟨by decide +kernel, by decide +kernel⟩, List.mem_of_getElem? (i := 1010) (by decide +kernel), List.mem_of_getElem? (i := 1171) (by decide +kernel), List.mem_of_getElem? (i := 1172) (by decide +kernel)⟩
theorem lw_p23 : lw_okq (⟨"FairWallsModel", "readRest", "(I)I"⟩, 16) := ⟨⟨by decide +kernel, by decide +kernel⟩, List.mem_of_getElem? (i := 1010) (by decide +kernel), List.mem_of_getElem? (i := 1184) (by decide +kernel), List.mem_of_getElem? (i := 1185) (by decide +kernel)⟩
theorem lw_p24 : lw_okq (⟨"FairWallsModel", "goDays", "([II)I"⟩, 16) := ⟨⟨by decide +kernel, by decide +kernel⟩, List.mem_of_getElem? (i := 1010) (by decide +kernel), List.mem_of_getElem? (i := 1194) (by decide +kernel), List.mem_of_getElem? (i := 1195) (by decide +kernel)⟩
theorem lw_p25 : lw_okq (⟨"FairWallsModel", "share", "([I)V"⟩, 16) := ⟨⟨by decide +kernel, by decide +kernel⟩, List.mem_of_getElem? (i := 1010) (by decide +kernel), List.mem_of_getElem? (i := 1198) (by decide +kernel), List.mem_of_getElem? (i := 1199) (by decide +kernel)⟩
theorem lw_p26 : lw_okq (⟨"FairWallsModel", "nearest", "([II)I"⟩, 16) := ⟨⟨by decide +kernel, by decide +kernel⟩, List.mem_of_getElem? (i := 1010) (by decide +kernel), List.mem_of_getElem? (i := 1202) (by decide +kernel), List.mem_of_getElem? (i := 1203) (by decide +kernel)⟩
theorem lw_p27 : lw_okq (⟨"FairWallsModel", "rent", "([II)I"⟩, 16) := ⟨⟨by decide +kernel, by decide +kernel⟩, List.mem_of_getElem? (i := 1010) (by decide +kernel), List.mem_of_getElem? (i := 1212) (by decide +kernel), List.mem_of_getElem? (i := 1213) (by decide +kernel)⟩
theorem lw_p28 : lw_okq (⟨"FairWallsModel", "lacks", "([II)I"⟩, 16) := ⟨⟨by decide +kernel, by decide +kernel⟩, List.mem_of_getElem? (i := 1010) (by decide +kernel), List.mem_of_getElem? (i := 1225) (by decide +kernel), List.mem_of_getElem? (i := 1226) (by decide +kernel)⟩
theorem lw_p29 : lw_okq (⟨"FairWallsModel", "sumWalls", "(I)I"⟩, 16) := ⟨⟨by decide +kernel, by decide +kernel⟩, List.mem_of_getElem? (i := 1010) (by decide +kernel), List.mem_of_getElem? (i := 1253) (by decide +kernel), List.mem_of_getElem? (i := 1254) (by decide +kernel)⟩
theorem lw_p30 : lw_okq (⟨"FairWallsModel", "sumDealers", "(I)I"⟩, 16) := ⟨⟨by decide +kernel, by decide +kernel⟩, List.mem_of_getElem? (i := 1010) (by decide +kernel), List.mem_of_getElem? (i := 1263) (by decide +kernel), List.mem_of_getElem? (i := 1264) (by decide +kernel)⟩
theorem lw_p31 : lw_okq (⟨"FairWallsModel", "rents", "([I)I"⟩, 16) := ⟨⟨by decide +kernel, by decide +kernel⟩, List.mem_of_getElem? (i := 1010) (by decide +kernel), List.mem_of_getElem? (i := 1267) (by decide +kernel), List.mem_of_getElem? (i := 1268) (by decide +kernel)⟩
def lw_privs_2 : List (MethodName × Nat) := [(⟨"FairWallsModel", "readOutlet", "()I"⟩, 16), (⟨"FairWallsModel", "digit", "(II)I"⟩, 16), (⟨"FairWallsModel", "two", "(II)I"⟩, 16), (⟨"FairWallsModel", "goes", "(Z)Z"⟩, 16), (⟨"FairWallsModel", "readDealer", "()I"⟩, 16), (⟨"FairWallsModel", "readPlace", "()I"⟩, 16), (⟨"FairWallsModel", "readSwap", "()I"⟩, 16), (⟨"FairWallsModel", "readRest", "(I)I"⟩, 16), (⟨"FairWallsModel", "goDays", "([II)I"⟩, 16), (⟨"FairWallsModel", "share", "([I)V"⟩, 16), (⟨"FairWallsModel", "nearest", "([II)I"⟩, 16), (⟨"FairWallsModel", "rent", "([II)I"⟩, 16), (⟨"FairWallsModel", "lacks", "([II)I"⟩, 16), (⟨"FairWallsModel", "sumWalls", "(I)I"⟩, 16), (⟨"FairWallsModel", "sumDealers", "(I)I"⟩, 16), (⟨"FairWallsModel", "rents", "([I)I"⟩, 16)]
theorem lw_r2 : ∀ q ∈ lw_privs_2, lw_okq q := List.forall_mem_cons.mpr ⟨lw_p16, List.forall_mem_cons.mpr ⟨lw_p17, List.forall_mem_cons.mpr ⟨lw_p18, List.forall_mem_cons.mpr ⟨lw_p19, List.forall_mem_cons.mpr ⟨lw_p20, List.forall_mem_cons.mpr ⟨lw_p21, List.forall_mem_cons.mpr ⟨lw_p22, List.forall_mem_cons.mpr ⟨lw_p23, List.forall_mem_cons.mpr ⟨lw_p24, List.forall_mem_cons.mpr ⟨lw_p25, List.forall_mem_cons.mpr ⟨lw_p26, List.forall_mem_cons.mpr ⟨lw_p27, List.forall_mem_cons.mpr ⟨lw_p28, List.forall_mem_cons.mpr ⟨lw_p29, List.forall_mem_cons.mpr ⟨lw_p30, List.forall_mem_cons.mpr ⟨lw_p31, fun _ h => absurd h List.not_mem_nil⟩⟩⟩⟩⟩⟩⟩⟩⟩⟩⟩⟩⟩⟩⟩⟩
theorem lw_p32 : lw_okq (⟨"FairWallsModel", "remember", "()V"⟩, 16) := ⟨⟨by decide +kernel, by decide +kernel⟩, List.mem_of_getElem? (i := 1010) (by decide +kernel), List.mem_of_getElem? (i := 1312) (by decide +kernel), List.mem_of_getElem? (i := 1313) (by decide +kernel)⟩
theorem lw_p33 : lw_okq (⟨"FairWallsModel", "rentAt", "(III)I"⟩, 16) := ⟨⟨by decide +kernel, by decide +kernel⟩, List.mem_of_getElem? (i := 1010) (by decide +kernel), List.mem_of_getElem? (i := 1360) (by decide +kernel), List.mem_of_getElem? (i := 1361) (by decide +kernel)⟩
theorem lw_p34 : lw_okq (⟨"FairWallsModel", "command", "(I)Z"⟩, 16) := ⟨⟨by decide +kernel, by decide +kernel⟩, List.mem_of_getElem? (i := 1010) (by decide +kernel), List.mem_of_getElem? (i := 1385) (by decide +kernel), List.mem_of_getElem? (i := 1386) (by decide +kernel)⟩
theorem lw_p35 : lw_okq (⟨"FairWallsModel", "runPlace", "(III)Z"⟩, 16) := ⟨⟨by decide +kernel, by decide +kernel⟩, List.mem_of_getElem? (i := 1010) (by decide +kernel), List.mem_of_getElem? (i := 1389) (by decide +kernel), List.mem_of_getElem? (i := 1390) (by decide +kernel)⟩
theorem lw_p36 : lw_okq (⟨"FairWallsModel", "runSwap", "(II)Z"⟩, 16) := ⟨⟨by decide +kernel, by decide +kernel⟩, List.mem_of_getElem? (i := 1010) (by decide +kernel), List.mem_of_getElem? (i := 1393) (by decide +kernel), List.mem_of_getElem? (i := 1394) (by decide +kernel)⟩
theorem lw_p37 : lw_okq (⟨"FairWallsModel", "runLeave", "(I)Z"⟩, 16) := ⟨⟨by decide +kernel, by decide +kernel⟩, List.mem_of_getElem? (i := 1010) (by decide +kernel), List.mem_of_getElem? (i := 1397) (by decide +kernel), List.mem_of_getElem? (i := 1398) (by decide +kernel)⟩
theorem lw_p38 : lw_okq (⟨"FairWallsModel", "runDays", "(I)Z"⟩, 16) := ⟨⟨by decide +kernel, by decide +kernel⟩, List.mem_of_getElem? (i := 1010) (by decide +kernel), List.mem_of_getElem? (i := 1401) (by decide +kernel), List.mem_of_getElem? (i := 1402) (by decide +kernel)⟩
theorem lw_p39 : lw_okq (⟨"FairWallsModel", "runSet", "(II)Z"⟩, 16) := ⟨⟨by decide +kernel, by decide +kernel⟩, List.mem_of_getElem? (i := 1010) (by decide +kernel), List.mem_of_getElem? (i := 1405) (by decide +kernel), List.mem_of_getElem? (i := 1406) (by decide +kernel)⟩
theorem lw_p40 : lw_okq (⟨"FairWallsModel", "runOutlet", "(III)Z"⟩, 16) := ⟨⟨by decide +kernel, by decide +kernel⟩, List.mem_of_getElem? (i := 1010) (by decide +kernel), List.mem_of_getElem? (i := 1409) (by decide +kernel), List.mem_of_getElem? (i := 1410) (by decide +kernel)⟩
theorem lw_p41 : lw_okq (⟨"FairWallsModel", "isCheap", "(II)Z"⟩, 16) := ⟨⟨by decide +kernel, by decide +kernel⟩, List.mem_of_getElem? (i := 1010) (by decide +kernel), List.mem_of_getElem? (i := 1413) (by decide +kernel), List.mem_of_getElem? (i := 1414) (by decide +kernel)⟩
theorem lw_p42 : lw_okq (⟨"FairWallsModel", "isFed", "(II)Z"⟩, 16) := ⟨⟨by decide +kernel, by decide +kernel⟩, List.mem_of_getElem? (i := 1010) (by decide +kernel), List.mem_of_getElem? (i := 1417) (by decide +kernel), List.mem_of_getElem? (i := 1418) (by decide +kernel)⟩
theorem lw_p43 : lw_okq (⟨"FairWallsModel", "stir", "(I)V"⟩, 16) := ⟨⟨by decide +kernel, by decide +kernel⟩, List.mem_of_getElem? (i := 1010) (by decide +kernel), List.mem_of_getElem? (i := 1427) (by decide +kernel), List.mem_of_getElem? (i := 1428) (by decide +kernel)⟩
def lw_privs_3 : List (MethodName × Nat) := [(⟨"FairWallsModel", "remember", "()V"⟩, 16), (⟨"FairWallsModel", "rentAt", "(III)I"⟩, 16), (⟨"FairWallsModel", "command", "(I)Z"⟩, 16), (⟨"FairWallsModel", "runPlace", "(III)Z"⟩, 16), (⟨"FairWallsModel", "runSwap", "(II)Z"⟩, 16), (⟨"FairWallsModel", "runLeave", "(I)Z"⟩, 16), (⟨"FairWallsModel", "runDays", "(I)Z"⟩, 16), (⟨"FairWallsModel", "runSet", "(II)Z"⟩, 16), (⟨"FairWallsModel", "runOutlet", "(III)Z"⟩, 16), (⟨"FairWallsModel", "isCheap", "(II)Z"⟩, 16), (⟨"FairWallsModel", "isFed", "(II)Z"⟩, 16), (⟨"FairWallsModel", "stir", "(I)V"⟩, 16)]
theorem lw_r3 : ∀ q ∈ lw_privs_3, lw_okq q := List.forall_mem_cons.mpr ⟨lw_p32, List.forall_mem_cons.mpr ⟨lw_p33, List.forall_mem_cons.mpr ⟨lw_p34, List.forall_mem_cons.mpr ⟨lw_p35, List.forall_mem_cons.mpr ⟨lw_p36, List.forall_mem_cons.mpr ⟨lw_p37, List.forall_mem_cons.mpr ⟨lw_p38, List.forall_mem_cons.mpr ⟨lw_p39, List.forall_mem_cons.mpr ⟨lw_p40, List.forall_mem_cons.mpr ⟨lw_p41, List.forall_mem_cons.mpr ⟨lw_p42, List.forall_mem_cons.mpr ⟨lw_p43, fun _ h => absurd h List.not_mem_nil⟩⟩⟩⟩⟩⟩⟩⟩⟩⟩⟩⟩
def lw_privs : List (MethodName × Nat) := lw_privs_1 ++ (lw_privs_2 ++ (lw_privs_3))
def lw_tbl : List Cond := k2_sels lw_privs ++ tables_1
theorem lw_privs_ok : ∀ q ∈ lw_privs, lw_okq q := by
  show ∀ q ∈ lw_privs_1 ++ (lw_privs_2 ++ (lw_privs_3)), lw_okq q
  exact List.forall_mem_append.mpr ⟨lw_r1, List.forall_mem_append.mpr ⟨lw_r2, lw_r3⟩⟩
end
section
/-! ===== BEGIN words of one list among another's, by their places ===== -/
theorem goodIn_r {big : List Cond} (ws : List Cond) (ps : List Nat) (hp : ws = ps.filterMap (fun i => big[i]?)) (h : ws.all goodWord = true) : GoodIn big ws := by
  intro w hw
  have h1 := List.all_eq_true.mp h w hw
  rw [hp] at hw
  obtain ⟨i, -, hi⟩ := List.mem_filterMap.mp hw
  have hm : w ∈ big := by first | exact List.mem_of_getElem? hi | exact List.getElem?_mem hi
  exact ⟨hm, good_of_word h1⟩
theorem goodIn_app {big a b : List Cond} (ha : GoodIn big a) (hb : GoodIn big b) : GoodIn big (a ++ b) := fun w h => (List.mem_append.mp h).elim (ha w) (hb w)
theorem goodIn_ca {big a b : List Cond} {c : Cond} (ha : GoodIn big (c :: a)) (hb : GoodIn big b) : GoodIn big (c :: (a ++ b)) := fun w h => (List.mem_cons.mp h).elim (fun e => ha w (List.mem_cons.mpr (Or.inl e))) (fun h => (List.mem_append.mp h).elim (fun h => ha w (List.mem_cons.mpr (Or.inr h))) (hb w))
theorem goodIn_sub {big ws : List Cond} (hm : ∀ w ∈ ws, w ∈ big) (h : ws.all goodWord = true) : GoodIn big ws := fun w hw => ⟨hm w hw, good_of_word (List.all_eq_true.mp h w hw)⟩
/-! ===== END ===== -/
/-! ===== BEGIN exceptions that leave a method, and their catching by the caller (launches without stack traces) ===== -/
section VXA
/-! The laws vx_back, vx_callV, vx_callS, vx_callSW, vx_throw0, vx_throwS follow proofs of the library, with one case more: JvmDerived/Free/Laws.lean (Back.of_free), Shelf42/LK1.lean (callV, callS), Shelf/KitTraced.lean (throwNew0V, throwNewS). -/
/-- where a method has thrown q: the class by its name, the cell, what was written, the world -/
def vx_T (XC : String → State → State → Prop) (st : State) (q : Addr) (t : State) (mc ms : Nat) (free : Addr → Prop) : Prop :=
  ∃ (E : String) (ce : Cell) (L : List Loc), XC E st t ∧ t.heap[q]? = some ce ∧ ce.vm = .none ∧ st.vm.findClass E = some ce.cls ∧ st.WarmedH t.vm ∧ st.sameButNew ({ t with vm := st.vm } : State) L mc ms ∧ ∀ z ∈ L, free z.base
def vx_Q (Qc : Array Value → State → Outcome → State → Prop) (XC : String → State → State → Prop) (mc ms : Nat) (free : Addr → Prop) : Array Value → State → Outcome → State → Prop := fun a st o t =>
  (Qc a st o t ∧ ∃ L, FrameEnd st o t L mc ms ∧ ∀ q ∈ L, free q.base) ∨ ∃ q, o = .threw q ∧ vx_T XC st q t mc ms free
/-- a callee that returns or throws -/
def vx_Met (l : Launch) (y : MethodName) (ws : List Cond) (rm : Room) (Pc : Array Value → State → Prop) (Qc : Array Value → State → Outcome → State → Prop) (XC : String → State → State → Prop) (mc ms : Nat) (free : Addr → Prop) : Prop :=
  MetFree l y (headSpec ws rm) Pc (fun _ _ _ _ _ => True) (vx_Q Qc XC mc ms free)
def vx_Post (XC : String → State → State → Prop) (mc ms : Nat) (free : Addr → Prop) : Pt → Array Value → Addr → Pt → Prop := fun A a q B =>
  ∃ (g : JFrame) (mk : MethodId) (t : State) (L : List Loc) (E : String) (ce : Cell), B.U.heap = t.heap ∧ B.U.vm = t.vm ∧ XC E (A.U.calling g mk a) t ∧ t.heap[q]? = some ce ∧ ce.vm = .none ∧ A.U.vm.findClass E = some ce.cls ∧ B.locs = A.locs ++ L ∧ (∀ z ∈ L, free z.base) ∧ B.cells = A.cells + mc ∧ B.slots = A.slots + ms
def vx_Back (l : Launch) (R : Room) (p : Program) (e : Env) (below : List Frame) (s : State) (sargs : Array Value) (y : MethodName) (len W9 : Nat)
    (Pre : Pt → Array Value → Prop) (Post : Pt → Array Value → Option Value → Pt → Prop) (PostX : Pt → Array Value → Addr → Pt → Prop) : Prop :=
  ∀ (m : MethodId) (meth : Method) (c : Code) (A : Pt) (g : JFrame) (ig : Instr) (mk : MethodId) (a : Array Value),
    Stand p l e R s m sargs below meth c A.U A.locs A.cells A.slots → g.method = m → g.locals.size = c.maxLocals → decode c.code g.pc = .ok (ig, len) →
    2 * g.monitorRoom + (g.stack.map fun v => v.category).sum ≤ W9 → A.U.methodNamed? y = some mk → Pre A a →
    (∃ (v : Option Value) (B : Pt), Stand p l e R s m sargs below meth c B.U B.locs B.cells B.slots ∧ Post A a v B ∧
      Steps p.tables e below (doInvoke e (A.U.setTop g) [] mk a).1 (B.U.setTop { g with pc := g.pc + len, stack := v.toList ++ g.stack })) ∨
    (∃ (q : Addr) (B : Pt), Stand p l e R s m sargs below meth c B.U B.locs B.cells B.slots ∧ PostX A a q B ∧
      Steps p.tables e below (doInvoke e (A.U.setTop g) [] mk a).1 ((B.U.setTop g).pushFrame (.throwing q)))
section Payer
variable {l : Launch} {R : Room} {p : Program} {e : Env} {below : List Frame} {s : State} {sargs : Array Value} {y : MethodName} {len W9 : Nat}
theorem vx_back {ws : List Cond} {rm : Room} {Pc : Array Value → State → Prop} {Qc : Array Value → State → Outcome → State → Prop} {XC : String → State → State → Prop} {mc ms : Nat} {free : Addr → Prop} {bytes : ByteArray} {maxL : Nat} {ret : Option FieldType}
    (hM : vx_Met l y ws rm Pc Qc XC mc ms free) (hblind : FrameBlind Pc) (hrc : rm.cells = mc) (hrs : rm.slots = ms)
    (hframes : rm.frames + 1 ≤ R.frames) (hlocals : W9 + (maxL + 11) + rm.locals ≤ R.locals)
    (hws : ∀ w ∈ ws, ∀ a' U, s.WarmedH U.vm → w.before a' U = true) (hcode : Cond.code y bytes maxL ret ∈ ws) (hinit : ∀ a' U, s.WarmedH U.vm → (Cond.initialized y.cls).before a' U = true) :
    vx_Back l R p e below s sargs y len W9 (PreOf R mc ms Pc) (PostOf Qc mc ms free) (vx_Post XC mc ms free) := by
  intro m meth c A g ig mk a X hg hsize hdg hW hn hp
  have h1 : (headSpec ws rm).pre.before a A.U = true := atoms_intro fun w hw => hws w hw _ _ X.warmed
  have h2 : (Cond.code y bytes maxL ret).before a A.U = true := hws _ hcode _ _ X.warmed
  have h3 : (Cond.initialized y.cls).before a A.U = true := hinit _ _ X.warmed
  have h4 : A.cells + (headSpec ws rm).room.cells ≤ R.cells := by rw [show (headSpec ws rm).room.cells = mc from hrc]; exact hp.1
  have h5 : A.slots + (headSpec ws rm).room.slots ≤ R.slots := by rw [show (headSpec ws rm).room.slots = ms from hrs]; exact hp.2.1
  have hPc : Pc a (A.U.calling g mk a) := hblind _ _ _ _ hp.2.2
  obtain ⟨U, Ls, c0, s0⟩ := A
  dsimp only [Pt.U, Pt.locs, Pt.cells, Pt.slots] at h1 h2 h3 h4 h5 X hn hPc ⊢
  obtain ⟨methY, cY, hmY, hcY, -, hlY, -, -, -, -⟩ := Cond.code_spec hn h2
  obtain ⟨kY, hkY, -⟩ := className_of_methodNamed hn
  have hinitY : kY.init = .initialized := Cond.initialized_spec (findClass_of_methodNamed hn) hkY h3
  have h : At U g.method c below := by rw [hg]; exact X.here
  have hlocals9 : W9 + (maxL + 11) + (headSpec ws rm).room.locals ≤ R.locals := hlocals
  have happ : (headSpec ws rm).appliesLoose y e.platform (U.calling g mk a) = true :=
    Spec.appliesLoose_calling (g := g) h hdg hn hkY hinitY
      (X.room_calling (g := g) (R' := (headSpec ws rm).room) hsize hmY hcY hframes (by rw [hlY]; omega) h4 h5) h1
  obtain ⟨mid, hmid⟩ := h.above
  have hfr : (U.setTop g).frames = (.java g :: mid) ++ below := by rw [State.frames_setTop' g h.top, hmid]; rfl
  obtain ⟨o, s₂, hsteps, -, hend, hq⟩ := Steps.callFree hM p X.admits X.cas X.clock (acts := []) hfr happ hPc trivial
  have hq' : vx_Q Qc XC mc ms free a (U.calling g mk a) o s₂ := hq
  rw [State.frames_setTop' g h.top] at hend
  obtain ⟨g₀, hg0⟩ := Option.isSome_iff_exists.mp h.top
  obtain ⟨r, hr⟩ := State.topJava?_eq_some.mp hg0
  have hr' : (({ U with heap := s₂.heap, slotsUsed := s₂.slotsUsed } : State).setVm s₂.vm).frames = .java g₀ :: r := hr
  rcases hq' with ⟨hqc, L, hfe, hL⟩ | ⟨q, rfl, E, ce, L, hx, hce, hcv, hcl, hW₂, hsm, hL⟩
  · obtain ⟨⟨v, rfl⟩, hW₂, e2, q2, q3, q4, q5, q6⟩ := id hfe
    have e3 : s₂ = ({ (U.calling g mk a).setFrames s₂.frames with heap := s₂.heap, slotsUsed := s₂.slotsUsed } : State).setVm s₂.vm := by
      have : s₂ = ({ s₂ with vm := (U.calling g mk a).vm } : State).setVm s₂.vm := rfl
      rw [e2] at this
      exact this
    obtain ⟨c₂, i₂, len₂, hc₂, hd₂, hf₂⟩ := hend
    have hW' : U.WarmedH s₂.vm := hW₂
    have hcc : c₂ = c := by
      have h1 : s₂.code? g.method = U.code? g.method := by
        rw [State.code?_eq, State.code?_eq, hW'.alike.method?]
      exact Option.some.inj (hc₂.symm.trans (h1.trans h.code))
    subst hcc
    have hlen : len₂ = len := by rw [hdg] at hd₂; cases hd₂; rfl
    subst hlen
    have hs₂ : s₂ = (({ U with heap := s₂.heap, slotsUsed := s₂.slotsUsed } : State).setVm s₂.vm).setTop { g with pc := g.pc + len₂, stack := v.toList ++ g.stack } := by
      refine e3.trans ?_
      rw [hf₂, State.calling_eq h.top, State.setFrames_setFrames, State.setTop_of_frames _ hr', hr]
      rfl
    have hsame : U.sameButNew ({ U with heap := s₂.heap, slotsUsed := s₂.slotsUsed } : State) L mc ms := by
      refine ⟨?_, q2, q3, q4, q5, q6⟩
      obtain ⟨t, ht, -⟩ := State.frames_cons hr
      show ({ U with heap := s₂.heap, slotsUsed := s₂.slotsUsed } : State) = { U.setFrames U.frames with heap := s₂.heap, slotsUsed := s₂.slotsUsed }
      rw [State.setFrames_self ht]
    subst hg
    refine Or.inl ⟨v, ⟨(({ U with heap := s₂.heap, slotsUsed := s₂.slotsUsed } : State).setVm s₂.vm), Ls ++ L, c0 + mc, s0 + ms⟩,
      ⟨X.admits, X.cas, X.clock, X.frames, X.room, X.hears, X.method, X.code, (X.here.setHeapUsed s₂.heap s₂.slotsUsed).setVm hW'.alike, X.tail, State.WarmedH.trans X.warmed hW', X.limits, X.bytes, X.same.trans (hsame.setVm s.vm)⟩,
      ⟨g, mk, s₂, L, rfl, rfl, hqc, rfl, hL, rfl, rfl⟩, ?_⟩
    show Steps p.tables e below _ ((({ U with heap := s₂.heap, slotsUsed := s₂.slotsUsed } : State).setVm s₂.vm).setTop { g with pc := g.pc + len₂, stack := v.toList ++ g.stack })
    rw [← hs₂]
    exact hsteps
  · obtain ⟨e2, q2, q3, q4, q5, q6⟩ := id hsm
    have e3 : s₂ = ({ (U.calling g mk a).setFrames s₂.frames with heap := s₂.heap, slotsUsed := s₂.slotsUsed } : State).setVm s₂.vm := by
      have : s₂ = ({ s₂ with vm := (U.calling g mk a).vm } : State).setVm s₂.vm := rfl
      rw [e2] at this
      exact this
    have hf₂ : s₂.frames = .throwing q :: .java g :: U.frames.tail := hend
    have hW' : U.WarmedH s₂.vm := hW₂
    have hs₂ : s₂ = ((({ U with heap := s₂.heap, slotsUsed := s₂.slotsUsed } : State).setVm s₂.vm).setTop g).pushFrame (.throwing q) := by
      refine e3.trans ?_
      rw [hf₂, State.calling_eq h.top, State.setFrames_setFrames, State.pushFrame, State.frames_setTop _ hr', State.setTop_of_frames _ hr', State.setFrames_setFrames, hr]
      rfl
    have hsame : U.sameButNew ({ U with heap := s₂.heap, slotsUsed := s₂.slotsUsed } : State) L mc ms := by
      refine ⟨?_, q2, q3, q4, q5, q6⟩
      obtain ⟨t, ht, -⟩ := State.frames_cons hr
      show ({ U with heap := s₂.heap, slotsUsed := s₂.slotsUsed } : State) = { U.setFrames U.frames with heap := s₂.heap, slotsUsed := s₂.slotsUsed }
      rw [State.setFrames_self ht]
    subst hg
    refine Or.inr ⟨q, ⟨(({ U with heap := s₂.heap, slotsUsed := s₂.slotsUsed } : State).setVm s₂.vm), Ls ++ L, c0 + mc, s0 + ms⟩,
      ⟨X.admits, X.cas, X.clock, X.frames, X.room, X.hears, X.method, X.code, (X.here.setHeapUsed s₂.heap s₂.slotsUsed).setVm hW'.alike, X.tail, State.WarmedH.trans X.warmed hW', X.limits, X.bytes, X.same.trans (hsame.setVm s.vm)⟩,
      ⟨g, mk, s₂, L, E, ce, rfl, rfl, hx, hce, hcv, hcl, rfl, hL, rfl, rfl⟩, ?_⟩
    show Steps p.tables e below _ (((({ U with heap := s₂.heap, slotsUsed := s₂.slotsUsed } : State).setVm s₂.vm).setTop g).pushFrame (.throwing q))
    rw [← hs₂]
    exact hsteps
end Payer
section Calls
variable {p : Program} {l : Launch} {e : Env} {R : Room} {s : State} {m : MethodId} {args : Array Value} {below : List Frame} {meth : Method} {c : Code} {T : State} {locs : List Loc} {cells slots : Nat}
theorem vx_callV (X : Stand p l e R s m args below meth c T locs cells slots) (hexec : p.tables.exec = Jvm.exec) {own C : String} {index : Nat} {y : MethodName} {bytes : ByteArray} {maxL : Nat} {ret : Option FieldType}
    (hown : s.vm.findClass own = some m.cls) (hlink : (Cond.methodLink own index y).before args s = true) (hinst : (Cond.instanceMethod y).before args s = true) (hsel : (Cond.selects C y y).before args s = true)
    (hcode : (Cond.code y bytes maxL ret).before args s = true) (hy : y.cls ≠ "java/lang/invoke/MethodHandle" ∧ y.cls ≠ "java/lang/invoke/VarHandle")
    {W9 : Nat} {Pre : Pt → Array Value → Prop} {Post : Pt → Array Value → Option Value → Pt → Prop} {PostX : Pt → Array Value → Addr → Pt → Prop} (hK : vx_Back l R p e below s args y 3 W9 Pre Post PostX)
    {b : Addr} {cellB : Cell} (hcell : T.heap[b]? = some cellB) (hobj : cellB.vm.isStatics = false) (hcls : s.vm.findClass C = some cellB.cls)
    {g : JFrame} (hg : g.method = m) (hsize : g.locals.size = c.maxLocals) {argsL rest : List Value} (hlen : ∀ sig, parseMethodDescriptor y.desc = some sig → argsL.length = sig.parameters.length)
    (hstack : g.stack = argsL.reverse ++ .ref b :: rest) (hW : 2 * g.monitorRoom + (rest.map fun v => v.category).sum ≤ W9) (hdg : decode c.code g.pc = .ok (.invokevirtual index, 3))
    (hpre : ∀ vm₁, s.WarmedH vm₁ → Pre ⟨T.setVm vm₁, locs, cells, slots⟩ (Value.ref b :: argsL).toArray) :
    (∃ (v : Option Value) (vm₁ : Vm) (B : Pt), s.WarmedH vm₁ ∧ Stand p l e R s m args below meth c B.U B.locs B.cells B.slots ∧ Post ⟨T.setVm vm₁, locs, cells, slots⟩ (Value.ref b :: argsL).toArray v B ∧
      ∀ target, Steps p.tables e below (B.U.setTop { g with pc := g.pc + 3, stack := v.toList ++ rest }) target → Steps p.tables e below (T.setTop g) target) ∨
    (∃ (q : Addr) (vm₁ : Vm) (B : Pt), s.WarmedH vm₁ ∧ Stand p l e R s m args below meth c B.U B.locs B.cells B.slots ∧ PostX ⟨T.setVm vm₁, locs, cells, slots⟩ (Value.ref b :: argsL).toArray q B ∧
      Steps p.tables e below (T.setTop g) ((B.U.setTop { g with stack := rest }).pushFrame (.throwing q))) := by
  obtain ⟨mk, methM, hnamed, hmethM, hstM, habM⟩ := Cond.instanceMethod_spec hinst
  obtain ⟨methM', cM, hmethM', -, -, -, -, -, -, hsigM⟩ := Cond.code_spec hnamed hcode
  cases hmethM.symm.trans hmethM'
  obtain ⟨c2, r2, m2, q1, q2, q3, q4, kP, hkP, hkPi⟩ := Cond.selects_spec hsel
  cases hcls.symm.trans q1
  cases (State.methodFound?_of_named hnamed hy).symm.trans q2
  cases hnamed.symm.trans q3
  have hselP : selectMethod e.platform s.vm cellB.cls mk = .method mk := by rw [Launch.admits_selectMethod X.admits]; exact q4
  obtain ⟨vm₁, X₁, hstep₁⟩ := X.invokevirtual hexec hown hlink hnamed hmethM hstM hkP hkPi hy (a := b) (cell := cellB) hcell
    (fun z h => by rw [h] at hobj; cases hobj) hselP hmethM habM hkP hkPi (g := g) hg (argsL := argsL) (rest := rest) (hlen _ hsigM) hstack hdg
  rcases hK m meth c ⟨T.setVm vm₁, locs, cells, slots⟩ { g with stack := rest } (.invokevirtual index) mk (Value.ref b :: argsL).toArray X₁ hg hsize hdg hW (X₁.named hnamed) (hpre vm₁ X₁.warmed) with ⟨v, B, X', hpost, hsteps⟩ | ⟨q, B, X', hpost, hsteps⟩
  · exact Or.inl ⟨v, vm₁, B, X₁.warmed, X', hpost, fun target h => hstep₁ _ fun acts => by rw [doInvoke_state]; exact hsteps.trans h⟩
  · exact Or.inr ⟨q, vm₁, B, X₁.warmed, X', hpost, hstep₁ _ fun acts => by rw [doInvoke_state]; exact hsteps⟩
theorem vx_callS (X : Stand p l e R s m args below meth c T locs cells slots) (hexec : p.tables.exec = Jvm.exec) {own : String} {index : Nat} {y : MethodName} {bytes : ByteArray} {maxL : Nat} {ret : Option FieldType}
    (hown : s.vm.findClass own = some m.cls) (hlink : (Cond.methodLink own index y).before args s = true) (hstat : (Cond.static y).before args s = true) (hinit : (Cond.initialized y.cls).before args s = true)
    (hcode : (Cond.code y bytes maxL ret).before args s = true) (hy : y.cls ≠ "java/lang/invoke/MethodHandle" ∧ y.cls ≠ "java/lang/invoke/VarHandle")
    {W9 : Nat} {Pre : Pt → Array Value → Prop} {Post : Pt → Array Value → Option Value → Pt → Prop} {PostX : Pt → Array Value → Addr → Pt → Prop} (hK : vx_Back l R p e below s args y 3 W9 Pre Post PostX)
    {g : JFrame} (hg : g.method = m) (hsize : g.locals.size = c.maxLocals) {argsL rest : List Value} (hlen : ∀ sig, parseMethodDescriptor y.desc = some sig → argsL.length = sig.parameters.length)
    (hstack : g.stack = argsL.reverse ++ rest) (hW : 2 * g.monitorRoom + (rest.map fun v => v.category).sum ≤ W9) (hdg : decode c.code g.pc = .ok (.invokestatic index, 3))
    (hpre : ∀ vm₁, s.WarmedH vm₁ → Pre ⟨T.setVm vm₁, locs, cells, slots⟩ argsL.toArray) :
    (∃ (v : Option Value) (vm₁ : Vm) (B : Pt), s.WarmedH vm₁ ∧ Stand p l e R s m args below meth c B.U B.locs B.cells B.slots ∧ Post ⟨T.setVm vm₁, locs, cells, slots⟩ argsL.toArray v B ∧
      ∀ target, Steps p.tables e below (B.U.setTop { g with pc := g.pc + 3, stack := v.toList ++ rest }) target → Steps p.tables e below (T.setTop g) target) ∨
    (∃ (q : Addr) (vm₁ : Vm) (B : Pt), s.WarmedH vm₁ ∧ Stand p l e R s m args below meth c B.U B.locs B.cells B.slots ∧ PostX ⟨T.setVm vm₁, locs, cells, slots⟩ argsL.toArray q B ∧
      Steps p.tables e below (T.setTop g) ((B.U.setTop { g with stack := rest }).pushFrame (.throwing q))) := by
  obtain ⟨mk, hnamed⟩ := Cond.code_named hcode
  obtain ⟨methM, cM, hmethM, -, -, -, -, -, -, hsigM⟩ := Cond.code_spec hnamed hcode
  have hstatic : methM.isStatic = true := Cond.static_spec hnamed hmethM hstat
  obtain ⟨kP, hkP, -⟩ := className_of_methodNamed hnamed
  have hinitP : kP.init = .initialized := Cond.initialized_spec (findClass_of_methodNamed hnamed) hkP hinit
  obtain ⟨vm₁, X₁, hstep₁⟩ := X.invokestatic hexec hown hlink hnamed hmethM hstatic hkP hinitP hy (g := g) hg (argsL := argsL) (rest := rest) (hlen _ hsigM) hstack hdg
  rcases hK m meth c ⟨T.setVm vm₁, locs, cells, slots⟩ { g with stack := rest } (.invokestatic index) mk argsL.toArray X₁ hg hsize hdg hW (X₁.named hnamed) (hpre vm₁ X₁.warmed) with ⟨v, B, X', hpost, hsteps⟩ | ⟨q, B, X', hpost, hsteps⟩
  · exact Or.inl ⟨v, vm₁, B, X₁.warmed, X', hpost, fun target h => hstep₁ _ fun acts => by rw [doInvoke_state]; exact hsteps.trans h⟩
  · exact Or.inr ⟨q, vm₁, B, X₁.warmed, X', hpost, hstep₁ _ fun acts => by rw [doInvoke_state]; exact hsteps⟩
end Calls
theorem vx_cls {s : State} {T : State} {vm₁ : Vm} {E : String} {k : ClassId} (hW : s.WarmedH vm₁) (h : (T.setVm vm₁).vm.findClass E = some k) : s.vm.findClass E = some k := by
  have h1 : vm₁.findClass E = some k := h
  rw [hW.alike.findClass] at h1
  exact h1
/-- the method's frame g, with q thrown over it -/
def vx_W (p : Program) (l : Launch) (e : Env) (R : Room) (s : State) (m : MethodId) (args : Array Value) (below : List Frame) (meth : Method) (c : Code) (H : Heap) (locs : List Loc) (cells slots : Nat) (Q : State → Prop) (g : JFrame) (q : Addr) : Prop :=
  ∀ T : State, T.heap = H → Stand p l e R s m args below meth c T locs cells slots → ∃ t, Steps p.tables e below ((T.setTop g).pushFrame (.throwing q)) t ∧ Q t
def vx_Run (p : Program) (l : Launch) (e : Env) (R : Room) (s : State) (m : MethodId) (args : Array Value) (below : List Frame) (meth : Method) (c : Code) (H : Heap) (locs : List Loc) (cells slots mc ms : Nat) (g : JFrame) (rest : List Value) (Qa : State → Outcome → State → Prop) (XC : String → State → State → Prop) (free : Addr → Prop) : Prop :=
  ∀ T : State, T.heap = H → Stand p l e R s m args below meth c T locs cells slots →
    (∃ (v : Option Value) (st₀ t T' : State) (L : List Loc), st₀.heap = H ∧ Stand p l e R s m args below meth c T' (locs ++ L) (cells + mc) (slots + ms) ∧ (∀ q ∈ L, free q.base) ∧ T'.heap = t.heap ∧ T'.vm = t.vm ∧ Qa st₀ (.returned v) t ∧
      Goes p e below T g T' { g with pc := g.pc + 3, stack := v.toList ++ rest }) ∨
    (∃ (q : Addr) (st₀ t T' : State) (L : List Loc) (E : String) (ce : Cell), st₀.heap = H ∧ Stand p l e R s m args below meth c T' (locs ++ L) (cells + mc) (slots + ms) ∧ (∀ z ∈ L, free z.base) ∧ T'.heap = t.heap ∧ T'.vm = t.vm ∧ XC E st₀ t ∧ t.heap[q]? = some ce ∧ ce.vm = .none ∧ s.vm.findClass E = some ce.cls ∧
      Steps p.tables e below (T.setTop g) ((T'.setTop { g with stack := rest }).pushFrame (.throwing q)))
def vx_X {S : Type} (px : S → Prop) (B : String → S → State → Prop) (A : Nat → Prop) : String → State → State → Prop := fun E st t => ∃ u : S, px u ∧ B E u t ∧ va_F A st t
section Runs
variable {p : Program} {l : Launch} {e : Env} {R : Room} {s : State} {m : MethodId} {args : Array Value} {below : List Frame} {meth : Method} {c : Code} {H : Heap} {locs : List Loc} {cells slots : Nat}
variable {y : MethodName} {bytes cc : ByteArray} {maxL nL mc ms n index : Nat} {ret : Option FieldType} {ws : List Cond} {rm : Room} {Pc : Array Value → State → Prop} {Qc : Array Value → State → Outcome → State → Prop} {XC : String → State → State → Prop} {free : Addr → Prop} {Ts : List Cond} {own C : String} {b : Addr} {As rest : List Value} {g : JFrame}
theorem vx_callBack (cb : CallB R s args own index y bytes maxL ret ws rm mc ms n) (hM : vx_Met l y ws rm Pc Qc XC mc ms free) (hbl : FrameBlind Pc) : vx_Back l R p e below s args y 3 8 (PreOf R mc ms Pc) (PostOf Qc mc ms free) (vx_Post XC mc ms free) := by
  obtain ⟨hrc, hrs, hfr, hlo, hws, hcw, -, hini, -⟩ := cb
  exact vx_back (bytes := bytes) (maxL := maxL) (ret := ret) hM hbl hrc hrs hfr hlo hws hcw (fun a' U hW => word_at hW (Or.inl (by first | rfl | simp [Cond.onTables, Cond.keeps, Cond.steady])) hini)
theorem vx_runV (S : CallFix p m c cc nL s args Ts own) (hM : vx_Met l y ws rm Pc Qc XC mc ms free) (cw : CallW R s args own C index y bytes maxL ret ws rm mc ms n) (hp : PreV s H C b Pc As)
    (hg : g.method = m) (hn : As.length = n) (hsize : g.locals.size = nL) (hstack : g.stack = As.reverse ++ .ref b :: rest) (hW : 2 * g.monitorRoom + (rest.map fun v => v.category).sum ≤ 8) (hdg : decode cc g.pc = .ok (.invokevirtual index, 3)) (hf : cells + mc ≤ R.cells ∧ slots + ms ≤ R.slots) :
    vx_Run p l e R s m args below meth c H locs cells slots mc ms g rest (Qc (Value.ref b :: As).toArray) XC free := by
  have hK : vx_Back l R p e below s args y 3 8 (PreOf R mc ms Pc) (PostOf Qc mc ms free) (vx_Post XC mc ms free) := vx_callBack cw.1 hM hp.1
  obtain ⟨⟨-, -, -, -, -, -, hcode, -, hy, hlen, hl⟩, hin, hse⟩ := cw
  obtain ⟨hx, hb, hml, ho, -⟩ := S
  obtain ⟨-, ⟨cellB, hcB, hoB, hclB⟩, hPc⟩ := hp
  intro T hT X
  rcases vx_callV X hx (C := C) (bytes := bytes) (maxL := maxL) (ret := ret) ho hl hin hse hcode hy hK (by rw [hT]; exact hcB) hoB hclB hg (hsize.trans hml.symm) (argsL := As) (rest := rest) (fun sig h => hn.trans (hlen sig h)) hstack hW (by rw [hb]; exact hdg)
    (fun vm₁ hW₁ => ⟨hf.1, hf.2, hPc (T.setVm vm₁) hT hW₁⟩) with ⟨v, vm₁, ⟨U', l2, c2, s2⟩, hW₁, X', ⟨g', mk, t, L, e1, e2, hq, h1, hL, h2, h3⟩, st⟩ | ⟨q, vm₁, ⟨U', l2, c2, s2⟩, hW₁, X', ⟨g', mk, t, L, E, ce, e1, e2, hq, hce, hcv, hcl, h1, hL, h2, h3⟩, st⟩
  · dsimp only [Pt.U, Pt.locs, Pt.cells, Pt.slots] at X' e1 e2 h1 h2 h3 st
    subst h1; subst h2; subst h3
    exact Or.inl ⟨v, (T.setVm vm₁).calling g' mk (Value.ref b :: As).toArray, t, U', L, hT, X', hL, e1, e2, hq, st⟩
  · dsimp only [Pt.U, Pt.locs, Pt.cells, Pt.slots] at X' e1 e2 h1 h2 h3 st hcl
    subst h1; subst h2; subst h3
    exact Or.inr ⟨q, (T.setVm vm₁).calling g' mk (Value.ref b :: As).toArray, t, U', L, E, ce, hT, X', hL, e1, e2, hq, hce, hcv, vx_cls hW₁ hcl, st⟩
theorem vx_runS (S : CallFix p m c cc nL s args Ts own) (hM : vx_Met l y ws rm Pc Qc XC mc ms free) (cw : CallB R s args own index y bytes maxL ret ws rm mc ms n ∧ (Cond.static y).before args s = true) (hp : PreS s H Pc As)
    (hg : g.method = m) (hn : As.length = n) (hsize : g.locals.size = nL) (hstack : g.stack = As.reverse ++ rest) (hW : 2 * g.monitorRoom + (rest.map fun v => v.category).sum ≤ 8) (hdg : decode cc g.pc = .ok (.invokestatic index, 3)) (hf : cells + mc ≤ R.cells ∧ slots + ms ≤ R.slots) :
    vx_Run p l e R s m args below meth c H locs cells slots mc ms g rest (Qc As.toArray) XC free := by
  have hK : vx_Back l R p e below s args y 3 8 (PreOf R mc ms Pc) (PostOf Qc mc ms free) (vx_Post XC mc ms free) := vx_callBack cw.1 hM hp.1
  obtain ⟨⟨-, -, -, -, -, -, hcode, hini, hy, hlen, hl⟩, hstt⟩ := cw
  obtain ⟨hx, hb, hml, ho, -⟩ := S
  intro T hT X
  rcases vx_callS X hx (bytes := bytes) (maxL := maxL) (ret := ret) ho hl hstt hini hcode hy hK hg (hsize.trans hml.symm) (argsL := As) (rest := rest) (fun sig h => hn.trans (hlen sig h)) hstack hW (by rw [hb]; exact hdg)
    (fun vm₁ hW₁ => ⟨hf.1, hf.2, hp.2 (T.setVm vm₁) hT hW₁⟩) with ⟨v, vm₁, ⟨U', l2, c2, s2⟩, hW₁, X', ⟨g', mk, t, L, e1, e2, hq, h1, hL, h2, h3⟩, st⟩ | ⟨q, vm₁, ⟨U', l2, c2, s2⟩, hW₁, X', ⟨g', mk, t, L, E, ce, e1, e2, hq, hce, hcv, hcl, h1, hL, h2, h3⟩, st⟩
  · dsimp only [Pt.U, Pt.locs, Pt.cells, Pt.slots] at X' e1 e2 h1 h2 h3 st
    subst h1; subst h2; subst h3
    exact Or.inl ⟨v, (T.setVm vm₁).calling g' mk As.toArray, t, U', L, hT, X', hL, e1, e2, hq, st⟩
  · dsimp only [Pt.U, Pt.locs, Pt.cells, Pt.slots] at X' e1 e2 h1 h2 h3 st hcl
    subst h1; subst h2; subst h3
    exact Or.inr ⟨q, (T.setVm vm₁).calling g' mk As.toArray, t, U', L, E, ce, hT, X', hL, e1, e2, hq, hce, hcv, vx_cls hW₁ hcl, st⟩
end Runs
section Rows
variable {p : Program} {l : Launch} {e : Env} {R : Room} {s : State} {m : MethodId} {args : Array Value} {below : List Frame} {meth : Method} {c : Code} {H : Heap} {locs : List Loc} {cells slots : Nat} {Q : State → Prop}
variable {mc ms : Nat} {free : Addr → Prop} {A0 A1 : Nat → Prop} {H0 : Heap} {a : Array Value} {pc : Nat} {ls : Array Slot} {st0 rest : List Value}
theorem vx_keep {st₀ t T' : State} {L : List Loc} (h0 : st₀.heap = H) (e1 : T'.heap = t.heap) (hS : va_S A0 H0 H locs) (hA : ∀ q, q < H.size → A1 q → A0 q) (hf : ∀ q, free q → A0 q) (hL : ∀ q ∈ L, free q.base) (hF : va_F A1 st₀ t) :
    H.size ≤ T'.heap.size ∧ (∀ q : Nat, q < H.size → ¬ A1 q → T'.heap[q]? = H[q]?) ∧ va_S A0 H0 T'.heap (locs ++ L) := by
  obtain ⟨hz, hk⟩ := hF
  rw [h0] at hz hk
  exact ⟨by rw [e1]; exact hz, fun q h1 h2 => by rw [e1]; exact hk q h1 h2,
    ⟨Nat.le_trans hS.1 (by rw [e1]; exact hz), fun q h1 h2 => by rw [e1, hk q (Nat.lt_of_lt_of_le h1 hS.1) (fun z => h2 (hA q (Nat.lt_of_lt_of_le h1 hS.1) z))]; exact hS.2.1 q h1 h2, fun q hq => by
      rcases List.mem_append.mp hq with h | h
      · exact hS.2.2 q h
      · exact hf _ (hL q h)⟩⟩
theorem vx_calli {S SX : Type} {post : Int32 → S → Prop} {px : SX → Prop} {B : S → State → Prop} {BX : String → SX → State → Prop} {AX : Nat → Prop} (hr : vx_Run p l e R s m args below meth c H locs cells slots mc ms (F0 m pc ls st0) rest (va_Qi post B A1 a) (vx_X px BX AX) free) (hS : va_S A0 H0 H locs) (hA : ∀ q, q < H.size → A1 q → A0 q) (hf : ∀ q, free q → A0 q) (hAX : ∀ q, q < H.size → AX q → A0 q)
    (kx : ∀ (E : String) (ce : Cell) (q9 : Addr) (u : SX) (t : State) (H1 : Heap) (locs1 : List Loc), t.heap = H1 → s.vm.Alike t.vm → px u → BX E u t → H.size ≤ H1.size → (∀ q : Nat, q < H.size → ¬ AX q → H1[q]? = H[q]?) → va_S A0 H0 H1 locs1 → H1[q9]? = some ce → ce.vm = .none → s.vm.findClass E = some ce.cls → vx_W p l e R s m args below meth c H1 locs1 (cells + mc) (slots + ms) Q (F0 m pc ls rest) q9)
    (kk : ∀ (r : Int32) (u : S) (t : State) (H1 : Heap) (locs1 : List Loc), t.heap = H1 → s.vm.Alike t.vm → post r u → B u t → H.size ≤ H1.size → (∀ q : Nat, q < H.size → ¬ A1 q → H1[q]? = H[q]?) → va_S A0 H0 H1 locs1 → W p l e R s m args below meth c H1 locs1 (cells + mc) (slots + ms) Q (F0 m (pc + 3) ls (.int r :: rest))) : W p l e R s m args below meth c H locs cells slots Q (F0 m pc ls st0) := by
  intro T hT X
  rcases hr T hT X with ⟨v, st₀, t, T', L, h0, X', hL, e1, e2, ⟨⟨r, u, hv, hp, hb⟩, hF⟩, st⟩ | ⟨q, st₀, t, T', L, E, ce, h0, X', hL, e1, e2, ⟨u, hp, hb, hF⟩, hce, hcv, hcl, st⟩
  · cases hv
    obtain ⟨k1, k2, k3⟩ := vx_keep h0 e1 hS hA hf hL hF
    obtain ⟨t2, a1, b1⟩ := kk r u t T'.heap (locs ++ L) e1.symm (by rw [← e2]; exact X'.warmed.alike) hp hb k1 k2 k3 T' rfl X'
    exact ⟨t2, st t2 a1, b1⟩
  · obtain ⟨k1, k2, k3⟩ := vx_keep h0 e1 hS hAX hf hL hF
    obtain ⟨t2, a1, b1⟩ := kx E ce q u t T'.heap (locs ++ L) e1.symm (by rw [← e2]; exact X'.warmed.alike) hp hb k1 k2 k3 (by rw [e1]; exact hce) hcv hcl T' rfl X'
    exact ⟨t2, st.trans a1, b1⟩
theorem vx_calll {S SX : Type} {post : Int64 → S → Prop} {px : SX → Prop} {B : S → State → Prop} {BX : String → SX → State → Prop} {AX : Nat → Prop} (hr : vx_Run p l e R s m args below meth c H locs cells slots mc ms (F0 m pc ls st0) rest (va_Ql post B A1 a) (vx_X px BX AX) free) (hS : va_S A0 H0 H locs) (hA : ∀ q, q < H.size → A1 q → A0 q) (hf : ∀ q, free q → A0 q) (hAX : ∀ q, q < H.size → AX q → A0 q)
    (kx : ∀ (E : String) (ce : Cell) (q9 : Addr) (u : SX) (t : State) (H1 : Heap) (locs1 : List Loc), t.heap = H1 → s.vm.Alike t.vm → px u → BX E u t → H.size ≤ H1.size → (∀ q : Nat, q < H.size → ¬ AX q → H1[q]? = H[q]?) → va_S A0 H0 H1 locs1 → H1[q9]? = some ce → ce.vm = .none → s.vm.findClass E = some ce.cls → vx_W p l e R s m args below meth c H1 locs1 (cells + mc) (slots + ms) Q (F0 m pc ls rest) q9)
    (kk : ∀ (r : Int64) (u : S) (t : State) (H1 : Heap) (locs1 : List Loc), t.heap = H1 → s.vm.Alike t.vm → post r u → B u t → H.size ≤ H1.size → (∀ q : Nat, q < H.size → ¬ A1 q → H1[q]? = H[q]?) → va_S A0 H0 H1 locs1 → W p l e R s m args below meth c H1 locs1 (cells + mc) (slots + ms) Q (F0 m (pc + 3) ls (.long r :: rest))) : W p l e R s m args below meth c H locs cells slots Q (F0 m pc ls st0) := by
  intro T hT X
  rcases hr T hT X with ⟨v, st₀, t, T', L, h0, X', hL, e1, e2, ⟨⟨r, u, hv, hp, hb⟩, hF⟩, st⟩ | ⟨q, st₀, t, T', L, E, ce, h0, X', hL, e1, e2, ⟨u, hp, hb, hF⟩, hce, hcv, hcl, st⟩
  · cases hv
    obtain ⟨k1, k2, k3⟩ := vx_keep h0 e1 hS hA hf hL hF
    obtain ⟨t2, a1, b1⟩ := kk r u t T'.heap (locs ++ L) e1.symm (by rw [← e2]; exact X'.warmed.alike) hp hb k1 k2 k3 T' rfl X'
    exact ⟨t2, st t2 a1, b1⟩
  · obtain ⟨k1, k2, k3⟩ := vx_keep h0 e1 hS hAX hf hL hF
    obtain ⟨t2, a1, b1⟩ := kx E ce q u t T'.heap (locs ++ L) e1.symm (by rw [← e2]; exact X'.warmed.alike) hp hb k1 k2 k3 (by rw [e1]; exact hce) hcv hcl T' rfl X'
    exact ⟨t2, st.trans a1, b1⟩
theorem vx_callf {S SX : Type} {post : UInt32 → S → Prop} {px : SX → Prop} {B : S → State → Prop} {BX : String → SX → State → Prop} {AX : Nat → Prop} (hr : vx_Run p l e R s m args below meth c H locs cells slots mc ms (F0 m pc ls st0) rest (va_Qf post B A1 a) (vx_X px BX AX) free) (hS : va_S A0 H0 H locs) (hA : ∀ q, q < H.size → A1 q → A0 q) (hf : ∀ q, free q → A0 q) (hAX : ∀ q, q < H.size → AX q → A0 q)
    (kx : ∀ (E : String) (ce : Cell) (q9 : Addr) (u : SX) (t : State) (H1 : Heap) (locs1 : List Loc), t.heap = H1 → s.vm.Alike t.vm → px u → BX E u t → H.size ≤ H1.size → (∀ q : Nat, q < H.size → ¬ AX q → H1[q]? = H[q]?) → va_S A0 H0 H1 locs1 → H1[q9]? = some ce → ce.vm = .none → s.vm.findClass E = some ce.cls → vx_W p l e R s m args below meth c H1 locs1 (cells + mc) (slots + ms) Q (F0 m pc ls rest) q9)
    (kk : ∀ (r : UInt32) (u : S) (t : State) (H1 : Heap) (locs1 : List Loc), t.heap = H1 → s.vm.Alike t.vm → post r u → B u t → H.size ≤ H1.size → (∀ q : Nat, q < H.size → ¬ A1 q → H1[q]? = H[q]?) → va_S A0 H0 H1 locs1 → W p l e R s m args below meth c H1 locs1 (cells + mc) (slots + ms) Q (F0 m (pc + 3) ls (.float r :: rest))) : W p l e R s m args below meth c H locs cells slots Q (F0 m pc ls st0) := by
  intro T hT X
  rcases hr T hT X with ⟨v, st₀, t, T', L, h0, X', hL, e1, e2, ⟨⟨r, u, hv, hp, hb⟩, hF⟩, st⟩ | ⟨q, st₀, t, T', L, E, ce, h0, X', hL, e1, e2, ⟨u, hp, hb, hF⟩, hce, hcv, hcl, st⟩
  · cases hv
    obtain ⟨k1, k2, k3⟩ := vx_keep h0 e1 hS hA hf hL hF
    obtain ⟨t2, a1, b1⟩ := kk r u t T'.heap (locs ++ L) e1.symm (by rw [← e2]; exact X'.warmed.alike) hp hb k1 k2 k3 T' rfl X'
    exact ⟨t2, st t2 a1, b1⟩
  · obtain ⟨k1, k2, k3⟩ := vx_keep h0 e1 hS hAX hf hL hF
    obtain ⟨t2, a1, b1⟩ := kx E ce q u t T'.heap (locs ++ L) e1.symm (by rw [← e2]; exact X'.warmed.alike) hp hb k1 k2 k3 (by rw [e1]; exact hce) hcv hcl T' rfl X'
    exact ⟨t2, st.trans a1, b1⟩
theorem vx_calld {S SX : Type} {post : UInt64 → S → Prop} {px : SX → Prop} {B : S → State → Prop} {BX : String → SX → State → Prop} {AX : Nat → Prop} (hr : vx_Run p l e R s m args below meth c H locs cells slots mc ms (F0 m pc ls st0) rest (va_Qd post B A1 a) (vx_X px BX AX) free) (hS : va_S A0 H0 H locs) (hA : ∀ q, q < H.size → A1 q → A0 q) (hf : ∀ q, free q → A0 q) (hAX : ∀ q, q < H.size → AX q → A0 q)
    (kx : ∀ (E : String) (ce : Cell) (q9 : Addr) (u : SX) (t : State) (H1 : Heap) (locs1 : List Loc), t.heap = H1 → s.vm.Alike t.vm → px u → BX E u t → H.size ≤ H1.size → (∀ q : Nat, q < H.size → ¬ AX q → H1[q]? = H[q]?) → va_S A0 H0 H1 locs1 → H1[q9]? = some ce → ce.vm = .none → s.vm.findClass E = some ce.cls → vx_W p l e R s m args below meth c H1 locs1 (cells + mc) (slots + ms) Q (F0 m pc ls rest) q9)
    (kk : ∀ (r : UInt64) (u : S) (t : State) (H1 : Heap) (locs1 : List Loc), t.heap = H1 → s.vm.Alike t.vm → post r u → B u t → H.size ≤ H1.size → (∀ q : Nat, q < H.size → ¬ A1 q → H1[q]? = H[q]?) → va_S A0 H0 H1 locs1 → W p l e R s m args below meth c H1 locs1 (cells + mc) (slots + ms) Q (F0 m (pc + 3) ls (.double r :: rest))) : W p l e R s m args below meth c H locs cells slots Q (F0 m pc ls st0) := by
  intro T hT X
  rcases hr T hT X with ⟨v, st₀, t, T', L, h0, X', hL, e1, e2, ⟨⟨r, u, hv, hp, hb⟩, hF⟩, st⟩ | ⟨q, st₀, t, T', L, E, ce, h0, X', hL, e1, e2, ⟨u, hp, hb, hF⟩, hce, hcv, hcl, st⟩
  · cases hv
    obtain ⟨k1, k2, k3⟩ := vx_keep h0 e1 hS hA hf hL hF
    obtain ⟨t2, a1, b1⟩ := kk r u t T'.heap (locs ++ L) e1.symm (by rw [← e2]; exact X'.warmed.alike) hp hb k1 k2 k3 T' rfl X'
    exact ⟨t2, st t2 a1, b1⟩
  · obtain ⟨k1, k2, k3⟩ := vx_keep h0 e1 hS hAX hf hL hF
    obtain ⟨t2, a1, b1⟩ := kx E ce q u t T'.heap (locs ++ L) e1.symm (by rw [← e2]; exact X'.warmed.alike) hp hb k1 k2 k3 (by rw [e1]; exact hce) hcv hcl T' rfl X'
    exact ⟨t2, st.trans a1, b1⟩
theorem vx_callv {S SX : Type} {post : S → Prop} {px : SX → Prop} {B : S → State → Prop} {BX : String → SX → State → Prop} {AX : Nat → Prop} (hr : vx_Run p l e R s m args below meth c H locs cells slots mc ms (F0 m pc ls st0) rest (va_Qv post B A1 a) (vx_X px BX AX) free) (hS : va_S A0 H0 H locs) (hA : ∀ q, q < H.size → A1 q → A0 q) (hf : ∀ q, free q → A0 q) (hAX : ∀ q, q < H.size → AX q → A0 q)
    (kx : ∀ (E : String) (ce : Cell) (q9 : Addr) (u : SX) (t : State) (H1 : Heap) (locs1 : List Loc), t.heap = H1 → s.vm.Alike t.vm → px u → BX E u t → H.size ≤ H1.size → (∀ q : Nat, q < H.size → ¬ AX q → H1[q]? = H[q]?) → va_S A0 H0 H1 locs1 → H1[q9]? = some ce → ce.vm = .none → s.vm.findClass E = some ce.cls → vx_W p l e R s m args below meth c H1 locs1 (cells + mc) (slots + ms) Q (F0 m pc ls rest) q9)
    (kk : ∀ (u : S) (t : State) (H1 : Heap) (locs1 : List Loc), t.heap = H1 → s.vm.Alike t.vm → post u → B u t → H.size ≤ H1.size → (∀ q : Nat, q < H.size → ¬ A1 q → H1[q]? = H[q]?) → va_S A0 H0 H1 locs1 → W p l e R s m args below meth c H1 locs1 (cells + mc) (slots + ms) Q (F0 m (pc + 3) ls (rest))) : W p l e R s m args below meth c H locs cells slots Q (F0 m pc ls st0) := by
  intro T hT X
  rcases hr T hT X with ⟨v, st₀, t, T', L, h0, X', hL, e1, e2, ⟨⟨u, hv, hp, hb⟩, hF⟩, st⟩ | ⟨q, st₀, t, T', L, E, ce, h0, X', hL, e1, e2, ⟨u, hp, hb, hF⟩, hce, hcv, hcl, st⟩
  · cases hv
    obtain ⟨k1, k2, k3⟩ := vx_keep h0 e1 hS hA hf hL hF
    obtain ⟨t2, a1, b1⟩ := kk u t T'.heap (locs ++ L) e1.symm (by rw [← e2]; exact X'.warmed.alike) hp hb k1 k2 k3 T' rfl X'
    exact ⟨t2, st t2 a1, b1⟩
  · obtain ⟨k1, k2, k3⟩ := vx_keep h0 e1 hS hAX hf hL hF
    obtain ⟨t2, a1, b1⟩ := kx E ce q u t T'.heap (locs ++ L) e1.symm (by rw [← e2]; exact X'.warmed.alike) hp hb k1 k2 k3 (by rw [e1]; exact hce) hcv hcl T' rfl X'
    exact ⟨t2, st.trans a1, b1⟩
/-- caught by the row x of this method's table; the rows ahead don't take it -/
theorem vx_catch {own name : String} {E : String} {ce : Cell} {q : Addr} (hown : s.vm.findClass own = some m.cls) (pre : List ExceptionTableEntry) (x : ExceptionTableEntry) (suf : List ExceptionTableEntry) (hsplit : c.exceptionTable.toList = pre ++ x :: suf)
    (hpass : ∀ z ∈ pre, covers z pc = false ∨ (z.catchType ≠ 0 ∧ ∃ nm : String, (Cond.classLink own z.catchType nm).before args s = true ∧ va_Nc E nm s)) (hx : covers x pc = true) (h0 : x.catchType ≠ 0)
    (hlink : (Cond.classLink own x.catchType name).before args s = true) (hcast : (Cond.castable E name).before args s = true) (hcell : H[q]? = some ce) (hv : ce.vm = .none) (hcl : s.vm.findClass E = some ce.cls)
    (kk : W p l e R s m args below meth c H locs cells slots Q (F0 m x.handlerPc ls [.ref q])) : vx_W p l e R s m args below meth c H locs cells slots Q (F0 m pc ls rest) q := by
  intro T hT X
  have hpl : e.platform.magicAccessors = ({} : Platform).magicAccessors := by rw [X.admits.platform]
  obtain ⟨c3, c4, hc3, hc4, hasg⟩ := Cond.castable_spec hcast
  cases Option.some.inj (hc3.symm.trans hcl)
  obtain ⟨c5, hc5, hcl5⟩ := Cond.classLink_spec hown hlink e.platform hpl
  cases Option.some.inj (hc4.symm.trans hc5)
  obtain ⟨vm', X', st⟩ := X.thenCaughtThrough q (g := F0 m pc ls rest) rfl (Steps.refl _) (by rw [hT]; exact hcell) (by rw [hv]; rfl) (by obtain ⟨k9, h9, -⟩ := Vm.findClass_spec hcl; exact ⟨k9, h9⟩) pre x suf hsplit
    (fun z hz => by
      rcases hpass z hz with h | ⟨hz0, nm, hl1, hn1⟩
      · exact Or.inl h
      · obtain ⟨c6, hc6, hcl6⟩ := Cond.classLink_spec hown hl1 e.platform hpl
        obtain ⟨a8, b8, h1, h2, h3⟩ := hn1
        cases Option.some.inj (h1.symm.trans hcl)
        cases Option.some.inj (h2.symm.trans hc6)
        exact Or.inr ⟨hz0, _, hcl6, h3⟩) hx (Or.inr ⟨h0, c4, hcl5, hasg⟩)
  obtain ⟨t, a1, b1⟩ := kk (T.setVm vm') hT X'
  exact ⟨t, st.trans a1, b1⟩
end Rows
section Ends
variable {p : Program} {l : Launch} {e : Env} {R : Room} {s : State} {m : MethodId} {args : Array Value} {below : List Frame} {meth : Method} {c : Code} {H : Heap} {locs : List Loc} {cells slots : Nat} {Q : State → Prop}
variable {mc ms : Nat} {free : Addr → Prop} {A0 A1 : Nat → Prop} {H0 : Heap} {a : Array Value} {ls : Array Slot} {st0 rest : List Value}
variable {Qc : Array Value → State → Outcome → State → Prop} {XC : String → State → State → Prop}
/-- what a body that may throw owes at its end -/
def vx_MQ (below : List Frame) (Qc : Array Value → State → Outcome → State → Prop) (XC : String → State → State → Prop) (a : Array Value) (s : State) (mc ms : Nat) (free : Addr → Prop) : State → Prop := fun t =>
  ∃ o, t.status = .running ∧ Ended t below o ∧ vx_Q Qc XC mc ms free a s o t
theorem vx_ret {g : JFrame} {mc ms : Nat} (k : W p l e R s m args below meth c H locs cells slots (MQ below Qc args s mc ms free) g) : W p l e R s m args below meth c H locs cells slots (vx_MQ below Qc XC args s mc ms free) g := by
  intro T hT X
  obtain ⟨t, a1, o, b1, b2, b3, b4⟩ := k T hT X
  exact ⟨t, a1, o, b1, b2, Or.inl ⟨b3, b4⟩⟩
/-- not caught here: it goes on to the caller -/
theorem vx_widen {g : JFrame} {q : Addr} {k n : Nat} (h1 : cells ≤ k) (h2 : slots ≤ n) (kk : vx_W p l e R s m args below meth c H locs k n Q g q) : vx_W p l e R s m args below meth c H locs cells slots Q g q := fun T hT X => kk T hT (stand_widen X h1 h2)
theorem vx_out {pc : Nat} {E : String} {ce : Cell} {q : Addr} {mc ms : Nat} (hout : ∀ x ∈ c.exceptionTable.toList, covers x pc = false) (hlocks : meth.locks = false) (hcell : H[q]? = some ce) (hv : ce.vm = .none) (hcl : s.vm.findClass E = some ce.cls)
    (hx : ∀ t : State, t.heap = H → s.vm.Alike t.vm → XC E s t) (hf : ∀ z ∈ locs, free z.base) (hc : cells ≤ mc) (hs : slots ≤ ms) :
    vx_W p l e R s m args below meth c H locs cells slots (vx_MQ below Qc XC args s mc ms free) (F0 m pc ls rest) q := by
  intro T hT X
  obtain ⟨st1, hrun, hend, hW, hsm⟩ := X.leaveThrown q (g := F0 m pc ls rest) rfl rfl rfl hout hlocks
  have hcell9 : (T.setFrames (.throwing q :: below)).heap[q]? = some ce := by
    show T.heap[q]? = some ce
    rw [hT]; exact hcell
  exact ⟨_, st1, .threw q, hrun, hend, Or.inr ⟨q, rfl, E, ce, locs, hx _ hT hW.alike, hcell9, hv, hcl, hW, hsm.mono hc hs, hf⟩⟩
theorem vx_frame {U : State} {k n : Nat} (h : s.sameButNew ({ U with vm := s.vm } : State) locs k n) : s.heap.size ≤ U.heap.size ∧ ∀ q : Nat, q < s.heap.size → (∀ z ∈ locs, z.base ≠ q) → U.heap[q]? = s.heap[q]? := by
  obtain ⟨-, h2, -, -, -, h6⟩ := h
  refine ⟨h2, fun q hq hz => ?_⟩
  obtain ⟨c9, e1, e2, e3, e4⟩ := h6 q _ (Array.getElem?_eq_getElem hq)
  have hs : c9.slots = (s.heap[q]).slots := Array.ext_getElem? fun i => e4 i fun hm => hz _ hm rfl
  have h9 : c9 = s.heap[q] := by
    rw [hs] at e2
    exact e2
  have e5 : U.heap[q]? = some c9 := e1
  rw [e5, h9, Array.getElem?_eq_getElem hq]
/-- the words of a throw but the four that speak of the heap -/
def vx_no (w : Cond) : Bool := decide (w ≠ .isRef (.static Bundle.tN "UNASSIGNED_STACK" Bundle.steD)) && decide (w ≠ .isRef (.static Bundle.tN "SUPPRESSED_SENTINEL" Bundle.listD)) && decide (w ≠ .laysStatic Bundle.tN "UNASSIGNED_STACK" Bundle.steD) && decide (w ≠ .laysStatic Bundle.tN "SUPPRESSED_SENTINEL" Bundle.listD)
def vx_at0 (own : String) (ic : Nat) (X : String) (names : List String) : List Cond := (Bundle.ownAtoms0 own ic X names).filter vx_no
def vx_atS (own : String) (ic : Nat) (X : String) (names : List String) : List Cond := (Bundle.ownAtoms own ic X names).filter vx_no
/-- a word that the tables alone decide, or a good one -/
def vx_ot (w : Cond) : Bool := w.onTables || goodWord w
theorem vx_ot_at {args a' : Array Value} {s U : State} {w : Cond} (hW : s.WarmedH U.vm) (hvm : s.vm = U.vm) (hg : vx_ot w = true) (h : w.before args s = true) : w.before a' U = true := by
  simp only [vx_ot, Bool.or_eq_true] at hg
  rcases hg with hg | hg
  · exact va_tabs hg hvm h
  · exact word_at hW (good_of_word hg) h
/-- a list's words: the good ones out of the method's own list, the others by premises of their own -/
theorem vx_hat {args : Array Value} {s : State} {L B : List Cond} (h1 : ∀ w ∈ L.filter goodWord, w.before args s = true) (h2 : ∀ w ∈ L.filter (fun w => !goodWord w), w ∈ B) (h3 : ∀ w ∈ B, w.before args s = true) : ∀ w ∈ L, w.before args s = true := by
  intro w hw
  by_cases g : goodWord w = true
  · exact h1 w (List.mem_filter.mpr ⟨hw, g⟩)
  · refine h3 w (h2 w (List.mem_filter.mpr ⟨hw, ?_⟩))
    show (!goodWord w) = true
    cases hgw : goodWord w
    · rfl
    · exact absurd hgw g
theorem vx_c {args : Array Value} {s : State} {w : Cond} {B : List Cond} (h : w.before args s = true) (t : ∀ w ∈ B, w.before args s = true) : ∀ w' ∈ w :: B, w'.before args s = true := fun w' h' => (List.mem_cons.mp h').elim (fun e => by rw [e]; exact h) (t w')
theorem vx_n {args : Array Value} {s : State} : ∀ w ∈ ([] : List Cond), w.before args s = true := fun _ h => nomatch h
theorem vx_own {args : Array Value} {s : State} {L : List Cond} (h1 : ∀ w ∈ L.filter vx_no, w.before args s = true)
    (hU : (Cond.isRef (.static Bundle.tN "UNASSIGNED_STACK" Bundle.steD)).before args s = true) (hN : (Cond.isRef (.static Bundle.tN "SUPPRESSED_SENTINEL" Bundle.listD)).before args s = true)
    (lU : (Cond.laysStatic Bundle.tN "UNASSIGNED_STACK" Bundle.steD).before args s = true) (lN : (Cond.laysStatic Bundle.tN "SUPPRESSED_SENTINEL" Bundle.listD).before args s = true) : ∀ w ∈ L, w.before args s = true := by
  intro w hw
  by_cases e1 : w = .isRef (.static Bundle.tN "UNASSIGNED_STACK" Bundle.steD)
  · rw [e1]; exact hU
  · by_cases e2 : w = .isRef (.static Bundle.tN "SUPPRESSED_SENTINEL" Bundle.listD)
    · rw [e2]; exact hN
    · by_cases e3 : w = .laysStatic Bundle.tN "UNASSIGNED_STACK" Bundle.steD
      · rw [e3]; exact lU
      · by_cases e4 : w = .laysStatic Bundle.tN "SUPPRESSED_SENTINEL" Bundle.listD
        · rw [e4]; exact lN
        · exact h1 w (List.mem_filter.mpr ⟨hw, by unfold vx_no; rw [decide_eq_true e1, decide_eq_true e2, decide_eq_true e3, decide_eq_true e4]; rfl⟩)
/-- where a static field lies, its class's statics cell in H -/
def vx_L (C n d : String) (A : Nat → Prop) (U : State) (H : Heap) : Prop := ∃ (c : ClassId) (k : Class) (i : Nat) (f : Field) (a : Nat) (cell : Cell), U.vm.findClass C = some c ∧ U.fieldFound? C n d = some (c, k, i, f) ∧ f.isStatic = true ∧ k.statics = some a ∧ H[a]? = some cell ∧ cell.vm.isStatics = true ∧ cell.cls = c ∧ f.slot < cell.slots.size ∧ k.staticTypes[f.slot]? = some f.type ∧ ¬ A a
theorem vx_L.moved {C n d : String} {A : Nat → Prop} {u U : State} {H : Heap} (hvm : u.vm.Alike U.vm) (h : vx_L C n d A u H) : vx_L C n d A U H := by
  obtain ⟨c, k, i, f, a, cell, h1, h2, h3, h4, h5, h6, h7, h8, h9, h10⟩ := h
  obtain ⟨k', hi', he⟩ := State.fieldFound?_setVm hvm h2
  exact ⟨c, k', i, f, a, cell, by rw [hvm.findClass]; exact h1, hi', h3, by rw [he]; exact h4, h5, h6, h7, h8, by rw [he]; exact h9, h10⟩
theorem vx_L.kept {C n d : String} {A : Nat → Prop} {U : State} {H H1 : Heap} (h : vx_L C n d A U H) (hq : ∀ a : Nat, a < H.size → ¬ A a → H1[a]? = H[a]?) : vx_L C n d A U H1 := by
  obtain ⟨c, k, i, f, a, cell, h1, h2, h3, h4, h5, h6, h7, h8, h9, h10⟩ := h
  exact ⟨c, k, i, f, a, cell, h1, h2, h3, h4, by rw [hq a (Array.getElem?_eq_some_iff.mp h5).1 h10]; exact h5, h6, h7, h8, h9, h10⟩
theorem vx_L.narrow {C n d : String} {A B : Nat → Prop} {U : State} {H : Heap} (h : vx_L C n d A U H) (hAB : ∀ q, B q → A q) : vx_L C n d B U H := by
  obtain ⟨c, k, i, f, a, cell, h1, h2, h3, h4, h5, h6, h7, h8, h9, h10⟩ := h
  exact ⟨c, k, i, f, a, cell, h1, h2, h3, h4, h5, h6, h7, h8, h9, fun z => h10 (hAB _ z)⟩
theorem vx_L.word {C n d : String} {A : Nat → Prop} {s : State} {args : Array Value} (h : vx_L C n d A s s.heap) : (Cond.laysStatic C n d).before args s = true := by
  obtain ⟨c, k, i, f, a, cell, h1, h2, h3, h4, h5, h6, h7, h8, h9, -⟩ := h
  show (Cond.laysStatic C n d).holds args s none s [] = true
  exact Cond.laysStatic_of h1 h2 h3 h4 h5 h6 h7 h8 h9
/-- .. and what it holds: null or some reference -/
def vx_Zq (C n d : String) (A : Nat → Prop) (U : State) (H : Heap) : Prop := va_Zq C n d A U H ∧ vx_L C n d A U H
theorem vx_Zq.moved {C n d : String} {A : Nat → Prop} {u U : State} {H : Heap} (hvm : u.vm.Alike U.vm) (h : vx_Zq C n d A u H) : vx_Zq C n d A U H := ⟨va_Zq.moved hvm h.1, vx_L.moved hvm h.2⟩
theorem vx_Zq.kept {C n d : String} {A : Nat → Prop} {U : State} {H H1 : Heap} (h : vx_Zq C n d A U H) (hq : ∀ a : Nat, a < H.size → ¬ A a → H1[a]? = H[a]?) : vx_Zq C n d A U H1 := ⟨va_Zq.kept h.1 hq, vx_L.kept h.2 hq⟩
theorem vx_Zq.narrow {C n d : String} {A B : Nat → Prop} {U : State} {H : Heap} (h : vx_Zq C n d A U H) (hAB : ∀ q, B q → A q) : vx_Zq C n d B U H := ⟨va_Zq.narrow h.1 hAB, vx_L.narrow h.2 hAB⟩
theorem vx_Zqof {args : Array Value} {s : State} {C n d : String} {A : Nat → Prop} (hl : (Cond.laysStatic C n d).before args s = true) (hini : (Cond.initialized C).before args s = true) (h : (Cond.isRef (.static C n d)).before args s = true) (hA : ∀ a : Nat, a < s.heap.size → ¬ A a) : vx_Zq C n d A s s.heap := by
  refine ⟨va_Zqof hl hini h hA, ?_⟩
  obtain ⟨c, k, i, f, a, cell, h1, h2, h3, h4, h5, h6, h7, h8, h9⟩ := Cond.laysStatic_spec hl
  exact ⟨c, k, i, f, a, cell, h1, h2, h3, h4, h5, h6, h7, h8, h9, hA a (Array.getElem?_eq_some_iff.mp h5).1⟩
theorem vx_isRef {C n d : String} {v : Value} {A : Nat → Prop} {s : State} {args : Array Value} (h : va_Z C n d v A s s.heap) (hv : v.isRef = true) : (Cond.isRef (.static C n d)).before args s = true := by
  obtain ⟨cf, kf, fi, f, a, cell, h1, h2, h3, h4, h5, h6, h7, -⟩ := h
  have he : (Term.static C n d).eval args s none [] s = some v := by
    simp [Term.eval, State.fieldNamed?, h1, h2, h4, h5, h6, h7]
  simp only [Cond.before, Cond.holds, Cond.value, he]
  cases v <;> simp_all [Value.isRef]
theorem vx_isRefq {C n d : String} {A : Nat → Prop} {s : State} {args : Array Value} (h : va_Zq C n d A s s.heap) : (Cond.isRef (.static C n d)).before args s = true := by
  rcases h with h | ⟨t, h⟩
  · exact vx_isRef h rfl
  · exact vx_isRef h rfl
/-- the same frame, seen from here: as if the method were called anew in this heap -/
theorem vx_rebase {T : State} (X : Stand p l e R s m args below meth c T locs cells slots) {R' : Room} (hf : R'.frames ≤ R.frames) (hl : R'.locals ≤ R.locals) (hc : cells + R'.cells ≤ R.cells) (hs : slots + R'.slots ≤ R.slots) :
    Stand p l e R' ((T.setVm s.vm).setFrames (.invoking m args :: below)) m args below meth c T [] 0 0 := by
  have htop : (T.setVm s.vm).topJava?.isSome := X.here.top
  have hF : ((T.setVm s.vm).setFrames (.invoking m args :: below)).frames = .invoking m args :: below := State.frames_setFrames _ (State.cur_lt_of_top htop)
  obtain ⟨g₀, hg0⟩ := Option.isSome_iff_exists.mp htop
  obtain ⟨r, hr⟩ := State.topJava?_eq_some.mp hg0
  have hl9 : e.platform.stackLimits (T.setVm s.vm).me = e.platform.stackLimits s.me := X.limits
  have hb9 : (T.setVm s.vm).me.stackBytes = s.me.stackBytes := X.bytes
  refine ⟨X.admits, X.cas, X.clock, hF, ?_, X.hears, X.method, X.code, X.here, X.tail, X.warmed, ?_, ?_, ?_⟩
  · have h := X.room
    have hU : ((T.setVm s.vm).setFrames (.invoking m args :: below)).localsInUse = s.localsInUse := by
      rw [State.localsInUse_invoking hF (meth := meth) (c := c) X.method X.code, State.localsInUse_invoking X.frames X.method X.code]
    simp only [State.hasRoom, Bool.and_eq_true, decide_eq_true_eq] at h ⊢
    obtain ⟨⟨⟨⟨h1, h2, h3, h4, h5, h6⟩, h7⟩, h8⟩, h9⟩ := h
    rw [X.frames, List.length_cons] at h2 h3
    have q1 := X.heapSize
    have q2 := X.used
    simp only [hF, hU, List.length_cons, State.stackLimits_setFrames, State.stackBytes_setFrames, hl9, hb9]
    refine ⟨⟨⟨⟨by omega, by omega, by omega, by omega, by omega, h6⟩, ?_⟩, ?_⟩, X.book⟩
    · show T.heap.size + R'.cells ≤ e.platform.maxCells
      omega
    · show T.slotsUsed + R'.slots ≤ e.platform.maxSlots
      omega
  · rw [State.stackLimits_setFrames]; rfl
  · rw [State.stackBytes_setFrames]; rfl
  · refine ⟨?_, Nat.le_refl _, Nat.le_refl _, ?_, ?_, fun a c9 h9 => ⟨c9, h9, rfl, rfl, fun _ _ => rfl⟩⟩
    · obtain ⟨t, ht, -⟩ := State.frames_cons hr
      show T.setVm s.vm = { ((T.setVm s.vm).setFrames (.invoking m args :: below)).setFrames (T.setVm s.vm).frames with heap := T.heap, slotsUsed := T.slotsUsed }
      rw [State.setFrames_setFrames, State.setFrames_self ht]
      rfl
    · show T.slotsUsed = T.slotsUsed + ((T.heap.toList.drop T.heap.size).map (·.slots.size)).sum
      rw [List.drop_eq_nil_of_le (Nat.le_of_eq Array.length_toList)]
      rfl
    · show ((T.heap.toList.drop T.heap.size).map (·.slots.size)).sum ≤ 0
      rw [List.drop_eq_nil_of_le (Nat.le_of_eq Array.length_toList)]
      exact Nat.le_refl _
/-- 'throw new E()': new; dup; invokespecial; athrow -/
theorem vx_throw0 {cc : ByteArray} {pc : Nat} (hexec : p.tables.exec = Jvm.exec) (hb : c.code = cc) (hl : l.stackTraces = false) {own cls : String} {names : List String} {ik ic mc ms : Nat} {A : Nat → Prop}
    (hown : s.vm.findClass own = some m.cls) (hcls : Bundle.fit cls = true) (hnames : ∀ n ∈ names, Bundle.fit n = true)
    (hk : (Cond.classLink own ik cls).before args s = true) (hini : (Cond.initialized cls).before args s = true) (hat : ∀ w ∈ vx_at0 own ic cls names, w.before args s = true)
    (hgood : ∀ w ∈ Cond.classLink own ik cls :: Cond.initialized cls :: vx_at0 own ic cls names, vx_ot w = true)
    (hU : vx_Zq Bundle.tN "UNASSIGNED_STACK" Bundle.steD A s s.heap) (hN : vx_Zq Bundle.tN "SUPPRESSED_SENTINEL" Bundle.listD A s s.heap) (hS : va_S A s.heap H locs) (hsize : ls.size = c.maxLocals)
    (d0 : decode cc pc = .ok (.new ik, 3)) (d3 : decode cc (pc + 3) = .ok (.dup, 1)) (d4 : decode cc (pc + 4) = .ok (.invokespecial ic, 3)) (d7 : decode cc (pc + 7) = .ok (.athrow, 1))
    (hout : ∀ x ∈ c.exceptionTable.toList, covers x (pc + 7) = false)
    (hRframes : names.length + 3 < R.frames) (hRlocals : (rest.map fun v => v.category).sum + (13 * (names.length + 1) + 42) ≤ R.locals) (hRcells : cells + 1 ≤ R.cells) (hRslots : slots + 6 ≤ R.slots) (hlocks : meth.locks = false)
    (hx : ∀ t : State, s.vm.Alike t.vm → H.size ≤ t.heap.size → (∀ q : Nat, q < H.size → t.heap[q]? = H[q]?) → XC cls s t)
    (hf : ∀ z ∈ locs, free z.base) (hc : cells + 1 ≤ mc) (hs : slots + 6 ≤ ms) :
    W p l e R s m args below meth c H locs cells slots (vx_MQ below Qc XC args s mc ms free) (F0 m pc ls rest) := by
  intro T hT X
  have htr : e.platform.stackTraces = false := (show e.platform.stackTraces = l.stackTraces by rw [X.admits.platform]).trans hl
  have Y := vx_rebase X (R' := { frames := R.frames, locals := R.locals, cells := 1, slots := 6 }) (Nat.le_refl _) (Nat.le_refl _) hRcells hRslots
  obtain ⟨s', hA⟩ : ∃ z, z = (T.setVm s.vm).setFrames (.invoking m args :: below) := ⟨_, rfl⟩
  rw [← hA] at Y
  have hvm : s'.vm = s.vm := by rw [hA]; rfl
  have hhp : s'.heap = H := by rw [hA]; exact hT
  have hW0 : s.WarmedH s'.vm := by rw [hvm]; exact State.WarmedH.refl s
  have hat' : ∀ w ∈ vx_at0 own ic cls names, w.before args s' = true := fun w hw => vx_ot_at hW0 hvm.symm (hgood w (List.mem_cons_of_mem _ (List.mem_cons_of_mem _ hw))) (hat w hw)
  have hk' : (Cond.classLink own ik cls).before args s' = true := vx_ot_at hW0 hvm.symm (hgood _ List.mem_cons_self) hk
  have hini' : (Cond.initialized cls).before args s' = true := vx_ot_at hW0 hvm.symm (hgood _ (List.mem_cons_of_mem _ List.mem_cons_self)) hini
  have hU' : vx_Zq Bundle.tN "UNASSIGNED_STACK" Bundle.steD A s' s'.heap := by rw [hhp]; exact vx_Zq.moved hW0.alike (hU.kept hS.2.1)
  have hN' : vx_Zq Bundle.tN "SUPPRESSED_SENTINEL" Bundle.listD A s' s'.heap := by rw [hhp]; exact vx_Zq.moved hW0.alike (hN.kept hS.2.1)
  have h : ∀ w ∈ Bundle.ownAtoms0 own ic cls names, w.before args s' = true := vx_own hat' (vx_isRefq hU'.1) (vx_isRefq hN'.1) hU'.2.word hN'.2.word
  have hown' : s'.vm.findClass own = some m.cls := by rw [hvm]; exact hown
  have hins : (Cond.instantiable cls 6).before args s' = true := h _ (by simp [Bundle.ownAtoms0])
  obtain ⟨vm₁, cX, kX, hfX, hkX, -, -, X₁, st1⟩ := Y.newCold hexec (own := own) (C := cls) (index := ik) (n := 6) hown' hk' hins hini'
    (g := F0 m pc ls rest) rfl (by rw [hb]; exact d0) (Nat.le_refl _) (Nat.le_refl _)
  generalize hT1 : (T.setVm vm₁).pushCell { cls := cX, slots := kX.instanceTypes.map defaultValue, vm := .none } = T1 at X₁ st1
  have hcat : (Value.ref T.heap.size).category = 1 := rfl
  have hcellA : T1.heap[T.heap.size]? = some (freshCell cX kX) := by rw [← hT1]; exact State.heap_pushCell_size _ _
  have d3' : decode c.code (pc + 3) = .ok (.dup, 1) := by rw [hb]; exact d3
  obtain ⟨U, hsteps, hrun, hend, hW, hsame, ce, hce, hO⟩ := X₁.ctorThrow0 hexec htr (own := own) (cls := cls) (names := names) (ic := ic) hown' hcls hnames h (fun x hx => nomatch hx) hfX hkX hcellA (by rw [hhp, hT]; exact Nat.le_refl _)
    (g := { method := m, pc := pc + 4, locals := ls, stack := .ref T.heap.size :: .ref T.heap.size :: rest, locked := none }) rfl hsize rfl rfl (rest := rest) rfl
    (by rw [hb]; exact d4) (by rw [hb]; exact d7) hout hRframes (by simp only [List.map_cons, List.sum_cons, hcat]; omega) hlocks
  obtain ⟨f1, f2⟩ := vx_frame hsame
  rw [hhp] at f1 f2
  have hWs : s.WarmedH U.vm := State.WarmedH.trans hW0 hW
  have hcl : s.vm.findClass cls = some ce.cls := by
    have h9 := hO.cls
    rw [hvm] at h9
    exact h9
  have hall : s.sameButNew ({ U with vm := s.vm } : State) locs mc ms := by
    subst hA
    obtain ⟨e1, e2⟩ := hsame
    rw [State.setFrames_setFrames] at e1
    have h2 : (T.setVm s.vm).sameButNew ({ U with vm := s.vm } : State) [] (0 + 1) (0 + 6) := ⟨e1, e2⟩
    have h3 := X.same.trans h2
    rw [List.append_nil] at h3
    exact h3.mono hc hs
  refine ⟨U, ?_, .threw T.heap.size, hrun, hend, Or.inr ⟨T.heap.size, rfl, cls, ce, locs, hx U hWs.alike f1 (fun q hq => f2 q hq (fun z hz => nomatch hz)), hce, hO.vm, hcl, hWs, hall, hf⟩⟩
  refine st1 _ ?_
  show Steps p.tables e below (T1.setTop { method := m, pc := pc + 3, locals := ls, stack := .ref T.heap.size :: rest, locked := none }) _
  jvm_step X₁.here [X₁.here.top, hexec, d3', Value.category]
  exact hsteps
/-- 'throw new E("text")': new; dup; ldc; invokespecial; athrow -/
theorem vx_throwS {cc : ByteArray} {pc : Nat} (hexec : p.tables.exec = Jvm.exec) (hb : c.code = cc) (hl : l.stackTraces = false) {own cls text : String} {names : List String} {ik is ic mc ms sa : Nat} {A : Nat → Prop}
    (hown : s.vm.findClass own = some m.cls) (hcls : Bundle.fit cls = true) (hnames : ∀ n ∈ names, Bundle.fit n = true)
    (hk : (Cond.classLink own ik cls).before args s = true) (hini : (Cond.initialized cls).before args s = true) (hstr : vk_R own is text sa s) (hat : ∀ w ∈ vx_atS own ic cls names, w.before args s = true)
    (hgood : ∀ w ∈ Cond.classLink own ik cls :: Cond.initialized cls :: vx_atS own ic cls names, vx_ot w = true)
    (hU : vx_Zq Bundle.tN "UNASSIGNED_STACK" Bundle.steD A s s.heap) (hN : vx_Zq Bundle.tN "SUPPRESSED_SENTINEL" Bundle.listD A s s.heap) (hS : va_S A s.heap H locs) (hsize : ls.size = c.maxLocals)
    (d0 : decode cc pc = .ok (.new ik, 3)) (d3 : decode cc (pc + 3) = .ok (.dup, 1)) (d4 : decode cc (pc + 4) = .ok (.ldc is, 2)) (d6 : decode cc (pc + 6) = .ok (.invokespecial ic, 3)) (d9 : decode cc (pc + 9) = .ok (.athrow, 1))
    (hout : ∀ x ∈ c.exceptionTable.toList, covers x (pc + 9) = false)
    (hRframes : names.length + 3 < R.frames) (hRlocals : (rest.map fun v => v.category).sum + (13 * (names.length + 1) + 43) ≤ R.locals) (hRcells : cells + 1 ≤ R.cells) (hRslots : slots + 6 ≤ R.slots) (hlocks : meth.locks = false)
    (hx : ∀ t : State, s.vm.Alike t.vm → H.size ≤ t.heap.size → (∀ q : Nat, q < H.size → t.heap[q]? = H[q]?) → XC cls s t)
    (hf : ∀ z ∈ locs, free z.base) (hc : cells + 1 ≤ mc) (hs : slots + 6 ≤ ms) :
    W p l e R s m args below meth c H locs cells slots (vx_MQ below Qc XC args s mc ms free) (F0 m pc ls rest) := by
  intro T hT X
  have htr : e.platform.stackTraces = false := (show e.platform.stackTraces = l.stackTraces by rw [X.admits.platform]).trans hl
  have Y := vx_rebase X (R' := { frames := R.frames, locals := R.locals, cells := 1, slots := 6 }) (Nat.le_refl _) (Nat.le_refl _) hRcells hRslots
  obtain ⟨s', hA⟩ : ∃ z, z = (T.setVm s.vm).setFrames (.invoking m args :: below) := ⟨_, rfl⟩
  rw [← hA] at Y
  have hvm : s'.vm = s.vm := by rw [hA]; rfl
  have hhp : s'.heap = H := by rw [hA]; exact hT
  have hW0 : s.WarmedH s'.vm := by rw [hvm]; exact State.WarmedH.refl s
  have hat' : ∀ w ∈ vx_atS own ic cls names, w.before args s' = true := fun w hw => vx_ot_at hW0 hvm.symm (hgood w (List.mem_cons_of_mem _ (List.mem_cons_of_mem _ hw))) (hat w hw)
  have hk' : (Cond.classLink own ik cls).before args s' = true := vx_ot_at hW0 hvm.symm (hgood _ List.mem_cons_self) hk
  have hini' : (Cond.initialized cls).before args s' = true := vx_ot_at hW0 hvm.symm (hgood _ (List.mem_cons_of_mem _ List.mem_cons_self)) hini
  have hU' : vx_Zq Bundle.tN "UNASSIGNED_STACK" Bundle.steD A s' s'.heap := by rw [hhp]; exact vx_Zq.moved hW0.alike (hU.kept hS.2.1)
  have hN' : vx_Zq Bundle.tN "SUPPRESSED_SENTINEL" Bundle.listD A s' s'.heap := by rw [hhp]; exact vx_Zq.moved hW0.alike (hN.kept hS.2.1)
  have h : ∀ w ∈ Bundle.ownAtoms own ic cls names, w.before args s' = true := vx_own hat' (vx_isRefq hU'.1) (vx_isRefq hN'.1) hU'.2.word hN'.2.word
  have hown' : s'.vm.findClass own = some m.cls := by rw [hvm]; exact hown
  have hins : (Cond.instantiable cls 6).before args s' = true := h _ (by simp [Bundle.ownAtoms])
  obtain ⟨vm₁, cX, kX, hfX, hkX, -, -, X₁, st1⟩ := Y.newCold hexec (own := own) (C := cls) (index := ik) (n := 6) hown' hk' hins hini'
    (g := F0 m pc ls rest) rfl (by rw [hb]; exact d0) (Nat.le_refl _) (Nat.le_refl _)
  generalize hT1 : (T.setVm vm₁).pushCell { cls := cX, slots := kX.instanceTypes.map defaultValue, vm := .none } = T1 at X₁ st1
  have hcat : (Value.ref T.heap.size).category = 1 := rfl
  have hcellA : T1.heap[T.heap.size]? = some (freshCell cX kX) := by rw [← hT1]; exact State.heap_pushCell_size _ _
  have d3' : decode c.code (pc + 3) = .ok (.dup, 1) := by rw [hb]; exact d3
  have d4' : decode c.code (pc + 4) = .ok (.ldc is, 2) := by rw [hb]; exact d4
  have hstr' : vk_R own is text sa s' := vk_R.warm hW0 hstr
  obtain ⟨U, hsteps, hrun, hend, hW, hsame, ce, hce, hO⟩ := X₁.ctorThrowS hexec htr (own := own) (cls := cls) (names := names) (ic := ic) hown' hcls hnames h (fun x hx => nomatch hx) hfX hkX hcellA (by rw [hhp, hT]; exact Nat.le_refl _) (msg := .ref sa) rfl
    (g := { method := m, pc := pc + 6, locals := ls, stack := .ref sa :: .ref T.heap.size :: .ref T.heap.size :: rest, locked := none }) rfl hsize rfl rfl (rest := rest) rfl
    (by rw [hb]; exact d6) (by rw [hb]; exact d9) hout hRframes (by simp only [List.map_cons, List.sum_cons, hcat]; omega) hlocks
  obtain ⟨f1, f2⟩ := vx_frame hsame
  rw [hhp] at f1 f2
  have hWs : s.WarmedH U.vm := State.WarmedH.trans hW0 hW
  have hcl : s.vm.findClass cls = some ce.cls := by
    have h9 := hO.cls
    rw [hvm] at h9
    exact h9
  have hall : s.sameButNew ({ U with vm := s.vm } : State) locs mc ms := by
    subst hA
    obtain ⟨e1, e2⟩ := hsame
    rw [State.setFrames_setFrames] at e1
    have h2 : (T.setVm s.vm).sameButNew ({ U with vm := s.vm } : State) [] (0 + 1) (0 + 6) := ⟨e1, e2⟩
    have h3 := X.same.trans h2
    rw [List.append_nil] at h3
    exact h3.mono hc hs
  refine ⟨U, ?_, .threw T.heap.size, hrun, hend, Or.inr ⟨T.heap.size, rfl, cls, ce, locs, hx U hWs.alike f1 (fun q hq => f2 q hq (fun z hz => nomatch hz)), hce, hO.vm, hcl, hWs, hall, hf⟩⟩
  refine st1 _ ?_
  show Steps p.tables e below (T1.setTop { method := m, pc := pc + 3, locals := ls, stack := .ref T.heap.size :: rest, locked := none }) _
  jvm_step X₁.here [X₁.here.top, hexec, d3', Value.category]
  exact X₁.ldcString hexec (own := own) (text := text) (index := is) (a := sa) hown' hstr'.1 hstr'.2
    (g := { method := m, pc := pc + 4, locals := ls, stack := .ref T.heap.size :: .ref T.heap.size :: rest, locked := none }) rfl d4' _ hsteps
/-- 'throw new E("text")', the text by a wide index -/
theorem vx_throwSW {cc : ByteArray} {pc : Nat} (hexec : p.tables.exec = Jvm.exec) (hb : c.code = cc) (hl : l.stackTraces = false) {own cls text : String} {names : List String} {ik is ic mc ms sa : Nat} {A : Nat → Prop}
    (hown : s.vm.findClass own = some m.cls) (hcls : Bundle.fit cls = true) (hnames : ∀ n ∈ names, Bundle.fit n = true)
    (hk : (Cond.classLink own ik cls).before args s = true) (hini : (Cond.initialized cls).before args s = true) (hstr : vk_R own is text sa s) (hat : ∀ w ∈ vx_atS own ic cls names, w.before args s = true)
    (hgood : ∀ w ∈ Cond.classLink own ik cls :: Cond.initialized cls :: vx_atS own ic cls names, vx_ot w = true)
    (hU : vx_Zq Bundle.tN "UNASSIGNED_STACK" Bundle.steD A s s.heap) (hN : vx_Zq Bundle.tN "SUPPRESSED_SENTINEL" Bundle.listD A s s.heap) (hS : va_S A s.heap H locs) (hsize : ls.size = c.maxLocals)
    (d0 : decode cc pc = .ok (.new ik, 3)) (d3 : decode cc (pc + 3) = .ok (.dup, 1)) (d4 : decode cc (pc + 4) = .ok (.ldc_w is, 3)) (d7 : decode cc (pc + 7) = .ok (.invokespecial ic, 3)) (d10 : decode cc (pc + 10) = .ok (.athrow, 1))
    (hout : ∀ x ∈ c.exceptionTable.toList, covers x (pc + 10) = false)
    (hRframes : names.length + 3 < R.frames) (hRlocals : (rest.map fun v => v.category).sum + (13 * (names.length + 1) + 43) ≤ R.locals) (hRcells : cells + 1 ≤ R.cells) (hRslots : slots + 6 ≤ R.slots) (hlocks : meth.locks = false)
    (hx : ∀ t : State, s.vm.Alike t.vm → H.size ≤ t.heap.size → (∀ q : Nat, q < H.size → t.heap[q]? = H[q]?) → XC cls s t)
    (hf : ∀ z ∈ locs, free z.base) (hc : cells + 1 ≤ mc) (hs : slots + 6 ≤ ms) :
    W p l e R s m args below meth c H locs cells slots (vx_MQ below Qc XC args s mc ms free) (F0 m pc ls rest) := by
  intro T hT X
  have htr : e.platform.stackTraces = false := (show e.platform.stackTraces = l.stackTraces by rw [X.admits.platform]).trans hl
  have Y := vx_rebase X (R' := { frames := R.frames, locals := R.locals, cells := 1, slots := 6 }) (Nat.le_refl _) (Nat.le_refl _) hRcells hRslots
  obtain ⟨s', hA⟩ : ∃ z, z = (T.setVm s.vm).setFrames (.invoking m args :: below) := ⟨_, rfl⟩
  rw [← hA] at Y
  have hvm : s'.vm = s.vm := by rw [hA]; rfl
  have hhp : s'.heap = H := by rw [hA]; exact hT
  have hW0 : s.WarmedH s'.vm := by rw [hvm]; exact State.WarmedH.refl s
  have hat' : ∀ w ∈ vx_atS own ic cls names, w.before args s' = true := fun w hw => vx_ot_at hW0 hvm.symm (hgood w (List.mem_cons_of_mem _ (List.mem_cons_of_mem _ hw))) (hat w hw)
  have hk' : (Cond.classLink own ik cls).before args s' = true := vx_ot_at hW0 hvm.symm (hgood _ List.mem_cons_self) hk
  have hini' : (Cond.initialized cls).before args s' = true := vx_ot_at hW0 hvm.symm (hgood _ (List.mem_cons_of_mem _ List.mem_cons_self)) hini
  have hU' : vx_Zq Bundle.tN "UNASSIGNED_STACK" Bundle.steD A s' s'.heap := by rw [hhp]; exact vx_Zq.moved hW0.alike (hU.kept hS.2.1)
  have hN' : vx_Zq Bundle.tN "SUPPRESSED_SENTINEL" Bundle.listD A s' s'.heap := by rw [hhp]; exact vx_Zq.moved hW0.alike (hN.kept hS.2.1)
  have h : ∀ w ∈ Bundle.ownAtoms own ic cls names, w.before args s' = true := vx_own hat' (vx_isRefq hU'.1) (vx_isRefq hN'.1) hU'.2.word hN'.2.word
  have hown' : s'.vm.findClass own = some m.cls := by rw [hvm]; exact hown
  have hins : (Cond.instantiable cls 6).before args s' = true := h _ (by simp [Bundle.ownAtoms])
  obtain ⟨vm₁, cX, kX, hfX, hkX, -, -, X₁, st1⟩ := Y.newCold hexec (own := own) (C := cls) (index := ik) (n := 6) hown' hk' hins hini'
    (g := F0 m pc ls rest) rfl (by rw [hb]; exact d0) (Nat.le_refl _) (Nat.le_refl _)
  generalize hT1 : (T.setVm vm₁).pushCell { cls := cX, slots := kX.instanceTypes.map defaultValue, vm := .none } = T1 at X₁ st1
  have hcat : (Value.ref T.heap.size).category = 1 := rfl
  have hcellA : T1.heap[T.heap.size]? = some (freshCell cX kX) := by rw [← hT1]; exact State.heap_pushCell_size _ _
  have d3' : decode c.code (pc + 3) = .ok (.dup, 1) := by rw [hb]; exact d3
  have d4' : decode c.code (pc + 4) = .ok (.ldc_w is, 3) := by rw [hb]; exact d4
  have hstr' : vk_R own is text sa s' := vk_R.warm hW0 hstr
  obtain ⟨U, hsteps, hrun, hend, hW, hsame, ce, hce, hO⟩ := X₁.ctorThrowS hexec htr (own := own) (cls := cls) (names := names) (ic := ic) hown' hcls hnames h (fun x hx => nomatch hx) hfX hkX hcellA (by rw [hhp, hT]; exact Nat.le_refl _) (msg := .ref sa) rfl
    (g := { method := m, pc := pc + 7, locals := ls, stack := .ref sa :: .ref T.heap.size :: .ref T.heap.size :: rest, locked := none }) rfl hsize rfl rfl (rest := rest) rfl
    (by rw [hb]; exact d7) (by rw [hb]; exact d10) hout hRframes (by simp only [List.map_cons, List.sum_cons, hcat]; omega) hlocks
  obtain ⟨f1, f2⟩ := vx_frame hsame
  rw [hhp] at f1 f2
  have hWs : s.WarmedH U.vm := State.WarmedH.trans hW0 hW
  have hcl : s.vm.findClass cls = some ce.cls := by
    have h9 := hO.cls
    rw [hvm] at h9
    exact h9
  have hall : s.sameButNew ({ U with vm := s.vm } : State) locs mc ms := by
    subst hA
    obtain ⟨e1, e2⟩ := hsame
    rw [State.setFrames_setFrames] at e1
    have h2 : (T.setVm s.vm).sameButNew ({ U with vm := s.vm } : State) [] (0 + 1) (0 + 6) := ⟨e1, e2⟩
    have h3 := X.same.trans h2
    rw [List.append_nil] at h3
    exact h3.mono hc hs
  refine ⟨U, ?_, .threw T.heap.size, hrun, hend, Or.inr ⟨T.heap.size, rfl, cls, ce, locs, hx U hWs.alike f1 (fun q hq => f2 q hq (fun z hz => nomatch hz)), hce, hO.vm, hcl, hWs, hall, hf⟩⟩
  refine st1 _ ?_
  show Steps p.tables e below (T1.setTop { method := m, pc := pc + 3, locals := ls, stack := .ref T.heap.size :: rest, locked := none }) _
  jvm_step X₁.here [X₁.here.top, hexec, d3', Value.category]
  exact X₁.ldcStringW hexec (own := own) (text := text) (index := is) (a := sa) hown' hstr'.1 hstr'.2
    (g := { method := m, pc := pc + 4, locals := ls, stack := .ref T.heap.size :: .ref T.heap.size :: rest, locked := none }) rfl d4' _ hsteps
end Ends
section Bodies
variable {l : Launch}
theorem vx_ofW {y : MethodName} {ws ws' : List Cond} {rm : Room} {Pc : Array Value → State → Prop} {Qc : Array Value → State → Outcome → State → Prop} {XC : String → State → State → Prop} {mc ms : Nat} {free : Addr → Prop} {cc : ByteArray} {maxL : Nat} {ret : Option FieldType}
    (hy : plainName y.cls = true) (hw : ws = Cond.code y cc maxL ret :: ws')
    (body : ∀ p e s m args below meth c s₁, BodyLoose p l y (headSpec ws rm) cc maxL ret e s m args below meth c s₁ → c.maxLocals = maxL → (∀ x ∈ c.exceptionTable.toList, False) → Pc args s →
      W p l e (headSpec ws rm).room s m args below meth c s.heap [] 0 0 (vx_MQ below Qc XC args s mc ms free) (entryFrame m args maxL)) : vx_Met l y ws rm Pc Qc XC mc ms free := by
  refine MetFree.of_bodyS (code := cc) (maxLocals := maxL) (ret := ret) hy ?_ ?_
  · intro args s m h hn
    obtain ⟨meth, c, h1, h2, h3, h4, h5, h6, -, -⟩ := Cond.code_spec hn (atoms_spec (ws := ws) h _ (by rw [hw]; exact List.mem_cons_self))
    exact ⟨meth, c, h1, h2, h3, h4, h5, h6⟩
  · intro p e s m args below meth c s₁ B hml hP _
    have hh0 : s₁.heap = s.heap := by rw [B.state]; rfl
    have ht : ∀ x ∈ c.exceptionTable.toList, False := by
      obtain ⟨meth9, c9, h1, h2, -, -, -, -, h7, -⟩ := Cond.code_spec B.named (atoms_spec (ws := ws) B.pre _ (by rw [hw]; exact List.mem_cons_self))
      cases Option.some.inj (h1.symm.trans B.method)
      cases Option.some.inj (h2.symm.trans (Stand.of_body B).code)
      intro x hx
      rw [Array.isEmpty_iff.mp h7] at hx
      cases hx
    obtain ⟨t, a1, o, b1, b2, b3⟩ := body p e s m args below meth c s₁ B hml ht hP s₁ hh0 (Stand.of_body B)
    exact ⟨t, o, a1, b1, b2, b3⟩
/-- the table of a body with handlers -/
theorem vx_table {p : Program} {x y : MethodName} {S : Spec} {cc bytes : ByteArray} {maxL maxL' : Nat} {ret ret' : Option FieldType} {e : Env} {s s₁ : State} {m : MethodId} {args : Array Value} {below : List Frame} {meth : Method} {c : Code} {hh : List (Nat × Nat × Nat × Nat)}
    (B : BodyLoose p l y S cc maxL ret e s m args below meth c s₁) (h : (Cond.codeWith y bytes maxL' ret' hh).before args s = true) : c.exceptionTable.toList = tableOf hh := by
  obtain ⟨m9, meth9, c9, hn9, h1, h2, -, -, h6, -⟩ := Cond.codeWith_spec h
  cases Option.some.inj (hn9.symm.trans B.named)
  cases Option.some.inj (h1.symm.trans B.method)
  cases Option.some.inj (h2.symm.trans (Stand.of_body B).code)
  rw [← h6, table_eq]
end Bodies
end VXA
/-! ===== END ===== -/
/-! ===== BEGIN a static call of a method with an exception table ===== -/
section VXS
variable {p : Program} {l : Launch} {e : Env} {R : Room} {s : State} {m : MethodId} {args : Array Value} {below : List Frame} {meth : Method} {c : Code} {T : State} {H : Heap} {locs : List Loc} {cells slots : Nat}
abbrev vx_CSW (R : Room) (s : State) (args : Array Value) (own : String) (index : Nat) (y : MethodName) (bytes : ByteArray) (maxL : Nat) (ret : Option FieldType) (hh : List (Nat × Nat × Nat × Nat)) (ws : List Cond) (rm : Room) (mc ms n : Nat) : Prop :=
  (rm.cells = mc ∧ rm.slots = ms ∧ rm.frames + 1 ≤ R.frames ∧ 8 + (maxL + 11) + rm.locals ≤ R.locals ∧ (∀ w ∈ ws, ∀ (a' : Array Value) (U : State), s.WarmedH U.vm → w.before a' U = true) ∧ Cond.codeWith y bytes maxL ret hh ∈ ws) ∧
  (Cond.codeWith y bytes maxL ret hh).before args s = true ∧ (Cond.initialized y.cls).before args s = true ∧ (y.cls ≠ "java/lang/invoke/MethodHandle" ∧ y.cls ≠ "java/lang/invoke/VarHandle") ∧
  (∀ sig, parseMethodDescriptor y.desc = some sig → n = sig.parameters.length) ∧ (Cond.methodLink own index y).before args s = true ∧ (Cond.static y).before args s = true
theorem vx_cwSW {own : String} {index maxL mc ms : Nat} {y : MethodName} {bytes : ByteArray} {ret : Option FieldType} {hh : List (Nat × Nat × Nat × Nat)} {Ts ws ws' : List Cond} {rm : Room} (n : Nat) (ht : ∀ w ∈ Ts, w.before args s = true) (hT : GoodIn Ts (va_wsS own index y ws)) (hw : ws = Cond.codeWith y bytes maxL ret hh :: ws') (hrc : rm.cells = mc) (hrs : rm.slots = ms)
    (hd : y.cls ≠ "java/lang/invoke/MethodHandle" ∧ y.cls ≠ "java/lang/invoke/VarHandle" ∧ (parseMethodDescriptor y.desc).map (fun d => d.parameters.length) = some n) (hR : rm.frames + 1 ≤ R.frames ∧ 8 + (maxL + 11) + rm.locals ≤ R.locals) :
    vx_CSW R s args own index y bytes maxL ret hh ws rm mc ms n := by
  have ok : ∀ w ∈ va_wsS own index y ws, w.before args s = true := fun w h => ht w (hT w h).1
  have hG : GoodIn Ts ws := fun w h => hT w (by unfold va_wsS; exact List.mem_append_right _ h)
  have hc : Cond.codeWith y bytes maxL ret hh ∈ ws := by rw [hw]; exact List.mem_cons_self
  refine ⟨⟨hrc, hrs, hR.1, hR.2, pay_in ht hG, hc⟩, ht _ (hG _ hc).1, ok _ (by simp [va_wsS]), ⟨hd.1, hd.2.1⟩, fun sig h => ?_, ok _ (by simp [va_wsS]), ok _ (by simp [va_wsS])⟩
  have h2 := hd.2.2
  rw [h] at h2
  exact (Option.some.inj h2).symm
theorem vx_callSW (X : Stand p l e R s m args below meth c T locs cells slots) (hexec : p.tables.exec = Jvm.exec) {own : String} {index : Nat} {y : MethodName} {bytes : ByteArray} {maxL : Nat} {ret : Option FieldType} {hh : List (Nat × Nat × Nat × Nat)}
    (hown : s.vm.findClass own = some m.cls) (hlink : (Cond.methodLink own index y).before args s = true) (hstat : (Cond.static y).before args s = true) (hinit : (Cond.initialized y.cls).before args s = true)
    (hcode : (Cond.codeWith y bytes maxL ret hh).before args s = true) (hy : y.cls ≠ "java/lang/invoke/MethodHandle" ∧ y.cls ≠ "java/lang/invoke/VarHandle")
    {W9 : Nat} {Pre : Pt → Array Value → Prop} {Post : Pt → Array Value → Option Value → Pt → Prop} (hK : Back l R p e below s args y 3 W9 Pre Post)
    {g : JFrame} (hg : g.method = m) (hsize : g.locals.size = c.maxLocals) {argsL rest : List Value} (hlen : ∀ sig, parseMethodDescriptor y.desc = some sig → argsL.length = sig.parameters.length)
    (hstack : g.stack = argsL.reverse ++ rest) (hW : 2 * g.monitorRoom + (rest.map fun v => v.category).sum ≤ W9) (hdg : decode c.code g.pc = .ok (.invokestatic index, 3))
    (hpre : ∀ vm₁, s.WarmedH vm₁ → Pre ⟨T.setVm vm₁, locs, cells, slots⟩ argsL.toArray) :
    ∃ (v : Option Value) (vm₁ : Vm) (B : Pt), s.WarmedH vm₁ ∧ Stand p l e R s m args below meth c B.U B.locs B.cells B.slots ∧ Post ⟨T.setVm vm₁, locs, cells, slots⟩ argsL.toArray v B ∧
      ∀ target, Steps p.tables e below (B.U.setTop { g with pc := g.pc + 3, stack := v.toList ++ rest }) target → Steps p.tables e below (T.setTop g) target := by
  obtain ⟨mk, methM, cM, hnamed, hmethM, -, -, -, -, -, -, hsigM⟩ := Cond.codeWith_spec hcode
  have hstatic : methM.isStatic = true := Cond.static_spec hnamed hmethM hstat
  obtain ⟨kP, hkP, -⟩ := className_of_methodNamed hnamed
  have hinitP : kP.init = .initialized := Cond.initialized_spec (findClass_of_methodNamed hnamed) hkP hinit
  obtain ⟨vm₁, X₁, hstep₁⟩ := X.invokestatic hexec hown hlink hnamed hmethM hstatic hkP hinitP hy (g := g) hg (argsL := argsL) (rest := rest) (hlen _ hsigM) hstack hdg
  obtain ⟨v, B, X', hpost, hsteps⟩ := hK m meth c ⟨T.setVm vm₁, locs, cells, slots⟩ { g with stack := rest } (.invokestatic index) mk argsL.toArray X₁ hg hsize hdg hW (X₁.named hnamed) (hpre vm₁ X₁.warmed)
  exact ⟨v, vm₁, B, X₁.warmed, X', hpost, fun target h => hstep₁ _ fun acts => by rw [doInvoke_state]; exact hsteps.trans h⟩
theorem vx_runSW {y : MethodName} {bytes cc : ByteArray} {maxL nL mc ms n index : Nat} {ret : Option FieldType} {hh : List (Nat × Nat × Nat × Nat)} {ws : List Cond} {rm : Room} {Pc : Array Value → State → Prop} {Qc : Array Value → State → Outcome → State → Prop} {free : Addr → Prop} {Ts : List Cond} {own : String} {As rest : List Value} {g : JFrame}
    (S : CallFix p m c cc nL s args Ts own) (hM : Met l y ws rm Pc Qc mc ms free) (cw : vx_CSW R s args own index y bytes maxL ret hh ws rm mc ms n) (hp : PreS s H Pc As)
    (hg : g.method = m) (hn : As.length = n) (hsize : g.locals.size = nL) (hstack : g.stack = As.reverse ++ rest) (hW : 2 * g.monitorRoom + (rest.map fun v => v.category).sum ≤ 8) (hdg : decode cc g.pc = .ok (.invokestatic index, 3)) (hf : cells + mc ≤ R.cells ∧ slots + ms ≤ R.slots) :
    va_Run p l e R s m args below meth c H locs cells slots mc ms g rest (Qc As.toArray) (free) := by
  obtain ⟨⟨hrc, hrs, hfr, hlo, hws, hcw⟩, hcode, hini, hy, hlen, hl, hstt⟩ := cw
  have hK : Back l R p e below s args y 3 8 (PreOf R mc ms Pc) (PostOf Qc mc ms free) := va_backW (hh := hh) (bytes := bytes) (maxL := maxL) (ret := ret) hM hp.1 hrc hrs hfr hlo hws hcw (fun a' U hW => word_at hW (Or.inl (by first | rfl | simp [Cond.onTables, Cond.keeps, Cond.steady])) hini)
  obtain ⟨hx, hb, hml, ho, -⟩ := S
  intro T hT X
  obtain ⟨v, vm₁, ⟨U', l2, c2, s2⟩, hW₁, X', ⟨g', mk, t, L, e1, e2, hq, h1, hL, h2, h3⟩, st⟩ := vx_callSW X hx (hh := hh) (bytes := bytes) (maxL := maxL) (ret := ret) ho hl hstt hini hcode hy hK hg (hsize.trans hml.symm) (argsL := As) (rest := rest) (fun sig h => hn.trans (hlen sig h)) hstack hW (by rw [hb]; exact hdg)
    (fun vm₁ hW₁ => ⟨hf.1, hf.2, hp.2 (T.setVm vm₁) hT hW₁⟩)
  dsimp only [Pt.U, Pt.locs, Pt.cells, Pt.slots] at X' e1 e2 h1 h2 h3 st
  subst h1; subst h2; subst h3
  exact ⟨v, (T.setVm vm₁).calling g' mk As.toArray, t, U', L, hT, X', hL, e1, e2, hq, st⟩
/-- not caught here, past rows that name other classes: it goes on to the caller -/
theorem vx_outP {p : Program} {l : Launch} {e : Env} {R : Room} {s : State} {m : MethodId} {args : Array Value} {below : List Frame} {meth : Method} {c : Code} {H : Heap} {locs : List Loc} {cells slots : Nat} {free : Addr → Prop} {ls : Array Slot} {rest : List Value} {Qc : Array Value → State → Outcome → State → Prop} {XC : String → State → State → Prop}
    {pc : Nat} {own E : String} {ce : Cell} {q : Addr} {mc ms : Nat} (hown : s.vm.findClass own = some m.cls) (hlocks : meth.locks = false)
    (hpass : ∀ z ∈ c.exceptionTable.toList, covers z pc = false ∨ (z.catchType ≠ 0 ∧ ∃ nm : String, (Cond.classLink own z.catchType nm).before args s = true ∧ va_Nc E nm s)) (hcell : H[q]? = some ce) (hv : ce.vm = .none) (hcl : s.vm.findClass E = some ce.cls)
    (hx : ∀ t : State, t.heap = H → s.vm.Alike t.vm → XC E s t) (hf : ∀ z ∈ locs, free z.base) (hc : cells ≤ mc) (hs : slots ≤ ms) :
    vx_W p l e R s m args below meth c H locs cells slots (vx_MQ below Qc XC args s mc ms free) (F0 m pc ls rest) q := by
  intro T hT X
  have hpl : e.platform.magicAccessors = ({} : Platform).magicAccessors := by rw [X.admits.platform]
  obtain ⟨vm', hW', X', st⟩ := X.outThrough hlocks q (g := F0 m pc ls rest) rfl rfl rfl (cell := ce) (by rw [hT]; exact hcell) (by rw [hv]; rfl)
    (by obtain ⟨k9, h9, -⟩ := Vm.findClass_spec hcl; exact ⟨k9, h9⟩) (fun z hz => by
      rcases hpass z hz with h | ⟨hz0, nm, hl1, hn1⟩
      · exact Or.inl h
      · obtain ⟨c6, hc6, hcl6⟩ := Cond.classLink_spec hown hl1 e.platform hpl
        obtain ⟨a8, b8, h1, h2, h3⟩ := hn1
        cases Option.some.inj (h1.symm.trans hcl)
        cases Option.some.inj (h2.symm.trans hc6)
        exact Or.inr ⟨hz0, _, hcl6, h3⟩)
  obtain ⟨g₀, hfr⟩ := X'.frames_eq
  have hcell9 : ((T.setVm vm').setFrames (.throwing q :: below)).heap[q]? = some ce := by
    show T.heap[q]? = some ce
    rw [hT]; exact hcell
  have hend : Ended ((T.setVm vm').setFrames (.throwing q :: below)) below (.threw q) := State.frames_setFrames _ (State.cur_lt_of_frames hfr)
  refine ⟨(T.setVm vm').setFrames (.throwing q :: below), ?_, .threw q, X'.here.running, hend, Or.inr ⟨q, rfl, E, ce, locs, hx _ hT (X'.ends _).1.alike, hcell9, hv, hcl, (X'.ends _).1, (X'.ends _).2.mono hc hs, hf⟩⟩
  rw [X.pushThrowing_eq]
  exact st
/-- a thing of a world lies in the heap -/
theorem vx_lt {D : va_G} {cl : List vw_C} {ws : va_W} {H1 : Heap} (h : va_P D cl ws H1) {k : Nat} {q : Nat × va_E} (hk : ws[k]? = some q) : q.1 < H1.size := (h k q hk).lt
end VXS
/-! ===== END ===== -/
/-! ===== BEGIN methods with a table of their own: called by a name, returning or throwing ===== -/
section VXH
/-! vx_backW, vx_callVX, vx_callSX, vx_callVW, vx_runVW, vx_runVX, vx_runSX, vx_ofWH follow the same proofs as their sisters above (Free/Laws.lean, Shelf42/LK1.lean); vx_outP calls Shelf42/NT130.lean (outThrough). -/
section
variable {l : Launch} {R : Room} {p : Program} {e : Env} {below : List Frame} {s : State} {sargs : Array Value} {y : MethodName} {len W9 : Nat}
theorem vx_backW {ws : List Cond} {rm : Room} {Pc : Array Value → State → Prop} {Qc : Array Value → State → Outcome → State → Prop} {XC : String → State → State → Prop} {mc ms : Nat} {free : Addr → Prop} {bytes : ByteArray} {maxL : Nat} {ret : Option FieldType} {hh : List (Nat × Nat × Nat × Nat)}
    (hM : vx_Met l y ws rm Pc Qc XC mc ms free) (hblind : FrameBlind Pc) (hrc : rm.cells = mc) (hrs : rm.slots = ms)
    (hframes : rm.frames + 1 ≤ R.frames) (hlocals : W9 + (maxL + 11) + rm.locals ≤ R.locals)
    (hws : ∀ w ∈ ws, ∀ a' U, s.WarmedH U.vm → w.before a' U = true) (hcode : Cond.codeWith y bytes maxL ret hh ∈ ws) (hinit : ∀ a' U, s.WarmedH U.vm → (Cond.initialized y.cls).before a' U = true) :
    vx_Back l R p e below s sargs y len W9 (PreOf R mc ms Pc) (PostOf Qc mc ms free) (vx_Post XC mc ms free) := by
  intro m meth c A g ig mk a X hg hsize hdg hW hn hp
  have h1 : (headSpec ws rm).pre.before a A.U = true := atoms_intro fun w hw => hws w hw _ _ X.warmed
  have h2 : (Cond.codeWith y bytes maxL ret hh).before a A.U = true := hws _ hcode _ _ X.warmed
  have h3 : (Cond.initialized y.cls).before a A.U = true := hinit _ _ X.warmed
  have h4 : A.cells + (headSpec ws rm).room.cells ≤ R.cells := by rw [show (headSpec ws rm).room.cells = mc from hrc]; exact hp.1
  have h5 : A.slots + (headSpec ws rm).room.slots ≤ R.slots := by rw [show (headSpec ws rm).room.slots = ms from hrs]; exact hp.2.1
  have hPc : Pc a (A.U.calling g mk a) := hblind _ _ _ _ hp.2.2
  obtain ⟨U, Ls, c0, s0⟩ := A
  dsimp only [Pt.U, Pt.locs, Pt.cells, Pt.slots] at h1 h2 h3 h4 h5 X hn hPc ⊢
  obtain ⟨m9, methY, cY, hn9, hmY, hcY, -, hlY, -⟩ := Cond.codeWith_spec h2
  cases Option.some.inj (hn9.symm.trans hn)
  obtain ⟨kY, hkY, -⟩ := className_of_methodNamed hn
  have hinitY : kY.init = .initialized := Cond.initialized_spec (findClass_of_methodNamed hn) hkY h3
  have h : At U g.method c below := by rw [hg]; exact X.here
  have hlocals9 : W9 + (maxL + 11) + (headSpec ws rm).room.locals ≤ R.locals := hlocals
  have happ : (headSpec ws rm).appliesLoose y e.platform (U.calling g mk a) = true :=
    Spec.appliesLoose_calling (g := g) h hdg hn hkY hinitY
      (X.room_calling (g := g) (R' := (headSpec ws rm).room) hsize hmY hcY hframes (by rw [hlY]; omega) h4 h5) h1
  obtain ⟨mid, hmid⟩ := h.above
  have hfr : (U.setTop g).frames = (.java g :: mid) ++ below := by rw [State.frames_setTop' g h.top, hmid]; rfl
  obtain ⟨o, s₂, hsteps, -, hend, hq⟩ := Steps.callFree hM p X.admits X.cas X.clock (acts := []) hfr happ hPc trivial
  have hq' : vx_Q Qc XC mc ms free a (U.calling g mk a) o s₂ := hq
  rw [State.frames_setTop' g h.top] at hend
  obtain ⟨g₀, hg0⟩ := Option.isSome_iff_exists.mp h.top
  obtain ⟨r, hr⟩ := State.topJava?_eq_some.mp hg0
  have hr' : (({ U with heap := s₂.heap, slotsUsed := s₂.slotsUsed } : State).setVm s₂.vm).frames = .java g₀ :: r := hr
  rcases hq' with ⟨hqc, L, hfe, hL⟩ | ⟨q, rfl, E, ce, L, hx, hce, hcv, hcl, hW₂, hsm, hL⟩
  · obtain ⟨⟨v, rfl⟩, hW₂, e2, q2, q3, q4, q5, q6⟩ := id hfe
    have e3 : s₂ = ({ (U.calling g mk a).setFrames s₂.frames with heap := s₂.heap, slotsUsed := s₂.slotsUsed } : State).setVm s₂.vm := by
      have : s₂ = ({ s₂ with vm := (U.calling g mk a).vm } : State).setVm s₂.vm := rfl
      rw [e2] at this
      exact this
    obtain ⟨c₂, i₂, len₂, hc₂, hd₂, hf₂⟩ := hend
    have hW' : U.WarmedH s₂.vm := hW₂
    have hcc : c₂ = c := by
      have h1 : s₂.code? g.method = U.code? g.method := by
        rw [State.code?_eq, State.code?_eq, hW'.alike.method?]
      exact Option.some.inj (hc₂.symm.trans (h1.trans h.code))
    subst hcc
    have hlen : len₂ = len := by rw [hdg] at hd₂; cases hd₂; rfl
    subst hlen
    have hs₂ : s₂ = (({ U with heap := s₂.heap, slotsUsed := s₂.slotsUsed } : State).setVm s₂.vm).setTop { g with pc := g.pc + len₂, stack := v.toList ++ g.stack } := by
      refine e3.trans ?_
      rw [hf₂, State.calling_eq h.top, State.setFrames_setFrames, State.setTop_of_frames _ hr', hr]
      rfl
    have hsame : U.sameButNew ({ U with heap := s₂.heap, slotsUsed := s₂.slotsUsed } : State) L mc ms := by
      refine ⟨?_, q2, q3, q4, q5, q6⟩
      obtain ⟨t, ht, -⟩ := State.frames_cons hr
      show ({ U with heap := s₂.heap, slotsUsed := s₂.slotsUsed } : State) = { U.setFrames U.frames with heap := s₂.heap, slotsUsed := s₂.slotsUsed }
      rw [State.setFrames_self ht]
    subst hg
    refine Or.inl ⟨v, ⟨(({ U with heap := s₂.heap, slotsUsed := s₂.slotsUsed } : State).setVm s₂.vm), Ls ++ L, c0 + mc, s0 + ms⟩,
      ⟨X.admits, X.cas, X.clock, X.frames, X.room, X.hears, X.method, X.code, (X.here.setHeapUsed s₂.heap s₂.slotsUsed).setVm hW'.alike, X.tail, State.WarmedH.trans X.warmed hW', X.limits, X.bytes, X.same.trans (hsame.setVm s.vm)⟩,
      ⟨g, mk, s₂, L, rfl, rfl, hqc, rfl, hL, rfl, rfl⟩, ?_⟩
    show Steps p.tables e below _ ((({ U with heap := s₂.heap, slotsUsed := s₂.slotsUsed } : State).setVm s₂.vm).setTop { g with pc := g.pc + len₂, stack := v.toList ++ g.stack })
    rw [← hs₂]
    exact hsteps
  · obtain ⟨e2, q2, q3, q4, q5, q6⟩ := id hsm
    have e3 : s₂ = ({ (U.calling g mk a).setFrames s₂.frames with heap := s₂.heap, slotsUsed := s₂.slotsUsed } : State).setVm s₂.vm := by
      have : s₂ = ({ s₂ with vm := (U.calling g mk a).vm } : State).setVm s₂.vm := rfl
      rw [e2] at this
      exact this
    have hf₂ : s₂.frames = .throwing q :: .java g :: U.frames.tail := hend
    have hW' : U.WarmedH s₂.vm := hW₂
    have hs₂ : s₂ = ((({ U with heap := s₂.heap, slotsUsed := s₂.slotsUsed } : State).setVm s₂.vm).setTop g).pushFrame (.throwing q) := by
      refine e3.trans ?_
      rw [hf₂, State.calling_eq h.top, State.setFrames_setFrames, State.pushFrame, State.frames_setTop _ hr', State.setTop_of_frames _ hr', State.setFrames_setFrames, hr]
      rfl
    have hsame : U.sameButNew ({ U with heap := s₂.heap, slotsUsed := s₂.slotsUsed } : State) L mc ms := by
      refine ⟨?_, q2, q3, q4, q5, q6⟩
      obtain ⟨t, ht, -⟩ := State.frames_cons hr
      show ({ U with heap := s₂.heap, slotsUsed := s₂.slotsUsed } : State) = { U.setFrames U.frames with heap := s₂.heap, slotsUsed := s₂.slotsUsed }
      rw [State.setFrames_self ht]
    subst hg
    refine Or.inr ⟨q, ⟨(({ U with heap := s₂.heap, slotsUsed := s₂.slotsUsed } : State).setVm s₂.vm), Ls ++ L, c0 + mc, s0 + ms⟩,
      ⟨X.admits, X.cas, X.clock, X.frames, X.room, X.hears, X.method, X.code, (X.here.setHeapUsed s₂.heap s₂.slotsUsed).setVm hW'.alike, X.tail, State.WarmedH.trans X.warmed hW', X.limits, X.bytes, X.same.trans (hsame.setVm s.vm)⟩,
      ⟨g, mk, s₂, L, E, ce, rfl, rfl, hx, hce, hcv, hcl, rfl, hL, rfl, rfl⟩, ?_⟩
    show Steps p.tables e below _ (((({ U with heap := s₂.heap, slotsUsed := s₂.slotsUsed } : State).setVm s₂.vm).setTop g).pushFrame (.throwing q))
    rw [← hs₂]
    exact hsteps
end
variable {p : Program} {l : Launch} {e : Env} {R : Room} {s : State} {m : MethodId} {args : Array Value} {below : List Frame} {meth : Method} {c : Code} {T : State} {H : Heap} {locs : List Loc} {cells slots : Nat}
theorem vx_callVX (X : Stand p l e R s m args below meth c T locs cells slots) (hexec : p.tables.exec = Jvm.exec) {own C : String} {index : Nat} {y : MethodName} {bytes : ByteArray} {maxL : Nat} {ret : Option FieldType} {hh : List (Nat × Nat × Nat × Nat)}
    (hown : s.vm.findClass own = some m.cls) (hlink : (Cond.methodLink own index y).before args s = true) (hinst : (Cond.instanceMethod y).before args s = true) (hsel : (Cond.selects C y y).before args s = true)
    (hcode : (Cond.codeWith y bytes maxL ret hh).before args s = true) (hy : y.cls ≠ "java/lang/invoke/MethodHandle" ∧ y.cls ≠ "java/lang/invoke/VarHandle")
    {W9 : Nat} {Pre : Pt → Array Value → Prop} {Post : Pt → Array Value → Option Value → Pt → Prop} {PostX : Pt → Array Value → Addr → Pt → Prop} (hK : vx_Back l R p e below s args y 3 W9 Pre Post PostX)
    {b : Addr} {cellB : Cell} (hcell : T.heap[b]? = some cellB) (hobj : cellB.vm.isStatics = false) (hcls : s.vm.findClass C = some cellB.cls)
    {g : JFrame} (hg : g.method = m) (hsize : g.locals.size = c.maxLocals) {argsL rest : List Value} (hlen : ∀ sig, parseMethodDescriptor y.desc = some sig → argsL.length = sig.parameters.length)
    (hstack : g.stack = argsL.reverse ++ .ref b :: rest) (hW : 2 * g.monitorRoom + (rest.map fun v => v.category).sum ≤ W9) (hdg : decode c.code g.pc = .ok (.invokevirtual index, 3))
    (hpre : ∀ vm₁, s.WarmedH vm₁ → Pre ⟨T.setVm vm₁, locs, cells, slots⟩ (Value.ref b :: argsL).toArray) :
    (∃ (v : Option Value) (vm₁ : Vm) (B : Pt), s.WarmedH vm₁ ∧ Stand p l e R s m args below meth c B.U B.locs B.cells B.slots ∧ Post ⟨T.setVm vm₁, locs, cells, slots⟩ (Value.ref b :: argsL).toArray v B ∧
      ∀ target, Steps p.tables e below (B.U.setTop { g with pc := g.pc + 3, stack := v.toList ++ rest }) target → Steps p.tables e below (T.setTop g) target) ∨
    (∃ (q : Addr) (vm₁ : Vm) (B : Pt), s.WarmedH vm₁ ∧ Stand p l e R s m args below meth c B.U B.locs B.cells B.slots ∧ PostX ⟨T.setVm vm₁, locs, cells, slots⟩ (Value.ref b :: argsL).toArray q B ∧
      Steps p.tables e below (T.setTop g) ((B.U.setTop { g with stack := rest }).pushFrame (.throwing q))) := by
  obtain ⟨mk, methM, hnamed, hmethM, hstM, habM⟩ := Cond.instanceMethod_spec hinst
  obtain ⟨m8, methM', cM, hn8, hmethM', -, -, -, -, -, -, hsigM⟩ := Cond.codeWith_spec hcode
  cases Option.some.inj (hn8.symm.trans hnamed)
  cases hmethM.symm.trans hmethM'
  obtain ⟨c2, r2, m2, q1, q2, q3, q4, kP, hkP, hkPi⟩ := Cond.selects_spec hsel
  cases hcls.symm.trans q1
  cases (State.methodFound?_of_named hnamed hy).symm.trans q2
  cases hnamed.symm.trans q3
  have hselP : selectMethod e.platform s.vm cellB.cls mk = .method mk := by rw [Launch.admits_selectMethod X.admits]; exact q4
  obtain ⟨vm₁, X₁, hstep₁⟩ := X.invokevirtual hexec hown hlink hnamed hmethM hstM hkP hkPi hy (a := b) (cell := cellB) hcell
    (fun z h => by rw [h] at hobj; cases hobj) hselP hmethM habM hkP hkPi (g := g) hg (argsL := argsL) (rest := rest) (hlen _ hsigM) hstack hdg
  rcases hK m meth c ⟨T.setVm vm₁, locs, cells, slots⟩ { g with stack := rest } (.invokevirtual index) mk (Value.ref b :: argsL).toArray X₁ hg hsize hdg hW (X₁.named hnamed) (hpre vm₁ X₁.warmed) with ⟨v, B, X', hpost, hsteps⟩ | ⟨q, B, X', hpost, hsteps⟩
  · exact Or.inl ⟨v, vm₁, B, X₁.warmed, X', hpost, fun target h => hstep₁ _ fun acts => by rw [doInvoke_state]; exact hsteps.trans h⟩
  · exact Or.inr ⟨q, vm₁, B, X₁.warmed, X', hpost, hstep₁ _ fun acts => by rw [doInvoke_state]; exact hsteps⟩
theorem vx_callSX (X : Stand p l e R s m args below meth c T locs cells slots) (hexec : p.tables.exec = Jvm.exec) {own : String} {index : Nat} {y : MethodName} {bytes : ByteArray} {maxL : Nat} {ret : Option FieldType} {hh : List (Nat × Nat × Nat × Nat)}
    (hown : s.vm.findClass own = some m.cls) (hlink : (Cond.methodLink own index y).before args s = true) (hstat : (Cond.static y).before args s = true) (hinit : (Cond.initialized y.cls).before args s = true)
    (hcode : (Cond.codeWith y bytes maxL ret hh).before args s = true) (hy : y.cls ≠ "java/lang/invoke/MethodHandle" ∧ y.cls ≠ "java/lang/invoke/VarHandle")
    {W9 : Nat} {Pre : Pt → Array Value → Prop} {Post : Pt → Array Value → Option Value → Pt → Prop} {PostX : Pt → Array Value → Addr → Pt → Prop} (hK : vx_Back l R p e below s args y 3 W9 Pre Post PostX)
    {g : JFrame} (hg : g.method = m) (hsize : g.locals.size = c.maxLocals) {argsL rest : List Value} (hlen : ∀ sig, parseMethodDescriptor y.desc = some sig → argsL.length = sig.parameters.length)
    (hstack : g.stack = argsL.reverse ++ rest) (hW : 2 * g.monitorRoom + (rest.map fun v => v.category).sum ≤ W9) (hdg : decode c.code g.pc = .ok (.invokestatic index, 3))
    (hpre : ∀ vm₁, s.WarmedH vm₁ → Pre ⟨T.setVm vm₁, locs, cells, slots⟩ argsL.toArray) :
    (∃ (v : Option Value) (vm₁ : Vm) (B : Pt), s.WarmedH vm₁ ∧ Stand p l e R s m args below meth c B.U B.locs B.cells B.slots ∧ Post ⟨T.setVm vm₁, locs, cells, slots⟩ argsL.toArray v B ∧
      ∀ target, Steps p.tables e below (B.U.setTop { g with pc := g.pc + 3, stack := v.toList ++ rest }) target → Steps p.tables e below (T.setTop g) target) ∨
    (∃ (q : Addr) (vm₁ : Vm) (B : Pt), s.WarmedH vm₁ ∧ Stand p l e R s m args below meth c B.U B.locs B.cells B.slots ∧ PostX ⟨T.setVm vm₁, locs, cells, slots⟩ argsL.toArray q B ∧
      Steps p.tables e below (T.setTop g) ((B.U.setTop { g with stack := rest }).pushFrame (.throwing q))) := by
  obtain ⟨mk, methM, cM, hnamed, hmethM, -, -, -, -, -, -, hsigM⟩ := Cond.codeWith_spec hcode
  have hstatic : methM.isStatic = true := Cond.static_spec hnamed hmethM hstat
  obtain ⟨kP, hkP, -⟩ := className_of_methodNamed hnamed
  have hinitP : kP.init = .initialized := Cond.initialized_spec (findClass_of_methodNamed hnamed) hkP hinit
  obtain ⟨vm₁, X₁, hstep₁⟩ := X.invokestatic hexec hown hlink hnamed hmethM hstatic hkP hinitP hy (g := g) hg (argsL := argsL) (rest := rest) (hlen _ hsigM) hstack hdg
  rcases hK m meth c ⟨T.setVm vm₁, locs, cells, slots⟩ { g with stack := rest } (.invokestatic index) mk argsL.toArray X₁ hg hsize hdg hW (X₁.named hnamed) (hpre vm₁ X₁.warmed) with ⟨v, B, X', hpost, hsteps⟩ | ⟨q, B, X', hpost, hsteps⟩
  · exact Or.inl ⟨v, vm₁, B, X₁.warmed, X', hpost, fun target h => hstep₁ _ fun acts => by rw [doInvoke_state]; exact hsteps.trans h⟩
  · exact Or.inr ⟨q, vm₁, B, X₁.warmed, X', hpost, hstep₁ _ fun acts => by rw [doInvoke_state]; exact hsteps⟩
theorem vx_callVW (X : Stand p l e R s m args below meth c T locs cells slots) (hexec : p.tables.exec = Jvm.exec) {own C : String} {index : Nat} {y : MethodName} {bytes : ByteArray} {maxL : Nat} {ret : Option FieldType} {hh : List (Nat × Nat × Nat × Nat)}
    (hown : s.vm.findClass own = some m.cls) (hlink : (Cond.methodLink own index y).before args s = true) (hinst : (Cond.instanceMethod y).before args s = true) (hsel : (Cond.selects C y y).before args s = true)
    (hcode : (Cond.codeWith y bytes maxL ret hh).before args s = true) (hy : y.cls ≠ "java/lang/invoke/MethodHandle" ∧ y.cls ≠ "java/lang/invoke/VarHandle")
    {W9 : Nat} {Pre : Pt → Array Value → Prop} {Post : Pt → Array Value → Option Value → Pt → Prop} (hK : Back l R p e below s args y 3 W9 Pre Post)
    {b : Addr} {cellB : Cell} (hcell : T.heap[b]? = some cellB) (hobj : cellB.vm.isStatics = false) (hcls : s.vm.findClass C = some cellB.cls)
    {g : JFrame} (hg : g.method = m) (hsize : g.locals.size = c.maxLocals) {argsL rest : List Value} (hlen : ∀ sig, parseMethodDescriptor y.desc = some sig → argsL.length = sig.parameters.length)
    (hstack : g.stack = argsL.reverse ++ .ref b :: rest) (hW : 2 * g.monitorRoom + (rest.map fun v => v.category).sum ≤ W9) (hdg : decode c.code g.pc = .ok (.invokevirtual index, 3))
    (hpre : ∀ vm₁, s.WarmedH vm₁ → Pre ⟨T.setVm vm₁, locs, cells, slots⟩ (Value.ref b :: argsL).toArray) :
    ∃ (v : Option Value) (vm₁ : Vm) (B : Pt), s.WarmedH vm₁ ∧ Stand p l e R s m args below meth c B.U B.locs B.cells B.slots ∧ Post ⟨T.setVm vm₁, locs, cells, slots⟩ (Value.ref b :: argsL).toArray v B ∧
      ∀ target, Steps p.tables e below (B.U.setTop { g with pc := g.pc + 3, stack := v.toList ++ rest }) target → Steps p.tables e below (T.setTop g) target := by
  obtain ⟨mk, methM, hnamed, hmethM, hstM, habM⟩ := Cond.instanceMethod_spec hinst
  obtain ⟨m8, methM', cM, hn8, hmethM', -, -, -, -, -, -, hsigM⟩ := Cond.codeWith_spec hcode
  cases Option.some.inj (hn8.symm.trans hnamed)
  cases hmethM.symm.trans hmethM'
  obtain ⟨c2, r2, m2, q1, q2, q3, q4, kP, hkP, hkPi⟩ := Cond.selects_spec hsel
  cases hcls.symm.trans q1
  cases (State.methodFound?_of_named hnamed hy).symm.trans q2
  cases hnamed.symm.trans q3
  have hselP : selectMethod e.platform s.vm cellB.cls mk = .method mk := by rw [Launch.admits_selectMethod X.admits]; exact q4
  obtain ⟨vm₁, X₁, hstep₁⟩ := X.invokevirtual hexec hown hlink hnamed hmethM hstM hkP hkPi hy (a := b) (cell := cellB) hcell
    (fun z h => by rw [h] at hobj; cases hobj) hselP hmethM habM hkP hkPi (g := g) hg (argsL := argsL) (rest := rest) (hlen _ hsigM) hstack hdg
  obtain ⟨v, B, X', hpost, hsteps⟩ := hK m meth c ⟨T.setVm vm₁, locs, cells, slots⟩ { g with stack := rest } (.invokevirtual index) mk (Value.ref b :: argsL).toArray X₁ hg hsize hdg hW (X₁.named hnamed) (hpre vm₁ X₁.warmed)
  exact ⟨v, vm₁, B, X₁.warmed, X', hpost, fun target h => hstep₁ _ fun acts => by rw [doInvoke_state]; exact hsteps.trans h⟩
abbrev vx_CVW (R : Room) (s : State) (args : Array Value) (own C : String) (index : Nat) (y : MethodName) (bytes : ByteArray) (maxL : Nat) (ret : Option FieldType) (hh : List (Nat × Nat × Nat × Nat)) (ws : List Cond) (rm : Room) (mc ms n : Nat) : Prop :=
  (rm.cells = mc ∧ rm.slots = ms ∧ rm.frames + 1 ≤ R.frames ∧ 8 + (maxL + 11) + rm.locals ≤ R.locals ∧ (∀ w ∈ ws, ∀ (a' : Array Value) (U : State), s.WarmedH U.vm → w.before a' U = true) ∧ Cond.codeWith y bytes maxL ret hh ∈ ws) ∧
  (Cond.codeWith y bytes maxL ret hh).before args s = true ∧ (Cond.initialized y.cls).before args s = true ∧ (y.cls ≠ "java/lang/invoke/MethodHandle" ∧ y.cls ≠ "java/lang/invoke/VarHandle") ∧
  (∀ sig, parseMethodDescriptor y.desc = some sig → n = sig.parameters.length) ∧ (Cond.methodLink own index y).before args s = true ∧ (Cond.instanceMethod y).before args s = true ∧ (Cond.selects C y y).before args s = true
theorem vx_cwVW {own C : String} {index maxL mc ms : Nat} {y : MethodName} {bytes : ByteArray} {ret : Option FieldType} {hh : List (Nat × Nat × Nat × Nat)} {Ts ws ws' : List Cond} {rm : Room} (n : Nat) (ht : ∀ w ∈ Ts, w.before args s = true) (hT : GoodIn Ts (wsV own index C y ws)) (hw : ws = Cond.codeWith y bytes maxL ret hh :: ws') (hrc : rm.cells = mc) (hrs : rm.slots = ms)
    (hd : y.cls = C ∧ y.cls ≠ "java/lang/invoke/MethodHandle" ∧ y.cls ≠ "java/lang/invoke/VarHandle" ∧ (parseMethodDescriptor y.desc).map (fun d => d.parameters.length) = some n) (hR : rm.frames + 1 ≤ R.frames ∧ 8 + (maxL + 11) + rm.locals ≤ R.locals) :
    vx_CVW R s args own C index y bytes maxL ret hh ws rm mc ms n := by
  obtain ⟨hC, hd⟩ := hd
  subst hC
  have ok : ∀ w ∈ wsV own index y.cls y ws, w.before args s = true := fun w h => ht w (hT w h).1
  have hG : GoodIn Ts ws := fun w h => hT w (by unfold wsV; exact List.mem_append_right _ h)
  have hc : Cond.codeWith y bytes maxL ret hh ∈ ws := by rw [hw]; exact List.mem_cons_self
  refine ⟨⟨hrc, hrs, hR.1, hR.2, pay_in ht hG, hc⟩, ht _ (hG _ hc).1, ok _ (by simp [wsV]), ⟨hd.1, hd.2.1⟩, fun sig h => ?_, ok _ (by simp [wsV]), ok _ (by simp [wsV]), ok _ (by simp [wsV])⟩
  have h2 := hd.2.2
  rw [h] at h2
  exact (Option.some.inj h2).symm
theorem vx_runVW {y : MethodName} {bytes cc : ByteArray} {maxL nL mc ms n index : Nat} {ret : Option FieldType} {hh : List (Nat × Nat × Nat × Nat)} {ws : List Cond} {rm : Room} {Pc : Array Value → State → Prop} {Qc : Array Value → State → Outcome → State → Prop} {free : Addr → Prop} {Ts : List Cond} {own C : String} {b : Addr} {As rest : List Value} {g : JFrame}
    (S : CallFix p m c cc nL s args Ts own) (hM : Met l y ws rm Pc Qc mc ms free) (cw : vx_CVW R s args own C index y bytes maxL ret hh ws rm mc ms n) (hp : PreV s H C b Pc As)
    (hg : g.method = m) (hn : As.length = n) (hsize : g.locals.size = nL) (hstack : g.stack = As.reverse ++ .ref b :: rest) (hW : 2 * g.monitorRoom + (rest.map fun v => v.category).sum ≤ 8) (hdg : decode cc g.pc = .ok (.invokevirtual index, 3)) (hf : cells + mc ≤ R.cells ∧ slots + ms ≤ R.slots) :
    va_Run p l e R s m args below meth c H locs cells slots mc ms g rest (Qc (Value.ref b :: As).toArray) free := by
  obtain ⟨⟨hrc, hrs, hfr, hlo, hws, hcw⟩, hcode, hini, hy, hlen, hl, hin, hse⟩ := cw
  have hK : Back l R p e below s args y 3 8 (PreOf R mc ms Pc) (PostOf Qc mc ms free) := va_backW (hh := hh) (bytes := bytes) (maxL := maxL) (ret := ret) hM hp.1 hrc hrs hfr hlo hws hcw (fun a' U hW => word_at hW (Or.inl (by first | rfl | simp [Cond.onTables, Cond.keeps, Cond.steady])) hini)
  obtain ⟨hx, hb, hml, ho, -⟩ := S
  obtain ⟨-, ⟨cellB, hcB, hoB, hclB⟩, hPc⟩ := hp
  intro T hT X
  obtain ⟨v, vm₁, ⟨U', l2, c2, s2⟩, hW₁, X', ⟨g', mk, t, L, e1, e2, hq, h1, hL, h2, h3⟩, st⟩ := vx_callVW X hx (C := C) (hh := hh) (bytes := bytes) (maxL := maxL) (ret := ret) ho hl hin hse hcode hy hK (by rw [hT]; exact hcB) hoB hclB hg (hsize.trans hml.symm) (argsL := As) (rest := rest) (fun sig h => hn.trans (hlen sig h)) hstack hW (by rw [hb]; exact hdg)
    (fun vm₁ hW₁ => ⟨hf.1, hf.2, hPc (T.setVm vm₁) hT hW₁⟩)
  dsimp only [Pt.U, Pt.locs, Pt.cells, Pt.slots] at X' e1 e2 h1 h2 h3 st
  subst h1; subst h2; subst h3
  exact ⟨v, (T.setVm vm₁).calling g' mk (Value.ref b :: As).toArray, t, U', L, hT, X', hL, e1, e2, hq, st⟩
section
variable {y : MethodName} {bytes cc : ByteArray} {maxL nL mc ms n index : Nat} {ret : Option FieldType} {ws : List Cond} {rm : Room} {Pc : Array Value → State → Prop} {Qc : Array Value → State → Outcome → State → Prop} {XC : String → State → State → Prop} {free : Addr → Prop} {Ts : List Cond} {own C : String} {b : Addr} {As rest : List Value} {g : JFrame}
theorem vx_runVX {hh : List (Nat × Nat × Nat × Nat)} (S : CallFix p m c cc nL s args Ts own) (hM : vx_Met l y ws rm Pc Qc XC mc ms free) (cw : vx_CVW R s args own C index y bytes maxL ret hh ws rm mc ms n) (hp : PreV s H C b Pc As)
    (hg : g.method = m) (hn : As.length = n) (hsize : g.locals.size = nL) (hstack : g.stack = As.reverse ++ .ref b :: rest) (hW : 2 * g.monitorRoom + (rest.map fun v => v.category).sum ≤ 8) (hdg : decode cc g.pc = .ok (.invokevirtual index, 3)) (hf : cells + mc ≤ R.cells ∧ slots + ms ≤ R.slots) :
    vx_Run p l e R s m args below meth c H locs cells slots mc ms g rest (Qc (Value.ref b :: As).toArray) XC free := by
  obtain ⟨⟨hrc, hrs, hfr, hlo, hws, hcw⟩, hcode, hini, hy, hlen, hl, hin, hse⟩ := cw
  have hK : vx_Back l R p e below s args y 3 8 (PreOf R mc ms Pc) (PostOf Qc mc ms free) (vx_Post XC mc ms free) := vx_backW (hh := hh) (bytes := bytes) (maxL := maxL) (ret := ret) hM hp.1 hrc hrs hfr hlo hws hcw (fun a' U hW => word_at hW (Or.inl (by first | rfl | simp [Cond.onTables, Cond.keeps, Cond.steady])) hini)
  obtain ⟨hx, hb, hml, ho, -⟩ := S
  obtain ⟨-, ⟨cellB, hcB, hoB, hclB⟩, hPc⟩ := hp
  intro T hT X
  rcases vx_callVX X hx (C := C) (hh := hh) (bytes := bytes) (maxL := maxL) (ret := ret) ho hl hin hse hcode hy hK (by rw [hT]; exact hcB) hoB hclB hg (hsize.trans hml.symm) (argsL := As) (rest := rest) (fun sig h => hn.trans (hlen sig h)) hstack hW (by rw [hb]; exact hdg)
    (fun vm₁ hW₁ => ⟨hf.1, hf.2, hPc (T.setVm vm₁) hT hW₁⟩) with ⟨v, vm₁, ⟨U', l2, c2, s2⟩, hW₁, X', ⟨g', mk, t, L, e1, e2, hq, h1, hL, h2, h3⟩, st⟩ | ⟨q, vm₁, ⟨U', l2, c2, s2⟩, hW₁, X', ⟨g', mk, t, L, E, ce, e1, e2, hq, hce, hcv, hcl, h1, hL, h2, h3⟩, st⟩
  · dsimp only [Pt.U, Pt.locs, Pt.cells, Pt.slots] at X' e1 e2 h1 h2 h3 st
    subst h1; subst h2; subst h3
    exact Or.inl ⟨v, (T.setVm vm₁).calling g' mk (Value.ref b :: As).toArray, t, U', L, hT, X', hL, e1, e2, hq, st⟩
  · dsimp only [Pt.U, Pt.locs, Pt.cells, Pt.slots] at X' e1 e2 h1 h2 h3 st hcl
    subst h1; subst h2; subst h3
    exact Or.inr ⟨q, (T.setVm vm₁).calling g' mk (Value.ref b :: As).toArray, t, U', L, E, ce, hT, X', hL, e1, e2, hq, hce, hcv, vx_cls hW₁ hcl, st⟩
theorem vx_runSX {hh : List (Nat × Nat × Nat × Nat)} (S : CallFix p m c cc nL s args Ts own) (hM : vx_Met l y ws rm Pc Qc XC mc ms free) (cw : vx_CSW R s args own index y bytes maxL ret hh ws rm mc ms n) (hp : PreS s H Pc As)
    (hg : g.method = m) (hn : As.length = n) (hsize : g.locals.size = nL) (hstack : g.stack = As.reverse ++ rest) (hW : 2 * g.monitorRoom + (rest.map fun v => v.category).sum ≤ 8) (hdg : decode cc g.pc = .ok (.invokestatic index, 3)) (hf : cells + mc ≤ R.cells ∧ slots + ms ≤ R.slots) :
    vx_Run p l e R s m args below meth c H locs cells slots mc ms g rest (Qc As.toArray) XC free := by
  obtain ⟨⟨hrc, hrs, hfr, hlo, hws, hcw⟩, hcode, hini, hy, hlen, hl, hstt⟩ := cw
  have hK : vx_Back l R p e below s args y 3 8 (PreOf R mc ms Pc) (PostOf Qc mc ms free) (vx_Post XC mc ms free) := vx_backW (hh := hh) (bytes := bytes) (maxL := maxL) (ret := ret) hM hp.1 hrc hrs hfr hlo hws hcw (fun a' U hW => word_at hW (Or.inl (by first | rfl | simp [Cond.onTables, Cond.keeps, Cond.steady])) hini)
  obtain ⟨hx, hb, hml, ho, -⟩ := S
  intro T hT X
  rcases vx_callSX X hx (hh := hh) (bytes := bytes) (maxL := maxL) (ret := ret) ho hl hstt hini hcode hy hK hg (hsize.trans hml.symm) (argsL := As) (rest := rest) (fun sig h => hn.trans (hlen sig h)) hstack hW (by rw [hb]; exact hdg)
    (fun vm₁ hW₁ => ⟨hf.1, hf.2, hp.2 (T.setVm vm₁) hT hW₁⟩) with ⟨v, vm₁, ⟨U', l2, c2, s2⟩, hW₁, X', ⟨g', mk, t, L, e1, e2, hq, h1, hL, h2, h3⟩, st⟩ | ⟨q, vm₁, ⟨U', l2, c2, s2⟩, hW₁, X', ⟨g', mk, t, L, E, ce, e1, e2, hq, hce, hcv, hcl, h1, hL, h2, h3⟩, st⟩
  · dsimp only [Pt.U, Pt.locs, Pt.cells, Pt.slots] at X' e1 e2 h1 h2 h3 st
    subst h1; subst h2; subst h3
    exact Or.inl ⟨v, (T.setVm vm₁).calling g' mk As.toArray, t, U', L, hT, X', hL, e1, e2, hq, st⟩
  · dsimp only [Pt.U, Pt.locs, Pt.cells, Pt.slots] at X' e1 e2 h1 h2 h3 st hcl
    subst h1; subst h2; subst h3
    exact Or.inr ⟨q, (T.setVm vm₁).calling g' mk As.toArray, t, U', L, E, ce, hT, X', hL, e1, e2, hq, hce, hcv, vx_cls hW₁ hcl, st⟩
end
end VXH
theorem vx_ofWH {l : Launch} {y : MethodName} {ws ws' : List Cond} {rm : Room} {Pc : Array Value → State → Prop} {Qc : Array Value → State → Outcome → State → Prop} {XC : String → State → State → Prop} {mc ms : Nat} {free : Addr → Prop} {cc : ByteArray} {maxL : Nat} {ret : Option FieldType} {hh : List (Nat × Nat × Nat × Nat)}
    (hy : plainName y.cls = true) (hw : ws = Cond.codeWith y cc maxL ret hh :: ws')
    (body : ∀ p e s m args below meth c s₁, BodyLoose p l y (headSpec ws rm) cc maxL ret e s m args below meth c s₁ → c.maxLocals = maxL → Pc args s →
      W p l e (headSpec ws rm).room s m args below meth c s.heap [] 0 0 (vx_MQ below Qc XC args s mc ms free) (entryFrame m args maxL)) : vx_Met l y ws rm Pc Qc XC mc ms free := by
  refine MetFree.of_bodyS (code := cc) (maxLocals := maxL) (ret := ret) hy ?_ ?_
  · intro args s m h hn
    obtain ⟨m9, meth, c, hn9, h1, h2, h3, h4, -, h5, h6, -⟩ := Cond.codeWith_spec (atoms_spec (ws := ws) h _ (by rw [hw]; exact List.mem_cons_self))
    cases hn.symm.trans hn9
    exact ⟨meth, c, h1, h2, h3, h4, h5, h6⟩
  · intro p e s m args below meth c s₁ B hml hP _
    have hh0 : s₁.heap = s.heap := by rw [B.state]; rfl
    obtain ⟨t, a1, o, b1, b2, b3⟩ := body p e s m args below meth c s₁ B hml hP s₁ hh0 (Stand.of_body B)
    exact ⟨t, o, a1, b1, b2, b3⟩
/-! ===== END ===== -/
/-! ===== BEGIN what the machine throws by itself, no traces kept ===== -/
section VXM
set_option maxHeartbeats 1000000 in
/-- the machine throws cls with the message text, no traces kept: from its note over the frame g to 'throwing' over the same frame (follows the proofs of Stand.vmThrowsMessage, Shelf/KitTracedVmS.lean, and Stand.throwsMessageColdBareV, StandMessageColdV.lean, without the step out of the frame) -/
theorem vx_vmAt {p : Program} {l : Launch} {e : Env} {R : Room} {s : State} {m₀ : MethodId} {args : Array Value} {below : List Frame} {meth : Method} {c : Code} {W : State} {locs : List Loc} {cells slots : Nat}
    (X : Stand p l e R s m₀ args below meth c W locs cells slots) (hexec : p.tables.exec = Jvm.exec) (htr : e.platform.stackTraces = false) {cls : String} {names : List String} {text : String}
    (hcls : Bundle.fit cls = true) (hnames : ∀ n ∈ names, Bundle.fit n = true) (hsoe : (cls == "java/lang/StackOverflowError") = false) (hoom : (cls == "java/lang/OutOfMemoryError") = false)
    (h : ∀ a ∈ Bundle.messageArmAtoms cls names, a.before args s = true)
    (hlocs : ∀ x ∈ locs, ∀ cell, s.heap[x.base]? = some cell → cell.vm.isStatics = false)
    (htext : (text == notModelled) = false) (hlimit : ¬ (stringBytes (stringToUtf16 text)).size > e.platform.arrayLengthLimit) (hheap : ¬ (stringBytes (stringToUtf16 text)).size * componentBytes .byte > e.platform.maxHeapBytes)
    {g : JFrame} (hg : g.method = m₀) (hsize : g.locals.size = c.maxLocals)
    (hRframes : names.length + 4 < R.frames) (hRlocals : 2 * g.monitorRoom + (g.stack.map fun v => v.category).sum + 10240 ≤ R.locals) (hshort : 13 * names.length + 55 ≤ 10240)
    (hRcells : cells + 3 ≤ R.cells) (hRslots : slots + ((stringBytes (stringToUtf16 text)).size + 4 + 6) ≤ R.slots) (hlocks : meth.locks = false) :
    ∃ (S : State) (q : Addr) (ce : Cell), (∀ target, Steps p.tables e below ((S.setTop g).pushFrame (.throwing q)) target → Steps p.tables e below ((W.setTop g).pushFrame (.throwNew cls (some text) none)) target) ∧
      Stand p l e R s m₀ args below meth c S locs (cells + 3) (slots + ((stringBytes (stringToUtf16 text)).size + 4 + 6)) ∧ S.heap[q]? = some ce ∧ s.vm.findClass cls = some ce.cls ∧ ce.vm = .none := by
  have howns : e.platform.frameOwnsMonitors = true := by rw [X.admits.platform]
  have hfin : e.platform.finalization = false := by rw [X.admits.platform]
  have hpl : e.platform.magicAccessors = ({} : Platform).magicAccessors := by rw [X.admits.platform]
  have a : ∀ x, x ∈ Bundle.messageArmAtoms cls names → x.holds args s none s [] = true := fun x hx => h x hx
  obtain ⟨T, Z0, L, -, Y⟩ := ThrowableC.of_atoms (args := args) howns hfin hpl (fun x hx => h x (by simp [Bundle.messageArmAtoms, hx]))
  obtain ⟨Z, M, LZ, LM, hnZ⟩ := Init0T.ofS_atoms (args := args) hpl L Y (fun x hx => h x (by simp [Bundle.messageArmAtoms, hx]))
  obtain ⟨P1, Ps, hlen, L1, hL, hP1m, hlink1, hlink⟩ := Bundle.chainS (args := args) hpl hnZ names cls hcls hnames (fun x hx => h x (by simp [Bundle.messageArmAtoms, hx]))
  obtain ⟨Zs, LZs, hn4, hfitv, hfitc⟩ := StringT.of_atoms (args := args) (fun x hx => h x (by simp [Bundle.messageArmAtoms, hx]))
  have hfound : s.vm.findClass cls = some P1.m.cls := findClass_of_methodNamed hP1m
  obtain ⟨c1, kX, hc1, hk, hord, -, -, hn6⟩ := Cond.instantiable_spec (a (.instantiable cls 6) (by simp [Bundle.messageArmAtoms]))
  cases Option.some.inj (hc1.symm.trans hfound)
  have hinit := Cond.initialized_spec hfound hk (a (.initialized cls) (by simp [Bundle.messageArmAtoms]))
  have hctor : kX.findMethod "<init>" "(Ljava/lang/String;)V" = some P1.m.idx := findMethod_of_methodNamed hP1m hk
  have hsel0 : selectMethod e.platform s.vm P1.m.cls T.fill0 = .method T.fill0 := by
    obtain ⟨c2, r2, m2, q1, q2, q3, q4, -⟩ := Cond.selects_spec (a (.selects cls Bundle.tFill0 Bundle.tFill0) (by simp [Bundle.messageArmAtoms]))
    cases Option.some.inj (q1.symm.trans hfound)
    cases Option.some.inj (q2.symm.trans (State.methodFound?_of_named Y.fill0 (by decide)))
    cases Option.some.inj (q3.symm.trans Y.fill0)
    rw [Launch.admits_selectMethod X.admits]; exact q4
  have hselF : selectMethod e.platform s.vm P1.m.cls T.fill = .method T.fill := by
    obtain ⟨c2, r2, m2, q1, q2, q3, q4, -⟩ := Cond.selects_spec (a (.selects cls Bundle.tFill Bundle.tFill) (by simp [Bundle.messageArmAtoms]))
    cases Option.some.inj (q1.symm.trans hfound)
    cases Option.some.inj (q2.symm.trans (State.methodFound?_of_named Y.fill (by decide)))
    cases Option.some.inj (q3.symm.trans Y.fill)
    rw [Launch.admits_selectMethod X.admits]; exact q4
  obtain ⟨cellS0, hcS0, hiss⟩ := Y.statics
  obtain ⟨u0, hu0⟩ := Cond.staticRefV Y.unassigned L.unassignedStatic L.statics hcS0 hiss (a (.isRef (.static Bundle.tN "UNASSIGNED_STACK" Bundle.steD)) (by simp [Bundle.messageArmAtoms]))
  obtain ⟨sen, hsen⟩ := Cond.staticRefV Y.sentinel L.sentinelStatic L.statics hcS0 hiss (a (.isRef (.static Bundle.tN "SUPPRESSED_SENTINEL" Bundle.listD)) (by simp [Bundle.messageArmAtoms]))
  obtain ⟨ci198, i198, fB, hk198, hg198, ha198, hsB, -, hnB, htB, hffB⟩ := Cond.ownField (t := .object "java/lang/Object") Y.found L.cls (by decide +kernel) (a (.fieldLink Bundle.tN 198 Bundle.tN "backtrace" "Ljava/lang/Object;") (by simp [Bundle.messageArmAtoms])) (a (.lays Bundle.tN Bundle.tN "backtrace" "Ljava/lang/Object;") (by simp [Bundle.messageArmAtoms])) e.platform hpl
  obtain ⟨cellS, hcS', heS, -, hkeep⟩ := X.same.2.2.2.2.2 T.aS cellS0 hcS0
  have hcellS : W.heap[T.aS]? = some cellS := hcS'
  have hout' : ∀ i, (⟨T.aS, i⟩ : Loc) ∉ locs := fun i hmem => by
    have := hlocs _ hmem cellS0 hcS0
    rw [hiss] at this; cases this
  have hknownS : cellS.vm ≠ .unknown := by
    rw [heS]; intro hu
    rw [show cellS0.vm = .unknown from hu] at hiss
    cases hiss
  have hvU : cellS.slots[T.fUnassigned.slot]? = some u0.v := by rw [hkeep _ (hout' _)]; exact hu0
  have hvSen : cellS.slots[T.fSentinel.slot]? = some sen.v := by rw [hkeep _ (hout' _)]; exact hsen
  obtain ⟨iM, hffM⟩ := Y.msg
  obtain ⟨tyC, dC, hdC, hdnC⟩ := Cond.laysAt hfound hk Y.cause (a (.lays cls Bundle.tN "cause" "Ljava/lang/Throwable;") (by simp [Bundle.messageArmAtoms]))
  obtain ⟨tyS, dS, hdS, hdnS⟩ := Cond.laysAt hfound hk Y.stack (a (.lays cls Bundle.tN "stackTrace" Bundle.steD) (by simp [Bundle.messageArmAtoms]))
  obtain ⟨tyP, dP, hdP, hdnP⟩ := Cond.laysAt hfound hk Y.supp (a (.lays cls Bundle.tN "suppressedExceptions" Bundle.listD) (by simp [Bundle.messageArmAtoms]))
  obtain ⟨tyM, dM, hdM, hdnM⟩ := Cond.laysAt hfound hk hffM (a (.lays cls Bundle.tN "detailMessage" "Ljava/lang/String;") (by simp [Bundle.messageArmAtoms]))
  obtain ⟨tyB, dB, hdB, hdnB⟩ := Cond.laysAt hfound hk hffB (a (.lays cls Bundle.tN "backtrace" "Ljava/lang/Object;") (by simp [Bundle.messageArmAtoms]))
  have bC := Cond.laysApart hdB hdC hdnB hdnC (by rw [hnB, Y.causeName]; decide)
  have bS := Cond.laysApart hdB hdS hdnB hdnS (by rw [hnB, Y.stackName]; decide)
  have bP := Cond.laysApart hdB hdP hdnB hdnP (by rw [hnB, Y.suppName]; decide)
  have hbk : ((preparedCellV T.toThrowableT (freshCell P1.m.cls kX) (W.heap.size + 2) u0 sen).withEntry W.cur).slots[fB.slot]? = some .null := by
    have := fresh_default (c := P1.m.cls) tyB
    rw [htB] at this
    simpa [preparedCellV, Cell.setSlot, Cell.withEntry, Array.getElem?_setIfInBounds, bC, bS, bP, bC.symm, bS.symm, bP.symm, defaultValue] using this
  have tkC := Takes.of_laid (v := .ref (W.heap.size + 2)) hk hord tyC (by rw [Y.causeType]; rfl)
  have tkS := Takes.of_laid (v := u0.v) hk hord tyS (by rw [Y.stackType]; exact fits_refV_array _ u0)
  have tkP := Takes.of_laid (v := sen.v) hk hord tyP (by rw [Y.suppType]; exact fits_refV_object _ sen)
  have tkM := Takes.of_laid (v := .ref (W.heap.size + 1)) hk hord tyM (by rw [Y.msgType]; rfl)
  have hskip : SkipFacts T e.platform s (fun u => u) u0 ((preparedCellV T.toThrowableT (freshCell P1.m.cls kX) (W.heap.size + 2) u0 sen).withEntry W.cur) := ⟨{ ci198 := ci198, i198 := i198, fBack := fB }, ⟨hk198, hg198, ha198, hsB⟩, hbk, fun _ _ => rfl⟩
  have h0 : At W g.method c below := by rw [hg]; exact X.here
  obtain ⟨hbeyond, hfreeW⟩ := X.vmMayThrow hsize (.throwNew cls (some text) none) (fun f hf => by cases hf) rfl hRlocals
  have hfr' : W.frames.length + Ps.length + 4 < (e.platform.stackLimits W.me).1 := by have := X.framesAbove hRframes; omega
  have hwd' : (stackUse (.java g :: W.frames.tail)).2 + 13 * Ps.length + 55 ≤ (e.platform.stackLimits W.me).2 := by have := X.stackAbove hsize (K := 13 * Ps.length + 55) (by omega); omega
  have hslots : W.slotsUsed + (stringBytes (stringToUtf16 text)).size + Zs.kS.instanceTypes.size + kX.instanceTypes.size ≤ e.platform.maxSlots := by
    have := X.slotsAbove hRslots
    rw [hn4, hn6]
    omega
  obtain ⟨vm', hW', st⟩ := Steps.vmThrowsMessageColdByV p (s₀ := s) (S := W) (g := g) h0 hexec T L Z LZ M LM X.warmed (t := W.cur) rfl Zs LZs P1 L1 Ps hL hlink1 hlink hsoe hoom hfound hk hinit hord hctor
    (Launch.admits_hotImplicitExceptions X.admits) hbeyond hfreeW htext hlimit hheap (X.cellsAbove hRcells) hslots (hfitv _) (hfitc _)
    (Nn := fun u => u) heapOnly_id (fun _ _ => rfl) (fun _ => rfl) (fun u x y => setCell_twice _ _ _ _) (fun _ => Nat.le_refl _) (cN := ((preparedCellV T.toThrowableT (freshCell P1.m.cls kX) (W.heap.size + 2) u0 sen).withEntry W.cur))
    hsel0 hcellS hknownS hvU tkS (fun _ hu => hu) (fun _ hu => hu) rfl rfl rfl (by simp [preparedCellV, Cell.setSlot, Cell.withEntry]) hskip (fun _ _ hA hW _ hroom _ hrest => L.nativeOff p htr hA hW hroom hrest) hselF hvSen tkC tkP tkM Y.objLocals rfl hfr' hwd'
  rw [plainBareV_eq T.toThrowableT (W.heap.size + 2) u0 sen (.ref (W.heap.size + 1)) W.cur rfl rfl] at st
  obtain ⟨-, -, w3, w4, -, -, -⟩ := withThrown_facts e.platform W Zs text P1.m.cls kX
  have X3 := ((X.pushed (bytesOf Zs.cB (stringToUtf16 text))).pushed (stringAt Zs.cS Zs.kS Zs.fv Zs.fc (stringToUtf16 text) W.heap.size)).pushed (freshCell P1.m.cls kX)
  rw [← withString_eq] at X3
  have X4 := X3.noted hW'
  have ha : (W.heap.size + 2) < ((withThrown W Zs text P1.m.cls kX).setVm vm').heap.size := by show _ < (withThrown W Zs text P1.m.cls kX).heap.size; rw [w3]; omega
  have hcell : ((withThrown W Zs text P1.m.cls kX).setVm vm').heap[(W.heap.size + 2)]? = some (freshCell P1.m.cls kX) := w4
  have X5 := ((((X4.stored hcell T.fCause.slot (.ref (W.heap.size + 2))).storedAgain ha T.fStack.slot u0.v).storedAgain ha T.fSupp.slot sen.v).storedAgain ha T.fStack.slot u0.v).storedAgain ha T.fMsg.slot (.ref (W.heap.size + 1))
  obtain ⟨g₁, hfrM⟩ := X5.frames_eq
  have hU : ((((withThrown W Zs text P1.m.cls kX).setVm vm').setCell (W.heap.size + 2) (plainBareV T.toThrowableT (freshCell P1.m.cls kX) (W.heap.size + 2) u0 sen (.ref (W.heap.size + 1)))).setTop g).pushFrame (.throwing (W.heap.size + 2)) = (((withThrown W Zs text P1.m.cls kX).setVm vm').setCell (W.heap.size + 2) (plainBareV T.toThrowableT (freshCell P1.m.cls kX) (W.heap.size + 2) u0 sen (.ref (W.heap.size + 1)))).setFrames (.throwing (W.heap.size + 2) :: .java g :: below) := by
    rw [State.pushFrame, State.frames_setTop _ hfrM, State.setTop_of_frames _ hfrM, State.setFrames_setFrames]
  have b1 : (bytesOf Zs.cB (stringToUtf16 text)).slots.size = (stringBytes (stringToUtf16 text)).size := by
    rw [(Cell.writeAll_facts _ _).2.2]; simp [bytes0]
  have b2 : (stringAt Zs.cS Zs.kS Zs.fv Zs.fc (stringToUtf16 text) W.heap.size).slots.size = 4 := by simp [string0, Cell.setSlot, hn4]
  have b3 : (freshCell P1.m.cls kX).slots.size = 6 := by simp [hn6]
  rw [b1, b2, b3] at X5
  have e9 : slots + (stringBytes (stringToUtf16 text)).size + 4 + 6 = slots + ((stringBytes (stringToUtf16 text)).size + 4 + 6) := by omega
  rw [e9] at X5
  simp only [List.append_assoc, List.cons_append, List.nil_append] at X5
  refine ⟨((withThrown W Zs text P1.m.cls kX).setVm vm').setCell (W.heap.size + 2) (plainBareV T.toThrowableT (freshCell P1.m.cls kX) (W.heap.size + 2) u0 sen (.ref (W.heap.size + 1))), W.heap.size + 2, _, fun target ht => st _ (by rw [X.tail, ← hU]; exact ht),
    X5.forget (fun y hy => ?_), heapAt_setCell_self _ ha, hfound, rfl⟩
  simp only [List.mem_cons, List.not_mem_nil, or_false] at hy
  have hge : s.heap.size ≤ W.heap.size := X.same.2.1
  rcases hy with rfl | rfl | rfl | rfl | rfl <;> exact Nat.le_trans hge (Nat.le_add_right _ 2)
set_option maxHeartbeats 1000000 in
/-- the machine throws NullPointerException, no traces kept: from its note over the frame g to 'throwing' over the same frame (follows the proof of Stand.vmThrowsNpe, Shelf42/KT2.lean; throwsNpeColdBareVAt, Shelf42/NT91.lean, called) -/
theorem vx_npeAt {p : Program} {l : Launch} {e : Env} {R : Room} {s : State} {m₀ : MethodId} {args : Array Value} {below : List Frame} {meth : Method} {c : Code} {W : State} {locs : List Loc} {cells slots : Nat}
    (X : Stand p l e R s m₀ args below meth c W locs cells slots) (hexec : p.tables.exec = Jvm.exec) (htr : e.platform.stackTraces = false) {n : Nat}
    (h : ∀ a ∈ Bundle.npeArmAtoms n, a.before args s = true)
    (hlocs : ∀ x ∈ locs, ∀ cell, s.heap[x.base]? = some cell → cell.vm.isStatics = false)
    {g : JFrame} (hg : g.method = m₀) (hsize : g.locals.size = c.maxLocals)
    (hRframes : 7 < R.frames) (hRlocals : 2 * g.monitorRoom + (g.stack.map fun v => v.category).sum + 10240 ≤ R.locals)
    (hRcells : cells + 1 ≤ R.cells) (hRslots : slots + n ≤ R.slots) (hlocks : meth.locks = false) :
    ∃ (S : State) (q : Addr) (ce : Cell), (∀ target, Steps p.tables e below ((S.setTop g).pushFrame (.throwing q)) target → Steps p.tables e below ((W.setTop g).pushFrame (.throwNew "java/lang/NullPointerException" none none)) target) ∧
      Stand p l e R s m₀ args below meth c S locs (cells + 1) (slots + n) ∧ S.heap[q]? = some ce ∧ s.vm.findClass "java/lang/NullPointerException" = some ce.cls ∧ ce.vm = .none := by
  have howns : e.platform.frameOwnsMonitors = true := by rw [X.admits.platform]
  have hfin : e.platform.finalization = false := by rw [X.admits.platform]
  have hpl : e.platform.magicAccessors = ({} : Platform).magicAccessors := by rw [X.admits.platform]
  have hpl2 : e.platform.arrayCloneIsPublic = true := by rw [X.admits.platform]
  have a' : ∀ x, x ∈ Bundle.npeArmAtoms n → x.holds args s none s [] = true := fun x hx => h x hx
  obtain ⟨T, Z, L, LZ, Y⟩ := ThrowableC.of_atoms (args := args) howns hfin hpl (fun x hx => h x (by simp [Bundle.npeArmAtoms, hx]))
  obtain ⟨N, LN, hcN, hnNF, hordN, hffS⟩ := NpeC.of_atoms (args := args) hpl hpl2 L Y (fun x hx => h x (by simp [Bundle.npeArmAtoms, hx]))
  obtain ⟨P1, L1, hP1m, hP1s⟩ := PassC.of_atoms (args := args) (s := s) hpl (X := Bundle.nN) (Y := Bundle.rN) (by decide) (by decide) LibCode.NullPointerException.Init0.at_0 LibCode.NullPointerException.Init0.at_1 LibCode.NullPointerException.Init0.at_4 (fun x hx => h x (by simp [Bundle.npeArmAtoms, hx]))
  obtain ⟨PR, LR, hPRm, hPRs⟩ := PassC.of_atoms (args := args) (s := s) hpl (X := Bundle.rN) (Y := Bundle.eN) (by decide) (by decide) LibCode.RuntimeException.Init0.at_0 LibCode.RuntimeException.Init0.at_1 LibCode.RuntimeException.Init0.at_4 (fun x hx => h x (by simp [Bundle.npeArmAtoms, hx]))
  obtain ⟨PE, LEx, hPEm, hPEs⟩ := PassC.of_atoms (args := args) (s := s) hpl (X := Bundle.eN) (Y := Bundle.tN) (by decide) (by decide) LibCode.Exception.Init0.at_0 LibCode.Exception.Init0.at_1 LibCode.Exception.Init0.at_4 (fun x hx => h x (by simp [Bundle.npeArmAtoms, hx]))
  have hfound : s.vm.findClass Bundle.nN = some P1.m.cls := findClass_of_methodNamed hP1m
  have ecls : N.cN = P1.m.cls := Option.some.inj (hcN.symm.trans hfound)
  have hk : s.vm.classes[P1.m.cls]? = some N.kN := by rw [← ecls]; exact LN.cls
  have hinit := Cond.initialized_spec hfound hk (a' (.initialized Bundle.nN) (by simp [Bundle.npeArmAtoms]))
  have hctor : N.kN.findMethod "<init>" "()V" = some P1.m.idx := findMethod_of_methodNamed hP1m hk
  obtain ⟨c1, k1, hc1, hk1, -, -, -, hn⟩ := Cond.instantiable_spec (a' (.instantiable Bundle.nN n) (by simp [Bundle.npeArmAtoms]))
  cases Option.some.inj (hc1.symm.trans hfound)
  cases Option.some.inj (hk1.symm.trans hk)
  have hfsz : (freshCell P1.m.cls N.kN).slots.size = n := by simp [hn]
  have hlink1 : P1.sup = PR.m := Option.some.inj (hP1s.symm.trans hPRm)
  have hlinkR : PR.sup = PE.m := Option.some.inj (hPRs.symm.trans hPEm)
  have hlinkE : PE.sup = Z.m T.toThrowableT := Option.some.inj (hPEs.symm.trans Y.init0)
  have hLs : ∀ P, P ∈ [PR, PE] → P.Links0 e.platform s := fun P hP => by
    simp only [List.mem_cons, List.not_mem_nil, or_false] at hP
    rcases hP with rfl | rfl
    · exact LR
    · exact LEx
  have hsel0 : selectMethod e.platform s.vm P1.m.cls T.fill0 = .method T.fill0 := by
    obtain ⟨c2, r2, m2, q1, q2, q3, q4, -⟩ := Cond.selects_spec (a' (.selects Bundle.nN Bundle.tFill0 Bundle.tFill0) (by simp [Bundle.npeArmAtoms]))
    cases Option.some.inj (q1.symm.trans hfound)
    cases Option.some.inj (q2.symm.trans (State.methodFound?_of_named Y.fill0 (by decide)))
    cases Option.some.inj (q3.symm.trans Y.fill0)
    rw [Launch.admits_selectMethod X.admits]; exact q4
  have hselF : selectMethod e.platform s.vm P1.m.cls T.fill = .method N.fill := by
    obtain ⟨c2, r2, m2, q1, q2, q3, q4, -⟩ := Cond.selects_spec (a' (.selects Bundle.nN Bundle.tFill Bundle.nFill) (by simp [Bundle.npeArmAtoms]))
    cases Option.some.inj (q1.symm.trans hfound)
    cases Option.some.inj (q2.symm.trans (State.methodFound?_of_named Y.fill (by decide)))
    cases Option.some.inj (q3.symm.trans hnNF)
    rw [Launch.admits_selectMethod X.admits]; exact q4
  obtain ⟨cellS0, hcS0, hiss⟩ := Y.statics
  obtain ⟨u0, hu0⟩ := Cond.staticRefV Y.unassigned L.unassignedStatic L.statics hcS0 hiss (a' (.isRef (.static Bundle.tN "UNASSIGNED_STACK" Bundle.steD)) (by simp [Bundle.npeArmAtoms]))
  obtain ⟨sen, hsen⟩ := Cond.staticRefV Y.sentinel L.sentinelStatic L.statics hcS0 hiss (a' (.isRef (.static Bundle.tN "SUPPRESSED_SENTINEL" Bundle.listD)) (by simp [Bundle.npeArmAtoms]))
  obtain ⟨ci198, i198, fB, hk198, hg198, ha198, hsB, -, hnB, htB, hffB⟩ := Cond.ownField (t := .object "java/lang/Object") Y.found L.cls (by decide +kernel) (a' (.fieldLink Bundle.tN 198 Bundle.tN "backtrace" Bundle.objD) (by simp [Bundle.npeArmAtoms])) (a' (.lays Bundle.tN Bundle.tN "backtrace" Bundle.objD) (by simp [Bundle.npeArmAtoms])) e.platform hpl
  obtain ⟨cellS, hcS', heS, -, hkeep⟩ := X.same.2.2.2.2.2 T.aS cellS0 hcS0
  have hcellS : W.heap[T.aS]? = some cellS := hcS'
  have hout' : ∀ i, (⟨T.aS, i⟩ : Loc) ∉ locs := fun i hmem => by
    have := hlocs _ hmem cellS0 hcS0
    rw [hiss] at this; cases this
  have hknownS : cellS.vm ≠ .unknown := by
    rw [heS]; intro hu
    rw [show cellS0.vm = .unknown from hu] at hiss
    cases hiss
  have hvU : cellS.slots[T.fUnassigned.slot]? = some u0.v := by rw [hkeep _ (hout' _)]; exact hu0
  have hvSen : cellS.slots[T.fSentinel.slot]? = some sen.v := by rw [hkeep _ (hout' _)]; exact hsen
  obtain ⟨tyC, dC, hdC, hdnC⟩ := Cond.laysAt hfound hk Y.cause (a' (.lays Bundle.nN Bundle.tN "cause" "Ljava/lang/Throwable;") (by simp [Bundle.npeArmAtoms]))
  obtain ⟨tyS, dS, hdS, hdnS⟩ := Cond.laysAt hfound hk Y.stack (a' (.lays Bundle.nN Bundle.tN "stackTrace" Bundle.steD) (by simp [Bundle.npeArmAtoms]))
  obtain ⟨tyP, dP, hdP, hdnP⟩ := Cond.laysAt hfound hk Y.supp (a' (.lays Bundle.nN Bundle.tN "suppressedExceptions" Bundle.listD) (by simp [Bundle.npeArmAtoms]))
  obtain ⟨tyX, dX, hdX, hdnX⟩ := Cond.laysAt hfound hk hffS (a' (.lays Bundle.nN Bundle.nN "extendedMessageState" "I") (by simp [Bundle.npeArmAtoms, Bundle.npeAtoms]))
  obtain ⟨hnX, htX⟩ := State.fieldFound?_type hffS (t := .int) (by decide +kernel)
  have xC := Cond.laysApart hdC hdX hdnC hdnX (by rw [hnX, Y.causeName]; decide)
  have xS := Cond.laysApart hdS hdX hdnS hdnX (by rw [hnX, Y.stackName]; decide)
  have xP := Cond.laysApart hdP hdX hdnP hdnX (by rw [hnX, Y.suppName]; decide)
  have hv0 : (freshCell P1.m.cls N.kN).slots[N.fState.slot]? = some (.int 0) := by
    have := fresh_default (c := P1.m.cls) tyX
    rw [htX] at this; exact this
  obtain ⟨tyB, dB, hdB, hdnB⟩ := Cond.laysAt hfound hk hffB (a' (.lays Bundle.nN Bundle.tN "backtrace" Bundle.objD) (by simp [Bundle.npeArmAtoms]))
  have bC := Cond.laysApart hdB hdC hdnB hdnC (by rw [hnB, Y.causeName]; decide)
  have bS := Cond.laysApart hdB hdS hdnB hdnS (by rw [hnB, Y.stackName]; decide)
  have bP := Cond.laysApart hdB hdP hdnB hdnP (by rw [hnB, Y.suppName]; decide)
  have bX := Cond.laysApart hdB hdX hdnB hdnX (by rw [hnB, hnX]; decide)
  have hbk : ((npeCell N.toNpeT (preparedCellV T.toThrowableT (freshCell P1.m.cls N.kN) W.heap.size u0 sen) W.cur).withEntry W.cur).slots[fB.slot]? = some .null := by
    have := fresh_default (c := P1.m.cls) tyB
    rw [htB] at this
    simpa [npeCell, preparedCellV, Cell.setSlot, Cell.withEntry, Array.getElem?_setIfInBounds, bC, bS, bP, bX, bC.symm, bS.symm, bP.symm, bX.symm, defaultValue] using this
  have tkC := Takes.of_laid (v := .ref W.heap.size) hk hordN tyC (by rw [Y.causeType]; rfl)
  have tkS := Takes.of_laid (v := u0.v) hk hordN tyS (by rw [Y.stackType]; exact fits_refV_array _ u0)
  have tkP := Takes.of_laid (v := sen.v) hk hordN tyP (by rw [Y.suppType]; exact fits_refV_object _ sen)
  have tkX := Takes.of_laid (v := .int 1) hk hordN tyX (by rw [htX]; rfl)
  have hskip : SkipFacts T e.platform s (fun u => u) u0 ((npeCell N.toNpeT (preparedCellV T.toThrowableT (freshCell P1.m.cls N.kN) W.heap.size u0 sen) W.cur).withEntry W.cur) := ⟨{ ci198 := ci198, i198 := i198, fBack := fB }, ⟨hk198, hg198, ha198, hsB⟩, hbk, fun _ _ => rfl⟩
  obtain ⟨vm', X3, st, -⟩ := X.throwsNpeColdBareVAt hexec hg hsize T L Z LZ N LN P1 L1 [PR, PE] hLs hlink1 ⟨hlinkR, hlinkE, trivial⟩ hfound hk hinit hordN hctor hsel0 hselF hcellS hknownS hvU hvSen
    hv0 xC xS xP tkC tkS tkP tkX Y.objLocals hskip (fun _ _ hA hW _ hroom _ hrest => L.nativeOff p htr hA hW hroom hrest) (by simpa using hRframes) hRlocals (by simp) hRcells (by rw [hn]; exact hRslots)
  have hlt : W.heap.size < ((W.pushCell (freshCell P1.m.cls N.kN)).setVm vm').heap.size := by
    show W.heap.size < (W.pushCell (freshCell P1.m.cls N.kN)).heap.size
    rw [State.heap_size_pushCell]; omega
  rw [hfsz] at X3
  obtain ⟨g₁, hfrM⟩ := X3.frames_eq
  have hU : ((((W.pushCell (freshCell P1.m.cls N.kN)).setVm vm').setCell W.heap.size (npeBareV T.toThrowableT N.toNpeT (freshCell P1.m.cls N.kN) W.heap.size u0 sen)).setTop g).pushFrame (.throwing W.heap.size) = (((W.pushCell (freshCell P1.m.cls N.kN)).setVm vm').setCell W.heap.size (npeBareV T.toThrowableT N.toNpeT (freshCell P1.m.cls N.kN) W.heap.size u0 sen)).setFrames (.throwing W.heap.size :: .java g :: below) := by
    rw [State.pushFrame, State.frames_setTop _ hfrM, State.setTop_of_frames _ hfrM, State.setFrames_setFrames]
  refine ⟨_, W.heap.size, _, fun target ht => st.trans (by rw [← hU]; exact ht), X3.forget (fun y hy => ?_), heapAt_setCell_self _ hlt, hfound, rfl⟩
  simp only [List.mem_cons, List.not_mem_nil, or_false] at hy
  have hge : s.heap.size ≤ W.heap.size := X.same.2.1
  rcases hy with rfl | rfl | rfl | rfl | rfl <;> exact hge
/-- the words of a machine's NullPointerException, but the four that speak of the heap -/
def vx_atN (n : Nat) : List Cond := (Bundle.npeArmAtoms n).filter vx_no
/-- the words of a machine's throw with a message, but the four that speak of the heap -/
def vx_atM (X : String) (names : List String) : List Cond := (Bundle.messageArmAtoms X names).filter vx_no
section
variable {p : Program} {l : Launch} {e : Env} {R : Room} {s : State} {m : MethodId} {args : Array Value} {below : List Frame} {meth : Method} {c : Code} {H : Heap} {locs : List Loc} {cells slots : Nat}
/-- a frame seen from a rebased start, seen from the first start again -/
theorem vx_back9 {T S : State} {R' : Room} {k n : Nat} (X : Stand p l e R s m args below meth c T locs cells slots) (Y : Stand p l e R' ((T.setVm s.vm).setFrames (.invoking m args :: below)) m args below meth c T [] 0 0) (Z : Stand p l e R' ((T.setVm s.vm).setFrames (.invoking m args :: below)) m args below meth c S [] k n) :
    Stand p l e R s m args below meth c S locs (cells + k) (slots + n) := by
  have hW0 : s.WarmedH ((T.setVm s.vm).setFrames (.invoking m args :: below)).vm := State.WarmedH.refl s
  refine { admits := X.admits, cas := X.cas, clock := X.clock, frames := X.frames, room := X.room, hears := X.hears, method := X.method, code := X.code, here := Z.here, tail := Z.tail, warmed := State.WarmedH.trans hW0 Z.warmed, limits := Z.limits.trans (Y.limits.symm.trans X.limits), bytes := Z.bytes.trans (Y.bytes.symm.trans X.bytes), same := ?_ }
  obtain ⟨e1, e2⟩ := Z.same
  rw [State.setFrames_setFrames] at e1
  have h2 : (T.setVm s.vm).sameButNew (S.setVm s.vm) [] k n := ⟨e1, e2⟩
  have h3 := X.same.trans h2
  rw [List.append_nil] at h3
  exact h3
/-- from the machine's note that E is thrown here with this text -/
def vx_Note (p : Program) (l : Launch) (e : Env) (R : Room) (s : State) (m : MethodId) (args : Array Value) (below : List Frame) (meth : Method) (c : Code) (H : Heap) (locs : List Loc) (cells slots : Nat) (Q : State → Prop) (g : JFrame) (E text : String) : Prop :=
  ∀ T : State, T.heap = H → Stand p l e R s m args below meth c T locs cells slots → ∃ t, Steps p.tables e below ((T.setTop g).pushFrame (.throwNew E (some text) none)) t ∧ Q t
theorem vx_vm {pc : Nat} {ls : Array Slot} {rest : List Value} {Q : State → Prop} (hexec : p.tables.exec = Jvm.exec) (hl : l.stackTraces = false) {cls text : String} {names : List String} {nb : Nat} {A : Nat → Prop}
    (hcls : Bundle.fit cls = true) (hnames : ∀ n ∈ names, Bundle.fit n = true) (hsoe : (cls == "java/lang/StackOverflowError") = false) (hoom : (cls == "java/lang/OutOfMemoryError") = false)
    (hat : ∀ w ∈ vx_atM cls names, w.before args s = true) (hgood : ∀ w ∈ vx_atM cls names, vx_ot w = true)
    (hU : vx_Zq Bundle.tN "UNASSIGNED_STACK" Bundle.steD A s s.heap) (hN : vx_Zq Bundle.tN "SUPPRESSED_SENTINEL" Bundle.listD A s s.heap) (hS : va_S A s.heap H locs) (hsize : ls.size = c.maxLocals)
    (htext : (text == notModelled) = false) (hnb : (stringBytes (stringToUtf16 text)).size ≤ nb) (hnb1 : nb ≤ 1000)
    (hRframes : names.length + 4 < R.frames) (hRlocals : (rest.map fun v => v.category).sum + 10240 ≤ R.locals) (hshort : 13 * names.length + 55 ≤ 10240) (hRcells : cells + 3 ≤ R.cells) (hRslots : slots + (nb + 10) ≤ R.slots) (hlocks : meth.locks = false)
    (k : ∀ (H1 : Heap) (q9 : Addr) (ce : Cell), H.size ≤ H1.size → (∀ q : Nat, q < H.size → H1[q]? = H[q]?) → va_S A s.heap H1 locs → H1[q9]? = some ce → ce.vm = .none → s.vm.findClass cls = some ce.cls → vx_W p l e R s m args below meth c H1 locs (cells + 3) (slots + (nb + 10)) Q (F0 m pc ls rest) q9) :
    vx_Note p l e R s m args below meth c H locs cells slots Q (F0 m pc ls rest) cls text := by
  intro T hT X
  have htr : e.platform.stackTraces = false := (show e.platform.stackTraces = l.stackTraces by rw [X.admits.platform]).trans hl
  have Y := vx_rebase X (R' := { frames := R.frames, locals := R.locals, cells := 3, slots := nb + 10 }) (Nat.le_refl _) (Nat.le_refl _) hRcells hRslots
  have hhp : ((T.setVm s.vm).setFrames (.invoking m args :: below)).heap = H := hT
  have hW0 : s.WarmedH ((T.setVm s.vm).setFrames (.invoking m args :: below)).vm := State.WarmedH.refl s
  have hat' : ∀ w ∈ vx_atM cls names, w.before args ((T.setVm s.vm).setFrames (.invoking m args :: below)) = true := fun w hw => vx_ot_at hW0 rfl (hgood w hw) (hat w hw)
  have hU' : vx_Zq Bundle.tN "UNASSIGNED_STACK" Bundle.steD A ((T.setVm s.vm).setFrames (.invoking m args :: below)) ((T.setVm s.vm).setFrames (.invoking m args :: below)).heap := by rw [hhp]; exact vx_Zq.moved hW0.alike (hU.kept hS.2.1)
  have hN' : vx_Zq Bundle.tN "SUPPRESSED_SENTINEL" Bundle.listD A ((T.setVm s.vm).setFrames (.invoking m args :: below)) ((T.setVm s.vm).setFrames (.invoking m args :: below)).heap := by rw [hhp]; exact vx_Zq.moved hW0.alike (hN.kept hS.2.1)
  obtain ⟨S, q, ce, st, Z, hce, hcl', hv⟩ := vx_vmAt Y hexec htr (cls := cls) (names := names) (text := text) hcls hnames hsoe hoom (vx_own hat' (vx_isRefq hU'.1) (vx_isRefq hN'.1) hU'.2.word hN'.2.word) (fun x hx => nomatch hx) htext
    (by rw [Launch.admits_arrayLengthLimit X.admits]; omega) (by rw [Launch.admits_maxHeapBytes X.admits]; simp only [componentBytes]; omega)
    (g := F0 m pc ls rest) rfl hsize hRframes (by show 2 * 0 + (rest.map fun v => v.category).sum + 10240 ≤ R.locals; omega) hshort (by show 0 + 3 ≤ 3; omega) (by show 0 + (_ + 4 + 6) ≤ nb + 10; omega) hlocks
  obtain ⟨f1, f2⟩ := vx_frame Z.same
  have f1' : H.size ≤ S.heap.size := by rw [← hT]; exact f1
  have f2' : ∀ q : Nat, q < H.size → S.heap[q]? = H[q]? := fun q hq => by
    rw [← hT]
    exact f2 q (by rw [← hT] at hq; exact hq) (fun z hz => nomatch hz)
  have X5 := vx_back9 X Y Z
  have X6 : Stand p l e R s m args below meth c S locs (cells + 3) (slots + (nb + 10)) := { X5 with same := X5.same.mono (by omega) (by omega) }
  obtain ⟨t, a1, b1⟩ := k S.heap q ce f1' f2' ⟨Nat.le_trans hS.1 f1', fun q h1 h2 => (f2' q (Nat.lt_of_lt_of_le h1 hS.1)).trans (hS.2.1 q h1 h2), hS.2.2⟩ hce hv hcl' S rfl X6
  exact ⟨t, st t a1, b1⟩
/-- from the machine's note that NullPointerException is thrown here -/
def vx_NoteN (p : Program) (l : Launch) (e : Env) (R : Room) (s : State) (m : MethodId) (args : Array Value) (below : List Frame) (meth : Method) (c : Code) (H : Heap) (locs : List Loc) (cells slots : Nat) (Q : State → Prop) (g : JFrame) : Prop :=
  ∀ T : State, T.heap = H → Stand p l e R s m args below meth c T locs cells slots → ∃ t, Steps p.tables e below ((T.setTop g).pushFrame (.throwNew "java/lang/NullPointerException" none none)) t ∧ Q t
theorem vx_npe {pc : Nat} {ls : Array Slot} {rest : List Value} {Q : State → Prop} (hexec : p.tables.exec = Jvm.exec) (hl : l.stackTraces = false) {nb : Nat} {A : Nat → Prop}
    (hat : ∀ w ∈ vx_atN nb, w.before args s = true) (hgood : ∀ w ∈ vx_atN nb, vx_ot w = true)
    (hU : vx_Zq Bundle.tN "UNASSIGNED_STACK" Bundle.steD A s s.heap) (hN : vx_Zq Bundle.tN "SUPPRESSED_SENTINEL" Bundle.listD A s s.heap) (hS : va_S A s.heap H locs) (hsize : ls.size = c.maxLocals)
    (hRframes : 7 < R.frames) (hRlocals : (rest.map fun v => v.category).sum + 10240 ≤ R.locals) (hRcells : cells + 1 ≤ R.cells) (hRslots : slots + nb ≤ R.slots) (hlocks : meth.locks = false)
    (k : ∀ (H1 : Heap) (q9 : Addr) (ce : Cell), H.size ≤ H1.size → (∀ q : Nat, q < H.size → H1[q]? = H[q]?) → va_S A s.heap H1 locs → H1[q9]? = some ce → ce.vm = .none → s.vm.findClass "java/lang/NullPointerException" = some ce.cls → vx_W p l e R s m args below meth c H1 locs (cells + 1) (slots + nb) Q (F0 m pc ls rest) q9) :
    vx_NoteN p l e R s m args below meth c H locs cells slots Q (F0 m pc ls rest) := by
  intro T hT X
  have htr : e.platform.stackTraces = false := (show e.platform.stackTraces = l.stackTraces by rw [X.admits.platform]).trans hl
  have Y := vx_rebase X (R' := { frames := R.frames, locals := R.locals, cells := 1, slots := nb }) (Nat.le_refl _) (Nat.le_refl _) hRcells hRslots
  have hhp : ((T.setVm s.vm).setFrames (.invoking m args :: below)).heap = H := hT
  have hW0 : s.WarmedH ((T.setVm s.vm).setFrames (.invoking m args :: below)).vm := State.WarmedH.refl s
  have hat' : ∀ w ∈ vx_atN nb, w.before args ((T.setVm s.vm).setFrames (.invoking m args :: below)) = true := fun w hw => vx_ot_at hW0 rfl (hgood w hw) (hat w hw)
  have hU' : vx_Zq Bundle.tN "UNASSIGNED_STACK" Bundle.steD A ((T.setVm s.vm).setFrames (.invoking m args :: below)) ((T.setVm s.vm).setFrames (.invoking m args :: below)).heap := by rw [hhp]; exact vx_Zq.moved hW0.alike (hU.kept hS.2.1)
  have hN' : vx_Zq Bundle.tN "SUPPRESSED_SENTINEL" Bundle.listD A ((T.setVm s.vm).setFrames (.invoking m args :: below)) ((T.setVm s.vm).setFrames (.invoking m args :: below)).heap := by rw [hhp]; exact vx_Zq.moved hW0.alike (hN.kept hS.2.1)
  obtain ⟨S, q, ce, st, Z, hce, hcl', hv⟩ := vx_npeAt Y hexec htr (n := nb) (vx_own hat' (vx_isRefq hU'.1) (vx_isRefq hN'.1) hU'.2.word hN'.2.word) (fun x hx => nomatch hx)
    (g := F0 m pc ls rest) rfl hsize hRframes (by show 2 * 0 + (rest.map fun v => v.category).sum + 10240 ≤ R.locals; omega) (by show 0 + 1 ≤ 1; omega) (by show 0 + nb ≤ nb; omega) hlocks
  obtain ⟨f1, f2⟩ := vx_frame Z.same
  have f1' : H.size ≤ S.heap.size := by rw [← hT]; exact f1
  have f2' : ∀ q : Nat, q < H.size → S.heap[q]? = H[q]? := fun q hq => by
    rw [← hT]
    exact f2 q (by rw [← hT] at hq; exact hq) (fun z hz => nomatch hz)
  have X5 := vx_back9 X Y Z
  have X6 : Stand p l e R s m args below meth c S locs (cells + 1) (slots + nb) := { X5 with same := X5.same.mono (by omega) (by omega) }
  obtain ⟨t, a1, b1⟩ := k S.heap q ce f1' f2' ⟨Nat.le_trans hS.1 f1', fun q h1 h2 => (f2' q (Nat.lt_of_lt_of_le h1 hS.1)).trans (hS.2.1 q h1 h2), hS.2.2⟩ hce hv hcl' S rfl X6
  exact ⟨t, st t a1, b1⟩
variable {Q : State → Prop} {cc : ByteArray} {pc : Nat} {ls : Array Slot} {rest : List Value}
theorem vx_idivZ (hexec : p.tables.exec = Jvm.exec) (hb : c.code = cc) {a b : Int32} (h0 : b = 0) (d : decode cc pc = .ok (.idiv, 1)) (k : vx_Note p l e R s m args below meth c H locs cells slots Q (F0 m pc ls rest) "java/lang/ArithmeticException" "/ by zero") :
    W p l e R s m args below meth c H locs cells slots Q (F0 m pc ls (.int b :: .int a :: rest)) := by
  intro T hT X
  obtain ⟨t, st, q⟩ := k T hT X
  exact ⟨t, X.idivZero hexec (g := F0 m pc ls (.int b :: .int a :: rest)) rfl (a := a) (rest := rest) (by rw [h0]) (by rw [hb]; exact d) t st, q⟩
theorem vx_iremZ (hexec : p.tables.exec = Jvm.exec) (hb : c.code = cc) {a b : Int32} (h0 : b = 0) (d : decode cc pc = .ok (.irem, 1)) (k : vx_Note p l e R s m args below meth c H locs cells slots Q (F0 m pc ls rest) "java/lang/ArithmeticException" "/ by zero") :
    W p l e R s m args below meth c H locs cells slots Q (F0 m pc ls (.int b :: .int a :: rest)) := by
  intro T hT X
  obtain ⟨t, st, q⟩ := k T hT X
  exact ⟨t, X.iremZero hexec (g := F0 m pc ls (.int b :: .int a :: rest)) rfl (a := a) (rest := rest) (by rw [h0]) (by rw [hb]; exact d) t st, q⟩
theorem vx_ldivZ (hexec : p.tables.exec = Jvm.exec) (hb : c.code = cc) {a b : Int64} (h0 : b = 0) (d : decode cc pc = .ok (.ldiv, 1)) (k : vx_Note p l e R s m args below meth c H locs cells slots Q (F0 m pc ls rest) "java/lang/ArithmeticException" "/ by zero") :
    W p l e R s m args below meth c H locs cells slots Q (F0 m pc ls (.long b :: .long a :: rest)) := by
  intro T hT X
  obtain ⟨t, st, q⟩ := k T hT X
  exact ⟨t, X.ldivZero hexec (g := F0 m pc ls (.long b :: .long a :: rest)) rfl (a := a) (rest := rest) (by rw [h0]) (by rw [hb]; exact d) t st, q⟩
theorem vx_lremZ (hexec : p.tables.exec = Jvm.exec) (hb : c.code = cc) {a b : Int64} (h0 : b = 0) (d : decode cc pc = .ok (.lrem, 1)) (k : vx_Note p l e R s m args below meth c H locs cells slots Q (F0 m pc ls rest) "java/lang/ArithmeticException" "/ by zero") :
    W p l e R s m args below meth c H locs cells slots Q (F0 m pc ls (.long b :: .long a :: rest)) := by
  intro T hT X
  obtain ⟨t, st, q⟩ := k T hT X
  exact ⟨t, X.lremZero hexec (g := F0 m pc ls (.long b :: .long a :: rest)) rfl (a := a) (rest := rest) (by rw [h0]) (by rw [hb]; exact d) t st, q⟩
theorem vx_ialdZ {D : va_G} {cl : List vw_C} {ws : va_W} {tys : List (ClassId × FieldType)} {a : Nat} (hexec : p.tables.exec = Jvm.exec) (hb : c.code = cc) (hK : va_K D cl tys s) (hP : va_P D cl ws H) (q0 t0 : Nat) {cA : ClassId} {n : Nat} {f : Nat → Int32} (ha : ws[q0]? = some (a, .inl (cA, n, .inl f))) (ht : tys[t0]? = some (cA, .int)) {i : Int32} (hout : ¬ vp_in i n) (hdg : decode cc pc = .ok (.iaload, 1))
    (k : ∀ tx : String, tx = (toString "Index " ++ toString i ++ toString " out of bounds for length " ++ toString n : String) → vx_Note p l e R s m args below meth c H locs cells slots Q (F0 m pc ls rest) "java/lang/ArrayIndexOutOfBoundsException" tx) : W p l e R s m args below meth c H locs cells slots Q (F0 m pc ls (.int i :: .ref a :: rest)) := by
  intro T hT X
  obtain ⟨t, st, q⟩ := k _ rfl T hT X
  refine ⟨t, ?_, q⟩
  have h1 := X.ialoadOut hexec (by rw [hT]; exact hP q0 _ ha) ((hK.2 t0 _ ht).1 n (fun j => .int (f j))) (j := i) (by show (i < 0 ∨ (arrV _ _ _).slots.size ≤ _); rw [arrV_size]; exact Classical.byContradiction hout) (g := F0 m pc ls (.int i :: .ref a :: rest)) rfl (rest := rest) rfl (by rw [hb]; exact hdg) t
  simp only [arrV_size] at h1
  exact h1 st
theorem vx_iastZ {D : va_G} {cl : List vw_C} {ws : va_W} {tys : List (ClassId × FieldType)} {a : Nat} (hexec : p.tables.exec = Jvm.exec) (hb : c.code = cc) (hK : va_K D cl tys s) (hP : va_P D cl ws H) (q0 t0 : Nat) {cA : ClassId} {n : Nat} {f : Nat → Int32} (ha : ws[q0]? = some (a, .inl (cA, n, .inl f))) (ht : tys[t0]? = some (cA, .int)) {i : Int32} {x : Int32} (hout : ¬ vp_in i n) (hdg : decode cc pc = .ok (.iastore, 1))
    (k : ∀ tx : String, tx = (toString "Index " ++ toString i ++ toString " out of bounds for length " ++ toString n : String) → vx_Note p l e R s m args below meth c H locs cells slots Q (F0 m pc ls rest) "java/lang/ArrayIndexOutOfBoundsException" tx) : W p l e R s m args below meth c H locs cells slots Q (F0 m pc ls (.int x :: .int i :: .ref a :: rest)) := by
  intro T hT X
  obtain ⟨t, st, q⟩ := k _ rfl T hT X
  refine ⟨t, ?_, q⟩
  have h1 := X.iastoreOut hexec (by rw [hT]; exact hP q0 _ ha) ((hK.2 t0 _ ht).1 n (fun j => .int (f j))) (j := i) (by show (i < 0 ∨ (arrV _ _ _).slots.size ≤ _); rw [arrV_size]; exact Classical.byContradiction hout) (g := F0 m pc ls (.int x :: .int i :: .ref a :: rest)) rfl (rest := rest) rfl (by rw [hb]; exact hdg) t
  simp only [arrV_size] at h1
  exact h1 st
theorem vx_baldZ {D : va_G} {cl : List vw_C} {ws : va_W} {tys : List (ClassId × FieldType)} {a : Nat} (hexec : p.tables.exec = Jvm.exec) (hb : c.code = cc) (hK : va_K D cl tys s) (hP : va_P D cl ws H) (q0 t0 : Nat) {cA : ClassId} {n : Nat} {f : Nat → Int32} (ha : ws[q0]? = some (a, .inl (cA, n, .inl f))) (ht : tys[t0]? = some (cA, .byte)) {i : Int32} (hout : ¬ vp_in i n) (hdg : decode cc pc = .ok (.baload, 1))
    (k : ∀ tx : String, tx = (toString "Index " ++ toString i ++ toString " out of bounds for length " ++ toString n : String) → vx_Note p l e R s m args below meth c H locs cells slots Q (F0 m pc ls rest) "java/lang/ArrayIndexOutOfBoundsException" tx) : W p l e R s m args below meth c H locs cells slots Q (F0 m pc ls (.int i :: .ref a :: rest)) := by
  intro T hT X
  obtain ⟨t, st, q⟩ := k _ rfl T hT X
  refine ⟨t, ?_, q⟩
  have h1 := X.baloadOut hexec (by rw [hT]; exact hP q0 _ ha) ((hK.2 t0 _ ht).1 n (fun j => .int (f j))) (j := i) (by show (i < 0 ∨ (arrV _ _ _).slots.size ≤ _); rw [arrV_size]; exact Classical.byContradiction hout) (g := F0 m pc ls (.int i :: .ref a :: rest)) rfl (rest := rest) rfl (by rw [hb]; exact hdg) t
  simp only [arrV_size] at h1
  exact h1 st
theorem vx_bastZ {D : va_G} {cl : List vw_C} {ws : va_W} {tys : List (ClassId × FieldType)} {a : Nat} (hexec : p.tables.exec = Jvm.exec) (hb : c.code = cc) (hK : va_K D cl tys s) (hP : va_P D cl ws H) (q0 t0 : Nat) {cA : ClassId} {n : Nat} {f : Nat → Int32} (ha : ws[q0]? = some (a, .inl (cA, n, .inl f))) (ht : tys[t0]? = some (cA, .byte)) {i : Int32} {x : Int32} (hout : ¬ vp_in i n) (hdg : decode cc pc = .ok (.bastore, 1))
    (k : ∀ tx : String, tx = (toString "Index " ++ toString i ++ toString " out of bounds for length " ++ toString n : String) → vx_Note p l e R s m args below meth c H locs cells slots Q (F0 m pc ls rest) "java/lang/ArrayIndexOutOfBoundsException" tx) : W p l e R s m args below meth c H locs cells slots Q (F0 m pc ls (.int x :: .int i :: .ref a :: rest)) := by
  intro T hT X
  obtain ⟨t, st, q⟩ := k _ rfl T hT X
  refine ⟨t, ?_, q⟩
  have h1 := X.bastoreOut hexec (by rw [hT]; exact hP q0 _ ha) ((hK.2 t0 _ ht).1 n (fun j => .int (f j))) (j := i) (by show (i < 0 ∨ (arrV _ _ _).slots.size ≤ _); rw [arrV_size]; exact Classical.byContradiction hout) (g := F0 m pc ls (.int x :: .int i :: .ref a :: rest)) rfl (rest := rest) rfl (by rw [hb]; exact hdg) t
  simp only [arrV_size] at h1
  exact h1 st
theorem vx_zaldZ {D : va_G} {cl : List vw_C} {ws : va_W} {tys : List (ClassId × FieldType)} {a : Nat} (hexec : p.tables.exec = Jvm.exec) (hb : c.code = cc) (hK : va_K D cl tys s) (hP : va_P D cl ws H) (q0 t0 : Nat) {cA : ClassId} {n : Nat} {f : Nat → Int32} (ha : ws[q0]? = some (a, .inl (cA, n, .inl f))) (ht : tys[t0]? = some (cA, .boolean)) {i : Int32} (hout : ¬ vp_in i n) (hdg : decode cc pc = .ok (.baload, 1))
    (k : ∀ tx : String, tx = (toString "Index " ++ toString i ++ toString " out of bounds for length " ++ toString n : String) → vx_Note p l e R s m args below meth c H locs cells slots Q (F0 m pc ls rest) "java/lang/ArrayIndexOutOfBoundsException" tx) : W p l e R s m args below meth c H locs cells slots Q (F0 m pc ls (.int i :: .ref a :: rest)) := by
  intro T hT X
  obtain ⟨t, st, q⟩ := k _ rfl T hT X
  refine ⟨t, ?_, q⟩
  have h1 := X.baloadOut hexec (by rw [hT]; exact hP q0 _ ha) ((hK.2 t0 _ ht).1 n (fun j => .int (f j))) (j := i) (by show (i < 0 ∨ (arrV _ _ _).slots.size ≤ _); rw [arrV_size]; exact Classical.byContradiction hout) (g := F0 m pc ls (.int i :: .ref a :: rest)) rfl (rest := rest) rfl (by rw [hb]; exact hdg) t
  simp only [arrV_size] at h1
  exact h1 st
theorem vx_zastZ {D : va_G} {cl : List vw_C} {ws : va_W} {tys : List (ClassId × FieldType)} {a : Nat} (hexec : p.tables.exec = Jvm.exec) (hb : c.code = cc) (hK : va_K D cl tys s) (hP : va_P D cl ws H) (q0 t0 : Nat) {cA : ClassId} {n : Nat} {f : Nat → Int32} (ha : ws[q0]? = some (a, .inl (cA, n, .inl f))) (ht : tys[t0]? = some (cA, .boolean)) {i : Int32} {x : Int32} (hout : ¬ vp_in i n) (hdg : decode cc pc = .ok (.bastore, 1))
    (k : ∀ tx : String, tx = (toString "Index " ++ toString i ++ toString " out of bounds for length " ++ toString n : String) → vx_Note p l e R s m args below meth c H locs cells slots Q (F0 m pc ls rest) "java/lang/ArrayIndexOutOfBoundsException" tx) : W p l e R s m args below meth c H locs cells slots Q (F0 m pc ls (.int x :: .int i :: .ref a :: rest)) := by
  intro T hT X
  obtain ⟨t, st, q⟩ := k _ rfl T hT X
  refine ⟨t, ?_, q⟩
  have h1 := X.bastoreOut hexec (by rw [hT]; exact hP q0 _ ha) ((hK.2 t0 _ ht).1 n (fun j => .int (f j))) (j := i) (by show (i < 0 ∨ (arrV _ _ _).slots.size ≤ _); rw [arrV_size]; exact Classical.byContradiction hout) (g := F0 m pc ls (.int x :: .int i :: .ref a :: rest)) rfl (rest := rest) rfl (by rw [hb]; exact hdg) t
  simp only [arrV_size] at h1
  exact h1 st
theorem vx_caldZ {D : va_G} {cl : List vw_C} {ws : va_W} {tys : List (ClassId × FieldType)} {a : Nat} (hexec : p.tables.exec = Jvm.exec) (hb : c.code = cc) (hK : va_K D cl tys s) (hP : va_P D cl ws H) (q0 t0 : Nat) {cA : ClassId} {n : Nat} {f : Nat → Int32} (ha : ws[q0]? = some (a, .inl (cA, n, .inl f))) (ht : tys[t0]? = some (cA, .char)) {i : Int32} (hout : ¬ vp_in i n) (hdg : decode cc pc = .ok (.caload, 1))
    (k : ∀ tx : String, tx = (toString "Index " ++ toString i ++ toString " out of bounds for length " ++ toString n : String) → vx_Note p l e R s m args below meth c H locs cells slots Q (F0 m pc ls rest) "java/lang/ArrayIndexOutOfBoundsException" tx) : W p l e R s m args below meth c H locs cells slots Q (F0 m pc ls (.int i :: .ref a :: rest)) := by
  intro T hT X
  obtain ⟨t, st, q⟩ := k _ rfl T hT X
  refine ⟨t, ?_, q⟩
  have h1 := X.caloadOut hexec (by rw [hT]; exact hP q0 _ ha) ((hK.2 t0 _ ht).1 n (fun j => .int (f j))) (j := i) (by show (i < 0 ∨ (arrV _ _ _).slots.size ≤ _); rw [arrV_size]; exact Classical.byContradiction hout) (g := F0 m pc ls (.int i :: .ref a :: rest)) rfl (rest := rest) rfl (by rw [hb]; exact hdg) t
  simp only [arrV_size] at h1
  exact h1 st
theorem vx_castZ {D : va_G} {cl : List vw_C} {ws : va_W} {tys : List (ClassId × FieldType)} {a : Nat} (hexec : p.tables.exec = Jvm.exec) (hb : c.code = cc) (hK : va_K D cl tys s) (hP : va_P D cl ws H) (q0 t0 : Nat) {cA : ClassId} {n : Nat} {f : Nat → Int32} (ha : ws[q0]? = some (a, .inl (cA, n, .inl f))) (ht : tys[t0]? = some (cA, .char)) {i : Int32} {x : Int32} (hout : ¬ vp_in i n) (hdg : decode cc pc = .ok (.castore, 1))
    (k : ∀ tx : String, tx = (toString "Index " ++ toString i ++ toString " out of bounds for length " ++ toString n : String) → vx_Note p l e R s m args below meth c H locs cells slots Q (F0 m pc ls rest) "java/lang/ArrayIndexOutOfBoundsException" tx) : W p l e R s m args below meth c H locs cells slots Q (F0 m pc ls (.int x :: .int i :: .ref a :: rest)) := by
  intro T hT X
  obtain ⟨t, st, q⟩ := k _ rfl T hT X
  refine ⟨t, ?_, q⟩
  have h1 := X.castoreOut hexec (by rw [hT]; exact hP q0 _ ha) ((hK.2 t0 _ ht).1 n (fun j => .int (f j))) (j := i) (by show (i < 0 ∨ (arrV _ _ _).slots.size ≤ _); rw [arrV_size]; exact Classical.byContradiction hout) (g := F0 m pc ls (.int x :: .int i :: .ref a :: rest)) rfl (rest := rest) rfl (by rw [hb]; exact hdg) t
  simp only [arrV_size] at h1
  exact h1 st
theorem vx_saldZ {D : va_G} {cl : List vw_C} {ws : va_W} {tys : List (ClassId × FieldType)} {a : Nat} (hexec : p.tables.exec = Jvm.exec) (hb : c.code = cc) (hK : va_K D cl tys s) (hP : va_P D cl ws H) (q0 t0 : Nat) {cA : ClassId} {n : Nat} {f : Nat → Int32} (ha : ws[q0]? = some (a, .inl (cA, n, .inl f))) (ht : tys[t0]? = some (cA, .short)) {i : Int32} (hout : ¬ vp_in i n) (hdg : decode cc pc = .ok (.saload, 1))
    (k : ∀ tx : String, tx = (toString "Index " ++ toString i ++ toString " out of bounds for length " ++ toString n : String) → vx_Note p l e R s m args below meth c H locs cells slots Q (F0 m pc ls rest) "java/lang/ArrayIndexOutOfBoundsException" tx) : W p l e R s m args below meth c H locs cells slots Q (F0 m pc ls (.int i :: .ref a :: rest)) := by
  intro T hT X
  obtain ⟨t, st, q⟩ := k _ rfl T hT X
  refine ⟨t, ?_, q⟩
  have h1 := X.saloadOut hexec (by rw [hT]; exact hP q0 _ ha) ((hK.2 t0 _ ht).1 n (fun j => .int (f j))) (j := i) (by show (i < 0 ∨ (arrV _ _ _).slots.size ≤ _); rw [arrV_size]; exact Classical.byContradiction hout) (g := F0 m pc ls (.int i :: .ref a :: rest)) rfl (rest := rest) rfl (by rw [hb]; exact hdg) t
  simp only [arrV_size] at h1
  exact h1 st
theorem vx_sastZ {D : va_G} {cl : List vw_C} {ws : va_W} {tys : List (ClassId × FieldType)} {a : Nat} (hexec : p.tables.exec = Jvm.exec) (hb : c.code = cc) (hK : va_K D cl tys s) (hP : va_P D cl ws H) (q0 t0 : Nat) {cA : ClassId} {n : Nat} {f : Nat → Int32} (ha : ws[q0]? = some (a, .inl (cA, n, .inl f))) (ht : tys[t0]? = some (cA, .short)) {i : Int32} {x : Int32} (hout : ¬ vp_in i n) (hdg : decode cc pc = .ok (.sastore, 1))
    (k : ∀ tx : String, tx = (toString "Index " ++ toString i ++ toString " out of bounds for length " ++ toString n : String) → vx_Note p l e R s m args below meth c H locs cells slots Q (F0 m pc ls rest) "java/lang/ArrayIndexOutOfBoundsException" tx) : W p l e R s m args below meth c H locs cells slots Q (F0 m pc ls (.int x :: .int i :: .ref a :: rest)) := by
  intro T hT X
  obtain ⟨t, st, q⟩ := k _ rfl T hT X
  refine ⟨t, ?_, q⟩
  have h1 := X.sastoreOut hexec (by rw [hT]; exact hP q0 _ ha) ((hK.2 t0 _ ht).1 n (fun j => .int (f j))) (j := i) (by show (i < 0 ∨ (arrV _ _ _).slots.size ≤ _); rw [arrV_size]; exact Classical.byContradiction hout) (g := F0 m pc ls (.int x :: .int i :: .ref a :: rest)) rfl (rest := rest) rfl (by rw [hb]; exact hdg) t
  simp only [arrV_size] at h1
  exact h1 st
theorem vx_laldZ {D : va_G} {cl : List vw_C} {ws : va_W} {tys : List (ClassId × FieldType)} {a : Nat} (hexec : p.tables.exec = Jvm.exec) (hb : c.code = cc) (hK : va_K D cl tys s) (hP : va_P D cl ws H) (q0 t0 : Nat) {cA : ClassId} {n : Nat} {f : Nat → Int64} (ha : ws[q0]? = some (a, .inl (cA, n, .inr (.inl f)))) (ht : tys[t0]? = some (cA, .long)) {i : Int32} (hout : ¬ vp_in i n) (hdg : decode cc pc = .ok (.laload, 1))
    (k : ∀ tx : String, tx = (toString "Index " ++ toString i ++ toString " out of bounds for length " ++ toString n : String) → vx_Note p l e R s m args below meth c H locs cells slots Q (F0 m pc ls rest) "java/lang/ArrayIndexOutOfBoundsException" tx) : W p l e R s m args below meth c H locs cells slots Q (F0 m pc ls (.int i :: .ref a :: rest)) := by
  intro T hT X
  obtain ⟨t, st, q⟩ := k _ rfl T hT X
  refine ⟨t, ?_, q⟩
  have h1 := X.laloadOut hexec (by rw [hT]; exact hP q0 _ ha) ((hK.2 t0 _ ht).1 n (fun j => .long (f j))) (j := i) (by show (i < 0 ∨ (arrV _ _ _).slots.size ≤ _); rw [arrV_size]; exact Classical.byContradiction hout) (g := F0 m pc ls (.int i :: .ref a :: rest)) rfl (rest := rest) rfl (by rw [hb]; exact hdg) t
  simp only [arrV_size] at h1
  exact h1 st
theorem vx_lastZ {D : va_G} {cl : List vw_C} {ws : va_W} {tys : List (ClassId × FieldType)} {a : Nat} (hexec : p.tables.exec = Jvm.exec) (hb : c.code = cc) (hK : va_K D cl tys s) (hP : va_P D cl ws H) (q0 t0 : Nat) {cA : ClassId} {n : Nat} {f : Nat → Int64} (ha : ws[q0]? = some (a, .inl (cA, n, .inr (.inl f)))) (ht : tys[t0]? = some (cA, .long)) {i : Int32} {x : Int64} (hout : ¬ vp_in i n) (hdg : decode cc pc = .ok (.lastore, 1))
    (k : ∀ tx : String, tx = (toString "Index " ++ toString i ++ toString " out of bounds for length " ++ toString n : String) → vx_Note p l e R s m args below meth c H locs cells slots Q (F0 m pc ls rest) "java/lang/ArrayIndexOutOfBoundsException" tx) : W p l e R s m args below meth c H locs cells slots Q (F0 m pc ls (.long x :: .int i :: .ref a :: rest)) := by
  intro T hT X
  obtain ⟨t, st, q⟩ := k _ rfl T hT X
  refine ⟨t, ?_, q⟩
  have h1 := X.lastoreOut hexec (by rw [hT]; exact hP q0 _ ha) ((hK.2 t0 _ ht).1 n (fun j => .long (f j))) (j := i) (by show (i < 0 ∨ (arrV _ _ _).slots.size ≤ _); rw [arrV_size]; exact Classical.byContradiction hout) (g := F0 m pc ls (.long x :: .int i :: .ref a :: rest)) rfl (rest := rest) rfl (by rw [hb]; exact hdg) t
  simp only [arrV_size] at h1
  exact h1 st
theorem vx_faldZ {D : va_G} {cl : List vw_C} {ws : va_W} {tys : List (ClassId × FieldType)} {a : Nat} (hexec : p.tables.exec = Jvm.exec) (hb : c.code = cc) (hK : va_K D cl tys s) (hP : va_P D cl ws H) (q0 t0 : Nat) {cA : ClassId} {n : Nat} {f : Nat → UInt32} (ha : ws[q0]? = some (a, .inl (cA, n, .inr (.inr (.inl f))))) (ht : tys[t0]? = some (cA, .float)) {i : Int32} (hout : ¬ vp_in i n) (hdg : decode cc pc = .ok (.faload, 1))
    (k : ∀ tx : String, tx = (toString "Index " ++ toString i ++ toString " out of bounds for length " ++ toString n : String) → vx_Note p l e R s m args below meth c H locs cells slots Q (F0 m pc ls rest) "java/lang/ArrayIndexOutOfBoundsException" tx) : W p l e R s m args below meth c H locs cells slots Q (F0 m pc ls (.int i :: .ref a :: rest)) := by
  intro T hT X
  obtain ⟨t, st, q⟩ := k _ rfl T hT X
  refine ⟨t, ?_, q⟩
  have h1 := X.faloadOut hexec (by rw [hT]; exact hP q0 _ ha) ((hK.2 t0 _ ht).1 n (fun j => .float (f j))) (j := i) (by show (i < 0 ∨ (arrV _ _ _).slots.size ≤ _); rw [arrV_size]; exact Classical.byContradiction hout) (g := F0 m pc ls (.int i :: .ref a :: rest)) rfl (rest := rest) rfl (by rw [hb]; exact hdg) t
  simp only [arrV_size] at h1
  exact h1 st
theorem vx_fastZ {D : va_G} {cl : List vw_C} {ws : va_W} {tys : List (ClassId × FieldType)} {a : Nat} (hexec : p.tables.exec = Jvm.exec) (hb : c.code = cc) (hK : va_K D cl tys s) (hP : va_P D cl ws H) (q0 t0 : Nat) {cA : ClassId} {n : Nat} {f : Nat → UInt32} (ha : ws[q0]? = some (a, .inl (cA, n, .inr (.inr (.inl f))))) (ht : tys[t0]? = some (cA, .float)) {i : Int32} {x : UInt32} (hout : ¬ vp_in i n) (hdg : decode cc pc = .ok (.fastore, 1))
    (k : ∀ tx : String, tx = (toString "Index " ++ toString i ++ toString " out of bounds for length " ++ toString n : String) → vx_Note p l e R s m args below meth c H locs cells slots Q (F0 m pc ls rest) "java/lang/ArrayIndexOutOfBoundsException" tx) : W p l e R s m args below meth c H locs cells slots Q (F0 m pc ls (.float x :: .int i :: .ref a :: rest)) := by
  intro T hT X
  obtain ⟨t, st, q⟩ := k _ rfl T hT X
  refine ⟨t, ?_, q⟩
  have h1 := X.fastoreOut hexec (by rw [hT]; exact hP q0 _ ha) ((hK.2 t0 _ ht).1 n (fun j => .float (f j))) (j := i) (by show (i < 0 ∨ (arrV _ _ _).slots.size ≤ _); rw [arrV_size]; exact Classical.byContradiction hout) (g := F0 m pc ls (.float x :: .int i :: .ref a :: rest)) rfl (rest := rest) rfl (by rw [hb]; exact hdg) t
  simp only [arrV_size] at h1
  exact h1 st
theorem vx_daldZ {D : va_G} {cl : List vw_C} {ws : va_W} {tys : List (ClassId × FieldType)} {a : Nat} (hexec : p.tables.exec = Jvm.exec) (hb : c.code = cc) (hK : va_K D cl tys s) (hP : va_P D cl ws H) (q0 t0 : Nat) {cA : ClassId} {n : Nat} {f : Nat → UInt64} (ha : ws[q0]? = some (a, .inl (cA, n, .inr (.inr (.inr (.inl f)))))) (ht : tys[t0]? = some (cA, .double)) {i : Int32} (hout : ¬ vp_in i n) (hdg : decode cc pc = .ok (.daload, 1))
    (k : ∀ tx : String, tx = (toString "Index " ++ toString i ++ toString " out of bounds for length " ++ toString n : String) → vx_Note p l e R s m args below meth c H locs cells slots Q (F0 m pc ls rest) "java/lang/ArrayIndexOutOfBoundsException" tx) : W p l e R s m args below meth c H locs cells slots Q (F0 m pc ls (.int i :: .ref a :: rest)) := by
  intro T hT X
  obtain ⟨t, st, q⟩ := k _ rfl T hT X
  refine ⟨t, ?_, q⟩
  have h1 := X.daloadOut hexec (by rw [hT]; exact hP q0 _ ha) ((hK.2 t0 _ ht).1 n (fun j => .double (f j))) (j := i) (by show (i < 0 ∨ (arrV _ _ _).slots.size ≤ _); rw [arrV_size]; exact Classical.byContradiction hout) (g := F0 m pc ls (.int i :: .ref a :: rest)) rfl (rest := rest) rfl (by rw [hb]; exact hdg) t
  simp only [arrV_size] at h1
  exact h1 st
theorem vx_dastZ {D : va_G} {cl : List vw_C} {ws : va_W} {tys : List (ClassId × FieldType)} {a : Nat} (hexec : p.tables.exec = Jvm.exec) (hb : c.code = cc) (hK : va_K D cl tys s) (hP : va_P D cl ws H) (q0 t0 : Nat) {cA : ClassId} {n : Nat} {f : Nat → UInt64} (ha : ws[q0]? = some (a, .inl (cA, n, .inr (.inr (.inr (.inl f)))))) (ht : tys[t0]? = some (cA, .double)) {i : Int32} {x : UInt64} (hout : ¬ vp_in i n) (hdg : decode cc pc = .ok (.dastore, 1))
    (k : ∀ tx : String, tx = (toString "Index " ++ toString i ++ toString " out of bounds for length " ++ toString n : String) → vx_Note p l e R s m args below meth c H locs cells slots Q (F0 m pc ls rest) "java/lang/ArrayIndexOutOfBoundsException" tx) : W p l e R s m args below meth c H locs cells slots Q (F0 m pc ls (.double x :: .int i :: .ref a :: rest)) := by
  intro T hT X
  obtain ⟨t, st, q⟩ := k _ rfl T hT X
  refine ⟨t, ?_, q⟩
  have h1 := X.dastoreOut hexec (by rw [hT]; exact hP q0 _ ha) ((hK.2 t0 _ ht).1 n (fun j => .double (f j))) (j := i) (by show (i < 0 ∨ (arrV _ _ _).slots.size ≤ _); rw [arrV_size]; exact Classical.byContradiction hout) (g := F0 m pc ls (.double x :: .int i :: .ref a :: rest)) rfl (rest := rest) rfl (by rw [hb]; exact hdg) t
  simp only [arrV_size] at h1
  exact h1 st
theorem vx_arraylengthN (hexec : p.tables.exec = Jvm.exec) (hb : c.code = cc) (hdg : decode cc pc = .ok (.arraylength, 1)) (k : vx_NoteN p l e R s m args below meth c H locs cells slots Q (F0 m pc ls rest)) : W p l e R s m args below meth c H locs cells slots Q (F0 m pc ls (.null :: rest)) := by
  intro T hT X
  obtain ⟨t, st, q⟩ := k T hT X
  exact ⟨t, X.arraylengthNull hexec (g := F0 m pc ls (.null :: rest)) rfl (rest := rest) rfl (by rw [hb]; exact hdg) t st, q⟩
theorem vx_ialoadN (hexec : p.tables.exec = Jvm.exec) (hb : c.code = cc) {i : Int32} (hdg : decode cc pc = .ok (.iaload, 1)) (k : vx_NoteN p l e R s m args below meth c H locs cells slots Q (F0 m pc ls rest)) : W p l e R s m args below meth c H locs cells slots Q (F0 m pc ls (.int i :: .null :: rest)) := by
  intro T hT X
  obtain ⟨t, st, q⟩ := k T hT X
  exact ⟨t, X.ialoadNull hexec (g := F0 m pc ls (.int i :: .null :: rest)) rfl (rest := rest) rfl (by rw [hb]; exact hdg) t st, q⟩
theorem vx_laloadN (hexec : p.tables.exec = Jvm.exec) (hb : c.code = cc) {i : Int32} (hdg : decode cc pc = .ok (.laload, 1)) (k : vx_NoteN p l e R s m args below meth c H locs cells slots Q (F0 m pc ls rest)) : W p l e R s m args below meth c H locs cells slots Q (F0 m pc ls (.int i :: .null :: rest)) := by
  intro T hT X
  obtain ⟨t, st, q⟩ := k T hT X
  exact ⟨t, X.laloadNull hexec (g := F0 m pc ls (.int i :: .null :: rest)) rfl (rest := rest) rfl (by rw [hb]; exact hdg) t st, q⟩
theorem vx_faloadN (hexec : p.tables.exec = Jvm.exec) (hb : c.code = cc) {i : Int32} (hdg : decode cc pc = .ok (.faload, 1)) (k : vx_NoteN p l e R s m args below meth c H locs cells slots Q (F0 m pc ls rest)) : W p l e R s m args below meth c H locs cells slots Q (F0 m pc ls (.int i :: .null :: rest)) := by
  intro T hT X
  obtain ⟨t, st, q⟩ := k T hT X
  exact ⟨t, X.faloadNull hexec (g := F0 m pc ls (.int i :: .null :: rest)) rfl (rest := rest) rfl (by rw [hb]; exact hdg) t st, q⟩
theorem vx_daloadN (hexec : p.tables.exec = Jvm.exec) (hb : c.code = cc) {i : Int32} (hdg : decode cc pc = .ok (.daload, 1)) (k : vx_NoteN p l e R s m args below meth c H locs cells slots Q (F0 m pc ls rest)) : W p l e R s m args below meth c H locs cells slots Q (F0 m pc ls (.int i :: .null :: rest)) := by
  intro T hT X
  obtain ⟨t, st, q⟩ := k T hT X
  exact ⟨t, X.daloadNull hexec (g := F0 m pc ls (.int i :: .null :: rest)) rfl (rest := rest) rfl (by rw [hb]; exact hdg) t st, q⟩
theorem vx_aaloadN (hexec : p.tables.exec = Jvm.exec) (hb : c.code = cc) {i : Int32} (hdg : decode cc pc = .ok (.aaload, 1)) (k : vx_NoteN p l e R s m args below meth c H locs cells slots Q (F0 m pc ls rest)) : W p l e R s m args below meth c H locs cells slots Q (F0 m pc ls (.int i :: .null :: rest)) := by
  intro T hT X
  obtain ⟨t, st, q⟩ := k T hT X
  exact ⟨t, X.aaloadNull hexec (g := F0 m pc ls (.int i :: .null :: rest)) rfl (rest := rest) rfl (by rw [hb]; exact hdg) t st, q⟩
theorem vx_baloadN (hexec : p.tables.exec = Jvm.exec) (hb : c.code = cc) {i : Int32} (hdg : decode cc pc = .ok (.baload, 1)) (k : vx_NoteN p l e R s m args below meth c H locs cells slots Q (F0 m pc ls rest)) : W p l e R s m args below meth c H locs cells slots Q (F0 m pc ls (.int i :: .null :: rest)) := by
  intro T hT X
  obtain ⟨t, st, q⟩ := k T hT X
  exact ⟨t, X.baloadNull hexec (g := F0 m pc ls (.int i :: .null :: rest)) rfl (rest := rest) rfl (by rw [hb]; exact hdg) t st, q⟩
theorem vx_caloadN (hexec : p.tables.exec = Jvm.exec) (hb : c.code = cc) {i : Int32} (hdg : decode cc pc = .ok (.caload, 1)) (k : vx_NoteN p l e R s m args below meth c H locs cells slots Q (F0 m pc ls rest)) : W p l e R s m args below meth c H locs cells slots Q (F0 m pc ls (.int i :: .null :: rest)) := by
  intro T hT X
  obtain ⟨t, st, q⟩ := k T hT X
  exact ⟨t, X.caloadNull hexec (g := F0 m pc ls (.int i :: .null :: rest)) rfl (rest := rest) rfl (by rw [hb]; exact hdg) t st, q⟩
theorem vx_saloadN (hexec : p.tables.exec = Jvm.exec) (hb : c.code = cc) {i : Int32} (hdg : decode cc pc = .ok (.saload, 1)) (k : vx_NoteN p l e R s m args below meth c H locs cells slots Q (F0 m pc ls rest)) : W p l e R s m args below meth c H locs cells slots Q (F0 m pc ls (.int i :: .null :: rest)) := by
  intro T hT X
  obtain ⟨t, st, q⟩ := k T hT X
  exact ⟨t, X.saloadNull hexec (g := F0 m pc ls (.int i :: .null :: rest)) rfl (rest := rest) rfl (by rw [hb]; exact hdg) t st, q⟩
theorem vx_iastoreN (hexec : p.tables.exec = Jvm.exec) (hb : c.code = cc) {x : Int32} {i : Int32} (hdg : decode cc pc = .ok (.iastore, 1)) (k : vx_NoteN p l e R s m args below meth c H locs cells slots Q (F0 m pc ls rest)) : W p l e R s m args below meth c H locs cells slots Q (F0 m pc ls (.int x :: .int i :: .null :: rest)) := by
  intro T hT X
  obtain ⟨t, st, q⟩ := k T hT X
  exact ⟨t, X.iastoreNull hexec (g := F0 m pc ls (.int x :: .int i :: .null :: rest)) rfl (rest := rest) rfl (by rw [hb]; exact hdg) t st, q⟩
theorem vx_lastoreN (hexec : p.tables.exec = Jvm.exec) (hb : c.code = cc) {x : Int64} {i : Int32} (hdg : decode cc pc = .ok (.lastore, 1)) (k : vx_NoteN p l e R s m args below meth c H locs cells slots Q (F0 m pc ls rest)) : W p l e R s m args below meth c H locs cells slots Q (F0 m pc ls (.long x :: .int i :: .null :: rest)) := by
  intro T hT X
  obtain ⟨t, st, q⟩ := k T hT X
  exact ⟨t, X.lastoreNull hexec (g := F0 m pc ls (.long x :: .int i :: .null :: rest)) rfl (rest := rest) rfl (by rw [hb]; exact hdg) t st, q⟩
theorem vx_fastoreN (hexec : p.tables.exec = Jvm.exec) (hb : c.code = cc) {x : UInt32} {i : Int32} (hdg : decode cc pc = .ok (.fastore, 1)) (k : vx_NoteN p l e R s m args below meth c H locs cells slots Q (F0 m pc ls rest)) : W p l e R s m args below meth c H locs cells slots Q (F0 m pc ls (.float x :: .int i :: .null :: rest)) := by
  intro T hT X
  obtain ⟨t, st, q⟩ := k T hT X
  exact ⟨t, X.fastoreNull hexec (g := F0 m pc ls (.float x :: .int i :: .null :: rest)) rfl (rest := rest) rfl (by rw [hb]; exact hdg) t st, q⟩
theorem vx_dastoreN (hexec : p.tables.exec = Jvm.exec) (hb : c.code = cc) {x : UInt64} {i : Int32} (hdg : decode cc pc = .ok (.dastore, 1)) (k : vx_NoteN p l e R s m args below meth c H locs cells slots Q (F0 m pc ls rest)) : W p l e R s m args below meth c H locs cells slots Q (F0 m pc ls (.double x :: .int i :: .null :: rest)) := by
  intro T hT X
  obtain ⟨t, st, q⟩ := k T hT X
  exact ⟨t, X.dastoreNull hexec (g := F0 m pc ls (.double x :: .int i :: .null :: rest)) rfl (rest := rest) rfl (by rw [hb]; exact hdg) t st, q⟩
theorem vx_bastoreN (hexec : p.tables.exec = Jvm.exec) (hb : c.code = cc) {x : Int32} {i : Int32} (hdg : decode cc pc = .ok (.bastore, 1)) (k : vx_NoteN p l e R s m args below meth c H locs cells slots Q (F0 m pc ls rest)) : W p l e R s m args below meth c H locs cells slots Q (F0 m pc ls (.int x :: .int i :: .null :: rest)) := by
  intro T hT X
  obtain ⟨t, st, q⟩ := k T hT X
  exact ⟨t, X.bastoreNull hexec (g := F0 m pc ls (.int x :: .int i :: .null :: rest)) rfl (rest := rest) rfl (by rw [hb]; exact hdg) t st, q⟩
theorem vx_castoreN (hexec : p.tables.exec = Jvm.exec) (hb : c.code = cc) {x : Int32} {i : Int32} (hdg : decode cc pc = .ok (.castore, 1)) (k : vx_NoteN p l e R s m args below meth c H locs cells slots Q (F0 m pc ls rest)) : W p l e R s m args below meth c H locs cells slots Q (F0 m pc ls (.int x :: .int i :: .null :: rest)) := by
  intro T hT X
  obtain ⟨t, st, q⟩ := k T hT X
  exact ⟨t, X.castoreNull hexec (g := F0 m pc ls (.int x :: .int i :: .null :: rest)) rfl (rest := rest) rfl (by rw [hb]; exact hdg) t st, q⟩
theorem vx_sastoreN (hexec : p.tables.exec = Jvm.exec) (hb : c.code = cc) {x : Int32} {i : Int32} (hdg : decode cc pc = .ok (.sastore, 1)) (k : vx_NoteN p l e R s m args below meth c H locs cells slots Q (F0 m pc ls rest)) : W p l e R s m args below meth c H locs cells slots Q (F0 m pc ls (.int x :: .int i :: .null :: rest)) := by
  intro T hT X
  obtain ⟨t, st, q⟩ := k T hT X
  exact ⟨t, X.sastoreNull hexec (g := F0 m pc ls (.int x :: .int i :: .null :: rest)) rfl (rest := rest) rfl (by rw [hb]; exact hdg) t st, q⟩
theorem vx_invokeN {own C : String} {index maxL : Nat} {y : MethodName} {bytes : ByteArray} {ret : Option FieldType} (hexec : p.tables.exec = Jvm.exec) (hb : c.code = cc) (hown : s.vm.findClass own = some m.cls) (hlink : (Cond.methodLink own index y).before args s = true) (hinst : (Cond.instanceMethod y).before args s = true) (hcode : (Cond.code y bytes maxL ret).before args s = true) (hsel : (Cond.selects C y y).before args s = true)
    (hx : y.cls ≠ "java/lang/invoke/MethodHandle" ∧ y.cls ≠ "java/lang/invoke/VarHandle") {As : List Value} (hlen : (parseMethodDescriptor y.desc).map (fun d => d.parameters.length) = some As.length) (hdg : decode cc pc = .ok (.invokevirtual index, 3))
    (k : vx_NoteN p l e R s m args below meth c H locs cells slots Q (F0 m pc ls rest)) {st0 : List Value} (hst : st0 = As.reverse ++ .null :: rest) : W p l e R s m args below meth c H locs cells slots Q (F0 m pc ls st0) := by
  intro T hT X
  obtain ⟨r0, r, hn, hrm, hstR, hsigR⟩ := va_Decl.of hinst hcode
  obtain ⟨c2, r2, m2, q1, q2, q3, q4, kP, hkP, hkPi⟩ := Cond.selects_spec hsel
  cases hn.symm.trans q3
  have hl9 : As.length = r.sig.parameters.length := by
    rw [hsigR] at hlen
    exact (Option.some.inj hlen).symm
  obtain ⟨vm', X1, st1⟩ := X.invokevirtualNull hexec hown hlink hn hrm hstR hkP hkPi hx (g := F0 m pc ls st0) rfl (argsL := As) (rest := rest) hl9 hst (by rw [hb]; exact hdg)
  obtain ⟨t, st, q⟩ := k (T.setVm vm') hT X1
  exact ⟨t, st1 t st, q⟩
theorem vx_newarrayZ {atype : ArrayType} (hexec : p.tables.exec = Jvm.exec) (hb : c.code = cc) {n : Int32} (h0 : n < 0) (hdg : decode cc pc = .ok (.newarray atype, 2)) (k : ∀ tx : String, tx = toString n → vx_Note p l e R s m args below meth c H locs cells slots Q (F0 m pc ls rest) "java/lang/NegativeArraySizeException" tx) : W p l e R s m args below meth c H locs cells slots Q (F0 m pc ls (.int n :: rest)) := by
  intro T hT X
  obtain ⟨t, st, q⟩ := k _ rfl T hT X
  exact ⟨t, X.newarrayNegative hexec (g := F0 m pc ls (.int n :: rest)) rfl h0 (rest := rest) rfl (by rw [hb]; exact hdg) t st, q⟩
end
end VXM
/-! ===== END ===== -/
/-! ===== BEGIN an exception as an object: made, kept, thrown later (no traces kept) ===== -/
section VXK
variable {p : Program} {l : Launch} {e : Env} {R : Room} {s : State} {m₀ : MethodId} {args : Array Value} {below : List Frame} {meth : Method} {c : Code} {W : State} {locs : List Loc} {cells slots : Nat}
set_option maxHeartbeats 1000000 in
theorem vx_ctorMadeS (X : Stand p l e R s m₀ args below meth c W locs cells slots) (hexec : p.tables.exec = Jvm.exec) (htr : e.platform.stackTraces = false) {own cls : String} {names : List String} {ic : Nat}
    (hown : s.vm.findClass own = some m₀.cls) (hcls : Bundle.fit cls = true) (hnames : ∀ n ∈ names, Bundle.fit n = true)
    (h : ∀ a ∈ Bundle.ownAtoms own ic cls names, a.before args s = true)
    (hlocs : ∀ x ∈ locs, ∀ cell, s.heap[x.base]? = some cell → cell.vm.isStatics = false)
    {a : Addr} {cX : ClassId} {kX : Class} (hfoundX : s.vm.findClass cls = some cX) (hkX : s.vm.classes[cX]? = some kX) (hcell : W.heap[a]? = some (freshCell cX kX)) (hnew : s.heap.size ≤ a)
    {msg : Value} (hmsg : msg.isRef = true)
    {g : JFrame} (hg : g.method = m₀) (hsize : g.locals.size = c.maxLocals) {rest : List Value} (hstack : g.stack = msg :: .ref a :: .ref a :: rest)
    (hd6 : decode c.code g.pc = .ok (.invokespecial ic, 3))
    (hRframes : names.length + 3 < R.frames) (hRlocals : 2 * g.monitorRoom + ((Value.ref a :: rest).map fun v => v.category).sum + (13 * (names.length + 1) + 42) ≤ R.locals) :
    ∃ (V : State) (ce : Cell) (L : List Loc), Stand p l e R s m₀ args below meth c (V.setCell a ce) (locs ++ L) cells slots ∧ (∀ y ∈ L, y.base = a) ∧ a < V.heap.size ∧ ce.cls = cX ∧ ce.vm = .none ∧
      ∀ target, Steps p.tables e below ((V.setCell a ce).setTop { g with stack := .ref a :: rest, pc := g.pc + 3 }) target → Steps p.tables e below (W.setTop g) target := by
  have howns : e.platform.frameOwnsMonitors = true := by rw [X.admits.platform]
  have hfin : e.platform.finalization = false := by rw [X.admits.platform]
  have hpl : e.platform.magicAccessors = ({} : Platform).magicAccessors := by rw [X.admits.platform]
  have a' : ∀ x, x ∈ Bundle.ownAtoms own ic cls names → x.holds args s none s [] = true := fun x hx => h x hx
  obtain ⟨T, Z0, L, -, Y⟩ := ThrowableC.of_atoms (args := args) howns hfin hpl (fun x hx => h x (by simp [Bundle.ownAtoms, hx]))
  obtain ⟨Z, M, LZ, LM, hnZ⟩ := Init0T.ofS_atoms (args := args) hpl L Y (fun x hx => h x (by simp [Bundle.ownAtoms, hx]))
  obtain ⟨P1, Ps, hlen, L1, hL, hP1m, hlink1, hlink⟩ := Bundle.chainS (args := args) hpl hnZ names cls hcls hnames (fun x hx => h x (by simp [Bundle.ownAtoms, hx]))
  have hfound : s.vm.findClass cls = some P1.m.cls := findClass_of_methodNamed hP1m
  cases Option.some.inj (hfoundX.symm.trans hfound)
  obtain ⟨c1, kX', hc1, hk, hord, -, -, hn6⟩ := Cond.instantiable_spec (a' (.instantiable cls 6) (by simp [Bundle.ownAtoms]))
  cases Option.some.inj (hc1.symm.trans hfound)
  cases Option.some.inj (hkX.symm.trans hk)
  have hsel0 : selectMethod e.platform s.vm P1.m.cls T.fill0 = .method T.fill0 := by
    obtain ⟨c2, r2, m2, q1, q2, q3, q4, -⟩ := Cond.selects_spec (a' (.selects cls Bundle.tFill0 Bundle.tFill0) (by simp [Bundle.ownAtoms]))
    cases Option.some.inj (q1.symm.trans hfound)
    cases Option.some.inj (q2.symm.trans (State.methodFound?_of_named Y.fill0 (by decide)))
    cases Option.some.inj (q3.symm.trans Y.fill0)
    rw [Launch.admits_selectMethod X.admits]; exact q4
  have hselF : selectMethod e.platform s.vm P1.m.cls T.fill = .method T.fill := by
    obtain ⟨c2, r2, m2, q1, q2, q3, q4, -⟩ := Cond.selects_spec (a' (.selects cls Bundle.tFill Bundle.tFill) (by simp [Bundle.ownAtoms]))
    cases Option.some.inj (q1.symm.trans hfound)
    cases Option.some.inj (q2.symm.trans (State.methodFound?_of_named Y.fill (by decide)))
    cases Option.some.inj (q3.symm.trans Y.fill)
    rw [Launch.admits_selectMethod X.admits]; exact q4
  obtain ⟨cellS0, hcS0, hiss⟩ := Y.statics
  obtain ⟨u0, hu0⟩ := Cond.staticRefV Y.unassigned L.unassignedStatic L.statics hcS0 hiss (a' (.isRef (.static Bundle.tN "UNASSIGNED_STACK" Bundle.steD)) (by simp [Bundle.ownAtoms]))
  obtain ⟨sen, hsen⟩ := Cond.staticRefV Y.sentinel L.sentinelStatic L.statics hcS0 hiss (a' (.isRef (.static Bundle.tN "SUPPRESSED_SENTINEL" Bundle.listD)) (by simp [Bundle.ownAtoms]))
  obtain ⟨ci198, i198, fB, hk198, hg198, ha198, hsB, -, hnB, htB, hffB⟩ := Cond.ownField (t := .object "java/lang/Object") Y.found L.cls (by decide +kernel) (a' (.fieldLink Bundle.tN 198 Bundle.tN "backtrace" "Ljava/lang/Object;") (by simp [Bundle.ownAtoms])) (a' (.lays Bundle.tN Bundle.tN "backtrace" "Ljava/lang/Object;") (by simp [Bundle.ownAtoms])) e.platform hpl
  obtain ⟨cellS, hcS', heS, -, hkeep⟩ := X.same.2.2.2.2.2 T.aS cellS0 hcS0
  have hcellS : W.heap[T.aS]? = some cellS := hcS'
  have hout' : ∀ i, (⟨T.aS, i⟩ : Loc) ∉ locs := fun i hmem => by
    have := hlocs _ hmem cellS0 hcS0
    rw [hiss] at this; cases this
  have hknownS : cellS.vm ≠ .unknown := by
    rw [heS]; intro hu
    rw [show cellS0.vm = .unknown from hu] at hiss
    cases hiss
  have hneS : T.aS ≠ a := Nat.ne_of_lt (Nat.lt_of_lt_of_le (Array.getElem?_eq_some_iff.mp hcS0).1 hnew)
  obtain ⟨iM, hffM⟩ := Y.msg
  obtain ⟨tyC, dC, hdC, hdnC⟩ := Cond.laysAt hfound hk Y.cause (a' (.lays cls Bundle.tN "cause" "Ljava/lang/Throwable;") (by simp [Bundle.ownAtoms]))
  obtain ⟨tyS, dS, hdS, hdnS⟩ := Cond.laysAt hfound hk Y.stack (a' (.lays cls Bundle.tN "stackTrace" Bundle.steD) (by simp [Bundle.ownAtoms]))
  obtain ⟨tyP, dP, hdP, hdnP⟩ := Cond.laysAt hfound hk Y.supp (a' (.lays cls Bundle.tN "suppressedExceptions" Bundle.listD) (by simp [Bundle.ownAtoms]))
  obtain ⟨tyM, dM, hdM, hdnM⟩ := Cond.laysAt hfound hk hffM (a' (.lays cls Bundle.tN "detailMessage" "Ljava/lang/String;") (by simp [Bundle.ownAtoms]))
  obtain ⟨tyB, dB, hdB, hdnB⟩ := Cond.laysAt hfound hk hffB (a' (.lays cls Bundle.tN "backtrace" "Ljava/lang/Object;") (by simp [Bundle.ownAtoms]))
  have bC := Cond.laysApart hdB hdC hdnB hdnC (by rw [hnB, Y.causeName]; decide)
  have bS := Cond.laysApart hdB hdS hdnB hdnS (by rw [hnB, Y.stackName]; decide)
  have bP := Cond.laysApart hdB hdP hdnB hdnP (by rw [hnB, Y.suppName]; decide)
  have hskip : SkipFacts T e.platform s (fun u => u) u0 ((preparedCellV T.toThrowableT (freshCell P1.m.cls kX) a u0 sen).withEntry W.cur) :=
    ⟨{ ci198 := ci198, i198 := i198, fBack := fB }, ⟨hk198, hg198, ha198, hsB⟩, by
      have := fresh_default (c := P1.m.cls) tyB
      rw [htB] at this
      simpa [preparedCellV, Cell.setSlot, Cell.withEntry, Array.getElem?_setIfInBounds, bC, bS, bP, bC.symm, bS.symm, bP.symm, defaultValue] using this, fun _ _ => rfl⟩
  obtain ⟨tm, methC, cdC, kC, vm₁, hnC, -, -, -, -, -, -, -, hW₁, st1⟩ := Steps.initColdS (tb := p.tables) (e := e) (below := below) (s := s) (U := W) X.here hexec X.warmed hpl hown (t := Bundle.initS cls) rfl rfl (Bundle.fit_spec hcls).2
    (a' (.methodLink own ic (Bundle.initS cls)) (by simp [Bundle.ownAtoms])) (h (.instanceMethod (Bundle.initS cls)) (by cases names <;> simp [Bundle.ownAtoms, Bundle.chainSAtoms, Bundle.passSAtoms])) (bytes := Bundle.six) (maxL := 2) (h (.code (Bundle.initS cls) Bundle.six 2 none) (by cases names <;> simp [Bundle.ownAtoms, Bundle.chainSAtoms, Bundle.passSAtoms]))
    (f := g) hg (a := a) (msg := msg) (rest := .ref a :: rest) hstack hd6
  cases Option.some.inj (hnC.symm.trans hP1m)
  have X₁ := X.noted hW₁
  obtain ⟨vm₂, X₂, st2⟩ := X₁.ctorMessageOffV hexec (g := { g with stack := .ref a :: rest }) hg hsize T L Z LZ M LM (P1 :: Ps)
    (fun P hP => by rcases List.mem_cons.mp hP with rfl | hP; exact L1; exact hL P hP) ⟨hlink1, hlink⟩ (u0 := u0) (sen := sen) (self := a) hmsg (cell := freshCell P1.m.cls kX) (cellS := cellS)
    hcell (fun _ => by simp) (by simp) rfl rfl hsel0 hselF hcellS hneS hknownS (by rw [hkeep _ (hout' _)]; exact hu0) (by rw [hkeep _ (hout' _)]; exact hsen)
    (Takes.of_laid hk hord tyC (by rw [Y.causeType]; rfl)) (Takes.of_laid hk hord tyS (by rw [Y.stackType]; exact fits_refV_array _ u0)) (Takes.of_laid hk hord tyP (by rw [Y.suppType]; exact fits_refV_object _ sen))
    (Takes.of_laid hk hord tyM (by rw [Y.msgType]; exact fits_refV_object _ ⟨msg, hmsg⟩)) Y.objLocals hskip htr [] hd6
    (by simp only [List.length_cons, hlen]; omega) (by simp only [List.length_cons, hlen]; exact hRlocals)
  have hlt : a < ((W.setVm vm₁).setVm vm₂).heap.size := (Array.getElem?_eq_some_iff.mp hcell).1
  refine ⟨(W.setVm vm₁).setVm vm₂, _, _, X₂, fun y hy => ?_, hlt, rfl, rfl, fun target hwalk => st1 _ (fun acts => ?_)⟩
  · simp only [List.mem_cons, List.not_mem_nil, or_false] at hy
    rcases hy with rfl | rfl | rfl | rfl | rfl <;> rfl
  · rw [doInvoke_state]
    exact st2 _ hwalk
set_option maxHeartbeats 1000000 in
theorem vx_ctorMade0 (X : Stand p l e R s m₀ args below meth c W locs cells slots) (hexec : p.tables.exec = Jvm.exec) (htr : e.platform.stackTraces = false) {own cls : String} {names : List String} {ic : Nat}
    (hown : s.vm.findClass own = some m₀.cls) (hcls : Bundle.fit cls = true) (hnames : ∀ n ∈ names, Bundle.fit n = true)
    (h : ∀ a ∈ Bundle.ownAtoms0 own ic cls names, a.before args s = true)
    (hlocs : ∀ x ∈ locs, ∀ cell, s.heap[x.base]? = some cell → cell.vm.isStatics = false)
    {a : Addr} {cX : ClassId} {kX : Class} (hfoundX : s.vm.findClass cls = some cX) (hkX : s.vm.classes[cX]? = some kX) (hcell : W.heap[a]? = some (freshCell cX kX)) (hnew : s.heap.size ≤ a)
    {g : JFrame} (hg : g.method = m₀) (hsize : g.locals.size = c.maxLocals) {rest : List Value} (hstack : g.stack = .ref a :: .ref a :: rest)
    (hd6 : decode c.code g.pc = .ok (.invokespecial ic, 3))
    (hRframes : names.length + 3 < R.frames) (hRlocals : 2 * g.monitorRoom + ((Value.ref a :: rest).map fun v => v.category).sum + (13 * (names.length + 1) + 41) ≤ R.locals) :
    ∃ (V : State) (ce : Cell) (L : List Loc), Stand p l e R s m₀ args below meth c (V.setCell a ce) (locs ++ L) cells slots ∧ (∀ y ∈ L, y.base = a) ∧ a < V.heap.size ∧ ce.cls = cX ∧ ce.vm = .none ∧
      ∀ target, Steps p.tables e below ((V.setCell a ce).setTop { g with stack := .ref a :: rest, pc := g.pc + 3 }) target → Steps p.tables e below (W.setTop g) target := by
  have howns : e.platform.frameOwnsMonitors = true := by rw [X.admits.platform]
  have hfin : e.platform.finalization = false := by rw [X.admits.platform]
  have hpl : e.platform.magicAccessors = ({} : Platform).magicAccessors := by rw [X.admits.platform]
  have a' : ∀ x, x ∈ Bundle.ownAtoms0 own ic cls names → x.holds args s none s [] = true := fun x hx => h x hx
  obtain ⟨T, Z, L, LZ, Y⟩ := ThrowableC.of_atoms (args := args) howns hfin hpl (fun x hx => h x (by simp [Bundle.ownAtoms0, hx]))
  obtain ⟨P1, Ps, hlen, L1, hL, hP1m, hlink1, hlink⟩ := Bundle.chain0 (args := args) hpl Y.init0 names cls hcls hnames (fun x hx => h x (by simp [Bundle.ownAtoms0, hx]))
  have hfound : s.vm.findClass cls = some P1.m.cls := findClass_of_methodNamed hP1m
  cases Option.some.inj (hfoundX.symm.trans hfound)
  obtain ⟨c1, kX', hc1, hk, hord, -, -, hn6⟩ := Cond.instantiable_spec (a' (.instantiable cls 6) (by simp [Bundle.ownAtoms0]))
  cases Option.some.inj (hc1.symm.trans hfound)
  cases Option.some.inj (hkX.symm.trans hk)
  have hsel0 : selectMethod e.platform s.vm P1.m.cls T.fill0 = .method T.fill0 := by
    obtain ⟨c2, r2, m2, q1, q2, q3, q4, -⟩ := Cond.selects_spec (a' (.selects cls Bundle.tFill0 Bundle.tFill0) (by simp [Bundle.ownAtoms0]))
    cases Option.some.inj (q1.symm.trans hfound)
    cases Option.some.inj (q2.symm.trans (State.methodFound?_of_named Y.fill0 (by decide)))
    cases Option.some.inj (q3.symm.trans Y.fill0)
    rw [Launch.admits_selectMethod X.admits]; exact q4
  have hselF : selectMethod e.platform s.vm P1.m.cls T.fill = .method T.fill := by
    obtain ⟨c2, r2, m2, q1, q2, q3, q4, -⟩ := Cond.selects_spec (a' (.selects cls Bundle.tFill Bundle.tFill) (by simp [Bundle.ownAtoms0]))
    cases Option.some.inj (q1.symm.trans hfound)
    cases Option.some.inj (q2.symm.trans (State.methodFound?_of_named Y.fill (by decide)))
    cases Option.some.inj (q3.symm.trans Y.fill)
    rw [Launch.admits_selectMethod X.admits]; exact q4
  obtain ⟨cellS0, hcS0, hiss⟩ := Y.statics
  obtain ⟨u0, hu0⟩ := Cond.staticRefV Y.unassigned L.unassignedStatic L.statics hcS0 hiss (a' (.isRef (.static Bundle.tN "UNASSIGNED_STACK" Bundle.steD)) (by simp [Bundle.ownAtoms0]))
  obtain ⟨sen, hsen⟩ := Cond.staticRefV Y.sentinel L.sentinelStatic L.statics hcS0 hiss (a' (.isRef (.static Bundle.tN "SUPPRESSED_SENTINEL" Bundle.listD)) (by simp [Bundle.ownAtoms0]))
  obtain ⟨ci198, i198, fB, hk198, hg198, ha198, hsB, -, hnB, htB, hffB⟩ := Cond.ownField (t := .object "java/lang/Object") Y.found L.cls (by decide +kernel) (a' (.fieldLink Bundle.tN 198 Bundle.tN "backtrace" "Ljava/lang/Object;") (by simp [Bundle.ownAtoms0])) (a' (.lays Bundle.tN Bundle.tN "backtrace" "Ljava/lang/Object;") (by simp [Bundle.ownAtoms0])) e.platform hpl
  obtain ⟨cellS, hcS', heS, -, hkeep⟩ := X.same.2.2.2.2.2 T.aS cellS0 hcS0
  have hcellS : W.heap[T.aS]? = some cellS := hcS'
  have hout' : ∀ i, (⟨T.aS, i⟩ : Loc) ∉ locs := fun i hmem => by
    have := hlocs _ hmem cellS0 hcS0
    rw [hiss] at this; cases this
  have hknownS : cellS.vm ≠ .unknown := by
    rw [heS]; intro hu
    rw [show cellS0.vm = .unknown from hu] at hiss
    cases hiss
  have hneS : T.aS ≠ a := Nat.ne_of_lt (Nat.lt_of_lt_of_le (Array.getElem?_eq_some_iff.mp hcS0).1 hnew)
  obtain ⟨iM, hffM⟩ := Y.msg
  obtain ⟨tyC, dC, hdC, hdnC⟩ := Cond.laysAt hfound hk Y.cause (a' (.lays cls Bundle.tN "cause" "Ljava/lang/Throwable;") (by simp [Bundle.ownAtoms0]))
  obtain ⟨tyS, dS, hdS, hdnS⟩ := Cond.laysAt hfound hk Y.stack (a' (.lays cls Bundle.tN "stackTrace" Bundle.steD) (by simp [Bundle.ownAtoms0]))
  obtain ⟨tyP, dP, hdP, hdnP⟩ := Cond.laysAt hfound hk Y.supp (a' (.lays cls Bundle.tN "suppressedExceptions" Bundle.listD) (by simp [Bundle.ownAtoms0]))
  obtain ⟨tyM, dM, hdM, hdnM⟩ := Cond.laysAt hfound hk hffM (a' (.lays cls Bundle.tN "detailMessage" "Ljava/lang/String;") (by simp [Bundle.ownAtoms0]))
  obtain ⟨tyB, dB, hdB, hdnB⟩ := Cond.laysAt hfound hk hffB (a' (.lays cls Bundle.tN "backtrace" "Ljava/lang/Object;") (by simp [Bundle.ownAtoms0]))
  have bC := Cond.laysApart hdB hdC hdnB hdnC (by rw [hnB, Y.causeName]; decide)
  have bS := Cond.laysApart hdB hdS hdnB hdnS (by rw [hnB, Y.stackName]; decide)
  have bP := Cond.laysApart hdB hdP hdnB hdnP (by rw [hnB, Y.suppName]; decide)
  have hskip : SkipFacts T e.platform s (fun u => u) u0 ((preparedCellV T.toThrowableT (freshCell P1.m.cls kX) a u0 sen).withEntry W.cur) :=
    ⟨{ ci198 := ci198, i198 := i198, fBack := fB }, ⟨hk198, hg198, ha198, hsB⟩, by
      have := fresh_default (c := P1.m.cls) tyB
      rw [htB] at this
      simpa [preparedCellV, Cell.setSlot, Cell.withEntry, Array.getElem?_setIfInBounds, bC, bS, bP, bC.symm, bS.symm, bP.symm, defaultValue] using this, fun _ _ => rfl⟩
  obtain ⟨tm, methC, cdC, kC, vm₁, hnC, -, -, -, -, -, -, -, hW₁, st1⟩ := Steps.initCold (tb := p.tables) (e := e) (below := below) (s := s) (U := W) X.here hexec X.warmed hpl hown (t := Bundle.init0 cls) rfl rfl (Bundle.fit_spec hcls).2
    (a' (.methodLink own ic (Bundle.init0 cls)) (by simp [Bundle.ownAtoms0])) (h (.instanceMethod (Bundle.init0 cls)) (by cases names <;> simp [Bundle.ownAtoms0, Bundle.chain0Atoms, Bundle.passAtoms])) (bytes := Bundle.five) (maxL := 1) (h (.code (Bundle.init0 cls) Bundle.five 1 none) (by cases names <;> simp [Bundle.ownAtoms0, Bundle.chain0Atoms, Bundle.passAtoms]))
    (f := g) hg (a := a) (rest := .ref a :: rest) hstack hd6
  cases Option.some.inj (hnC.symm.trans hP1m)
  have X₁ := X.noted hW₁
  obtain ⟨vm₂, X₂, st2⟩ := X₁.ctorPlainOffV hexec (g := { g with stack := .ref a :: rest }) hg hsize T L Z LZ (P1 :: Ps)
    (fun P hP => by rcases List.mem_cons.mp hP with rfl | hP; exact L1; exact hL P hP) ⟨hlink1, hlink⟩ (u0 := u0) (sen := sen) (self := a) (cell := freshCell P1.m.cls kX) (cellS := cellS)
    hcell (fun _ => by simp) (by simp) rfl rfl hsel0 hselF hcellS hneS hknownS (by rw [hkeep _ (hout' _)]; exact hu0) (by rw [hkeep _ (hout' _)]; exact hsen)
    (Takes.of_laid hk hord tyC (by rw [Y.causeType]; rfl)) (Takes.of_laid hk hord tyS (by rw [Y.stackType]; exact fits_refV_array _ u0)) (Takes.of_laid hk hord tyP (by rw [Y.suppType]; exact fits_refV_object _ sen)) Y.objLocals hskip htr [] hd6
    (by simp only [List.length_cons, hlen]; omega) (by simp only [List.length_cons, hlen]; exact hRlocals)
  have hlt : a < ((W.setVm vm₁).setVm vm₂).heap.size := (Array.getElem?_eq_some_iff.mp hcell).1
  refine ⟨(W.setVm vm₁).setVm vm₂, _, _, X₂, fun y hy => ?_, hlt, rfl, rfl, fun target hwalk => st1 _ (fun acts => ?_)⟩
  · simp only [List.mem_cons, List.not_mem_nil, or_false] at hy
    rcases hy with rfl | rfl | rfl | rfl <;> rfl
  · rw [doInvoke_state]
    exact st2 _ hwalk
end VXK
section VXK2
variable {p : Program} {l : Launch} {e : Env} {R : Room} {s : State} {m : MethodId} {args : Array Value} {below : List Frame} {meth : Method} {c : Code} {H : Heap} {locs : List Loc} {cells slots : Nat} {Q : State → Prop}
variable {ls : Array Slot} {rest : List Value} {D : va_G} {cl : List vw_C} {tys : List (ClassId × FieldType)} {ws : va_W}
/-- 'new E("text")' that isn't thrown at once: the object goes on the stack -/
theorem vx_makeS {cc : ByteArray} {pc : Nat} (hexec : p.tables.exec = Jvm.exec) (hb : c.code = cc) (hl : l.stackTraces = false) {own cls text : String} {names : List String} {ik is ic sa ci : Nat} {A : Nat → Prop} {T0 : u_T}
    (hown : s.vm.findClass own = some m.cls) (hcls : Bundle.fit cls = true) (hnames : ∀ n ∈ names, Bundle.fit n = true)
    (hk : (Cond.classLink own ik cls).before args s = true) (hini : (Cond.initialized cls).before args s = true) (hstr : vk_R own is text sa s) (hat : ∀ w ∈ vx_atS own ic cls names, w.before args s = true)
    (hgood : ∀ w ∈ Cond.classLink own ik cls :: Cond.initialized cls :: vx_atS own ic cls names, vx_ot w = true)
    (hU : vx_Zq Bundle.tN "UNASSIGNED_STACK" Bundle.steD A s s.heap) (hN : vx_Zq Bundle.tN "SUPPRESSED_SENTINEL" Bundle.listD A s s.heap) (hS : va_S A s.heap H locs) (hsize : ls.size = c.maxLocals)
    (d0 : decode cc pc = .ok (.new ik, 3)) (d3 : decode cc (pc + 3) = .ok (.dup, 1)) (d4 : decode cc (pc + 4) = .ok (.ldc is, 2)) (d6 : decode cc (pc + 6) = .ok (.invokespecial ic, 3))
    (hK : va_K D cl tys s) (hP : va_P D cl ws H) (hD : va_D A ws) (hA : ∀ q, s.heap.size ≤ q → A q) (hc : cl[ci]? = some (cls, T0, 0))
    (hRframes : names.length + 3 < R.frames) (hRlocals : (rest.map fun v => v.category).sum + (13 * (names.length + 1) + 43) ≤ R.locals) (hRcells : cells + 1 ≤ R.cells) (hRslots : slots + 6 ≤ R.slots)
    (kk : ∀ (q : Nat) (H1 : Heap), va_P D cl (ws ++ [(q, .inr (ci, []))]) H1 → va_D A (ws ++ [(q, .inr (ci, []))]) → va_S A s.heap H1 locs → W p l e R s m args below meth c H1 locs (cells + 1) (slots + 6) Q (F0 m (pc + 9) ls (.ref q :: rest))) :
    W p l e R s m args below meth c H locs cells slots Q (F0 m pc ls rest) := by
  intro T hT X
  subst hT
  have htr : e.platform.stackTraces = false := (show e.platform.stackTraces = l.stackTraces by rw [X.admits.platform]).trans hl
  have Y := vx_rebase X (R' := { frames := R.frames, locals := R.locals, cells := 1, slots := 6 }) (Nat.le_refl _) (Nat.le_refl _) hRcells hRslots
  obtain ⟨s', hA'⟩ : ∃ z, z = (T.setVm s.vm).setFrames (.invoking m args :: below) := ⟨_, rfl⟩
  rw [← hA'] at Y
  have hvm : s'.vm = s.vm := by rw [hA']; rfl
  have hhp : s'.heap = T.heap := by rw [hA']; rfl
  have hW0 : s.WarmedH s'.vm := by rw [hvm]; exact State.WarmedH.refl s
  have hat' : ∀ w ∈ vx_atS own ic cls names, w.before args s' = true := fun w hw => vx_ot_at hW0 hvm.symm (hgood w (List.mem_cons_of_mem _ (List.mem_cons_of_mem _ hw))) (hat w hw)
  have hk' : (Cond.classLink own ik cls).before args s' = true := vx_ot_at hW0 hvm.symm (hgood _ List.mem_cons_self) hk
  have hini' : (Cond.initialized cls).before args s' = true := vx_ot_at hW0 hvm.symm (hgood _ (List.mem_cons_of_mem _ List.mem_cons_self)) hini
  have hU' : vx_Zq Bundle.tN "UNASSIGNED_STACK" Bundle.steD A s' s'.heap := by rw [hhp]; exact vx_Zq.moved hW0.alike (hU.kept hS.2.1)
  have hN' : vx_Zq Bundle.tN "SUPPRESSED_SENTINEL" Bundle.listD A s' s'.heap := by rw [hhp]; exact vx_Zq.moved hW0.alike (hN.kept hS.2.1)
  have h : ∀ w ∈ Bundle.ownAtoms own ic cls names, w.before args s' = true := vx_own hat' (vx_isRefq hU'.1) (vx_isRefq hN'.1) hU'.2.word hN'.2.word
  have hown' : s'.vm.findClass own = some m.cls := by rw [hvm]; exact hown
  have hins : (Cond.instantiable cls 6).before args s' = true := h _ (by simp [Bundle.ownAtoms])
  obtain ⟨vm₁, cX, kX, hfX, hkX, -, -, X₁, st1⟩ := Y.newCold hexec (own := own) (C := cls) (index := ik) (n := 6) hown' hk' hins hini'
    (g := F0 m pc ls rest) rfl (by rw [hb]; exact d0) (Nat.le_refl _) (Nat.le_refl _)
  generalize hT1 : (T.setVm vm₁).pushCell { cls := cX, slots := kX.instanceTypes.map defaultValue, vm := .none } = T1 at X₁ st1
  have hcat : (Value.ref T.heap.size).category = 1 := rfl
  have hcellA : T1.heap[T.heap.size]? = some (freshCell cX kX) := by rw [← hT1]; exact State.heap_pushCell_size _ _
  have d3' : decode c.code (pc + 3) = .ok (.dup, 1) := by rw [hb]; exact d3
  have d4' : decode c.code (pc + 4) = .ok (.ldc is, 2) := by rw [hb]; exact d4
  have hstr' : vk_R own is text sa s' := vk_R.warm hW0 hstr
  obtain ⟨V, ce, L, Z, hL, hlt, hcl9, hvm9, st⟩ := vx_ctorMadeS X₁ hexec htr (own := own) (cls := cls) (names := names) (ic := ic) hown' hcls hnames h (fun x hx => nomatch hx) hfX hkX hcellA (by rw [hhp]; exact Nat.le_refl _) (msg := .ref sa) rfl
    (g := { method := m, pc := pc + 6, locals := ls, stack := .ref sa :: .ref T.heap.size :: .ref T.heap.size :: rest, locked := none }) rfl hsize (rest := rest) rfl
    (by rw [hb]; exact d6) hRframes (by simp only [List.map_cons, List.sum_cons, hcat]; omega)
  have Z0 := Stand.forget (locs := []) Z (fun y hy => by rw [hL y hy, hhp]; exact Nat.le_refl _)
  obtain ⟨f1, f2⟩ := vx_frame Z0.same
  rw [hhp] at f1 f2
  have hcid : ce.cls = D.1 ci := by
    rw [hcl9]
    have h1 := (hK.1 ci _ hc).2.1
    rw [hvm] at hfX
    exact Option.some.inj (hfX.symm.trans h1)
  have hh : (V.setCell T.heap.size ce).heap[T.heap.size]? = some ce := heapAt_setCell_self (s := V) ce hlt
  subst hA'
  have X5 := vx_back9 X Y Z0
  have X6 : Stand p l e R s m args below meth c (V.setCell T.heap.size ce) locs (cells + 1) (slots + 6) := { X5 with same := X5.same.mono (by omega) (by omega) }
  have hk9 : ∀ (k : Nat) (x : Nat × va_E), ws[k]? = some x → (V.setCell T.heap.size ce).heap[x.1]? = T.heap[x.1]? := fun k x hx => f2 x.1 ((hP k x hx).lt) (fun z hz => nomatch hz)
  obtain ⟨t, a1, b1⟩ := kk T.heap.size (V.setCell T.heap.size ce).heap ((hP.kept hk9).app (fun k x hx => by
      have hz : k < 1 := (List.getElem?_eq_some_iff.mp hx).1
      rw [show k = 0 by omega] at hx
      cases hx
      exact ⟨_, hc, ce, hh, hcid, hvm9, fun k hk => absurd hk (Nat.not_lt_zero k)⟩)) (hD.push hP rfl (hA _ hS.1)) ⟨Nat.le_trans hS.1 f1, fun q h1 h2 => (f2 q (Nat.lt_of_lt_of_le h1 hS.1) (fun z hz => nomatch hz)).trans (hS.2.1 q h1 h2), hS.2.2⟩ _ rfl X6
  refine ⟨t, st1 _ ?_, b1⟩
  show Steps p.tables e below (T1.setTop { method := m, pc := pc + 3, locals := ls, stack := .ref T.heap.size :: rest, locked := none }) _
  jvm_step X₁.here [X₁.here.top, hexec, d3', Value.category]
  exact X₁.ldcString hexec (own := own) (text := text) (index := is) (a := sa) hown' hstr'.1 hstr'.2
    (g := { method := m, pc := pc + 4, locals := ls, stack := .ref T.heap.size :: .ref T.heap.size :: rest, locked := none }) rfl d4' _ (st _ a1)
/-- 'new E()' that isn't thrown at once: the object goes on the stack -/
theorem vx_make0 {cc : ByteArray} {pc : Nat} (hexec : p.tables.exec = Jvm.exec) (hb : c.code = cc) (hl : l.stackTraces = false) {own cls : String} {names : List String} {ik ic ci : Nat} {A : Nat → Prop} {T0 : u_T}
    (hown : s.vm.findClass own = some m.cls) (hcls : Bundle.fit cls = true) (hnames : ∀ n ∈ names, Bundle.fit n = true)
    (hk : (Cond.classLink own ik cls).before args s = true) (hini : (Cond.initialized cls).before args s = true) (hat : ∀ w ∈ vx_at0 own ic cls names, w.before args s = true)
    (hgood : ∀ w ∈ Cond.classLink own ik cls :: Cond.initialized cls :: vx_at0 own ic cls names, vx_ot w = true)
    (hU : vx_Zq Bundle.tN "UNASSIGNED_STACK" Bundle.steD A s s.heap) (hN : vx_Zq Bundle.tN "SUPPRESSED_SENTINEL" Bundle.listD A s s.heap) (hS : va_S A s.heap H locs) (hsize : ls.size = c.maxLocals)
    (d0 : decode cc pc = .ok (.new ik, 3)) (d3 : decode cc (pc + 3) = .ok (.dup, 1)) (d4 : decode cc (pc + 4) = .ok (.invokespecial ic, 3))
    (hK : va_K D cl tys s) (hP : va_P D cl ws H) (hD : va_D A ws) (hA : ∀ q, s.heap.size ≤ q → A q) (hc : cl[ci]? = some (cls, T0, 0))
    (hRframes : names.length + 3 < R.frames) (hRlocals : (rest.map fun v => v.category).sum + (13 * (names.length + 1) + 42) ≤ R.locals) (hRcells : cells + 1 ≤ R.cells) (hRslots : slots + 6 ≤ R.slots)
    (kk : ∀ (q : Nat) (H1 : Heap), va_P D cl (ws ++ [(q, .inr (ci, []))]) H1 → va_D A (ws ++ [(q, .inr (ci, []))]) → va_S A s.heap H1 locs → W p l e R s m args below meth c H1 locs (cells + 1) (slots + 6) Q (F0 m (pc + 7) ls (.ref q :: rest))) :
    W p l e R s m args below meth c H locs cells slots Q (F0 m pc ls rest) := by
  intro T hT X
  subst hT
  have htr : e.platform.stackTraces = false := (show e.platform.stackTraces = l.stackTraces by rw [X.admits.platform]).trans hl
  have Y := vx_rebase X (R' := { frames := R.frames, locals := R.locals, cells := 1, slots := 6 }) (Nat.le_refl _) (Nat.le_refl _) hRcells hRslots
  obtain ⟨s', hA'⟩ : ∃ z, z = (T.setVm s.vm).setFrames (.invoking m args :: below) := ⟨_, rfl⟩
  rw [← hA'] at Y
  have hvm : s'.vm = s.vm := by rw [hA']; rfl
  have hhp : s'.heap = T.heap := by rw [hA']; rfl
  have hW0 : s.WarmedH s'.vm := by rw [hvm]; exact State.WarmedH.refl s
  have hat' : ∀ w ∈ vx_at0 own ic cls names, w.before args s' = true := fun w hw => vx_ot_at hW0 hvm.symm (hgood w (List.mem_cons_of_mem _ (List.mem_cons_of_mem _ hw))) (hat w hw)
  have hk' : (Cond.classLink own ik cls).before args s' = true := vx_ot_at hW0 hvm.symm (hgood _ List.mem_cons_self) hk
  have hini' : (Cond.initialized cls).before args s' = true := vx_ot_at hW0 hvm.symm (hgood _ (List.mem_cons_of_mem _ List.mem_cons_self)) hini
  have hU' : vx_Zq Bundle.tN "UNASSIGNED_STACK" Bundle.steD A s' s'.heap := by rw [hhp]; exact vx_Zq.moved hW0.alike (hU.kept hS.2.1)
  have hN' : vx_Zq Bundle.tN "SUPPRESSED_SENTINEL" Bundle.listD A s' s'.heap := by rw [hhp]; exact vx_Zq.moved hW0.alike (hN.kept hS.2.1)
  have h : ∀ w ∈ Bundle.ownAtoms0 own ic cls names, w.before args s' = true := vx_own hat' (vx_isRefq hU'.1) (vx_isRefq hN'.1) hU'.2.word hN'.2.word
  have hown' : s'.vm.findClass own = some m.cls := by rw [hvm]; exact hown
  have hins : (Cond.instantiable cls 6).before args s' = true := h _ (by simp [Bundle.ownAtoms0])
  obtain ⟨vm₁, cX, kX, hfX, hkX, -, -, X₁, st1⟩ := Y.newCold hexec (own := own) (C := cls) (index := ik) (n := 6) hown' hk' hins hini'
    (g := F0 m pc ls rest) rfl (by rw [hb]; exact d0) (Nat.le_refl _) (Nat.le_refl _)
  generalize hT1 : (T.setVm vm₁).pushCell { cls := cX, slots := kX.instanceTypes.map defaultValue, vm := .none } = T1 at X₁ st1
  have hcat : (Value.ref T.heap.size).category = 1 := rfl
  have hcellA : T1.heap[T.heap.size]? = some (freshCell cX kX) := by rw [← hT1]; exact State.heap_pushCell_size _ _
  have d3' : decode c.code (pc + 3) = .ok (.dup, 1) := by rw [hb]; exact d3
  obtain ⟨V, ce, L, Z, hL, hlt, hcl9, hvm9, st⟩ := vx_ctorMade0 X₁ hexec htr (own := own) (cls := cls) (names := names) (ic := ic) hown' hcls hnames h (fun x hx => nomatch hx) hfX hkX hcellA (by rw [hhp]; exact Nat.le_refl _)
    (g := { method := m, pc := pc + 4, locals := ls, stack := .ref T.heap.size :: .ref T.heap.size :: rest, locked := none }) rfl hsize (rest := rest) rfl
    (by rw [hb]; exact d4) hRframes (by simp only [List.map_cons, List.sum_cons, hcat]; omega)
  have Z0 := Stand.forget (locs := []) Z (fun y hy => by rw [hL y hy, hhp]; exact Nat.le_refl _)
  obtain ⟨f1, f2⟩ := vx_frame Z0.same
  rw [hhp] at f1 f2
  have hcid : ce.cls = D.1 ci := by
    rw [hcl9]
    have h1 := (hK.1 ci _ hc).2.1
    rw [hvm] at hfX
    exact Option.some.inj (hfX.symm.trans h1)
  have hh : (V.setCell T.heap.size ce).heap[T.heap.size]? = some ce := heapAt_setCell_self (s := V) ce hlt
  subst hA'
  have X5 := vx_back9 X Y Z0
  have X6 : Stand p l e R s m args below meth c (V.setCell T.heap.size ce) locs (cells + 1) (slots + 6) := { X5 with same := X5.same.mono (by omega) (by omega) }
  have hk9 : ∀ (k : Nat) (x : Nat × va_E), ws[k]? = some x → (V.setCell T.heap.size ce).heap[x.1]? = T.heap[x.1]? := fun k x hx => f2 x.1 ((hP k x hx).lt) (fun z hz => nomatch hz)
  obtain ⟨t, a1, b1⟩ := kk T.heap.size (V.setCell T.heap.size ce).heap ((hP.kept hk9).app (fun k x hx => by
      have hz : k < 1 := (List.getElem?_eq_some_iff.mp hx).1
      rw [show k = 0 by omega] at hx
      cases hx
      exact ⟨_, hc, ce, hh, hcid, hvm9, fun k hk => absurd hk (Nat.not_lt_zero k)⟩)) (hD.push hP rfl (hA _ hS.1)) ⟨Nat.le_trans hS.1 f1, fun q h1 h2 => (f2 q (Nat.lt_of_lt_of_le h1 hS.1) (fun z hz => nomatch hz)).trans (hS.2.1 q h1 h2), hS.2.2⟩ _ rfl X6
  refine ⟨t, st1 _ ?_, b1⟩
  show Steps p.tables e below (T1.setTop { method := m, pc := pc + 3, locals := ls, stack := .ref T.heap.size :: rest, locked := none }) _
  jvm_step X₁.here [X₁.here.top, hexec, d3', Value.category]
  exact st _ a1
/-- 'throw x' of an object that was made before -/
theorem vx_athrow {cc : ByteArray} {pc : Nat} (hexec : p.tables.exec = Jvm.exec) (hb : c.code = cc) {q : Addr} (hdg : decode cc pc = .ok (.athrow, 1)) (k : vx_W p l e R s m args below meth c H locs cells slots Q (F0 m pc ls rest) q) : W p l e R s m args below meth c H locs cells slots Q (F0 m pc ls (.ref q :: rest)) := by
  intro T hT X
  obtain ⟨t, st, hq⟩ := k T hT X
  refine ⟨t, ?_, hq⟩
  have hdg' : decode c.code pc = .ok (.athrow, 1) := by rw [hb]; exact hdg
  jvm_step X.here [X.here.top, hexec, hdg', athrow.wp_sem]
  exact st
end VXK2
/-! ===== END ===== -/
/-! ===== BEGIN a constructor that throws (launches without stack traces) ===== -/
section VXIA
variable {p : Program} {l : Launch} {e : Env} {R : Room} {s : State} {m : MethodId} {args : Array Value} {below : List Frame} {meth : Method} {c : Code} {T : State} {locs : List Loc} {cells slots : Nat}
theorem vx_callI (X : Stand p l e R s m args below meth c T locs cells slots) (hexec : p.tables.exec = Jvm.exec) {own : String} {index : Nat} {y : MethodName} {bytes : ByteArray} {maxL : Nat}
    (hown : s.vm.findClass own = some m.cls) (hy1 : y.name = "<init>") (hlink : (Cond.methodLink own index y).before args s = true) (hinst : (Cond.instanceMethod y).before args s = true)
    (hcode : (Cond.code y bytes maxL none).before args s = true) (hy : y.cls ≠ "java/lang/invoke/MethodHandle" ∧ y.cls ≠ "java/lang/invoke/VarHandle")
    {W9 : Nat} {Pre : Pt → Array Value → Prop} {Post : Pt → Array Value → Option Value → Pt → Prop} {PostX : Pt → Array Value → Addr → Pt → Prop} (hK : vx_Back l R p e below s args y 3 W9 Pre Post PostX)
    {g : JFrame} (hg : g.method = m) (hsize : g.locals.size = c.maxLocals) {a : Addr} {argsL rest : List Value} (hlen : ∀ sig, parseMethodDescriptor y.desc = some sig → argsL.length = sig.parameters.length)
    (hstack : g.stack = argsL.reverse ++ .ref a :: rest) (hW : 2 * g.monitorRoom + (rest.map fun v => v.category).sum ≤ W9) (hdg : decode c.code g.pc = .ok (.invokespecial index, 3))
    (hpre : ∀ vm₁, s.WarmedH vm₁ → Pre ⟨T.setVm vm₁, locs, cells, slots⟩ (Value.ref a :: argsL).toArray) :
    (∃ (v : Option Value) (vm₁ : Vm) (B : Pt), s.WarmedH vm₁ ∧ Stand p l e R s m args below meth c B.U B.locs B.cells B.slots ∧ Post ⟨T.setVm vm₁, locs, cells, slots⟩ (Value.ref a :: argsL).toArray v B ∧
      ∀ target, Steps p.tables e below (B.U.setTop { g with pc := g.pc + 3, stack := v.toList ++ rest }) target → Steps p.tables e below (T.setTop g) target) ∨
    (∃ (q : Addr) (vm₁ : Vm) (B : Pt), s.WarmedH vm₁ ∧ Stand p l e R s m args below meth c B.U B.locs B.cells B.slots ∧ PostX ⟨T.setVm vm₁, locs, cells, slots⟩ (Value.ref a :: argsL).toArray q B ∧
      Steps p.tables e below (T.setTop g) ((B.U.setTop { g with stack := rest }).pushFrame (.throwing q))) := by
  subst hg
  have hpl : e.platform.magicAccessors = ({} : Platform).magicAccessors := by rw [X.admits.platform]
  obtain ⟨mk, methM, cM, kP, vm₁, hnamed, hmethM, hcodeM, -, hlocalsM, -, hkP, -, hW₁, hstep₁⟩ := Steps.initColdArgs (e := e) X.here hexec X.warmed hpl hown hy1 hy hlink hinst hcode (f := g) rfl hlen hstack hdg
  have X₁ := X.noted hW₁
  rcases hK g.method meth c ⟨T.setVm vm₁, locs, cells, slots⟩ { g with stack := rest } (.invokespecial index) mk (Value.ref a :: argsL).toArray X₁ rfl hsize hdg hW (X₁.named hnamed) (hpre vm₁ X₁.warmed) with ⟨v, B, X', hpost, hsteps⟩ | ⟨q, B, X', hpost, hsteps⟩
  · exact Or.inl ⟨v, vm₁, B, X₁.warmed, X', hpost, fun target h => hstep₁ _ fun acts => by rw [doInvoke_state]; exact hsteps.trans h⟩
  · exact Or.inr ⟨q, vm₁, B, X₁.warmed, X', hpost, hstep₁ _ fun acts => by rw [doInvoke_state]; exact hsteps⟩
end VXIA
section VXIB
variable {p : Program} {l : Launch} {e : Env} {R : Room} {s : State} {m : MethodId} {args : Array Value} {below : List Frame} {meth : Method} {c : Code} {H : Heap} {locs : List Loc} {cells slots : Nat}
variable {y : MethodName} {bytes cc : ByteArray} {maxL nL mc ms n index : Nat} {ret : Option FieldType} {ws : List Cond} {rm : Room} {Pc : Array Value → State → Prop} {Qc : Array Value → State → Outcome → State → Prop} {XC : String → State → State → Prop} {free : Addr → Prop} {Ts : List Cond} {own C : String} {b : Addr} {As rest : List Value} {g : JFrame}
theorem vx_runI (S : CallFix p m c cc nL s args Ts own) (hM : vx_Met l y ws rm Pc Qc XC mc ms free) (cw : CallB R s args own index y bytes maxL none ws rm mc ms n ∧ y.name = "<init>" ∧ (Cond.instanceMethod y).before args s = true) (hp : PreS s H Pc (.ref b :: As))
    (hg : g.method = m) (hn : As.length = n) (hsize : g.locals.size = nL) (hstack : g.stack = As.reverse ++ .ref b :: rest) (hW : 2 * g.monitorRoom + (rest.map fun v => v.category).sum ≤ 8) (hdg : decode cc g.pc = .ok (.invokespecial index, 3)) (hf : cells + mc ≤ R.cells ∧ slots + ms ≤ R.slots) :
    vx_Run p l e R s m args below meth c H locs cells slots mc ms g rest (Qc (Value.ref b :: As).toArray) XC free := by
  have hK : vx_Back l R p e below s args y 3 8 (PreOf R mc ms Pc) (PostOf Qc mc ms free) (vx_Post XC mc ms free) := vx_callBack cw.1 hM hp.1
  obtain ⟨⟨-, -, -, -, -, -, hcode, -, hy, hlen, hl⟩, hy1, hin⟩ := cw
  obtain ⟨hx, hb, hml, ho, -⟩ := S
  have hPc := hp.2
  intro T hT X
  rcases vx_callI X hx (bytes := bytes) (maxL := maxL) ho hy1 hl hin hcode hy hK hg (hsize.trans hml.symm) (a := b) (argsL := As) (rest := rest) (fun sig h => hn.trans (hlen sig h)) hstack hW (by rw [hb]; exact hdg)
    (fun vm₁ hW₁ => ⟨hf.1, hf.2, hPc (T.setVm vm₁) hT hW₁⟩) with ⟨v, vm₁, ⟨U', l2, c2, s2⟩, hW₁, X', ⟨g', mk, t, L, e1, e2, hq, h1, hL, h2, h3⟩, st⟩ | ⟨q, vm₁, ⟨U', l2, c2, s2⟩, hW₁, X', ⟨g', mk, t, L, E, ce, e1, e2, hq, hce, hcv, hcl, h1, hL, h2, h3⟩, st⟩
  · dsimp only [Pt.U, Pt.locs, Pt.cells, Pt.slots] at X' e1 e2 h1 h2 h3 st
    subst h1; subst h2; subst h3
    exact Or.inl ⟨v, (T.setVm vm₁).calling g' mk (Value.ref b :: As).toArray, t, U', L, hT, X', hL, e1, e2, hq, st⟩
  · dsimp only [Pt.U, Pt.locs, Pt.cells, Pt.slots] at X' e1 e2 h1 h2 h3 st hcl
    subst h1; subst h2; subst h3
    exact Or.inr ⟨q, (T.setVm vm₁).calling g' mk (Value.ref b :: As).toArray, t, U', L, E, ce, hT, X', hL, e1, e2, hq, hce, hcv, vx_cls hW₁ hcl, st⟩
end VXIB
/-! ===== END ===== -/
/-! ===== BEGIN a private constructor of a nest mate that throws ===== -/
section VXIC
variable {p : Program} {l : Launch} {e : Env} {R : Room} {s : State} {m : MethodId} {args : Array Value} {below : List Frame} {meth : Method} {c : Code} {T : State} {locs : List Loc} {cells slots : Nat}
theorem vx_callIN (X : Stand p l e R s m args below meth c T locs cells slots) (hexec : p.tables.exec = Jvm.exec) {own : String} {index : Nat} {host : String} {y : MethodName} {bytes : ByteArray} {maxL : Nat}
    (hown : s.vm.findClass own = some m.cls) (hy1 : y.name = "<init>") (hlink : (Cond.methodLinkNest own index y host).before args s = true) (hinst : (Cond.instanceMethod y).before args s = true)
    (hcode : (Cond.code y bytes maxL none).before args s = true) (hy : y.cls ≠ "java/lang/invoke/MethodHandle" ∧ y.cls ≠ "java/lang/invoke/VarHandle")
    {W9 : Nat} {Pre : Pt → Array Value → Prop} {Post : Pt → Array Value → Option Value → Pt → Prop} {PostX : Pt → Array Value → Addr → Pt → Prop} (hK : vx_Back l R p e below s args y 3 W9 Pre Post PostX)
    {g : JFrame} (hg : g.method = m) (hsize : g.locals.size = c.maxLocals) {a : Addr} {argsL rest : List Value} (hlen : ∀ sig, parseMethodDescriptor y.desc = some sig → argsL.length = sig.parameters.length)
    (hstack : g.stack = argsL.reverse ++ .ref a :: rest) (hW : 2 * g.monitorRoom + (rest.map fun v => v.category).sum ≤ W9) (hdg : decode c.code g.pc = .ok (.invokespecial index, 3))
    (hpre : ∀ vm₁, s.WarmedH vm₁ → Pre ⟨T.setVm vm₁, locs, cells, slots⟩ (Value.ref a :: argsL).toArray) :
    (∃ (v : Option Value) (vm₁ : Vm) (B : Pt), s.WarmedH vm₁ ∧ Stand p l e R s m args below meth c B.U B.locs B.cells B.slots ∧ Post ⟨T.setVm vm₁, locs, cells, slots⟩ (Value.ref a :: argsL).toArray v B ∧
      ∀ target, Steps p.tables e below (B.U.setTop { g with pc := g.pc + 3, stack := v.toList ++ rest }) target → Steps p.tables e below (T.setTop g) target) ∨
    (∃ (q : Addr) (vm₁ : Vm) (B : Pt), s.WarmedH vm₁ ∧ Stand p l e R s m args below meth c B.U B.locs B.cells B.slots ∧ PostX ⟨T.setVm vm₁, locs, cells, slots⟩ (Value.ref a :: argsL).toArray q B ∧
      Steps p.tables e below (T.setTop g) ((B.U.setTop { g with stack := rest }).pushFrame (.throwing q))) := by
  subst hg
  have hpl : e.platform.magicAccessors = ({} : Platform).magicAccessors := by rw [X.admits.platform]
  obtain ⟨mk, methM, cM, kP, vm₁, hnamed, hmethM, hcodeM, -, hlocalsM, -, hkP, -, hW₁, hstep₁⟩ := Steps.initColdArgsNest (e := e) X.here hexec X.warmed hpl hown hy1 hy hlink hinst hcode (f := g) rfl hlen hstack hdg
  have X₁ := X.noted hW₁
  rcases hK g.method meth c ⟨T.setVm vm₁, locs, cells, slots⟩ { g with stack := rest } (.invokespecial index) mk (Value.ref a :: argsL).toArray X₁ rfl hsize hdg hW (X₁.named hnamed) (hpre vm₁ X₁.warmed) with ⟨v, B, X', hpost, hsteps⟩ | ⟨q, B, X', hpost, hsteps⟩
  · exact Or.inl ⟨v, vm₁, B, X₁.warmed, X', hpost, fun target h => hstep₁ _ fun acts => by rw [doInvoke_state]; exact hsteps.trans h⟩
  · exact Or.inr ⟨q, vm₁, B, X₁.warmed, X', hpost, hstep₁ _ fun acts => by rw [doInvoke_state]; exact hsteps⟩
end VXIC
section VXID
variable {p : Program} {l : Launch} {e : Env} {R : Room} {s : State} {m : MethodId} {args : Array Value} {below : List Frame} {meth : Method} {c : Code} {H : Heap} {locs : List Loc} {cells slots : Nat}
theorem vx_runIN {y : MethodName} {bytes cc : ByteArray} {maxL nL mc ms n index : Nat} {ws : List Cond} {rm : Room} {Pc : Array Value → State → Prop} {Qc : Array Value → State → Outcome → State → Prop} {XC : String → State → State → Prop} {free : Addr → Prop} {Ts : List Cond} {own host : String} {b : Addr} {As rest : List Value} {g : JFrame}
    (S : CallFix p m c cc nL s args Ts own) (hM : vx_Met l y ws rm Pc Qc XC mc ms free) (cw : va_CN R s args own index y host bytes maxL none ws rm mc ms n ∧ y.name = "<init>" ∧ (Cond.instanceMethod y).before args s = true) (hp : PreS s H Pc (.ref b :: As))
    (hg : g.method = m) (hn : As.length = n) (hsize : g.locals.size = nL) (hstack : g.stack = As.reverse ++ .ref b :: rest) (hW : 2 * g.monitorRoom + (rest.map fun v => v.category).sum ≤ 8) (hdg : decode cc g.pc = .ok (.invokespecial index, 3)) (hf : cells + mc ≤ R.cells ∧ slots + ms ≤ R.slots) :
    vx_Run p l e R s m args below meth c H locs cells slots mc ms g rest (Qc (Value.ref b :: As).toArray) XC free := by
  obtain ⟨⟨⟨hrc, hrs, hfr, hlo, hws, hcw⟩, hcode, hini, hy, hlen, hl⟩, hx1, hx2⟩ := cw
  have hK : vx_Back l R p e below s args y 3 8 (PreOf R mc ms Pc) (PostOf Qc mc ms free) (vx_Post XC mc ms free) := vx_back (bytes := bytes) (maxL := maxL) (ret := none) hM hp.1 hrc hrs hfr hlo hws hcw (fun a' U hW => word_at hW (Or.inl (by first | rfl | simp [Cond.onTables, Cond.keeps, Cond.steady])) hini)
  obtain ⟨hx, hb, hml, ho, -⟩ := S
  have hPc := hp.2
  intro T hT X
  rcases vx_callIN X hx (bytes := bytes) (maxL := maxL) ho hx1 hl hx2 hcode hy hK hg (hsize.trans hml.symm) (a := b) (argsL := As) (rest := rest) (fun sig h => hn.trans (hlen sig h)) hstack hW (by rw [hb]; exact hdg)
    (fun vm₁ hW₁ => ⟨hf.1, hf.2, hPc (T.setVm vm₁) hT hW₁⟩) with ⟨v, vm₁, ⟨U', l2, c2, s2⟩, hW₁, X', ⟨g', mk, t, L, e1, e2, hq, h1, hL, h2, h3⟩, st⟩ | ⟨q, vm₁, ⟨U', l2, c2, s2⟩, hW₁, X', ⟨g', mk, t, L, E, ce, e1, e2, hq, hce, hcv, hcl, h1, hL, h2, h3⟩, st⟩
  · dsimp only [Pt.U, Pt.locs, Pt.cells, Pt.slots] at X' e1 e2 h1 h2 h3 st
    subst h1; subst h2; subst h3
    exact Or.inl ⟨v, (T.setVm vm₁).calling g' mk (Value.ref b :: As).toArray, t, U', L, hT, X', hL, e1, e2, hq, st⟩
  · dsimp only [Pt.U, Pt.locs, Pt.cells, Pt.slots] at X' e1 e2 h1 h2 h3 st hcl
    subst h1; subst h2; subst h3
    exact Or.inr ⟨q, (T.setVm vm₁).calling g' mk (Value.ref b :: As).toArray, t, U', L, E, ce, hT, X', hL, e1, e2, hq, hce, hcv, vx_cls hW₁ hcl, st⟩
end VXID
/-! ===== END ===== -/
/-! ===== BEGIN a method of a class above, found by the receiver, that may throw (follows va_callVU, va_runU of this kit) ===== -/
section
variable {p : Program} {l : Launch} {e : Env} {R : Room} {s : State} {m : MethodId} {args : Array Value} {below : List Frame} {meth : Method} {c : Code} {H : Heap} {locs : List Loc} {cells slots : Nat}
theorem vx_callVU {T : State} {locs : List Loc} {cells slots : Nat} (X : Stand p l e R s m args below meth c T locs cells slots) (hexec : p.tables.exec = Jvm.exec) {own C owner : String} {index : Nat} {x y : MethodName} {bytes : ByteArray} {maxL : Nat} {ret : Option FieldType}
    (hown : s.vm.findClass own = some m.cls) (hlink : (Cond.methodLink own index x).before args s = true) (hsame : (Cond.sameMethod x.cls owner x.name x.desc).before args s = true)
    (hd0 : va_Decl s ⟨owner, x.name, x.desc⟩) (howner : owner ≠ "java/lang/invoke/MethodHandle" ∧ owner ≠ "java/lang/invoke/VarHandle")
    (hsel : (Cond.selects C x y).before args s = true) (hinst : (Cond.instanceMethod y).before args s = true) (hcode : (Cond.code y bytes maxL ret).before args s = true)
    {W : Nat} {Pre : Pt → Array Value → Prop} {Post : Pt → Array Value → Option Value → Pt → Prop} {PostX : Pt → Array Value → Addr → Pt → Prop} (hK : vx_Back l R p e below s args y 3 W Pre Post PostX)
    {b : Addr} {cellB : Cell} (hcell : T.heap[b]? = some cellB) (hobj : cellB.vm.isStatics = false) (hcls : s.vm.findClass C = some cellB.cls)
    {g : JFrame} (hg : g.method = m) (hsize : g.locals.size = c.maxLocals) {argsL rest : List Value} (hlen : ∀ sig, parseMethodDescriptor x.desc = some sig → argsL.length = sig.parameters.length)
    (hstack : g.stack = argsL.reverse ++ .ref b :: rest) (hW : 2 * g.monitorRoom + (rest.map fun v => v.category).sum ≤ W) (hdg : decode c.code g.pc = .ok (.invokevirtual index, 3))
    (hpre : ∀ vm₁, s.WarmedH vm₁ → Pre ⟨T.setVm vm₁, locs, cells, slots⟩ (Value.ref b :: argsL).toArray) :
    (∃ (v : Option Value) (vm₁ : Vm) (B : Pt), s.WarmedH vm₁ ∧ Stand p l e R s m args below meth c B.U B.locs B.cells B.slots ∧ Post ⟨T.setVm vm₁, locs, cells, slots⟩ (Value.ref b :: argsL).toArray v B ∧
      ∀ target, Steps p.tables e below (B.U.setTop { g with pc := g.pc + 3, stack := v.toList ++ rest }) target → Steps p.tables e below (T.setTop g) target) ∨
    (∃ (q : Addr) (vm₁ : Vm) (B : Pt), s.WarmedH vm₁ ∧ Stand p l e R s m args below meth c B.U B.locs B.cells B.slots ∧ PostX ⟨T.setVm vm₁, locs, cells, slots⟩ (Value.ref b :: argsL).toArray q B ∧
      Steps p.tables e below (T.setTop g) ((B.U.setTop { g with stack := rest }).pushFrame (.throwing q))) := by
  obtain ⟨r0, r, hn, hrm, hstR, hsigR⟩ := hd0
  obtain ⟨cn, ck, r1, hcn, hck, hni, hf, hn1⟩ := Cond.sameMethod_found hsame
  cases hn.symm.trans hn1
  obtain ⟨mk, methM, hnamed, hmethM, -, habM⟩ := Cond.instanceMethod_spec hinst
  obtain ⟨c2, r2, m2, q1, q2, q3, q4, kP, hkP, hkPi⟩ := Cond.selects_spec hsel
  cases hcls.symm.trans q1
  cases hf.symm.trans q2
  cases hnamed.symm.trans q3
  have hselP : selectMethod e.platform s.vm cellB.cls r0 = .method mk := by rw [Launch.admits_selectMethod X.admits]; exact q4
  obtain ⟨vm₁, X₁, hstep₁⟩ := X.invokevirtualUp hexec hown hlink hsame howner hn hrm hstR (a := b) (cell := cellB) hcell
    (fun z h => by rw [h] at hobj; cases hobj) hselP hmethM habM hkP hkPi (g := g) hg (argsL := argsL) (rest := rest) (hlen _ hsigR) hstack hdg
  rcases hK m meth c ⟨T.setVm vm₁, locs, cells, slots⟩ { g with stack := rest } (.invokevirtual index) mk (Value.ref b :: argsL).toArray X₁ hg hsize hdg hW (X₁.named hnamed) (hpre vm₁ X₁.warmed) with ⟨v, B, X', hpost, hsteps⟩ | ⟨q, B, X', hpost, hsteps⟩
  · exact Or.inl ⟨v, vm₁, B, X₁.warmed, X', hpost, fun target h => hstep₁ _ fun acts => by rw [doInvoke_state]; exact hsteps.trans h⟩
  · exact Or.inr ⟨q, vm₁, B, X₁.warmed, X', hpost, hstep₁ _ fun acts => by rw [doInvoke_state]; exact hsteps⟩
theorem vx_runU {x y : MethodName} {bytes cc : ByteArray} {maxL nL mc ms n index : Nat} {ret : Option FieldType} {ws : List Cond} {rm : Room} {Pc : Array Value → State → Prop} {Qc : Array Value → State → Outcome → State → Prop} {XC : String → State → State → Prop} {free : Addr → Prop} {Ts : List Cond} {own C owner : String} {b : Addr} {As rest : List Value} {g : JFrame}
    (S : CallFix p m c cc nL s args Ts own) (hM : vx_Met l y ws rm Pc Qc XC mc ms free) (cw : va_CU R s args own C owner index x y bytes maxL ret ws rm mc ms n) (hp : PreV s H C b Pc As)
    (hg : g.method = m) (hn : As.length = n) (hsize : g.locals.size = nL) (hstack : g.stack = As.reverse ++ .ref b :: rest) (hW : 2 * g.monitorRoom + (rest.map fun v => v.category).sum ≤ 8) (hdg : decode cc g.pc = .ok (.invokevirtual index, 3)) (hf : cells + mc ≤ R.cells ∧ slots + ms ≤ R.slots) :
    vx_Run p l e R s m args below meth c H locs cells slots mc ms g rest (Qc (Value.ref b :: As).toArray) XC free := by
  obtain ⟨hrc, hrs, hfr, hlo, hws, hcw⟩ := cw.back
  have hini := cw.init
  have hK : vx_Back l R p e below s args y 3 8 (PreOf R mc ms Pc) (PostOf Qc mc ms free) (vx_Post XC mc ms free) := vx_back (bytes := bytes) (maxL := maxL) (ret := ret) hM hp.1 hrc hrs hfr hlo hws hcw (fun a' U hW => word_at hW (Or.inl (by first | rfl | simp [Cond.onTables, Cond.keeps, Cond.steady])) hini)
  obtain ⟨hx, hb, hml, ho, -⟩ := S
  obtain ⟨-, ⟨cellB, hcB, hoB, hclB⟩, hPc⟩ := hp
  intro T hT X
  rcases vx_callVU X hx (C := C) (owner := owner) (bytes := bytes) (maxL := maxL) (ret := ret) ho cw.link cw.same cw.decl cw.notMH cw.sel cw.inst cw.code hK (by rw [hT]; exact hcB) hoB hclB hg (hsize.trans hml.symm) (argsL := As) (rest := rest) (fun sig h => hn.trans (cw.len sig h)) hstack hW (by rw [hb]; exact hdg)
    (fun vm₁ hW₁ => ⟨hf.1, hf.2, hPc (T.setVm vm₁) hT hW₁⟩) with ⟨v, vm₁, ⟨U', l2, c2, s2⟩, hW₁, X', ⟨g', mk, t, L, e1, e2, hq, h1, hL, h2, h3⟩, st⟩ | ⟨q, vm₁, ⟨U', l2, c2, s2⟩, hW₁, X', ⟨g', mk, t, L, E, ce, e1, e2, hq, hce, hcv, hcl, h1, hL, h2, h3⟩, st⟩
  · dsimp only [Pt.U, Pt.locs, Pt.cells, Pt.slots] at X' e1 e2 h1 h2 h3 st
    subst h1; subst h2; subst h3
    exact Or.inl ⟨v, (T.setVm vm₁).calling g' mk (Value.ref b :: As).toArray, t, U', L, hT, X', hL, e1, e2, hq, st⟩
  · dsimp only [Pt.U, Pt.locs, Pt.cells, Pt.slots] at X' e1 e2 h1 h2 h3 st hcl
    subst h1; subst h2; subst h3
    exact Or.inr ⟨q, (T.setVm vm₁).calling g' mk (Value.ref b :: As).toArray, t, U', L, E, ce, hT, X', hL, e1, e2, hq, hce, hcv, vx_cls hW₁ hcl, st⟩
end
/-! ===== END ===== -/
/-! ===== BEGIN super.m(..) that may throw (follows va_callSU, va_runSU) ===== -/
section
variable {p : Program} {l : Launch} {e : Env} {R : Room} {s : State} {m : MethodId} {args : Array Value} {below : List Frame} {meth : Method} {c : Code} {H : Heap} {locs : List Loc} {cells slots : Nat}
theorem vx_callSU {T : State} {locs : List Loc} {cells slots : Nat} (X : Stand p l e R s m args below meth c T locs cells slots) (hexec : p.tables.exec = Jvm.exec) {own : String} {index : Nat} {y : MethodName} {bytes : ByteArray} {maxL : Nat} {ret : Option FieldType}
    (hown : s.vm.findClass own = some m.cls) (hlink : (Cond.methodLink own index y).before args s = true) (hsame : (Cond.sameMethod y.cls y.cls y.name y.desc).before args s = true) (hsup : (Cond.superclass own y.cls).before args s = true)
    (hinst : (Cond.instanceMethod y).before args s = true) (hcode : (Cond.code y bytes maxL ret).before args s = true) (hno : y.name ≠ "<init>")
    {W : Nat} {Pre : Pt → Array Value → Prop} {Post : Pt → Array Value → Option Value → Pt → Prop} {PostX : Pt → Array Value → Addr → Pt → Prop} (hK : vx_Back l R p e below s args y 3 W Pre Post PostX)
    {b : Addr} {cellB : Cell} {kB : Class} (hcell : T.heap[b]? = some cellB) (hobj : cellB.vm.isStatics = false) (hkB : s.vm.classes[cellB.cls]? = some kB)
    {g : JFrame} (hg : g.method = m) (hsize : g.locals.size = c.maxLocals) {argsL rest : List Value} (hlen : ∀ sig, parseMethodDescriptor y.desc = some sig → argsL.length = sig.parameters.length)
    (hstack : g.stack = argsL.reverse ++ .ref b :: rest) (hW : 2 * g.monitorRoom + (rest.map fun v => v.category).sum ≤ W) (hdg : decode c.code g.pc = .ok (.invokespecial index, 3))
    (hpre : ∀ vm₁, s.WarmedH vm₁ → Pre ⟨T.setVm vm₁, locs, cells, slots⟩ (Value.ref b :: argsL).toArray) :
    (∃ (v : Option Value) (vm₁ : Vm) (B : Pt), s.WarmedH vm₁ ∧ Stand p l e R s m args below meth c B.U B.locs B.cells B.slots ∧ Post ⟨T.setVm vm₁, locs, cells, slots⟩ (Value.ref b :: argsL).toArray v B ∧
      ∀ target, Steps p.tables e below (B.U.setTop { g with pc := g.pc + 3, stack := v.toList ++ rest }) target → Steps p.tables e below (T.setTop g) target) ∨
    (∃ (q : Addr) (vm₁ : Vm) (B : Pt), s.WarmedH vm₁ ∧ Stand p l e R s m args below meth c B.U B.locs B.cells B.slots ∧ PostX ⟨T.setVm vm₁, locs, cells, slots⟩ (Value.ref b :: argsL).toArray q B ∧
      Steps p.tables e below (T.setTop g) ((B.U.setTop { g with stack := rest }).pushFrame (.throwing q))) := by
  obtain ⟨mk, methM, hnamed, hmethM, hstM, habM⟩ := Cond.instanceMethod_spec hinst
  obtain ⟨methM', cM, hmethM', -, -, -, -, -, -, hsigM⟩ := Cond.code_spec hnamed hcode
  cases hmethM.symm.trans hmethM'
  obtain ⟨ps, dk, kp, hps, hdk, hkp, hsuper, -, -, hnid⟩ := Cond.superclass_spec hown hsup
  have hn : s.methodNamed? ⟨y.cls, y.name, y.desc⟩ = some mk := hnamed
  have hpm : ps = mk.cls := Option.some.inj (hps.symm.trans (findClass_of_methodNamed hnamed))
  have hsub : s.vm.isSubclass ps mk.cls = true := by rw [hpm]; simp [Vm.isSubclass, Vm.isSubclassAux]
  obtain ⟨vm₁, X₁, hstep₁⟩ := X.invokespecialUp hexec hown hlink hsame hn hmethM hstM habM hno hdk hnid hps hsuper hsub (a := b) (cell := cellB) hcell
    (fun z h => by rw [h] at hobj; cases hobj) hkB (g := g) hg (argsL := argsL) (rest := rest) (hlen _ hsigM) hstack hdg
  rcases hK m meth c ⟨T.setVm vm₁, locs, cells, slots⟩ { g with stack := rest } (.invokespecial index) mk (Value.ref b :: argsL).toArray X₁ hg hsize hdg hW (X₁.named hnamed) (hpre vm₁ X₁.warmed) with ⟨v, B, X', hpost, hsteps⟩ | ⟨q, B, X', hpost, hsteps⟩
  · exact Or.inl ⟨v, vm₁, B, X₁.warmed, X', hpost, fun target h => hstep₁ _ (by rw [doInvoke_state]; exact hsteps.trans h)⟩
  · exact Or.inr ⟨q, vm₁, B, X₁.warmed, X', hpost, hstep₁ _ (by rw [doInvoke_state]; exact hsteps)⟩
theorem vx_runSU {y : MethodName} {bytes cc : ByteArray} {maxL nL mc ms n index : Nat} {ret : Option FieldType} {ws : List Cond} {rm : Room} {Pc : Array Value → State → Prop} {Qc : Array Value → State → Outcome → State → Prop} {XC : String → State → State → Prop} {free : Addr → Prop} {Ts : List Cond} {own C : String} {cC : ClassId} {b : Addr} {As rest : List Value} {g : JFrame}
    (hat : ClassAt s C cC) (S : CallFix p m c cc nL s args Ts own) (hM : vx_Met l y ws rm Pc Qc XC mc ms free) (cw : va_CS R s args own index y bytes maxL ret ws rm mc ms n) (hp : PreV s H C b Pc As)
    (hg : g.method = m) (hn : As.length = n) (hsize : g.locals.size = nL) (hstack : g.stack = As.reverse ++ .ref b :: rest) (hW : 2 * g.monitorRoom + (rest.map fun v => v.category).sum ≤ 8) (hdg : decode cc g.pc = .ok (.invokespecial index, 3)) (hf : cells + mc ≤ R.cells ∧ slots + ms ≤ R.slots) :
    vx_Run p l e R s m args below meth c H locs cells slots mc ms g rest (Qc (Value.ref b :: As).toArray) XC free := by
  obtain ⟨⟨hrc, hrs, hfr, hlo, hws, hcw⟩, hl1, hl2, hl3, hl4, hini, hcode, hno, hlen⟩ := cw
  have hK : vx_Back l R p e below s args y 3 8 (PreOf R mc ms Pc) (PostOf Qc mc ms free) (vx_Post XC mc ms free) := vx_back (bytes := bytes) (maxL := maxL) (ret := ret) hM hp.1 hrc hrs hfr hlo hws hcw (fun a' U hW => word_at hW (Or.inl (by first | rfl | simp [Cond.onTables, Cond.keeps, Cond.steady])) hini)
  obtain ⟨hx, hb, hml, ho, -⟩ := S
  obtain ⟨-, ⟨cellB, hcB, hoB, hclB⟩, hPc⟩ := hp
  obtain ⟨hfc, kB, hkB, -⟩ := hat
  cases hfc.symm.trans hclB
  intro T hT X
  rcases vx_callSU X hx (bytes := bytes) (maxL := maxL) (ret := ret) ho hl1 hl2 hl3 hl4 hcode hno hK (by rw [hT]; exact hcB) hoB hkB hg (hsize.trans hml.symm) (argsL := As) (rest := rest) (fun sig h => hn.trans (hlen sig h)) hstack hW (by rw [hb]; exact hdg)
    (fun vm₁ hW₁ => ⟨hf.1, hf.2, hPc (T.setVm vm₁) hT hW₁⟩) with ⟨v, vm₁, ⟨U', l2, c2, s2⟩, hW₁, X', ⟨g', mk, t, L, e1, e2, hq, h1, hL, h2, h3⟩, st⟩ | ⟨q, vm₁, ⟨U', l2, c2, s2⟩, hW₁, X', ⟨g', mk, t, L, E, ce, e1, e2, hq, hce, hcv, hcl, h1, hL, h2, h3⟩, st⟩
  · dsimp only [Pt.U, Pt.locs, Pt.cells, Pt.slots] at X' e1 e2 h1 h2 h3 st
    subst h1; subst h2; subst h3
    exact Or.inl ⟨v, (T.setVm vm₁).calling g' mk (Value.ref b :: As).toArray, t, U', L, hT, X', hL, e1, e2, hq, st⟩
  · dsimp only [Pt.U, Pt.locs, Pt.cells, Pt.slots] at X' e1 e2 h1 h2 h3 st hcl
    subst h1; subst h2; subst h3
    exact Or.inr ⟨q, (T.setVm vm₁).calling g' mk (Value.ref b :: As).toArray, t, U', L, E, ce, hT, X', hL, e1, e2, hq, hce, hcv, vx_cls hW₁ hcl, st⟩
end
/-! ===== END ===== -/
/-! ===== BEGIN a private method of a nest mate that may throw (follows va_callVN, va_callSN, va_runVN, va_runSN) ===== -/
section
variable {p : Program} {l : Launch} {e : Env} {R : Room} {s : State} {m : MethodId} {args : Array Value} {below : List Frame} {meth : Method} {c : Code} {H : Heap} {locs : List Loc} {cells slots : Nat}
variable {T : State}
theorem vx_callVN (X : Stand p l e R s m args below meth c T locs cells slots) (hexec : p.tables.exec = Jvm.exec) {own C : String} {index : Nat} {host : String} {y : MethodName} {bytes : ByteArray} {maxL : Nat} {ret : Option FieldType}
    (hown : s.vm.findClass own = some m.cls) (hlink : (Cond.methodLinkNest own index y host).before args s = true) (hinst : (Cond.instanceMethod y).before args s = true) (hsel : (Cond.selects C y y).before args s = true)
    (hcode : (Cond.code y bytes maxL ret).before args s = true) (hy : y.cls ≠ "java/lang/invoke/MethodHandle" ∧ y.cls ≠ "java/lang/invoke/VarHandle")
    {W : Nat} {Pre : Pt → Array Value → Prop} {Post : Pt → Array Value → Option Value → Pt → Prop} {PostX : Pt → Array Value → Addr → Pt → Prop} (hK : vx_Back l R p e below s args y 3 W Pre Post PostX)
    {b : Addr} {cellB : Cell} (hcell : T.heap[b]? = some cellB) (hobj : cellB.vm.isStatics = false) (hcls : s.vm.findClass C = some cellB.cls)
    {g : JFrame} (hg : g.method = m) (hsize : g.locals.size = c.maxLocals) {argsL rest : List Value} (hlen : ∀ sig, parseMethodDescriptor y.desc = some sig → argsL.length = sig.parameters.length)
    (hstack : g.stack = argsL.reverse ++ .ref b :: rest) (hW : 2 * g.monitorRoom + (rest.map fun v => v.category).sum ≤ W) (hdg : decode c.code g.pc = .ok (.invokevirtual index, 3))
    (hpre : ∀ vm₁, s.WarmedH vm₁ → Pre ⟨T.setVm vm₁, locs, cells, slots⟩ (Value.ref b :: argsL).toArray) :
    (∃ (v : Option Value) (vm₁ : Vm) (B : Pt), s.WarmedH vm₁ ∧ Stand p l e R s m args below meth c B.U B.locs B.cells B.slots ∧ Post ⟨T.setVm vm₁, locs, cells, slots⟩ (Value.ref b :: argsL).toArray v B ∧
      ∀ target, Steps p.tables e below (B.U.setTop { g with pc := g.pc + 3, stack := v.toList ++ rest }) target → Steps p.tables e below (T.setTop g) target) ∨
    (∃ (q : Addr) (vm₁ : Vm) (B : Pt), s.WarmedH vm₁ ∧ Stand p l e R s m args below meth c B.U B.locs B.cells B.slots ∧ PostX ⟨T.setVm vm₁, locs, cells, slots⟩ (Value.ref b :: argsL).toArray q B ∧
      Steps p.tables e below (T.setTop g) ((B.U.setTop { g with stack := rest }).pushFrame (.throwing q))) := by
  obtain ⟨mk, methM, hnamed, hmethM, hstM, habM⟩ := Cond.instanceMethod_spec hinst
  obtain ⟨methM', cM, hmethM', -, -, -, -, -, -, hsigM⟩ := Cond.code_spec hnamed hcode
  cases hmethM.symm.trans hmethM'
  obtain ⟨c2, r2, m2, q1, q2, q3, q4, kP, hkP, hkPi⟩ := Cond.selects_spec hsel
  cases hcls.symm.trans q1
  cases (State.methodFound?_of_named hnamed hy).symm.trans q2
  cases hnamed.symm.trans q3
  have hselP : selectMethod e.platform s.vm cellB.cls mk = .method mk := by rw [Launch.admits_selectMethod X.admits]; exact q4
  obtain ⟨vm₁, X₁, hstep₁⟩ := X.invokevirtualNest hexec hown hlink hnamed hmethM hstM hkP hkPi hy (a := b) (cell := cellB) hcell
    (fun z h => by rw [h] at hobj; cases hobj) hselP hmethM habM hkP hkPi (g := g) hg (argsL := argsL) (rest := rest) (hlen _ hsigM) hstack hdg
  rcases hK m meth c ⟨T.setVm vm₁, locs, cells, slots⟩ { g with stack := rest } (.invokevirtual index) mk (Value.ref b :: argsL).toArray X₁ hg hsize hdg hW (X₁.named hnamed) (hpre vm₁ X₁.warmed) with ⟨v, B, X', hpost, hsteps⟩ | ⟨q, B, X', hpost, hsteps⟩
  · exact Or.inl ⟨v, vm₁, B, X₁.warmed, X', hpost, fun target h => hstep₁ _ fun acts => by rw [doInvoke_state]; exact hsteps.trans h⟩
  · exact Or.inr ⟨q, vm₁, B, X₁.warmed, X', hpost, hstep₁ _ fun acts => by rw [doInvoke_state]; exact hsteps⟩
theorem vx_callSN (X : Stand p l e R s m args below meth c T locs cells slots) (hexec : p.tables.exec = Jvm.exec) {own : String} {index : Nat} {host : String} {y : MethodName} {bytes : ByteArray} {maxL : Nat} {ret : Option FieldType}
    (hown : s.vm.findClass own = some m.cls) (hlink : (Cond.methodLinkNest own index y host).before args s = true) (hstat : (Cond.static y).before args s = true) (hinit : (Cond.initialized y.cls).before args s = true)
    (hcode : (Cond.code y bytes maxL ret).before args s = true) (hy : y.cls ≠ "java/lang/invoke/MethodHandle" ∧ y.cls ≠ "java/lang/invoke/VarHandle")
    {W : Nat} {Pre : Pt → Array Value → Prop} {Post : Pt → Array Value → Option Value → Pt → Prop} {PostX : Pt → Array Value → Addr → Pt → Prop} (hK : vx_Back l R p e below s args y 3 W Pre Post PostX)
    {g : JFrame} (hg : g.method = m) (hsize : g.locals.size = c.maxLocals) {argsL rest : List Value} (hlen : ∀ sig, parseMethodDescriptor y.desc = some sig → argsL.length = sig.parameters.length)
    (hstack : g.stack = argsL.reverse ++ rest) (hW : 2 * g.monitorRoom + (rest.map fun v => v.category).sum ≤ W) (hdg : decode c.code g.pc = .ok (.invokestatic index, 3))
    (hpre : ∀ vm₁, s.WarmedH vm₁ → Pre ⟨T.setVm vm₁, locs, cells, slots⟩ argsL.toArray) :
    (∃ (v : Option Value) (vm₁ : Vm) (B : Pt), s.WarmedH vm₁ ∧ Stand p l e R s m args below meth c B.U B.locs B.cells B.slots ∧ Post ⟨T.setVm vm₁, locs, cells, slots⟩ argsL.toArray v B ∧
      ∀ target, Steps p.tables e below (B.U.setTop { g with pc := g.pc + 3, stack := v.toList ++ rest }) target → Steps p.tables e below (T.setTop g) target) ∨
    (∃ (q : Addr) (vm₁ : Vm) (B : Pt), s.WarmedH vm₁ ∧ Stand p l e R s m args below meth c B.U B.locs B.cells B.slots ∧ PostX ⟨T.setVm vm₁, locs, cells, slots⟩ argsL.toArray q B ∧
      Steps p.tables e below (T.setTop g) ((B.U.setTop { g with stack := rest }).pushFrame (.throwing q))) := by
  obtain ⟨mk, hnamed⟩ := Cond.code_named hcode
  obtain ⟨methM, cM, hmethM, -, -, -, -, -, -, hsigM⟩ := Cond.code_spec hnamed hcode
  have hstatic : methM.isStatic = true := Cond.static_spec hnamed hmethM hstat
  obtain ⟨kP, hkP, -⟩ := className_of_methodNamed hnamed
  have hinitP : kP.init = .initialized := Cond.initialized_spec (findClass_of_methodNamed hnamed) hkP hinit
  obtain ⟨vm₁, X₁, hstep₁⟩ := X.invokestaticNest hexec hown hlink hnamed hmethM hstatic hkP hinitP hy (g := g) hg (argsL := argsL) (rest := rest) (hlen _ hsigM) hstack hdg
  rcases hK m meth c ⟨T.setVm vm₁, locs, cells, slots⟩ { g with stack := rest } (.invokestatic index) mk argsL.toArray X₁ hg hsize hdg hW (X₁.named hnamed) (hpre vm₁ X₁.warmed) with ⟨v, B, X', hpost, hsteps⟩ | ⟨q, B, X', hpost, hsteps⟩
  · exact Or.inl ⟨v, vm₁, B, X₁.warmed, X', hpost, fun target h => hstep₁ _ fun acts => by rw [doInvoke_state]; exact hsteps.trans h⟩
  · exact Or.inr ⟨q, vm₁, B, X₁.warmed, X', hpost, hstep₁ _ fun acts => by rw [doInvoke_state]; exact hsteps⟩
theorem vx_runVN {y : MethodName} {bytes cc : ByteArray} {maxL nL mc ms n index : Nat} {ret : Option FieldType} {ws : List Cond} {rm : Room} {Pc : Array Value → State → Prop} {Qc : Array Value → State → Outcome → State → Prop} {XC : String → State → State → Prop} {free : Addr → Prop} {Ts : List Cond} {own C host : String} {b : Addr} {As rest : List Value} {g : JFrame}
    (S : CallFix p m c cc nL s args Ts own) (hM : vx_Met l y ws rm Pc Qc XC mc ms free) (cw : va_CN R s args own index y host bytes maxL ret ws rm mc ms n ∧ (Cond.instanceMethod y).before args s = true ∧ (Cond.selects C y y).before args s = true) (hp : PreV s H C b Pc As)
    (hg : g.method = m) (hn : As.length = n) (hsize : g.locals.size = nL) (hstack : g.stack = As.reverse ++ .ref b :: rest) (hW : 2 * g.monitorRoom + (rest.map fun v => v.category).sum ≤ 8) (hdg : decode cc g.pc = .ok (.invokevirtual index, 3)) (hf : cells + mc ≤ R.cells ∧ slots + ms ≤ R.slots) :
    vx_Run p l e R s m args below meth c H locs cells slots mc ms g rest (Qc (Value.ref b :: As).toArray) XC free := by
  obtain ⟨⟨⟨hrc, hrs, hfr, hlo, hws, hcw⟩, hcode, hini, hy, hlen, hl⟩, hx1, hx2⟩ := cw
  have hK : vx_Back l R p e below s args y 3 8 (PreOf R mc ms Pc) (PostOf Qc mc ms free) (vx_Post XC mc ms free) := vx_back (bytes := bytes) (maxL := maxL) (ret := ret) hM hp.1 hrc hrs hfr hlo hws hcw (fun a' U hW => word_at hW (Or.inl (by first | rfl | simp [Cond.onTables, Cond.keeps, Cond.steady])) hini)
  obtain ⟨hx, hb, hml, ho, -⟩ := S
  obtain ⟨-, ⟨cellB, hcB, hoB, hclB⟩, hPc⟩ := hp
  intro T hT X
  rcases vx_callVN X hx (C := C) (bytes := bytes) (maxL := maxL) (ret := ret) ho hl hx1 hx2 hcode hy hK (by rw [hT]; exact hcB) hoB hclB hg (hsize.trans hml.symm) (argsL := As) (rest := rest) (fun sig h => hn.trans (hlen sig h)) hstack hW (by rw [hb]; exact hdg)
    (fun vm₁ hW₁ => ⟨hf.1, hf.2, hPc (T.setVm vm₁) hT hW₁⟩) with ⟨v, vm₁, ⟨U', l2, c2, s2⟩, hW₁, X', ⟨g', mk, t, L, e1, e2, hq, h1, hL, h2, h3⟩, st⟩ | ⟨q, vm₁, ⟨U', l2, c2, s2⟩, hW₁, X', ⟨g', mk, t, L, E, ce, e1, e2, hq, hce, hcv, hcl, h1, hL, h2, h3⟩, st⟩
  · dsimp only [Pt.U, Pt.locs, Pt.cells, Pt.slots] at X' e1 e2 h1 h2 h3 st
    subst h1; subst h2; subst h3
    exact Or.inl ⟨v, (T.setVm vm₁).calling g' mk (Value.ref b :: As).toArray, t, U', L, hT, X', hL, e1, e2, hq, st⟩
  · dsimp only [Pt.U, Pt.locs, Pt.cells, Pt.slots] at X' e1 e2 h1 h2 h3 st hcl
    subst h1; subst h2; subst h3
    exact Or.inr ⟨q, (T.setVm vm₁).calling g' mk (Value.ref b :: As).toArray, t, U', L, E, ce, hT, X', hL, e1, e2, hq, hce, hcv, vx_cls hW₁ hcl, st⟩
theorem vx_runSN {y : MethodName} {bytes cc : ByteArray} {maxL nL mc ms n index : Nat} {ret : Option FieldType} {ws : List Cond} {rm : Room} {Pc : Array Value → State → Prop} {Qc : Array Value → State → Outcome → State → Prop} {XC : String → State → State → Prop} {free : Addr → Prop} {Ts : List Cond} {own host : String} {As rest : List Value} {g : JFrame}
    (S : CallFix p m c cc nL s args Ts own) (hM : vx_Met l y ws rm Pc Qc XC mc ms free) (cw : va_CN R s args own index y host bytes maxL ret ws rm mc ms n ∧ (Cond.static y).before args s = true ∧ True) (hp : PreS s H Pc As)
    (hg : g.method = m) (hn : As.length = n) (hsize : g.locals.size = nL) (hstack : g.stack = As.reverse ++ rest) (hW : 2 * g.monitorRoom + (rest.map fun v => v.category).sum ≤ 8) (hdg : decode cc g.pc = .ok (.invokestatic index, 3)) (hf : cells + mc ≤ R.cells ∧ slots + ms ≤ R.slots) :
    vx_Run p l e R s m args below meth c H locs cells slots mc ms g rest (Qc As.toArray) XC free := by
  obtain ⟨⟨⟨hrc, hrs, hfr, hlo, hws, hcw⟩, hcode, hini, hy, hlen, hl⟩, hx1, hx2⟩ := cw
  have hK : vx_Back l R p e below s args y 3 8 (PreOf R mc ms Pc) (PostOf Qc mc ms free) (vx_Post XC mc ms free) := vx_back (bytes := bytes) (maxL := maxL) (ret := ret) hM hp.1 hrc hrs hfr hlo hws hcw (fun a' U hW => word_at hW (Or.inl (by first | rfl | simp [Cond.onTables, Cond.keeps, Cond.steady])) hini)
  obtain ⟨hx, hb, hml, ho, -⟩ := S
  have hPc := hp.2
  intro T hT X
  rcases vx_callSN X hx (bytes := bytes) (maxL := maxL) (ret := ret) ho hl hx1 hini hcode hy hK hg (hsize.trans hml.symm) (argsL := As) (rest := rest) (fun sig h => hn.trans (hlen sig h)) hstack hW (by rw [hb]; exact hdg)
    (fun vm₁ hW₁ => ⟨hf.1, hf.2, hPc (T.setVm vm₁) hT hW₁⟩) with ⟨v, vm₁, ⟨U', l2, c2, s2⟩, hW₁, X', ⟨g', mk, t, L, e1, e2, hq, h1, hL, h2, h3⟩, st⟩ | ⟨q, vm₁, ⟨U', l2, c2, s2⟩, hW₁, X', ⟨g', mk, t, L, E, ce, e1, e2, hq, hce, hcv, hcl, h1, hL, h2, h3⟩, st⟩
  · dsimp only [Pt.U, Pt.locs, Pt.cells, Pt.slots] at X' e1 e2 h1 h2 h3 st
    subst h1; subst h2; subst h3
    exact Or.inl ⟨v, (T.setVm vm₁).calling g' mk As.toArray, t, U', L, hT, X', hL, e1, e2, hq, st⟩
  · dsimp only [Pt.U, Pt.locs, Pt.cells, Pt.slots] at X' e1 e2 h1 h2 h3 st hcl
    subst h1; subst h2; subst h3
    exact Or.inr ⟨q, (T.setVm vm₁).calling g' mk As.toArray, t, U', L, E, ce, hT, X', hL, e1, e2, hq, hce, hcv, vx_cls hW₁ hcl, st⟩
end
/-! ===== END ===== -/
/-! ===== BEGIN calls by an interface of methods that may throw (vx_callIF, vx_runF follow va_callIF, va_runF of this kit) ===== -/
section
variable {p : Program} {l : Launch} {e : Env} {R : Room} {s : State} {m : MethodId} {args : Array Value} {below : List Frame} {meth : Method} {c : Code} {H : Heap} {locs : List Loc} {cells slots : Nat} {Q : State → Prop}
variable {mc ms : Nat} {free : Addr → Prop} {A0 A1 : Nat → Prop} {H0 : Heap} {a : Array Value} {pc : Nat} {ls : Array Slot} {st0 rest : List Value}
def vx_Run5 (p : Program) (l : Launch) (e : Env) (R : Room) (s : State) (m : MethodId) (args : Array Value) (below : List Frame) (meth : Method) (c : Code) (H : Heap) (locs : List Loc) (cells slots mc ms : Nat) (g : JFrame) (rest : List Value) (Qa : State → Outcome → State → Prop) (XC : String → State → State → Prop) (free : Addr → Prop) : Prop :=
  ∀ T : State, T.heap = H → Stand p l e R s m args below meth c T locs cells slots →
    (∃ (v : Option Value) (st₀ t T' : State) (L : List Loc), st₀.heap = H ∧ Stand p l e R s m args below meth c T' (locs ++ L) (cells + mc) (slots + ms) ∧ (∀ q ∈ L, free q.base) ∧ T'.heap = t.heap ∧ T'.vm = t.vm ∧ Qa st₀ (.returned v) t ∧
      Goes p e below T g T' { g with pc := g.pc + 5, stack := v.toList ++ rest }) ∨
    (∃ (q : Addr) (st₀ t T' : State) (L : List Loc) (E : String) (ce : Cell), st₀.heap = H ∧ Stand p l e R s m args below meth c T' (locs ++ L) (cells + mc) (slots + ms) ∧ (∀ z ∈ L, free z.base) ∧ T'.heap = t.heap ∧ T'.vm = t.vm ∧ XC E st₀ t ∧ t.heap[q]? = some ce ∧ ce.vm = .none ∧ s.vm.findClass E = some ce.cls ∧
      Steps p.tables e below (T.setTop g) ((T'.setTop { g with stack := rest }).pushFrame (.throwing q)))
theorem vx_callIF {T : State} (X : Stand p l e R s m args below meth c T locs cells slots) (hexec : p.tables.exec = Jvm.exec) {own C : String} {index count : Nat} {x y : MethodName} {bytes : ByteArray} {maxL : Nat} {ret : Option FieldType}
    (hown : s.vm.findClass own = some m.cls) (hlink : (Cond.methodLink own index x).before args s = true) (hdecl : (Cond.declares x).before args s = true) (hface : (Cond.interfaceMethod x.cls x.cls x.name x.desc).before args s = true)
    (hsel : (Cond.selects C x y).before args s = true) (hinst : (Cond.instanceMethod y).before args s = true) (hpub : (Cond.publicMethod y).before args s = true) (hunh : (Cond.unhidden C x.name x.desc).before args s = true)
    (hcast : (Cond.castable C x.cls).before args s = true) (hcode : (Cond.code y bytes maxL ret).before args s = true) (hx : x.cls ≠ "java/lang/invoke/MethodHandle" ∧ x.cls ≠ "java/lang/invoke/VarHandle")
    {W9 : Nat} {Pre : Pt → Array Value → Prop} {Post : Pt → Array Value → Option Value → Pt → Prop} {PostX : Pt → Array Value → Addr → Pt → Prop} (hK : vx_Back l R p e below s args y 5 W9 Pre Post PostX)
    {b : Addr} {cellB : Cell} {kB : Class} (hcell : T.heap[b]? = some cellB) (hobj : cellB.vm.isStatics = false) (hcls : s.vm.findClass C = some cellB.cls) (hkB : s.vm.classes[cellB.cls]? = some kB)
    {g : JFrame} (hg : g.method = m) (hsize : g.locals.size = c.maxLocals) {argsL rest : List Value} (hlen : ∀ sig, parseMethodDescriptor x.desc = some sig → argsL.length = sig.parameters.length)
    (hstack : g.stack = argsL.reverse ++ .ref b :: rest) (hW : 2 * g.monitorRoom + (rest.map fun v => v.category).sum ≤ W9) (hdg : decode c.code g.pc = .ok (.invokeinterface index count, 5))
    (hpre : ∀ vm₁, s.WarmedH vm₁ → Pre ⟨T.setVm vm₁, locs, cells, slots⟩ (Value.ref b :: argsL).toArray) :
    (∃ (v : Option Value) (vm₁ : Vm) (B : Pt), s.WarmedH vm₁ ∧ Stand p l e R s m args below meth c B.U B.locs B.cells B.slots ∧ Post ⟨T.setVm vm₁, locs, cells, slots⟩ (Value.ref b :: argsL).toArray v B ∧
      ∀ target, Steps p.tables e below (B.U.setTop { g with pc := g.pc + 5, stack := v.toList ++ rest }) target → Steps p.tables e below (T.setTop g) target) ∨
    (∃ (q : Addr) (vm₁ : Vm) (B : Pt), s.WarmedH vm₁ ∧ Stand p l e R s m args below meth c B.U B.locs B.cells B.slots ∧ PostX ⟨T.setVm vm₁, locs, cells, slots⟩ (Value.ref b :: argsL).toArray q B ∧
      Steps p.tables e below (T.setTop g) ((B.U.setTop { g with stack := rest }).pushFrame (.throwing q))) := by
  obtain ⟨r0, r, hn, hrm, hstR, hsigR⟩ := Cond.declares_spec hdecl
  obtain ⟨cL, kL, r1, hcL, hkL, hiL, hfoundL, hn1⟩ := Cond.interfaceMethod_spec hface
  cases hn.symm.trans hn1
  have hr0cls : r0.cls = cL := Option.some.inj ((findClass_of_methodNamed hn).symm.trans hcL)
  obtain ⟨hnameR, hdescR⟩ := name_of_methodNamed hn hrm
  obtain ⟨mk, methM, hnamed, hmethM, -, habM⟩ := Cond.instanceMethod_spec hinst
  obtain ⟨c2, r2, m2, q1, q2, q3, q4, -⟩ := Cond.selects_spec hsel
  cases hcls.symm.trans q1
  cases hfoundL.symm.trans q2
  cases hnamed.symm.trans q3
  have hselP : selectMethod e.platform s.vm cellB.cls r0 = .method mk := by rw [Launch.admits_selectMethod X.admits]; exact q4
  have hpubM : hasFlag methM.accessFlags Acc.public_ = true := Cond.publicMethod_spec hnamed hmethM hpub
  have hway : ((cellB.cls :: s.vm.superclasses cellB.cls).any fun k => (declaredIn s.vm r.name r.desc k).any fun (_, z) => z.isPrivate || z.isStatic) = false := by
    rw [hnameR, hdescR]; exact Cond.unhidden_spec hcls hunh
  obtain ⟨c3, t3, w1, w2, w3⟩ := Cond.castable_spec hcast
  cases hcls.symm.trans w1
  cases hcL.symm.trans w2
  obtain ⟨vm₁, X₁, hstep₁⟩ := X.invokeinterface hexec hown hlink hn hrm hstR (by rw [hr0cls]; exact hkL) hiL hx (a := b) (cell := cellB) (kcell := kB) hcell
    (fun z h => by rw [h] at hobj; cases hobj) hkB (by rw [hr0cls]; exact w3) hselP hmethM hway hpubM habM (g := g) hg (argsL := argsL) (rest := rest) (hlen _ hsigR) hstack hdg
  rcases hK m meth c ⟨T.setVm vm₁, locs, cells, slots⟩ { g with stack := rest } (.invokeinterface index count) mk (Value.ref b :: argsL).toArray X₁ hg hsize hdg hW (X₁.named hnamed) (hpre vm₁ X₁.warmed) with ⟨v, B, X', hpost, hsteps⟩ | ⟨q, B, X', hpost, hsteps⟩
  · exact Or.inl ⟨v, vm₁, B, X₁.warmed, X', hpost, fun target h => hstep₁ _ fun acts => by rw [doInvoke_state]; exact hsteps.trans h⟩
  · exact Or.inr ⟨q, vm₁, B, X₁.warmed, X', hpost, hstep₁ _ fun acts => by rw [doInvoke_state]; exact hsteps⟩
theorem vx_runF {x y : MethodName} {bytes cc : ByteArray} {maxL nL mc ms n index count : Nat} {ret : Option FieldType} {ws : List Cond} {rm : Room} {Pc : Array Value → State → Prop} {Qc : Array Value → State → Outcome → State → Prop} {XC : String → State → State → Prop} {free : Addr → Prop} {Ts : List Cond} {own C : String} {cC : ClassId} {b : Addr} {As rest : List Value} {g : JFrame}
    (hat : ClassAt s C cC) (S : CallFix p m c cc nL s args Ts own) (hM : vx_Met l y ws rm Pc Qc XC mc ms free) (cw : va_CI R s args own C index x y bytes maxL ret ws rm mc ms n) (hp : PreV s H C b Pc As)
    (hg : g.method = m) (hn : As.length = n) (hsize : g.locals.size = nL) (hstack : g.stack = As.reverse ++ .ref b :: rest) (hW : 2 * g.monitorRoom + (rest.map fun v => v.category).sum ≤ 8) (hdg : decode cc g.pc = .ok (.invokeinterface index count, 5)) (hf : cells + mc ≤ R.cells ∧ slots + ms ≤ R.slots) :
    vx_Run5 p l e R s m args below meth c H locs cells slots mc ms g rest (Qc (Value.ref b :: As).toArray) XC free := by
  obtain ⟨hrc, hrs, hfr, hlo, hws, hcw⟩ := cw.back
  have hini := cw.init
  have hK : vx_Back l R p e below s args y 5 8 (PreOf R mc ms Pc) (PostOf Qc mc ms free) (vx_Post XC mc ms free) := vx_back (bytes := bytes) (maxL := maxL) (ret := ret) hM hp.1 hrc hrs hfr hlo hws hcw (fun a' U hW => word_at hW (Or.inl (by first | rfl | simp [Cond.onTables, Cond.keeps, Cond.steady])) hini)
  obtain ⟨hx, hb, hml, ho, -⟩ := S
  obtain ⟨-, ⟨cellB, hcB, hoB, hclB⟩, hPc⟩ := hp
  obtain ⟨hfc, kB, hkB, -⟩ := hat
  cases hfc.symm.trans hclB
  intro T hT X
  rcases vx_callIF X hx (C := C) (bytes := bytes) (maxL := maxL) (ret := ret) ho cw.link cw.decl cw.face cw.sel cw.inst cw.pub cw.unh cw.cast cw.code cw.notMH hK (by rw [hT]; exact hcB) hoB hclB hkB hg (hsize.trans hml.symm) (argsL := As) (rest := rest) (fun sig h => hn.trans (cw.len sig h)) hstack hW (by rw [hb]; exact hdg)
    (fun vm₁ hW₁ => ⟨hf.1, hf.2, hPc (T.setVm vm₁) hT hW₁⟩) with ⟨v, vm₁, ⟨U', l2, c2, s2⟩, hW₁, X', ⟨g', mk, t, L, e1, e2, hq, h1, hL, h2, h3⟩, st⟩ | ⟨q, vm₁, ⟨U', l2, c2, s2⟩, hW₁, X', ⟨g', mk, t, L, E, ce, e1, e2, hq, hce, hcv, hcl, h1, hL, h2, h3⟩, st⟩
  · dsimp only [Pt.U, Pt.locs, Pt.cells, Pt.slots] at X' e1 e2 h1 h2 h3 st
    subst h1; subst h2; subst h3
    exact Or.inl ⟨v, (T.setVm vm₁).calling g' mk (Value.ref b :: As).toArray, t, U', L, hT, X', hL, e1, e2, hq, st⟩
  · dsimp only [Pt.U, Pt.locs, Pt.cells, Pt.slots] at X' e1 e2 h1 h2 h3 st hcl
    subst h1; subst h2; subst h3
    exact Or.inr ⟨q, (T.setVm vm₁).calling g' mk (Value.ref b :: As).toArray, t, U', L, E, ce, hT, X', hL, e1, e2, hq, hce, hcv, vx_cls hW₁ hcl, st⟩
theorem vx_callFv {S SX : Type} {post : S → Prop} {px : SX → Prop} {B : S → State → Prop} {BX : String → SX → State → Prop} {AX : Nat → Prop} (hr : vx_Run5 p l e R s m args below meth c H locs cells slots mc ms (F0 m pc ls st0) rest (va_Qv post B A1 a) (vx_X px BX AX) free) (hS : va_S A0 H0 H locs) (hA : ∀ q, q < H.size → A1 q → A0 q) (hf : ∀ q, free q → A0 q) (hAX : ∀ q, q < H.size → AX q → A0 q)
    (kx : ∀ (E : String) (ce : Cell) (q9 : Addr) (u : SX) (t : State) (H1 : Heap) (locs1 : List Loc), t.heap = H1 → s.vm.Alike t.vm → px u → BX E u t → H.size ≤ H1.size → (∀ q : Nat, q < H.size → ¬ AX q → H1[q]? = H[q]?) → va_S A0 H0 H1 locs1 → H1[q9]? = some ce → ce.vm = .none → s.vm.findClass E = some ce.cls → vx_W p l e R s m args below meth c H1 locs1 (cells + mc) (slots + ms) Q (F0 m pc ls rest) q9)
    (kk : ∀ (u : S) (t : State) (H1 : Heap) (locs1 : List Loc), t.heap = H1 → s.vm.Alike t.vm → post u → B u t → H.size ≤ H1.size → (∀ q : Nat, q < H.size → ¬ A1 q → H1[q]? = H[q]?) → va_S A0 H0 H1 locs1 → W p l e R s m args below meth c H1 locs1 (cells + mc) (slots + ms) Q (F0 m (pc + 5) ls (rest))) : W p l e R s m args below meth c H locs cells slots Q (F0 m pc ls st0) := by
  intro T hT X
  rcases hr T hT X with ⟨v, st₀, t, T', L, h0, X', hL, e1, e2, ⟨⟨u, hv, hp, hb⟩, hF⟩, st⟩ | ⟨q, st₀, t, T', L, E, ce, h0, X', hL, e1, e2, ⟨u, hp, hb, hF⟩, hce, hcv, hcl, st⟩
  · cases hv
    obtain ⟨k1, k2, k3⟩ := vx_keep h0 e1 hS hA hf hL hF
    obtain ⟨t2, a1, b1⟩ := kk u t T'.heap (locs ++ L) e1.symm (by rw [← e2]; exact X'.warmed.alike) hp hb k1 k2 k3 T' rfl X'
    exact ⟨t2, st t2 a1, b1⟩
  · obtain ⟨k1, k2, k3⟩ := vx_keep h0 e1 hS hAX hf hL hF
    obtain ⟨t2, a1, b1⟩ := kx E ce q u t T'.heap (locs ++ L) e1.symm (by rw [← e2]; exact X'.warmed.alike) hp hb k1 k2 k3 (by rw [e1]; exact hce) hcv hcl T' rfl X'
    exact ⟨t2, st.trans a1, b1⟩
theorem vx_callFi {S SX : Type} {post : Int32 → S → Prop} {px : SX → Prop} {B : S → State → Prop} {BX : String → SX → State → Prop} {AX : Nat → Prop} (hr : vx_Run5 p l e R s m args below meth c H locs cells slots mc ms (F0 m pc ls st0) rest (va_Qi post B A1 a) (vx_X px BX AX) free) (hS : va_S A0 H0 H locs) (hA : ∀ q, q < H.size → A1 q → A0 q) (hf : ∀ q, free q → A0 q) (hAX : ∀ q, q < H.size → AX q → A0 q)
    (kx : ∀ (E : String) (ce : Cell) (q9 : Addr) (u : SX) (t : State) (H1 : Heap) (locs1 : List Loc), t.heap = H1 → s.vm.Alike t.vm → px u → BX E u t → H.size ≤ H1.size → (∀ q : Nat, q < H.size → ¬ AX q → H1[q]? = H[q]?) → va_S A0 H0 H1 locs1 → H1[q9]? = some ce → ce.vm = .none → s.vm.findClass E = some ce.cls → vx_W p l e R s m args below meth c H1 locs1 (cells + mc) (slots + ms) Q (F0 m pc ls rest) q9)
    (kk : ∀ (r : Int32) (u : S) (t : State) (H1 : Heap) (locs1 : List Loc), t.heap = H1 → s.vm.Alike t.vm → post r u → B u t → H.size ≤ H1.size → (∀ q : Nat, q < H.size → ¬ A1 q → H1[q]? = H[q]?) → va_S A0 H0 H1 locs1 → W p l e R s m args below meth c H1 locs1 (cells + mc) (slots + ms) Q (F0 m (pc + 5) ls (.int r :: rest))) : W p l e R s m args below meth c H locs cells slots Q (F0 m pc ls st0) := by
  intro T hT X
  rcases hr T hT X with ⟨v, st₀, t, T', L, h0, X', hL, e1, e2, ⟨⟨r, u, hv, hp, hb⟩, hF⟩, st⟩ | ⟨q, st₀, t, T', L, E, ce, h0, X', hL, e1, e2, ⟨u, hp, hb, hF⟩, hce, hcv, hcl, st⟩
  · cases hv
    obtain ⟨k1, k2, k3⟩ := vx_keep h0 e1 hS hA hf hL hF
    obtain ⟨t2, a1, b1⟩ := kk r u t T'.heap (locs ++ L) e1.symm (by rw [← e2]; exact X'.warmed.alike) hp hb k1 k2 k3 T' rfl X'
    exact ⟨t2, st t2 a1, b1⟩
  · obtain ⟨k1, k2, k3⟩ := vx_keep h0 e1 hS hAX hf hL hF
    obtain ⟨t2, a1, b1⟩ := kx E ce q u t T'.heap (locs ++ L) e1.symm (by rw [← e2]; exact X'.warmed.alike) hp hb k1 k2 k3 (by rw [e1]; exact hce) hcv hcl T' rfl X'
    exact ⟨t2, st.trans a1, b1⟩
theorem vx_callFl {S SX : Type} {post : Int64 → S → Prop} {px : SX → Prop} {B : S → State → Prop} {BX : String → SX → State → Prop} {AX : Nat → Prop} (hr : vx_Run5 p l e R s m args below meth c H locs cells slots mc ms (F0 m pc ls st0) rest (va_Ql post B A1 a) (vx_X px BX AX) free) (hS : va_S A0 H0 H locs) (hA : ∀ q, q < H.size → A1 q → A0 q) (hf : ∀ q, free q → A0 q) (hAX : ∀ q, q < H.size → AX q → A0 q)
    (kx : ∀ (E : String) (ce : Cell) (q9 : Addr) (u : SX) (t : State) (H1 : Heap) (locs1 : List Loc), t.heap = H1 → s.vm.Alike t.vm → px u → BX E u t → H.size ≤ H1.size → (∀ q : Nat, q < H.size → ¬ AX q → H1[q]? = H[q]?) → va_S A0 H0 H1 locs1 → H1[q9]? = some ce → ce.vm = .none → s.vm.findClass E = some ce.cls → vx_W p l e R s m args below meth c H1 locs1 (cells + mc) (slots + ms) Q (F0 m pc ls rest) q9)
    (kk : ∀ (r : Int64) (u : S) (t : State) (H1 : Heap) (locs1 : List Loc), t.heap = H1 → s.vm.Alike t.vm → post r u → B u t → H.size ≤ H1.size → (∀ q : Nat, q < H.size → ¬ A1 q → H1[q]? = H[q]?) → va_S A0 H0 H1 locs1 → W p l e R s m args below meth c H1 locs1 (cells + mc) (slots + ms) Q (F0 m (pc + 5) ls (.long r :: rest))) : W p l e R s m args below meth c H locs cells slots Q (F0 m pc ls st0) := by
  intro T hT X
  rcases hr T hT X with ⟨v, st₀, t, T', L, h0, X', hL, e1, e2, ⟨⟨r, u, hv, hp, hb⟩, hF⟩, st⟩ | ⟨q, st₀, t, T', L, E, ce, h0, X', hL, e1, e2, ⟨u, hp, hb, hF⟩, hce, hcv, hcl, st⟩
  · cases hv
    obtain ⟨k1, k2, k3⟩ := vx_keep h0 e1 hS hA hf hL hF
    obtain ⟨t2, a1, b1⟩ := kk r u t T'.heap (locs ++ L) e1.symm (by rw [← e2]; exact X'.warmed.alike) hp hb k1 k2 k3 T' rfl X'
    exact ⟨t2, st t2 a1, b1⟩
  · obtain ⟨k1, k2, k3⟩ := vx_keep h0 e1 hS hAX hf hL hF
    obtain ⟨t2, a1, b1⟩ := kx E ce q u t T'.heap (locs ++ L) e1.symm (by rw [← e2]; exact X'.warmed.alike) hp hb k1 k2 k3 (by rw [e1]; exact hce) hcv hcl T' rfl X'
    exact ⟨t2, st.trans a1, b1⟩
theorem vx_callFf {S SX : Type} {post : UInt32 → S → Prop} {px : SX → Prop} {B : S → State → Prop} {BX : String → SX → State → Prop} {AX : Nat → Prop} (hr : vx_Run5 p l e R s m args below meth c H locs cells slots mc ms (F0 m pc ls st0) rest (va_Qf post B A1 a) (vx_X px BX AX) free) (hS : va_S A0 H0 H locs) (hA : ∀ q, q < H.size → A1 q → A0 q) (hf : ∀ q, free q → A0 q) (hAX : ∀ q, q < H.size → AX q → A0 q)
    (kx : ∀ (E : String) (ce : Cell) (q9 : Addr) (u : SX) (t : State) (H1 : Heap) (locs1 : List Loc), t.heap = H1 → s.vm.Alike t.vm → px u → BX E u t → H.size ≤ H1.size → (∀ q : Nat, q < H.size → ¬ AX q → H1[q]? = H[q]?) → va_S A0 H0 H1 locs1 → H1[q9]? = some ce → ce.vm = .none → s.vm.findClass E = some ce.cls → vx_W p l e R s m args below meth c H1 locs1 (cells + mc) (slots + ms) Q (F0 m pc ls rest) q9)
    (kk : ∀ (r : UInt32) (u : S) (t : State) (H1 : Heap) (locs1 : List Loc), t.heap = H1 → s.vm.Alike t.vm → post r u → B u t → H.size ≤ H1.size → (∀ q : Nat, q < H.size → ¬ A1 q → H1[q]? = H[q]?) → va_S A0 H0 H1 locs1 → W p l e R s m args below meth c H1 locs1 (cells + mc) (slots + ms) Q (F0 m (pc + 5) ls (.float r :: rest))) : W p l e R s m args below meth c H locs cells slots Q (F0 m pc ls st0) := by
  intro T hT X
  rcases hr T hT X with ⟨v, st₀, t, T', L, h0, X', hL, e1, e2, ⟨⟨r, u, hv, hp, hb⟩, hF⟩, st⟩ | ⟨q, st₀, t, T', L, E, ce, h0, X', hL, e1, e2, ⟨u, hp, hb, hF⟩, hce, hcv, hcl, st⟩
  · cases hv
    obtain ⟨k1, k2, k3⟩ := vx_keep h0 e1 hS hA hf hL hF
    obtain ⟨t2, a1, b1⟩ := kk r u t T'.heap (locs ++ L) e1.symm (by rw [← e2]; exact X'.warmed.alike) hp hb k1 k2 k3 T' rfl X'
    exact ⟨t2, st t2 a1, b1⟩
  · obtain ⟨k1, k2, k3⟩ := vx_keep h0 e1 hS hAX hf hL hF
    obtain ⟨t2, a1, b1⟩ := kx E ce q u t T'.heap (locs ++ L) e1.symm (by rw [← e2]; exact X'.warmed.alike) hp hb k1 k2 k3 (by rw [e1]; exact hce) hcv hcl T' rfl X'
    exact ⟨t2, st.trans a1, b1⟩
theorem vx_callFd {S SX : Type} {post : UInt64 → S → Prop} {px : SX → Prop} {B : S → State → Prop} {BX : String → SX → State → Prop} {AX : Nat → Prop} (hr : vx_Run5 p l e R s m args below meth c H locs cells slots mc ms (F0 m pc ls st0) rest (va_Qd post B A1 a) (vx_X px BX AX) free) (hS : va_S A0 H0 H locs) (hA : ∀ q, q < H.size → A1 q → A0 q) (hf : ∀ q, free q → A0 q) (hAX : ∀ q, q < H.size → AX q → A0 q)
    (kx : ∀ (E : String) (ce : Cell) (q9 : Addr) (u : SX) (t : State) (H1 : Heap) (locs1 : List Loc), t.heap = H1 → s.vm.Alike t.vm → px u → BX E u t → H.size ≤ H1.size → (∀ q : Nat, q < H.size → ¬ AX q → H1[q]? = H[q]?) → va_S A0 H0 H1 locs1 → H1[q9]? = some ce → ce.vm = .none → s.vm.findClass E = some ce.cls → vx_W p l e R s m args below meth c H1 locs1 (cells + mc) (slots + ms) Q (F0 m pc ls rest) q9)
    (kk : ∀ (r : UInt64) (u : S) (t : State) (H1 : Heap) (locs1 : List Loc), t.heap = H1 → s.vm.Alike t.vm → post r u → B u t → H.size ≤ H1.size → (∀ q : Nat, q < H.size → ¬ A1 q → H1[q]? = H[q]?) → va_S A0 H0 H1 locs1 → W p l e R s m args below meth c H1 locs1 (cells + mc) (slots + ms) Q (F0 m (pc + 5) ls (.double r :: rest))) : W p l e R s m args below meth c H locs cells slots Q (F0 m pc ls st0) := by
  intro T hT X
  rcases hr T hT X with ⟨v, st₀, t, T', L, h0, X', hL, e1, e2, ⟨⟨r, u, hv, hp, hb⟩, hF⟩, st⟩ | ⟨q, st₀, t, T', L, E, ce, h0, X', hL, e1, e2, ⟨u, hp, hb, hF⟩, hce, hcv, hcl, st⟩
  · cases hv
    obtain ⟨k1, k2, k3⟩ := vx_keep h0 e1 hS hA hf hL hF
    obtain ⟨t2, a1, b1⟩ := kk r u t T'.heap (locs ++ L) e1.symm (by rw [← e2]; exact X'.warmed.alike) hp hb k1 k2 k3 T' rfl X'
    exact ⟨t2, st t2 a1, b1⟩
  · obtain ⟨k1, k2, k3⟩ := vx_keep h0 e1 hS hAX hf hL hF
    obtain ⟨t2, a1, b1⟩ := kx E ce q u t T'.heap (locs ++ L) e1.symm (by rw [← e2]; exact X'.warmed.alike) hp hb k1 k2 k3 (by rw [e1]; exact hce) hcv hcl T' rfl X'
    exact ⟨t2, st.trans a1, b1⟩
end
/-! ===== END ===== -/
/-! ===== BEGIN by an interface, a method with a table of its own that may throw (follows va_callIFW, va_runFW) ===== -/
section
variable {p : Program} {l : Launch} {e : Env} {R : Room} {s : State} {m : MethodId} {args : Array Value} {below : List Frame} {meth : Method} {c : Code} {H : Heap} {locs : List Loc} {cells slots : Nat}
theorem vx_callIFW {T : State} (X : Stand p l e R s m args below meth c T locs cells slots) (hexec : p.tables.exec = Jvm.exec) {own C : String} {index count : Nat} {x y : MethodName} {bytes : ByteArray} {maxL : Nat} {ret : Option FieldType} {hh : List (Nat × Nat × Nat × Nat)}
    (hown : s.vm.findClass own = some m.cls) (hlink : (Cond.methodLink own index x).before args s = true) (hdecl : (Cond.declares x).before args s = true) (hface : (Cond.interfaceMethod x.cls x.cls x.name x.desc).before args s = true)
    (hsel : (Cond.selects C x y).before args s = true) (hinst : (Cond.instanceMethod y).before args s = true) (hpub : (Cond.publicMethod y).before args s = true) (hunh : (Cond.unhidden C x.name x.desc).before args s = true)
    (hcast : (Cond.castable C x.cls).before args s = true) (hcode : (Cond.codeWith y bytes maxL ret hh).before args s = true) (hx : x.cls ≠ "java/lang/invoke/MethodHandle" ∧ x.cls ≠ "java/lang/invoke/VarHandle")
    {W : Nat} {Pre : Pt → Array Value → Prop} {Post : Pt → Array Value → Option Value → Pt → Prop} {PostX : Pt → Array Value → Addr → Pt → Prop} (hK : vx_Back l R p e below s args y 5 W Pre Post PostX)
    {b : Addr} {cellB : Cell} {kB : Class} (hcell : T.heap[b]? = some cellB) (hobj : cellB.vm.isStatics = false) (hcls : s.vm.findClass C = some cellB.cls) (hkB : s.vm.classes[cellB.cls]? = some kB)
    {g : JFrame} (hg : g.method = m) (hsize : g.locals.size = c.maxLocals) {argsL rest : List Value} (hlen : ∀ sig, parseMethodDescriptor x.desc = some sig → argsL.length = sig.parameters.length)
    (hstack : g.stack = argsL.reverse ++ .ref b :: rest) (hW : 2 * g.monitorRoom + (rest.map fun v => v.category).sum ≤ W) (hdg : decode c.code g.pc = .ok (.invokeinterface index count, 5))
    (hpre : ∀ vm₁, s.WarmedH vm₁ → Pre ⟨T.setVm vm₁, locs, cells, slots⟩ (Value.ref b :: argsL).toArray) :
    (∃ (v : Option Value) (vm₁ : Vm) (B : Pt), s.WarmedH vm₁ ∧ Stand p l e R s m args below meth c B.U B.locs B.cells B.slots ∧ Post ⟨T.setVm vm₁, locs, cells, slots⟩ (Value.ref b :: argsL).toArray v B ∧
      ∀ target, Steps p.tables e below (B.U.setTop { g with pc := g.pc + 5, stack := v.toList ++ rest }) target → Steps p.tables e below (T.setTop g) target) ∨
    (∃ (q : Addr) (vm₁ : Vm) (B : Pt), s.WarmedH vm₁ ∧ Stand p l e R s m args below meth c B.U B.locs B.cells B.slots ∧ PostX ⟨T.setVm vm₁, locs, cells, slots⟩ (Value.ref b :: argsL).toArray q B ∧
      Steps p.tables e below (T.setTop g) ((B.U.setTop { g with stack := rest }).pushFrame (.throwing q))) := by
  obtain ⟨r0, r, hn, hrm, hstR, hsigR⟩ := Cond.declares_spec hdecl
  obtain ⟨cL, kL, r1, hcL, hkL, hiL, hfoundL, hn1⟩ := Cond.interfaceMethod_spec hface
  cases hn.symm.trans hn1
  have hr0cls : r0.cls = cL := Option.some.inj ((findClass_of_methodNamed hn).symm.trans hcL)
  obtain ⟨hnameR, hdescR⟩ := name_of_methodNamed hn hrm
  obtain ⟨mk, methM, hnamed, hmethM, -, habM⟩ := Cond.instanceMethod_spec hinst
  obtain ⟨c2, r2, m2, q1, q2, q3, q4, -⟩ := Cond.selects_spec hsel
  cases hcls.symm.trans q1
  cases hfoundL.symm.trans q2
  cases hnamed.symm.trans q3
  have hselP : selectMethod e.platform s.vm cellB.cls r0 = .method mk := by rw [Launch.admits_selectMethod X.admits]; exact q4
  have hpubM : hasFlag methM.accessFlags Acc.public_ = true := Cond.publicMethod_spec hnamed hmethM hpub
  have hway : ((cellB.cls :: s.vm.superclasses cellB.cls).any fun k => (declaredIn s.vm r.name r.desc k).any fun (_, z) => z.isPrivate || z.isStatic) = false := by
    rw [hnameR, hdescR]; exact Cond.unhidden_spec hcls hunh
  obtain ⟨c3, t3, w1, w2, w3⟩ := Cond.castable_spec hcast
  cases hcls.symm.trans w1
  cases hcL.symm.trans w2
  obtain ⟨vm₁, X₁, hstep₁⟩ := X.invokeinterface hexec hown hlink hn hrm hstR (by rw [hr0cls]; exact hkL) hiL hx (a := b) (cell := cellB) (kcell := kB) hcell
    (fun z h => by rw [h] at hobj; cases hobj) hkB (by rw [hr0cls]; exact w3) hselP hmethM hway hpubM habM (g := g) hg (argsL := argsL) (rest := rest) (hlen _ hsigR) hstack hdg
  rcases hK m meth c ⟨T.setVm vm₁, locs, cells, slots⟩ { g with stack := rest } (.invokeinterface index count) mk (Value.ref b :: argsL).toArray X₁ hg hsize hdg hW (X₁.named hnamed) (hpre vm₁ X₁.warmed) with ⟨v, B, X', hpost, hsteps⟩ | ⟨q, B, X', hpost, hsteps⟩
  · exact Or.inl ⟨v, vm₁, B, X₁.warmed, X', hpost, fun target h => hstep₁ _ fun acts => by rw [doInvoke_state]; exact hsteps.trans h⟩
  · exact Or.inr ⟨q, vm₁, B, X₁.warmed, X', hpost, hstep₁ _ fun acts => by rw [doInvoke_state]; exact hsteps⟩
theorem vx_runFW {x y : MethodName} {bytes cc : ByteArray} {maxL nL mc ms n index count : Nat} {ret : Option FieldType} {hh : List (Nat × Nat × Nat × Nat)} {ws : List Cond} {rm : Room} {Pc : Array Value → State → Prop} {Qc : Array Value → State → Outcome → State → Prop} {XC : String → State → State → Prop} {free : Addr → Prop} {Ts : List Cond} {own C : String} {cC : ClassId} {b : Addr} {As rest : List Value} {g : JFrame}
    (hat : ClassAt s C cC) (S : CallFix p m c cc nL s args Ts own) (hM : vx_Met l y ws rm Pc Qc XC mc ms free) (cw : va_CIW R s args own C index x y bytes maxL ret hh ws rm mc ms n) (hp : PreV s H C b Pc As)
    (hg : g.method = m) (hn : As.length = n) (hsize : g.locals.size = nL) (hstack : g.stack = As.reverse ++ .ref b :: rest) (hW : 2 * g.monitorRoom + (rest.map fun v => v.category).sum ≤ 8) (hdg : decode cc g.pc = .ok (.invokeinterface index count, 5)) (hf : cells + mc ≤ R.cells ∧ slots + ms ≤ R.slots) :
    vx_Run5 p l e R s m args below meth c H locs cells slots mc ms g rest (Qc (Value.ref b :: As).toArray) XC free := by
  obtain ⟨hrc, hrs, hfr, hlo, hws, hcw⟩ := cw.back
  have hini := cw.init
  have hK : vx_Back l R p e below s args y 5 8 (PreOf R mc ms Pc) (PostOf Qc mc ms free) (vx_Post XC mc ms free) := vx_backW (hh := hh) (bytes := bytes) (maxL := maxL) (ret := ret) hM hp.1 hrc hrs hfr hlo hws hcw (fun a' U hW => word_at hW (Or.inl (by first | rfl | simp [Cond.onTables, Cond.keeps, Cond.steady])) hini)
  obtain ⟨hx, hb, hml, ho, -⟩ := S
  obtain ⟨-, ⟨cellB, hcB, hoB, hclB⟩, hPc⟩ := hp
  obtain ⟨hfc, kB, hkB, -⟩ := hat
  cases hfc.symm.trans hclB
  intro T hT X
  rcases vx_callIFW X hx (C := C) (hh := hh) (bytes := bytes) (maxL := maxL) (ret := ret) ho cw.link cw.decl cw.face cw.sel cw.inst cw.pub cw.unh cw.cast cw.code cw.notMH hK (by rw [hT]; exact hcB) hoB hclB hkB hg (hsize.trans hml.symm) (argsL := As) (rest := rest) (fun sig h => hn.trans (cw.len sig h)) hstack hW (by rw [hb]; exact hdg)
    (fun vm₁ hW₁ => ⟨hf.1, hf.2, hPc (T.setVm vm₁) hT hW₁⟩) with ⟨v, vm₁, ⟨U', l2, c2, s2⟩, hW₁, X', ⟨g', mk, t, L, e1, e2, hq, h1, hL, h2, h3⟩, st⟩ | ⟨q, vm₁, ⟨U', l2, c2, s2⟩, hW₁, X', ⟨g', mk, t, L, E, ce, e1, e2, hq, hce, hcv, hcl, h1, hL, h2, h3⟩, st⟩
  · dsimp only [Pt.U, Pt.locs, Pt.cells, Pt.slots] at X' e1 e2 h1 h2 h3 st
    subst h1; subst h2; subst h3
    exact Or.inl ⟨v, (T.setVm vm₁).calling g' mk (Value.ref b :: As).toArray, t, U', L, hT, X', hL, e1, e2, hq, st⟩
  · dsimp only [Pt.U, Pt.locs, Pt.cells, Pt.slots] at X' e1 e2 h1 h2 h3 st hcl
    subst h1; subst h2; subst h3
    exact Or.inr ⟨q, (T.setVm vm₁).calling g' mk (Value.ref b :: As).toArray, t, U', L, E, ce, hT, X', hL, e1, e2, hq, hce, hcv, vx_cls hW₁ hcl, st⟩
end
/-! ===== END ===== -/
/-! ===== BEGIN .. of methods that hand back an object of the pool ===== -/
section
variable {p : Program} {l : Launch} {e : Env} {R : Room} {s : State} {m : MethodId} {args : Array Value} {below : List Frame} {meth : Method} {c : Code} {H : Heap} {locs : List Loc} {cells slots : Nat} {Q : State → Prop}
variable {mc ms : Nat} {free : Addr → Prop} {A0 A1 : Nat → Prop} {H0 : Heap} {a : Array Value} {pc : Nat} {ls : Array Slot} {st0 rest : List Value}
theorem vx_callq {S SX : Type} {post : Option Nat → S → Prop} {px : SX → Prop} {B : S → State → Prop} {BX : String → SX → State → Prop} {AX : Nat → Prop} (hr : vx_Run p l e R s m args below meth c H locs cells slots mc ms (F0 m pc ls st0) rest (va_Qq post B A1 a) (vx_X px BX AX) free) (hS : va_S A0 H0 H locs) (hA : ∀ q, q < H.size → A1 q → A0 q) (hf : ∀ q, free q → A0 q) (hAX : ∀ q, q < H.size → AX q → A0 q)
    (kx : ∀ (E : String) (ce : Cell) (q9 : Addr) (u : SX) (t : State) (H1 : Heap) (locs1 : List Loc), t.heap = H1 → s.vm.Alike t.vm → px u → BX E u t → H.size ≤ H1.size → (∀ q : Nat, q < H.size → ¬ AX q → H1[q]? = H[q]?) → va_S A0 H0 H1 locs1 → H1[q9]? = some ce → ce.vm = .none → s.vm.findClass E = some ce.cls → vx_W p l e R s m args below meth c H1 locs1 (cells + mc) (slots + ms) Q (F0 m pc ls rest) q9)
    (kk : ∀ (r : Option Nat) (u : S) (t : State) (H1 : Heap) (locs1 : List Loc), t.heap = H1 → s.vm.Alike t.vm → post r u → B u t → H.size ≤ H1.size → (∀ q : Nat, q < H.size → ¬ A1 q → H1[q]? = H[q]?) → va_S A0 H0 H1 locs1 → W p l e R s m args below meth c H1 locs1 (cells + mc) (slots + ms) Q (F0 m (pc + 3) ls (va_rf r :: rest))) : W p l e R s m args below meth c H locs cells slots Q (F0 m pc ls st0) := by
  intro T hT X
  rcases hr T hT X with ⟨v, st₀, t, T', L, h0, X', hL, e1, e2, ⟨⟨r, u, hv, hp, hb⟩, hF⟩, st⟩ | ⟨q, st₀, t, T', L, E, ce, h0, X', hL, e1, e2, ⟨u, hp, hb, hF⟩, hce, hcv, hcl, st⟩
  · cases hv
    obtain ⟨k1, k2, k3⟩ := vx_keep h0 e1 hS hA hf hL hF
    obtain ⟨t2, a1, b1⟩ := kk r u t T'.heap (locs ++ L) e1.symm (by rw [← e2]; exact X'.warmed.alike) hp hb k1 k2 k3 T' rfl X'
    exact ⟨t2, st t2 a1, b1⟩
  · obtain ⟨k1, k2, k3⟩ := vx_keep h0 e1 hS hAX hf hL hF
    obtain ⟨t2, a1, b1⟩ := kx E ce q u t T'.heap (locs ++ L) e1.symm (by rw [← e2]; exact X'.warmed.alike) hp hb k1 k2 k3 (by rw [e1]; exact hce) hcv hcl T' rfl X'
    exact ⟨t2, st.trans a1, b1⟩
end
/-! ===== END ===== -/
/-! ===== BEGIN .. a constant ===== -/
section
variable {p : Program} {l : Launch} {e : Env} {R : Room} {s : State} {m : MethodId} {args : Array Value} {below : List Frame} {meth : Method} {c : Code} {H : Heap} {locs : List Loc} {cells slots : Nat} {Q : State → Prop}
variable {mc ms : Nat} {free : Addr → Prop} {A0 A1 : Nat → Prop} {H0 : Heap} {a : Array Value} {pc : Nat} {ls : Array Slot} {st0 rest : List Value}
theorem vx_calle {ad : Nat → Nat} {S SX : Type} {post : Option Nat → S → Prop} {px : SX → Prop} {B : S → State → Prop} {BX : String → SX → State → Prop} {AX : Nat → Prop} (hr : vx_Run p l e R s m args below meth c H locs cells slots mc ms (F0 m pc ls st0) rest (va_Qe ad post B A1 a) (vx_X px BX AX) free) (hS : va_S A0 H0 H locs) (hA : ∀ q, q < H.size → A1 q → A0 q) (hf : ∀ q, free q → A0 q) (hAX : ∀ q, q < H.size → AX q → A0 q)
    (kx : ∀ (E : String) (ce : Cell) (q9 : Addr) (u : SX) (t : State) (H1 : Heap) (locs1 : List Loc), t.heap = H1 → s.vm.Alike t.vm → px u → BX E u t → H.size ≤ H1.size → (∀ q : Nat, q < H.size → ¬ AX q → H1[q]? = H[q]?) → va_S A0 H0 H1 locs1 → H1[q9]? = some ce → ce.vm = .none → s.vm.findClass E = some ce.cls → vx_W p l e R s m args below meth c H1 locs1 (cells + mc) (slots + ms) Q (F0 m pc ls rest) q9)
    (kk : ∀ (r : Option Nat) (u : S) (t : State) (H1 : Heap) (locs1 : List Loc), t.heap = H1 → s.vm.Alike t.vm → post r u → B u t → H.size ≤ H1.size → (∀ q : Nat, q < H.size → ¬ A1 q → H1[q]? = H[q]?) → va_S A0 H0 H1 locs1 → W p l e R s m args below meth c H1 locs1 (cells + mc) (slots + ms) Q (F0 m (pc + 3) ls (va_re ad r :: rest))) : W p l e R s m args below meth c H locs cells slots Q (F0 m pc ls st0) := by
  intro T hT X
  rcases hr T hT X with ⟨v, st₀, t, T', L, h0, X', hL, e1, e2, ⟨⟨r, u, hv, hp, hb⟩, hF⟩, st⟩ | ⟨q, st₀, t, T', L, E, ce, h0, X', hL, e1, e2, ⟨u, hp, hb, hF⟩, hce, hcv, hcl, st⟩
  · cases hv
    obtain ⟨k1, k2, k3⟩ := vx_keep h0 e1 hS hA hf hL hF
    obtain ⟨t2, a1, b1⟩ := kk r u t T'.heap (locs ++ L) e1.symm (by rw [← e2]; exact X'.warmed.alike) hp hb k1 k2 k3 T' rfl X'
    exact ⟨t2, st t2 a1, b1⟩
  · obtain ⟨k1, k2, k3⟩ := vx_keep h0 e1 hS hAX hf hL hF
    obtain ⟨t2, a1, b1⟩ := kx E ce q u t T'.heap (locs ++ L) e1.symm (by rw [← e2]; exact X'.warmed.alike) hp hb k1 k2 k3 (by rw [e1]; exact hce) hcv hcl T' rfl X'
    exact ⟨t2, st.trans a1, b1⟩
end
/-! ===== END ===== -/
/-! ===== BEGIN .. by an interface, an object ===== -/
section
variable {p : Program} {l : Launch} {e : Env} {R : Room} {s : State} {m : MethodId} {args : Array Value} {below : List Frame} {meth : Method} {c : Code} {H : Heap} {locs : List Loc} {cells slots : Nat} {Q : State → Prop}
variable {mc ms : Nat} {free : Addr → Prop} {A0 A1 : Nat → Prop} {H0 : Heap} {a : Array Value} {pc : Nat} {ls : Array Slot} {st0 rest : List Value}
theorem vx_callFq {S SX : Type} {post : Option Nat → S → Prop} {px : SX → Prop} {B : S → State → Prop} {BX : String → SX → State → Prop} {AX : Nat → Prop} (hr : vx_Run5 p l e R s m args below meth c H locs cells slots mc ms (F0 m pc ls st0) rest (va_Qq post B A1 a) (vx_X px BX AX) free) (hS : va_S A0 H0 H locs) (hA : ∀ q, q < H.size → A1 q → A0 q) (hf : ∀ q, free q → A0 q) (hAX : ∀ q, q < H.size → AX q → A0 q)
    (kx : ∀ (E : String) (ce : Cell) (q9 : Addr) (u : SX) (t : State) (H1 : Heap) (locs1 : List Loc), t.heap = H1 → s.vm.Alike t.vm → px u → BX E u t → H.size ≤ H1.size → (∀ q : Nat, q < H.size → ¬ AX q → H1[q]? = H[q]?) → va_S A0 H0 H1 locs1 → H1[q9]? = some ce → ce.vm = .none → s.vm.findClass E = some ce.cls → vx_W p l e R s m args below meth c H1 locs1 (cells + mc) (slots + ms) Q (F0 m pc ls rest) q9)
    (kk : ∀ (r : Option Nat) (u : S) (t : State) (H1 : Heap) (locs1 : List Loc), t.heap = H1 → s.vm.Alike t.vm → post r u → B u t → H.size ≤ H1.size → (∀ q : Nat, q < H.size → ¬ A1 q → H1[q]? = H[q]?) → va_S A0 H0 H1 locs1 → W p l e R s m args below meth c H1 locs1 (cells + mc) (slots + ms) Q (F0 m (pc + 5) ls (va_rf r :: rest))) : W p l e R s m args below meth c H locs cells slots Q (F0 m pc ls st0) := by
  intro T hT X
  rcases hr T hT X with ⟨v, st₀, t, T', L, h0, X', hL, e1, e2, ⟨⟨r, u, hv, hp, hb⟩, hF⟩, st⟩ | ⟨q, st₀, t, T', L, E, ce, h0, X', hL, e1, e2, ⟨u, hp, hb, hF⟩, hce, hcv, hcl, st⟩
  · cases hv
    obtain ⟨k1, k2, k3⟩ := vx_keep h0 e1 hS hA hf hL hF
    obtain ⟨t2, a1, b1⟩ := kk r u t T'.heap (locs ++ L) e1.symm (by rw [← e2]; exact X'.warmed.alike) hp hb k1 k2 k3 T' rfl X'
    exact ⟨t2, st t2 a1, b1⟩
  · obtain ⟨k1, k2, k3⟩ := vx_keep h0 e1 hS hAX hf hL hF
    obtain ⟨t2, a1, b1⟩ := kx E ce q u t T'.heap (locs ++ L) e1.symm (by rw [← e2]; exact X'.warmed.alike) hp hb k1 k2 k3 (by rw [e1]; exact hce) hcv hcl T' rfl X'
    exact ⟨t2, st.trans a1, b1⟩
end
/-! ===== END ===== -/
/-! ===== BEGIN .. by an interface, a constant ===== -/
section
variable {p : Program} {l : Launch} {e : Env} {R : Room} {s : State} {m : MethodId} {args : Array Value} {below : List Frame} {meth : Method} {c : Code} {H : Heap} {locs : List Loc} {cells slots : Nat} {Q : State → Prop}
variable {mc ms : Nat} {free : Addr → Prop} {A0 A1 : Nat → Prop} {H0 : Heap} {a : Array Value} {pc : Nat} {ls : Array Slot} {st0 rest : List Value}
theorem vx_callFe {ad : Nat → Nat} {S SX : Type} {post : Option Nat → S → Prop} {px : SX → Prop} {B : S → State → Prop} {BX : String → SX → State → Prop} {AX : Nat → Prop} (hr : vx_Run5 p l e R s m args below meth c H locs cells slots mc ms (F0 m pc ls st0) rest (va_Qe ad post B A1 a) (vx_X px BX AX) free) (hS : va_S A0 H0 H locs) (hA : ∀ q, q < H.size → A1 q → A0 q) (hf : ∀ q, free q → A0 q) (hAX : ∀ q, q < H.size → AX q → A0 q)
    (kx : ∀ (E : String) (ce : Cell) (q9 : Addr) (u : SX) (t : State) (H1 : Heap) (locs1 : List Loc), t.heap = H1 → s.vm.Alike t.vm → px u → BX E u t → H.size ≤ H1.size → (∀ q : Nat, q < H.size → ¬ AX q → H1[q]? = H[q]?) → va_S A0 H0 H1 locs1 → H1[q9]? = some ce → ce.vm = .none → s.vm.findClass E = some ce.cls → vx_W p l e R s m args below meth c H1 locs1 (cells + mc) (slots + ms) Q (F0 m pc ls rest) q9)
    (kk : ∀ (r : Option Nat) (u : S) (t : State) (H1 : Heap) (locs1 : List Loc), t.heap = H1 → s.vm.Alike t.vm → post r u → B u t → H.size ≤ H1.size → (∀ q : Nat, q < H.size → ¬ A1 q → H1[q]? = H[q]?) → va_S A0 H0 H1 locs1 → W p l e R s m args below meth c H1 locs1 (cells + mc) (slots + ms) Q (F0 m (pc + 5) ls (va_re ad r :: rest))) : W p l e R s m args below meth c H locs cells slots Q (F0 m pc ls st0) := by
  intro T hT X
  rcases hr T hT X with ⟨v, st₀, t, T', L, h0, X', hL, e1, e2, ⟨⟨r, u, hv, hp, hb⟩, hF⟩, st⟩ | ⟨q, st₀, t, T', L, E, ce, h0, X', hL, e1, e2, ⟨u, hp, hb, hF⟩, hce, hcv, hcl, st⟩
  · cases hv
    obtain ⟨k1, k2, k3⟩ := vx_keep h0 e1 hS hA hf hL hF
    obtain ⟨t2, a1, b1⟩ := kk r u t T'.heap (locs ++ L) e1.symm (by rw [← e2]; exact X'.warmed.alike) hp hb k1 k2 k3 T' rfl X'
    exact ⟨t2, st t2 a1, b1⟩
  · obtain ⟨k1, k2, k3⟩ := vx_keep h0 e1 hS hAX hf hL hF
    obtain ⟨t2, a1, b1⟩ := kx E ce q u t T'.heap (locs ++ L) e1.symm (by rw [← e2]; exact X'.warmed.alike) hp hb k1 k2 k3 (by rw [e1]; exact hce) hcv hcl T' rfl X'
    exact ⟨t2, st.trans a1, b1⟩
end
/-! ===== END ===== -/
/-! ===== BEGIN what the machine throws by itself: null at a field, at athrow ===== -/
section VXM2
variable {p : Program} {l : Launch} {e : Env} {R : Room} {s : State} {m : MethodId} {args : Array Value} {below : List Frame} {meth : Method} {c : Code} {H : Heap} {locs : List Loc} {cells slots : Nat}
variable {Q : State → Prop} {cc : ByteArray} {pc : Nat} {ls : Array Slot} {rest : List Value}
theorem vx_getfN {D cl tys} {own ref C : String} {T : u_T} {N ci index : Nat} {Ts : List Cond} (hexec : p.tables.exec = Jvm.exec) (hb : c.code = cc) (hts : ∀ w ∈ Ts, w.before args s = true) (hin : ∀ w ∈ u_ws C T N, w ∈ Ts) (hown : s.vm.findClass own = some m.cls) (hK : va_K D cl tys s) (hc : cl[ci]? = some (C, T, N)) (k : Nat) (hk : k < N) (hlink : (Cond.fieldLink own index ref (T k).2.1 (T k).2.2.1).before args s = true) (hsame : ∀ x, s.fieldFound? (T k).1 (T k).2.1 (T k).2.2.1 = some x → s.fieldFound? ref (T k).2.1 (T k).2.2.1 = some x) (hdg : decode cc pc = .ok (.getfield index, 3)) (kk : vx_NoteN p l e R s m args below meth c H locs cells slots Q (F0 m pc ls rest)) : W p l e R s m args below meth c H locs cells slots Q (F0 m pc ls (.null :: rest)) := by
  obtain ⟨hS, hfc, kC, hkC, -⟩ := hK.1 ci _ hc
  obtain ⟨cf, kf, fi, f, hi, -⟩ := hS k hk
  intro U hU X
  obtain ⟨vm', X1, st1⟩ := X.getfieldNull hexec hown hlink (hsame _ hi) (u_facts hfc hkC (u_lays hts hin hk) hi).1 (g := F0 m pc ls (.null :: rest)) rfl (rest := rest) rfl (by rw [hb]; exact hdg)
  obtain ⟨t, st, q⟩ := kk (U.setVm vm') hU X1
  exact ⟨t, st1 t st, q⟩
theorem vx_getfNN {D cl tys} {own ref C host : String} {T : u_T} {N ci index : Nat} {Ts : List Cond} (hexec : p.tables.exec = Jvm.exec) (hb : c.code = cc) (hts : ∀ w ∈ Ts, w.before args s = true) (hin : ∀ w ∈ u_ws C T N, w ∈ Ts) (hown : s.vm.findClass own = some m.cls) (hK : va_K D cl tys s) (hc : cl[ci]? = some (C, T, N)) (k : Nat) (hk : k < N) (hlink : (Cond.fieldLinkNest own index ref (T k).2.1 (T k).2.2.1 host).before args s = true) (hsame : ∀ x, s.fieldFound? (T k).1 (T k).2.1 (T k).2.2.1 = some x → s.fieldFound? ref (T k).2.1 (T k).2.2.1 = some x) (hdg : decode cc pc = .ok (.getfield index, 3)) (kk : vx_NoteN p l e R s m args below meth c H locs cells slots Q (F0 m pc ls rest)) : W p l e R s m args below meth c H locs cells slots Q (F0 m pc ls (.null :: rest)) := by
  obtain ⟨hS, hfc, kC, hkC, -⟩ := hK.1 ci _ hc
  obtain ⟨cf, kf, fi, f, hi, -⟩ := hS k hk
  intro U hU X
  obtain ⟨vm', X1, st1⟩ := X.getfieldNullNest hexec hown hlink (hsame _ hi) (u_facts hfc hkC (u_lays hts hin hk) hi).1 (g := F0 m pc ls (.null :: rest)) rfl (rest := rest) rfl (by rw [hb]; exact hdg)
  obtain ⟨t, st, q⟩ := kk (U.setVm vm') hU X1
  exact ⟨t, st1 t st, q⟩
theorem vx_putfN {D cl tys} {own ref C : String} {T : u_T} {N ci index : Nat} {Ts : List Cond} (hexec : p.tables.exec = Jvm.exec) (hb : c.code = cc) (hts : ∀ w ∈ Ts, w.before args s = true) (hin : ∀ w ∈ u_ws C T N, w ∈ Ts) (hown : s.vm.findClass own = some m.cls) (hK : va_K D cl tys s) (hc : cl[ci]? = some (C, T, N)) (k : Nat) (hk : k < N) (hlink : (Cond.fieldLink own index ref (T k).2.1 (T k).2.2.1).before args s = true) (hsame : ∀ x, s.fieldFound? (T k).1 (T k).2.1 (T k).2.2.1 = some x → s.fieldFound? ref (T k).2.1 (T k).2.2.1 = some x) (hfin : (T k).2.2.2 = false) {v : Value} (hdg : decode cc pc = .ok (.putfield index, 3)) (kk : vx_NoteN p l e R s m args below meth c H locs cells slots Q (F0 m pc ls rest)) : W p l e R s m args below meth c H locs cells slots Q (F0 m pc ls (v :: .null :: rest)) := by
  obtain ⟨hS, hfc, kC, hkC, -⟩ := hK.1 ci _ hc
  obtain ⟨cf, kf, fi, f, hi, -⟩ := hS k hk
  have hlay := hts _ (hin _ (u_in_lay hk))
  unfold u_lay at hlay
  rw [if_neg (by rw [hfin]; decide)] at hlay
  obtain ⟨c9, k9, cf9, kf9, fi9, f9, -, -, hi9, hst9, hnf9, -⟩ := Cond.lays_spec hlay
  cases hi.symm.trans hi9
  intro U hU X
  obtain ⟨vm', X1, st1⟩ := X.putfieldNull hexec hown hlink (hsame _ hi) hst9 hnf9 (g := F0 m pc ls (v :: .null :: rest)) rfl (v := v) (rest := rest) rfl (by rw [hb]; exact hdg)
  obtain ⟨t, st, q⟩ := kk (U.setVm vm') hU X1
  exact ⟨t, st1 t st, q⟩
theorem vx_putfNN {D cl tys} {own ref C host : String} {T : u_T} {N ci index : Nat} {Ts : List Cond} (hexec : p.tables.exec = Jvm.exec) (hb : c.code = cc) (hts : ∀ w ∈ Ts, w.before args s = true) (hin : ∀ w ∈ u_ws C T N, w ∈ Ts) (hown : s.vm.findClass own = some m.cls) (hK : va_K D cl tys s) (hc : cl[ci]? = some (C, T, N)) (k : Nat) (hk : k < N) (hlink : (Cond.fieldLinkNest own index ref (T k).2.1 (T k).2.2.1 host).before args s = true) (hsame : ∀ x, s.fieldFound? (T k).1 (T k).2.1 (T k).2.2.1 = some x → s.fieldFound? ref (T k).2.1 (T k).2.2.1 = some x) (hfin : (T k).2.2.2 = false) {v : Value} (hdg : decode cc pc = .ok (.putfield index, 3)) (kk : vx_NoteN p l e R s m args below meth c H locs cells slots Q (F0 m pc ls rest)) : W p l e R s m args below meth c H locs cells slots Q (F0 m pc ls (v :: .null :: rest)) := by
  obtain ⟨hS, hfc, kC, hkC, -⟩ := hK.1 ci _ hc
  obtain ⟨cf, kf, fi, f, hi, -⟩ := hS k hk
  have hlay := hts _ (hin _ (u_in_lay hk))
  unfold u_lay at hlay
  rw [if_neg (by rw [hfin]; decide)] at hlay
  obtain ⟨c9, k9, cf9, kf9, fi9, f9, -, -, hi9, hst9, hnf9, -⟩ := Cond.lays_spec hlay
  cases hi.symm.trans hi9
  intro U hU X
  obtain ⟨vm', X1, st1⟩ := X.putfieldNullNest hexec hown hlink (hsame _ hi) hst9 hnf9 (g := F0 m pc ls (v :: .null :: rest)) rfl (v := v) (rest := rest) rfl (by rw [hb]; exact hdg)
  obtain ⟨t, st, q⟩ := kk (U.setVm vm') hU X1
  exact ⟨t, st1 t st, q⟩
theorem vx_athrowN (hexec : p.tables.exec = Jvm.exec) (hb : c.code = cc) (hdg : decode cc pc = .ok (.athrow, 1)) (k : vx_NoteN p l e R s m args below meth c H locs cells slots Q (F0 m pc ls rest)) : W p l e R s m args below meth c H locs cells slots Q (F0 m pc ls (.null :: rest)) := by
  intro T hT X
  obtain ⟨t, st, q⟩ := k T hT X
  exact ⟨t, X.athrowNull hexec (g := F0 m pc ls (.null :: rest)) rfl (rest := rest) rfl (by rw [hb]; exact hdg) t st, q⟩
end VXM2
/-! ===== END ===== -/
end
section
/-! names and field tables of the classes whose objects lie in the world (begun from claim/NAMES.whole.lean.txt) -/
def TX0 : u_T := fun k => match k with
  | _ => ("", "", "", false)
def tyX0 : Nat → FieldType := fun k => match k with
  | _ => .int
theorem nmX0 : ∀ a, a < 0 → ∀ b, b < 0 → a ≠ b → (TX0 a).2.1 ≠ (TX0 b).2.1 := by decide +kernel
theorem tyX0_ok : ∀ k, k < 0 → parseFieldDescriptor (TX0 k).2.2.1 = some (tyX0 k) := by decide +kernel
def TX1 : u_T := fun k => match k with
  | 0 => ("FairWalls$Fair", "state", "LFairWalls$State;", true)
  | _ => ("FairWalls$Fair", "power", "LFairWalls$Power;", true)
def tyX1 : Nat → FieldType := fun k => match k with
  | 0 => .object "FairWalls$State"
  | _ => .object "FairWalls$Power"
theorem nmX1 : ∀ a, a < 2 → ∀ b, b < 2 → a ≠ b → (TX1 a).2.1 ≠ (TX1 b).2.1 := by decide +kernel
theorem tyX1_ok : ∀ k, k < 2 → parseFieldDescriptor (TX1 k).2.2.1 = some (tyX1 k) := by decide +kernel
def TX2 : u_T := fun k => match k with
  | 0 => ("FairWalls$FairText", "signs", "[C", true)
  | 1 => ("FairWalls$FairText", "numbers", "[I", true)
  | 2 => ("FairWalls$FairText", "size", "I", false)
  | 3 => ("FairWalls$FairText", "position", "I", false)
  | _ => ("FairWalls$FairText", "letter", "I", false)
def tyX2 : Nat → FieldType := fun k => match k with
  | 0 => .array .char
  | 1 => .array .int
  | 2 => .int
  | 3 => .int
  | _ => .int
theorem nmX2 : ∀ a, a < 5 → ∀ b, b < 5 → a ≠ b → (TX2 a).2.1 ≠ (TX2 b).2.1 := by decide +kernel
theorem tyX2_ok : ∀ k, k < 5 → parseFieldDescriptor (TX2 k).2.2.1 = some (tyX2 k) := by decide +kernel
def TX3 : u_T := fun k => match k with
  | 0 => ("FairWalls$Past", "states", "[LFairWalls$State;", true)
  | 1 => ("FairWalls$Past", "next", "I", false)
  | _ => ("FairWalls$Past", "count", "I", false)
def tyX3 : Nat → FieldType := fun k => match k with
  | 0 => .array (.object "FairWalls$State")
  | 1 => .int
  | _ => .int
theorem nmX3 : ∀ a, a < 3 → ∀ b, b < 3 → a ≠ b → (TX3 a).2.1 ≠ (TX3 b).2.1 := by decide +kernel
theorem tyX3_ok : ∀ k, k < 3 → parseFieldDescriptor (TX3 k).2.2.1 = some (tyX3 k) := by decide +kernel
def TX4 : u_T := fun k => match k with
  | 0 => ("FairWalls$Power", "taken", "[I", true)
  | 1 => ("FairWalls$Power", "metres", "[I", true)
  | _ => ("FairWalls$Power", "had", "[I", true)
def tyX4 : Nat → FieldType := fun k => match k with
  | 0 => .array .int
  | 1 => .array .int
  | _ => .array .int
theorem nmX4 : ∀ a, a < 3 → ∀ b, b < 3 → a ≠ b → (TX4 a).2.1 ≠ (TX4 b).2.1 := by decide +kernel
theorem tyX4_ok : ∀ k, k < 3 → parseFieldDescriptor (TX4 k).2.2.1 = some (tyX4 k) := by decide +kernel
def TX5 : u_T := fun k => match k with
  | 0 => ("FairWalls$Slots", "states", "[LFairWalls$State;", true)
  | _ => ("FairWalls$Slots", "filled", "[Z", true)
def tyX5 : Nat → FieldType := fun k => match k with
  | 0 => .array (.object "FairWalls$State")
  | _ => .array .boolean
theorem nmX5 : ∀ a, a < 2 → ∀ b, b < 2 → a ≠ b → (TX5 a).2.1 ≠ (TX5 b).2.1 := by decide +kernel
theorem tyX5_ok : ∀ k, k < 2 → parseFieldDescriptor (TX5 k).2.2.1 = some (tyX5 k) := by decide +kernel
def TX6 : u_T := fun k => match k with
  | 0 => ("FairWalls$State", "length", "[I", true)
  | 1 => ("FairWalls$State", "plugs", "[I", true)
  | 2 => ("FairWalls$State", "goods", "[I", true)
  | 3 => ("FairWalls$State", "frontage", "[I", true)
  | 4 => ("FairWalls$State", "wanted", "[I", true)
  | 5 => ("FairWalls$State", "wall", "[I", true)
  | 6 => ("FairWalls$State", "first", "[I", true)
  | 7 => ("FairWalls$State", "owed", "[I", true)
  | 8 => ("FairWalls$State", "settings", "[I", true)
  | 9 => ("FairWalls$State", "walls", "I", false)
  | 10 => ("FairWalls$State", "dealers", "I", false)
  | 11 => ("FairWalls$State", "day", "I", false)
  | 12 => ("FairWalls$State", "swaps", "I", false)
  | _ => ("FairWalls$State", "refused", "I", false)
def tyX6 : Nat → FieldType := fun k => match k with
  | 0 => .array .int
  | 1 => .array .int
  | 2 => .array .int
  | 3 => .array .int
  | 4 => .array .int
  | 5 => .array .int
  | 6 => .array .int
  | 7 => .array .int
  | 8 => .array .int
  | 9 => .int
  | 10 => .int
  | 11 => .int
  | 12 => .int
  | _ => .int
theorem nmX6 : ∀ a, a < 14 → ∀ b, b < 14 → a ≠ b → (TX6 a).2.1 ≠ (TX6 b).2.1 := by decide +kernel
theorem tyX6_ok : ∀ k, k < 14 → parseFieldDescriptor (TX6 k).2.2.1 = some (tyX6 k) := by decide +kernel
def TX7 : u_T := fun k => match k with
  | 0 => ("FairWalls", "fair", "LFairWalls$Fair;", true)
  | 1 => ("FairWalls", "trial", "LFairWalls$Fair;", true)
  | 2 => ("FairWalls", "past", "LFairWalls$Past;", true)
  | 3 => ("FairWalls", "slots", "LFairWalls$Slots;", true)
  | 4 => ("FairWalls", "text", "LFairWalls$FairText;", true)
  | _ => ("FairWalls", "groups", "[I", true)
def tyX7 : Nat → FieldType := fun k => match k with
  | 0 => .object "FairWalls$Fair"
  | 1 => .object "FairWalls$Fair"
  | 2 => .object "FairWalls$Past"
  | 3 => .object "FairWalls$Slots"
  | 4 => .object "FairWalls$FairText"
  | _ => .array .int
theorem nmX7 : ∀ a, a < 6 → ∀ b, b < 6 → a ≠ b → (TX7 a).2.1 ≠ (TX7 b).2.1 := by decide +kernel
theorem tyX7_ok : ∀ k, k < 6 → parseFieldDescriptor (TX7 k).2.2.1 = some (tyX7 k) := by decide +kernel
def TX8 : u_T := fun k => match k with
  | 0 => ("FairWallsModel", "refusal", "I", false)
  | 1 => ("FairWallsModel", "now", "[I", true)
  | 2 => ("FairWallsModel", "trial", "[I", true)
  | 3 => ("FairWallsModel", "read", "[I", true)
  | 4 => ("FairWallsModel", "book", "[I", true)
  | 5 => ("FairWallsModel", "states", "I", false)
  | 6 => ("FairWallsModel", "kept", "[I", true)
  | 7 => ("FairWallsModel", "isKept", "[Z", true)
  | 8 => ("FairWallsModel", "taken", "[I", true)
  | 9 => ("FairWallsModel", "has", "[I", true)
  | 10 => ("FairWallsModel", "source", "[I", true)
  | 11 => ("FairWallsModel", "text", "[I", true)
  | 12 => ("FairWallsModel", "length", "I", false)
  | 13 => ("FairWallsModel", "at", "I", false)
  | 14 => ("FairWallsModel", "good", "Z", false)
  | _ => ("FairWallsModel", "leftOut", "I", false)
def tyX8 : Nat → FieldType := fun k => match k with
  | 0 => .int
  | 1 => .array .int
  | 2 => .array .int
  | 3 => .array .int
  | 4 => .array .int
  | 5 => .int
  | 6 => .array .int
  | 7 => .array .boolean
  | 8 => .array .int
  | 9 => .array .int
  | 10 => .array .int
  | 11 => .array .int
  | 12 => .int
  | 13 => .int
  | 14 => .boolean
  | _ => .int
theorem nmX8 : ∀ a, a < 16 → ∀ b, b < 16 → a ≠ b → (TX8 a).2.1 ≠ (TX8 b).2.1 := by decide +kernel
theorem tyX8_ok : ∀ k, k < 16 → parseFieldDescriptor (TX8 k).2.2.1 = some (tyX8 k) := by decide +kernel
abbrev clsL : List vw_C := [("FairWalls$Fair", TX1, 2), ("FairWalls$Fair", TX1, 2), ("FairWalls$FairText", TX2, 5), ("FairWalls$Past", TX3, 3), ("FairWalls$Power", TX4, 3), ("FairWalls$Slots", TX5, 2), ("FairWalls$State", TX6, 14), ("FairWalls", TX7, 6), ("FairWallsModel", TX8, 16)]
theorem inTX1 : ∀ w ∈ u_ws "FairWalls$Fair" TX1 2, w ∈ lw_tbl := by decide +kernel
theorem gdTX1 : ∀ w ∈ u_ws "FairWalls$Fair" TX1 2, goodWord w = true := by decide +kernel
theorem inTX2 : ∀ w ∈ u_ws "FairWalls$FairText" TX2 5, w ∈ lw_tbl := by decide +kernel
theorem gdTX2 : ∀ w ∈ u_ws "FairWalls$FairText" TX2 5, goodWord w = true := by decide +kernel
theorem inTX3 : ∀ w ∈ u_ws "FairWalls$Past" TX3 3, w ∈ lw_tbl := by decide +kernel
theorem gdTX3 : ∀ w ∈ u_ws "FairWalls$Past" TX3 3, goodWord w = true := by decide +kernel
theorem inTX4 : ∀ w ∈ u_ws "FairWalls$Power" TX4 3, w ∈ lw_tbl := by decide +kernel
theorem gdTX4 : ∀ w ∈ u_ws "FairWalls$Power" TX4 3, goodWord w = true := by decide +kernel
theorem inTX5 : ∀ w ∈ u_ws "FairWalls$Slots" TX5 2, w ∈ lw_tbl := by decide +kernel
theorem gdTX5 : ∀ w ∈ u_ws "FairWalls$Slots" TX5 2, goodWord w = true := by decide +kernel
theorem inTX6 : ∀ w ∈ u_ws "FairWalls$State" TX6 14, w ∈ lw_tbl := by decide +kernel
theorem gdTX6 : ∀ w ∈ u_ws "FairWalls$State" TX6 14, goodWord w = true := by decide +kernel
theorem inTX7 : ∀ w ∈ u_ws "FairWalls" TX7 6, w ∈ lw_tbl := by decide +kernel
theorem gdTX7 : ∀ w ∈ u_ws "FairWalls" TX7 6, goodWord w = true := by decide +kernel
theorem inTX8 : ∀ w ∈ u_ws "FairWallsModel" TX8 16, w ∈ lw_tbl := by decide +kernel
theorem gdTX8 : ∀ w ∈ u_ws "FairWallsModel" TX8 16, goodWord w = true := by decide +kernel
end
section
/-! THE WORLD: every cell that the law makes has a number (an id). What an id is (its class, its length, whom its references name) is fixed for good; what changes are ints alone: HP. -/
abbrev HP : Type := Nat → Nat → Int32
def kT : List Nat := [7,10,1,1,4,10,10,10,4,10,10,10,3,14,5,14,11,2,12,10,8,10,10,10,10,10,11,10,10,10,10,13,20,20,20]
/-- what an id is: 1 Fair, 2 FairText, 3 Past, 4 Power, 5 Slots, 6 State, 7 FairWalls, 8 the reference; 10 int[], 11 boolean[], 12 char[], 13 long[], 14 State[]; 20 a static int[] -/
def knd (i : Nat) : Nat := if i < 180 then (if i % 10 = 0 then 6 else 10) else kT.getD (i - 180) 0
def lT : List Nat := [0,3,0,0,0,120,30,10,0,120,30,10,0,14,0,2,2,0,120,3,0,196,196,196,2744,392,2,120,10,30,120,1,6,6,72]
def sT : List Nat := [0,4,120,10,10,10,10,10,10,6]
def alen (i : Nat) : Nat := if i < 180 then sT.getD (i % 10) 0 else lT.getD (i - 180) 0
def fT : List (List Nat) := [[182,183,192,194,197,181],[],[0,184],[10,188],[185,186,187],[],[],[],[189,190,191],[],[],[],[193],[],[195,196],[],[],[198,199],[],[],[0,201,202,203,204,0,205,206,207,208,209,210]]
def fld (i k : Nat) : Nat := if i < 180 then i + 1 + k else if i = 193 then 20 + 10 * k else if i = 195 then 160 + 10 * k else (fT.getD (i - 180) []).getD k 0
def isR (c k : Nat) : Bool := match c with
  | 1 => true
  | 2 => Nat.blt k 2
  | 3 => Nat.blt k 1
  | 4 => true
  | 5 => true
  | 6 => Nat.blt k 9
  | 7 => true
  | 8 => [false, true, true, true, true, false, true, true, true, true, true, true].getD k false
  | _ => false
def nF (c : Nat) : Nat := [0, 2, 5, 3, 3, 2, 14, 6, 16].getD c 0
def aty (c : Nat) : FieldType := match c with
  | 11 => .boolean
  | 12 => .char
  | 13 => .long
  | 14 => .object "FairWalls$State"
  | _ => .int
def sarr (i j : Nat) : Int32 := if i = 212 then ([6, 1, 5, 3, 4, 2] : List Int32).getD j 0 else if i = 213 then ([50, 9, 50, 50, 50, 9] : List Int32).getD j 0 else
  ([2, 4, 30, 0, 0, 0, 0, 0, 0, 1, 0, 3, 2, 0, 29, 1, 0, 4, 1, 0, 5, 1, 1, 9, 1, 0, 3, 1, 0, 9, 1, 0, 3, 2, 0, 29, 1, 0, 9, 0, 0, 0, 0, 0, 0, 1, 0, 9, 1, 0, 9, 0, 0, 0, 2, 1, 60, 0, 0, 0, 0, 0, 0, 1, 0, 5, 2, 0, 50, 0, 0, 0] : List Int32).getD j 0
def cv (ad : Nat → Nat) (v : Value) : Value := match v with
  | .ref i => .ref (ad i)
  | w => w
theorem cv_cat (ad : Nat → Nat) (v : Value) : (cv ad v).category = v.category := by cases v <;> rfl
def ent (ad : Nat → Nat) (aC : Nat → ClassId) (h : HP) (i : Nat) : va_E :=
  if knd i < 10 then .inr (knd i, (List.range (nF (knd i))).map (fun k => if isR (knd i) k = true then Value.ref (ad (fld i k)) else .int (h i k)))
  else .inl (aC i, alen i, if knd i = 13 then .inr (.inl (fun j => (h i j).toInt64)) else if knd i = 14 then .inr (.inr (.inr (.inr (fun j => some (ad (fld i j)))))) else .inl (h i))
def wl (ad : Nat → Nat) (aC : Nat → ClassId) (h : HP) : va_W := (List.range 212).map (fun i => (ad i, ent ad aC h i))
def hset (h : HP) (a k : Nat) (v : Int32) : HP := fun i => if i = a then upd (h a) k v else h i
def hrow (h : HP) (a : Nat) (f : Nat → Int32) : HP := fun i => if i = a then f else h i
theorem hset_eq (h : HP) (a k : Nat) (v : Int32) : hset h a k v = hrow h a (upd (h a) k v) := rfl
theorem hrow_s (h : HP) (a : Nat) (f : Nat → Int32) : hrow h a f a = f := if_pos rfl
theorem hrow_n (h : HP) {a i : Nat} (f : Nat → Int32) (n : i ≠ a) : hrow h a f i = h i := if_neg n
/-- facts about ids, decided over all of them -/
theorem knd_lt {i c : Nat} (h : knd i = c) (hc : c ≠ 0) : i < 215 := by
  rcases Nat.lt_or_ge i 215 with q | q
  · exact q
  · exfalso
    apply hc
    rw [← h]
    unfold knd
    rw [if_neg (by omega)]
    simp only [List.getD_eq_getElem?_getD]
    rw [List.getElem?_eq_none (by simp [kT]; omega)]
    rfl
theorem kd {P : Nat → Prop} {c : Nat} (hc : c ≠ 0) (hd : ∀ i, i < 215 → knd i = c → P i) {i : Nat} (h : knd i = c) : P i := hd i (knd_lt h hc) h
theorem knd_w : ∀ i, i < 215 → knd i < 20 → i < 212 := by decide +kernel
theorem knd_in {i c : Nat} (h : knd i = c) (hc : c ≠ 0) (hc2 : c < 20) : i < 212 := knd_w i (knd_lt h hc) (by rw [h]; exact hc2)
theorem ent_o {ad : Nat → Nat} {aC : Nat → ClassId} {h : HP} {i c : Nat} (hk : knd i = c) (hc : c < 10) : ent ad aC h i = .inr (c, (List.range (nF c)).map (fun k => if isR c k = true then Value.ref (ad (fld i k)) else .int (h i k))) := by
  subst hk
  unfold ent
  rw [if_pos hc]
theorem ent_i {ad : Nat → Nat} {aC : Nat → ClassId} {h : HP} {i c : Nat} (hk : knd i = c) (hc : c = 10 ∨ c = 11 ∨ c = 12) : ent ad aC h i = .inl (aC i, alen i, .inl (h i)) := by
  subst hk
  unfold ent
  rw [if_neg (by omega), if_neg (by omega), if_neg (by omega)]
theorem ent_l {ad : Nat → Nat} {aC : Nat → ClassId} {h : HP} {i : Nat} (hk : knd i = 13) : ent ad aC h i = .inl (aC i, alen i, .inr (.inl (fun j => (h i j).toInt64))) := by
  unfold ent
  rw [if_neg (by omega), if_pos hk]
theorem ent_q {ad : Nat → Nat} {aC : Nat → ClassId} {h : HP} {i : Nat} (hk : knd i = 14) : ent ad aC h i = .inl (aC i, alen i, .inr (.inr (.inr (.inr (fun j => some (ad (fld i j))))))) := by
  unfold ent
  rw [if_neg (by omega), if_neg (by omega), if_pos hk]
theorem ent_c {ad : Nat → Nat} {aC : Nat → ClassId} {h h' : HP} {i : Nat} (e : h i = h' i) : ent ad aC h i = ent ad aC h' i := by
  unfold ent
  rw [e]
theorem wl_len (ad : Nat → Nat) (aC : Nat → ClassId) (h : HP) : (wl ad aC h).length = 212 := by simp [wl]
theorem wl_at (ad : Nat → Nat) (aC : Nat → ClassId) (h : HP) {i : Nat} (hi : i < 212) : (wl ad aC h)[i]? = some (ad i, ent ad aC h i) := by
  simp [wl, hi]
theorem wl_get {ad : Nat → Nat} {aC : Nat → ClassId} {h : HP} {i : Nat} {q : Nat × va_E} (hq : (wl ad aC h)[i]? = some q) : i < 212 ∧ q = (ad i, ent ad aC h i) := by
  have hi : i < 212 := by
    have := (List.getElem?_eq_some_iff.mp hq).1
    rw [wl_len] at this
    exact this
  rw [wl_at ad aC h hi] at hq
  exact ⟨hi, (Option.some.inj hq).symm⟩
theorem wl_set {ad : Nat → Nat} {aC : Nat → ClassId} {h : HP} {a : Nat} {f : Nat → Int32} {e : va_E} (he : e = ent ad aC (hrow h a f) a) : (wl ad aC h).set a (ad a, e) = wl ad aC (hrow h a f) := by
  subst he
  apply List.ext_getElem?
  intro i
  rw [List.getElem?_set]
  by_cases hi : i < 212
  · rw [wl_at _ _ (hrow h a f) hi, wl_at _ _ h hi, wl_len]
    by_cases e : a = i
    · subst e
      rw [if_pos rfl, if_pos hi]
    · rw [if_neg e, ent_c (h' := hrow h a f)]
      rw [hrow_n _ _ (fun q => e q.symm)]
  · have hn : (212 : Nat) ≤ i := by omega
    rw [List.getElem?_eq_none (by rw [wl_len]; exact hn), List.getElem?_eq_none (l := wl ad aC (hrow h a f)) (by rw [wl_len]; exact hn), wl_len]
    by_cases e : a = i
    · rw [if_pos e, if_neg (by omega)]
    · rw [if_neg e]
def Inj (ad : Nat → Nat) : Prop := ∀ i j, i < 212 → j < 212 → ad i = ad j → i = j
/-- what a method may write: the world's cells, and what is new since sz -/
def AA (ad : Nat → Nat) (sz : Nat) : Nat → Prop := fun q => (∃ i, i < 212 ∧ q = ad i) ∨ sz ≤ q
theorem AA_in {ad : Nat → Nat} {sz i : Nat} (hi : i < 212) : AA ad sz (ad i) := Or.inl ⟨i, hi, rfl⟩
theorem AA_new {ad : Nat → Nat} {sz : Nat} : ∀ q : Nat, sz ≤ q → AA ad sz q := fun _ h => Or.inr h
theorem AA_sub {ad : Nat → Nat} {a b : Nat} (h : a ≤ b) : ∀ q, AA ad b q → AA ad a q := fun q hq => hq.elim Or.inl (fun z => Or.inr (Nat.le_trans h z))
theorem wl_D {ad : Nat → Nat} {aC : Nat → ClassId} (hI : Inj ad) (h : HP) (sz : Nat) : va_D (AA ad sz) (wl ad aC h) := by
  refine ⟨fun i j p q hp hq e => ?_, fun k q hq => ?_⟩
  · obtain ⟨h1, rfl⟩ := wl_get hp
    obtain ⟨h2, rfl⟩ := wl_get hq
    exact hI i j h1 h2 e
  · obtain ⟨h1, rfl⟩ := wl_get hq
    exact AA_in h1
/-- words that stand in the tables and hold wherever the method runs -/
def GT : List Cond := lw_tbl.filter goodWord
theorem gt {w : Cond} (h : w ∈ lw_tbl) (g : goodWord w = true) : w ∈ GT := List.mem_filter.mpr ⟨h, g⟩
theorem gtb {w : Cond} (i : Nat) (h : tables_1[i]? = some w) (g : goodWord w = true) : w ∈ GT := gt (List.mem_append_right _ (List.mem_of_getElem? h)) g
theorem gts {w : Cond} (i : Nat) (h : (k2_sels lw_privs)[i]? = some w) (g : goodWord w = true) : w ∈ GT := gt (List.mem_append_left _ (List.mem_of_getElem? h)) g
def isNest (w : Cond) : Bool := match w with
  | .fieldLinkNest _ _ _ _ _ _ => true
  | .methodLinkNest _ _ _ _ => true
  | .castable _ _ => true
  | .declares _ => true
  | _ => false
def NWs : List Cond := tables_1.filter isNest
theorem nwt {w : Cond} (i : Nat) (h : tables_1[i]? = some w) (g : isNest w = true) : w ∈ NWs := List.mem_filter.mpr ⟨List.mem_of_getElem? h, g⟩
def sCN (i : Nat) : String × String := if i = 212 then ("FairWalls$State", "FIRST_SETTINGS") else if i = 213 then ("FairWalls$Fair", "MAX_SETTINGS") else ("FairWalls$FairText", "GRAMMAR")
def txF (i : Nat) : Nat × String := if i = 0 then (327, "no such wall, metre, dealer or save slot") else if i = 1 then (334, "an argument is out of its range") else (339, "the fair is not in a state for this")
def lixB : List Int32 := [119, 111, 100, 112, 108, 115, 110, 101]
/-- the texts -/
def EvS (ad : Nat → Nat) (A : Nat → Prop) (U : State) (H : Heap) : Prop :=
  (∀ i, i < 3 → ∃ a, vk_R "FairWalls" (txF i).1 (txF i).2 a U) ∧ vk_R "FairWalls$FairText" 40 "wodplsne" (ad 215) U ∧ vk_S 1 [8] [lixB] (fun _ => ad 215) (fun _ => ad 216) A U H ∧ va_Z "java/lang/String" "COMPACT_STRINGS" "Z" (.int 1) A U H
theorem EvS.warm {ad : Nat → Nat} {A : Nat → Prop} {s U : State} {H : Heap} (hW : s.WarmedH U.vm) (h : EvS ad A s H) : EvS ad A U H :=
  ⟨fun i hi => (h.1 i hi).imp fun _ q => vk_R.warm hW q, vk_R.warm hW h.2.1, vk_S.moved hW.alike h.2.2.1, va_Z.moved hW.alike h.2.2.2⟩
theorem EvS.same {ad : Nat → Nat} {A : Nat → Prop} {s U : State} {H : Heap} (hv : s.vm = U.vm) (h : EvS ad A s H) : EvS ad A U H := by
  have hal : s.vm.Alike U.vm := by rw [hv]; exact Vm.Alike.refl _
  exact ⟨fun i hi => (h.1 i hi).imp fun _ q => vk_R.same hv.symm q, vk_R.same hv.symm h.2.1, vk_S.moved hal h.2.2.1, va_Z.moved hal h.2.2.2⟩
theorem EvS.kept {ad : Nat → Nat} {A : Nat → Prop} {U : State} {H H1 : Heap} (h : EvS ad A U H) (hq : ∀ a : Nat, a < H.size → ¬ A a → H1[a]? = H[a]?) : EvS ad A U H1 := ⟨h.1, h.2.1, h.2.2.1.kept hq, h.2.2.2.kept hq⟩
theorem EvS.narrow {ad : Nat → Nat} {A B : Nat → Prop} {U : State} {H : Heap} (h : EvS ad A U H) (hAB : ∀ q, B q → A q) : EvS ad B U H := ⟨h.1, h.2.1, h.2.2.1.narrow hAB, h.2.2.2.narrow hAB⟩
def ncP : List (String × String) := [("java/lang/IllegalArgumentException", "java/lang/IllegalStateException"), ("java/lang/IllegalArgumentException", "java/lang/IndexOutOfBoundsException"), ("java/lang/IllegalStateException", "java/lang/IllegalArgumentException"), ("java/lang/IllegalStateException", "java/lang/IndexOutOfBoundsException"), ("java/lang/IndexOutOfBoundsException", "java/lang/IllegalArgumentException"), ("java/lang/IndexOutOfBoundsException", "java/lang/IllegalStateException")]
def EvN (U : State) : Prop := ∀ q ∈ ncP, va_Nc q.1 q.2 U
/-- what the tables and the statics give, all along -/
def Ev (ad : Nat → Nat) (A : Nat → Prop) (U : State) (H : Heap) : Prop :=
  (∀ w ∈ NWs, va_Nw w U) ∧
  (∀ i, 212 ≤ i → i < 215 → va_Z (sCN i).1 (sCN i).2 "[I" (.ref (ad i)) A U H ∧ va_T .int (ad i) (alen i) (fun j => .int (sarr i j)) A U H) ∧
  (vx_Zq Bundle.tN "UNASSIGNED_STACK" Bundle.steD A U H ∧ vx_Zq Bundle.tN "SUPPRESSED_SENTINEL" Bundle.listD A U H) ∧ EvS ad A U H ∧ EvN U
theorem Nw_warm {s U : State} (hW : s.WarmedH U.vm) {w : Cond} (hw : w ∈ NWs) (h : va_Nw w s) : va_Nw w U := by
  have g : isNest w = true := (List.mem_filter.mp hw).2
  cases w <;> first | exact va_Nw.warmF hW h | exact va_Nw.warmM hW h | exact va_Nw.warmC hW h | exact va_Nw.warmD hW h | (exfalso; simp [isNest] at g)
theorem Nw_tab {w : Cond} (hw : w ∈ NWs) : w.onTables = true := by
  have g : isNest w = true := (List.mem_filter.mp hw).2
  cases w <;> first | rfl | (exfalso; simp [isNest] at g)
theorem Ev.warm {ad : Nat → Nat} {A : Nat → Prop} {s U : State} {H : Heap} (hW : s.WarmedH U.vm) (h : Ev ad A s H) : Ev ad A U H :=
  ⟨fun w hw => Nw_warm hW hw (h.1 w hw), fun i h1 h2 => ⟨va_Z.moved hW.alike (h.2.1 i h1 h2).1, va_T.moved hW.alike (h.2.1 i h1 h2).2⟩, ⟨vx_Zq.moved hW.alike h.2.2.1.1, vx_Zq.moved hW.alike h.2.2.1.2⟩, h.2.2.2.1.warm hW, fun q hq => va_Nc.moved hW.alike (h.2.2.2.2 q hq)⟩
theorem Ev.same {ad : Nat → Nat} {A : Nat → Prop} {s U : State} {H : Heap} (hv : s.vm = U.vm) (h : Ev ad A s H) : Ev ad A U H := by
  have hal : s.vm.Alike U.vm := by rw [hv]; exact Vm.Alike.refl _
  exact ⟨fun w hw => va_Nw.same (Nw_tab hw) hv (h.1 w hw), fun i h1 h2 => ⟨va_Z.moved hal (h.2.1 i h1 h2).1, va_T.moved hal (h.2.1 i h1 h2).2⟩, ⟨vx_Zq.moved hal h.2.2.1.1, vx_Zq.moved hal h.2.2.1.2⟩, h.2.2.2.1.same hv, fun q hq => va_Nc.moved hal (h.2.2.2.2 q hq)⟩
theorem Ev.kept {ad : Nat → Nat} {A : Nat → Prop} {U : State} {H H1 : Heap} (h : Ev ad A U H) (hq : ∀ a : Nat, a < H.size → ¬ A a → H1[a]? = H[a]?) : Ev ad A U H1 :=
  ⟨h.1, fun i h1 h2 => ⟨(h.2.1 i h1 h2).1.kept hq, (h.2.1 i h1 h2).2.kept hq⟩, ⟨h.2.2.1.1.kept hq, h.2.2.1.2.kept hq⟩, h.2.2.2.1.kept hq, h.2.2.2.2⟩
theorem Ev.narrow {ad : Nat → Nat} {A B : Nat → Prop} {U : State} {H : Heap} (h : Ev ad A U H) (hAB : ∀ q, B q → A q) : Ev ad B U H :=
  ⟨h.1, fun i h1 h2 => ⟨(h.2.1 i h1 h2).1.narrow hAB, (h.2.1 i h1 h2).2.narrow hAB⟩, ⟨h.2.2.1.1.narrow hAB, h.2.2.1.2.narrow hAB⟩, h.2.2.2.1.narrow hAB, h.2.2.2.2⟩
/-- what is known of classes and array classes -/
def KK (D : va_G) (aC : Nat → ClassId) (U : State) : Prop := va_K D clsL [] U ∧ ∀ i, i < 212 → 10 ≤ knd i → ArrOfT U (aC i) (aty (knd i)) ∧ va_RA U (aC i) (aty (knd i))
theorem KK.moved {D : va_G} {aC : Nat → ClassId} {u U : State} (hvm : u.vm.Alike U.vm) (h : KK D aC u) : KK D aC U :=
  ⟨va_K.moved hvm h.1, fun i h1 h2 => ⟨arrOfT_moved hvm (h.2 i h1 h2).1, (h.2 i h1 h2).2.moved hvm⟩⟩
theorem KK.arr {D : va_G} {aC : Nat → ClassId} {U : State} (h : KK D aC U) {i c : Nat} (hk : knd i = c) (h1 : 10 ≤ c) (h2 : c < 20) : va_K D clsL [(aC i, aty c)] U := by
  refine ⟨h.1.1, fun k q hq => ?_⟩
  cases k with
  | zero =>
    cases hq
    have hi : i < 212 := knd_in hk (by omega) h2
    have := h.2 i hi (by omega)
    rw [hk] at this
    exact this
  | succ k => simp at hq
def Wd (D : va_G) (ad : Nat → Nat) (aC : Nat → ClassId) (h : HP) (U : State) (H : Heap) : Prop := va_P D clsL (wl ad aC h) H ∧ KK D aC U
theorem Wd.moved {D : va_G} {ad : Nat → Nat} {aC : Nat → ClassId} {h : HP} {s U : State} {H : Heap} (hW : s.vm.Alike U.vm) (w : Wd D ad aC h s H) : Wd D ad aC h U H := ⟨w.1, KK.moved hW w.2⟩
/-! locals -/
def asc (ad : Nat → Nat) : Nat → List (Option Value) → List (Nat × Value)
  | _, [] => []
  | i, none :: l => asc ad (i + 1) l
  | i, some v :: l => (i, cv ad v) :: asc ad (i + 1) l
theorem asc_mem {ad : Nat → Nat} : ∀ {ls : List (Option Value)} {i j : Nat} {w : Value}, (j, w) ∈ asc ad i ls ↔ i ≤ j ∧ ∃ v, ls[j - i]? = some (some v) ∧ w = cv ad v := by
  intro ls
  induction ls with
  | nil => intro i j w; simp [asc]
  | cons a l ih =>
    intro i j w
    have step : ((j, w) ∈ asc ad (i + 1) l) ↔ (i + 1 ≤ j ∧ ∃ v, (a :: l)[j - i]? = some (some v) ∧ w = cv ad v) := by
      rw [ih]
      constructor
      · rintro ⟨h1, v, h2, h3⟩
        refine ⟨h1, v, ?_, h3⟩
        rw [show j - i = (j - (i + 1)) + 1 by omega, List.getElem?_cons_succ]
        exact h2
      · rintro ⟨h1, v, h2, h3⟩
        refine ⟨h1, v, ?_, h3⟩
        rw [show j - i = (j - (i + 1)) + 1 by omega, List.getElem?_cons_succ] at h2
        exact h2
    cases a with
    | none =>
      simp only [asc]
      rw [step]
      constructor
      · rintro ⟨h1, v, h2, h3⟩
        exact ⟨by omega, v, h2, h3⟩
      · rintro ⟨h1, v, h2, h3⟩
        refine ⟨?_, v, h2, h3⟩
        rcases Nat.lt_or_ge i j with q | q
        · exact q
        · exfalso
          rw [show j - i = 0 by omega] at h2
          simp at h2
    | some b =>
      simp only [asc, List.mem_cons]
      rw [step]
      constructor
      · rintro (h | ⟨h1, v, h2, h3⟩)
        · cases h
          exact ⟨Nat.le_refl _, b, by simp, rfl⟩
        · exact ⟨by omega, v, h2, h3⟩
      · rintro ⟨h1, v, h2, h3⟩
        rcases Nat.lt_or_ge i j with q | q
        · exact Or.inr ⟨q, v, h2, h3⟩
        · left
          rw [show j - i = 0 by omega] at h2
          simp at h2
          subst h2
          rw [h3, show j = i by omega]
def LV (ad : Nat → Nat) (cs : Array Slot) (nL : Nat) (ls : List (Option Value)) : Prop := ls.length = nL ∧ lv_has cs nL (asc ad 0 ls)
theorem LV.get {ad : Nat → Nat} {cs : Array Slot} {nL : Nat} {ls : List (Option Value)} (h : LV ad cs nL ls) {i : Nat} {v : Value} (hv : ls[i]? = some (some v)) : cs[i]? = some (.val (cv ad v)) :=
  h.2.2.2 (i, cv ad v) (asc_mem.mpr ⟨Nat.zero_le _, v, by simpa using hv, rfl⟩)
theorem LV.ix {ad : Nat → Nat} {cs : Array Slot} {nL : Nat} {ls : List (Option Value)} (h : LV ad cs nL ls) {i : Nat} {v : Value} (hv : ls[i]? = some (some v)) : ∃ k : Nat, (asc ad 0 ls)[k]? = some (i, cv ad v) :=
  List.getElem?_of_mem (asc_mem.mpr ⟨Nat.zero_le _, v, by simpa using hv, rfl⟩)
def isL (o : Option Value) : Bool := match o with
  | some (.long _) => true
  | some (.double _) => true
  | _ => false
def okS (ls : List (Option Value)) (i : Nat) : Bool := Nat.blt i ls.length && (Nat.beq i 0 || !(isL (ls.getD (i - 1) none)))
theorem isL_cat {ad : Nat → Nat} {v : Value} (h : isL (some v) = false) : ¬ (cv ad v).category = 2 := by
  cases v <;> simp_all [isL, cv, Value.category]
theorem LV.set1 {ad : Nat → Nat} {cs : Array Slot} {nL : Nat} {ls : List (Option Value)} {i : Nat} {v : Value} (h0 : ls.length = nL) (ho : okS ls i = true) (h : lv_has cs nL ((i, cv ad v) :: (asc ad 0 ls).filter (fun q => !(q.1 == i) && !(q.1 + 1 == i && q.2.category == 2)))) : LV ad cs nL (ls.set i (some v)) := by
  refine ⟨by simpa using h0, h.1, h.2.1, fun q hq => h.2.2 q ?_⟩
  obtain ⟨j, w⟩ := q
  obtain ⟨-, x, hx, rfl⟩ := asc_mem.mp hq
  simp only [okS, Bool.and_eq_true, Bool.or_eq_true, Nat.blt_eq, Nat.beq_eq, Bool.not_eq_true'] at ho
  by_cases e : i = j
  · subst e
    simp only [Nat.sub_zero, List.getElem?_set_self ho.1, Option.some.injEq] at hx
    rw [hx]
    exact List.mem_cons_self
  · simp only [Nat.sub_zero, List.getElem?_set_ne e] at hx
    refine List.mem_cons_of_mem _ (List.mem_filter.mpr ⟨asc_mem.mpr ⟨Nat.zero_le _, x, by simpa using hx, rfl⟩, ?_⟩)
    have n1 : (j == i) = false := by simpa using fun q => e q.symm
    simp only [n1, Bool.not_false, Bool.true_and, Bool.not_eq_true', Bool.and_eq_false_iff]
    by_cases e2 : j + 1 = i
    · right
      rcases ho.2 with z | z
      · omega
      · rw [show i - 1 = j by omega, List.getD_eq_getElem?_getD, hx] at z
        simpa using isL_cat (ad := ad) (v := x) (by simpa using z)
    · left; simpa using e2
theorem LV.set2 {ad : Nat → Nat} {cs : Array Slot} {nL : Nat} {ls : List (Option Value)} {i : Nat} {v : Value} (h0 : ls.length = nL) (ho : okS ls i = true) (h : lv_has cs nL ((i, cv ad v) :: (asc ad 0 ls).filter (fun q => !(q.1 == i) && (!(q.1 == i + 1) && !(q.1 + 1 == i && q.2.category == 2))))) : LV ad cs nL ((ls.set i (some v)).set (i + 1) none) := by
  refine ⟨by simpa using h0, h.1, h.2.1, fun q hq => h.2.2 q ?_⟩
  obtain ⟨j, w⟩ := q
  obtain ⟨-, x, hx, rfl⟩ := asc_mem.mp hq
  simp only [okS, Bool.and_eq_true, Bool.or_eq_true, Nat.blt_eq, Nat.beq_eq, Bool.not_eq_true'] at ho
  simp only [Nat.sub_zero] at hx
  by_cases e1 : i + 1 = j
  · subst e1
    rw [List.getElem?_set] at hx
    simp at hx
  · rw [List.getElem?_set_ne e1] at hx
    by_cases e : i = j
    · subst e
      simp only [List.getElem?_set_self ho.1, Option.some.injEq] at hx
      rw [hx]
      exact List.mem_cons_self
    · simp only [List.getElem?_set_ne e] at hx
      refine List.mem_cons_of_mem _ (List.mem_filter.mpr ⟨asc_mem.mpr ⟨Nat.zero_le _, x, by simpa using hx, rfl⟩, ?_⟩)
      have n1 : (j == i) = false := by simpa using fun q => e q.symm
      have n2 : (j == i + 1) = false := by simpa using fun q => e1 q.symm
      simp only [n1, n2, Bool.not_false, Bool.true_and, Bool.not_eq_true', Bool.and_eq_false_iff]
      by_cases e2 : j + 1 = i
      · right
        rcases ho.2 with z | z
        · omega
        · rw [show i - 1 = j by omega, List.getD_eq_getElem?_getD, hx] at z
          simpa using isL_cat (ad := ad) (v := x) (by simpa using z)
      · left; simpa using e2
theorem LV.setN {ad : Nat → Nat} {cs : Array Slot} {nL : Nat} {ls : List (Option Value)} {i : Nat} {w : Value} (h0 : ls.length = nL) (ho : okS ls i = true) (h : lv_has cs nL ((i, w) :: (asc ad 0 ls).filter (fun q => !(q.1 == i) && !(q.1 + 1 == i && q.2.category == 2)))) : LV ad cs nL (ls.set i none) := by
  refine ⟨by simpa using h0, h.1, h.2.1, fun q hq => h.2.2 q ?_⟩
  obtain ⟨j, w⟩ := q
  obtain ⟨-, x, hx, rfl⟩ := asc_mem.mp hq
  simp only [okS, Bool.and_eq_true, Bool.or_eq_true, Nat.blt_eq, Nat.beq_eq, Bool.not_eq_true'] at ho
  by_cases e : i = j
  · subst e
    simp [List.getElem?_set_self ho.1] at hx
  · simp only [Nat.sub_zero, List.getElem?_set_ne e] at hx
    refine List.mem_cons_of_mem _ (List.mem_filter.mpr ⟨asc_mem.mpr ⟨Nat.zero_le _, x, by simpa using hx, rfl⟩, ?_⟩)
    have n1 : (j == i) = false := by simpa using fun q => e q.symm
    simp only [n1, Bool.not_false, Bool.true_and, Bool.not_eq_true', Bool.and_eq_false_iff]
    by_cases e2 : j + 1 = i
    · right
      rcases ho.2 with z | z
      · omega
      · rw [show i - 1 = j by omega, List.getD_eq_getElem?_getD, hx] at z
        simpa using isL_cat (ad := ad) (v := x) (by simpa using z)
    · left; simpa using e2
/-- forgetting locals -/
theorem LV.wk {ad : Nat → Nat} {cs : Array Slot} {nL : Nat} {ls ls' : List (Option Value)} (h : LV ad cs nL ls) (hl : ls'.length = ls.length) (hs : ∀ (i : Nat) (v : Value), ls'[i]? = some (some v) → ls[i]? = some (some v)) : LV ad cs nL ls' :=
  ⟨hl.trans h.1, h.2.1, h.2.2.1, fun q hq => by
    obtain ⟨j, w⟩ := q
    obtain ⟨-, x, hx, rfl⟩ := asc_mem.mp hq
    exact h.get (hs j x (by simpa using hx))⟩
def ini : List Value → List (Option Value)
  | [] => []
  | v :: l => if v.category = 2 then some v :: none :: ini l else some v :: ini l
theorem ini_asc (ad : Nat → Nat) : ∀ (as : List Value) (i n : Nat), asc ad i (ini as ++ List.replicate n none) = lv_args i (as.map (cv ad)) := by
  intro as
  induction as with
  | nil =>
    intro i n
    simp only [ini, List.nil_append, List.map_nil, lv_args]
    induction n generalizing i with
    | zero => rfl
    | succ n ih => simp only [List.replicate_succ, asc]; exact ih (i + 1)
  | cons v l ih =>
    intro i n
    by_cases hc : v.category = 2
    · simp only [ini, if_pos hc, List.cons_append, asc, List.map_cons, lv_args, cv_cat, ih]
    · simp only [ini, if_neg hc, List.cons_append, asc, List.map_cons, lv_args, cv_cat, ih]
theorem ini_len (ad : Nat → Nat) : ∀ (as : List Value), (lg_sl (as.map (cv ad))).length = (ini as).length := by
  intro as
  induction as with
  | nil => rfl
  | cons v l ih =>
    simp only [lg_sl, List.map_cons, List.flatMap_cons, List.length_append, cv_cat] at ih ⊢
    by_cases hc : v.category = 2
    · simp only [ini, if_pos hc, List.length_cons, List.length_nil]; omega
    · simp only [ini, if_neg hc, List.length_cons, List.length_nil]; omega
def inil (as : List Value) (n : Nat) : List (Option Value) := ini as ++ List.replicate (n - (ini as).length) none
theorem LV.entry (ad : Nat → Nat) (as : List Value) {n : Nat} (h : (ini as).length ≤ n) : LV ad ((lg_sl (as.map (cv ad)) ++ List.replicate (n - (lg_sl (as.map (cv ad))).length) Slot.unset).toArray) n (inil as n) := by
  refine ⟨by simp [inil]; omega, ?_⟩
  rw [inil, ini_asc]
  exact lv_entry _ (by rw [ini_len]; exact h)
end
section
/-! THE RULES: Go = 'from this abstract place of a method the machine comes to the end that QQ tells'. A rule an instruction that touches the world, one rule for a run of those that touch locals and stack alone. -/
/-- a method: its name, code, locals, answer, how deep its calls go, how many exceptions it may make, its table -/
abbrev MI : Type := MethodName × ByteArray × Nat × Option FieldType × Nat × Nat × List (Nat × Nat × Nat × Nat)
abbrev MI.y (M : MI) : MethodName := M.1
abbrev MI.b (M : MI) : ByteArray := M.2.1
abbrev MI.mL (M : MI) : Nat := M.2.2.1
abbrev MI.ret (M : MI) : Option FieldType := M.2.2.2.1
abbrev MI.rk (M : MI) : Nat := M.2.2.2.2.1
abbrev MI.mc (M : MI) : Nat := M.2.2.2.2.2.1
abbrev MI.hh (M : MI) : List (Nat × Nat × Nat × Nat) := M.2.2.2.2.2.2
def rmk (M : MI) : Room := { frames := M.rk, cells := M.mc, slots := 6 * M.mc, locals := 38 * M.rk }
def codeW (M : MI) : Cond := match M.hh with
  | [] => Cond.code M.y M.b M.mL M.ret
  | hh => Cond.codeWith M.y M.b M.mL M.ret hh
def wsM (M : MI) : List Cond := codeW M :: GT
def Fx (ad : Nat → Nat) (M : MI) (p : Program) (s : State) (m : MethodId) (args : Array Value) (meth : Method) (c : Code) : Prop :=
  p.tables.exec = Jvm.exec ∧ c.code = M.b ∧ meth.sig.returnType = M.ret ∧ c.maxLocals = M.mL ∧ s.vm.findClass M.y.cls = some m.cls ∧ (∀ w ∈ GT, w.before args s = true) ∧ (M.rk < 12 → c.exceptionTable.toList = tableOf M.hh) ∧ meth.locks = false ∧ Ev ad (AA ad s.heap.size) s s.heap
theorem Fx.ev {ad : Nat → Nat} {M : MI} {p : Program} {s : State} {m : MethodId} {args : Array Value} {meth : Method} {c : Code} (F : Fx ad M p s m args meth c) : Ev ad (AA ad s.heap.size) s s.heap := F.2.2.2.2.2.2.2.2
def Go (l : Launch) (D : va_G) (ad : Nat → Nat) (aC : Nat → ClassId) (R : Room) (QQ : List Frame → Array Value → State → State → Prop) (M : MI) (pc : Nat) (ls : List (Option Value)) (st : List Value) (h : HP) (k n : Nat) : Prop :=
  ∀ (p : Program) (e : Env) (s : State) (m : MethodId) (args : Array Value) (below : List Frame) (meth : Method) (c : Code) (H : Heap) (locs : List Loc) (cs : Array Slot),
    Fx ad M p s m args meth c → va_S (AA ad s.heap.size) s.heap H locs → Wd D ad aC h s H → LV ad cs M.mL ls →
    W p l e R s m args below meth c H locs k n (QQ below args s) (F0 m pc cs (st.map (cv ad)))
/-- answers: a value (or none), or the exception's class -/
abbrev Res : Type := (Option Value) ⊕ String
def QR (D : va_G) (ad : Nat → Nat) (aC : Nat → ClassId) (res : Res) (h' : HP) (sz : Nat) : Array Value → State → Outcome → State → Prop := fun _ st o t =>
  (∃ v, res = .inl v ∧ o = .returned (v.map (cv ad))) ∧ va_P D clsL (wl ad aC h') t.heap ∧ va_F (AA ad sz) st t
def QX (D : va_G) (ad : Nat → Nat) (aC : Nat → ClassId) (res : Res) (h' : HP) (sz : Nat) : String → State → State → Prop := fun E st t =>
  res = .inr E ∧ va_P D clsL (wl ad aC h') t.heap ∧ va_F (AA ad sz) st t
def QM (D : va_G) (ad : Nat → Nat) (aC : Nat → ClassId) (M : MI) (res : Res) (h' : HP) : List Frame → Array Value → State → State → Prop := fun below args s =>
  vx_MQ below (QR D ad aC res h' s.heap.size) (QX D ad aC res h' s.heap.size) args s M.mc (6 * M.mc) (AA ad s.heap.size)
/-- the contract: called with as in the world h, the method ends with res, the world is h' -/
def CT (l : Launch) (D : va_G) (ad : Nat → Nat) (aC : Nat → ClassId) (M : MI) (as : List Value) (h : HP) (res : Res) (h' : HP) : Prop :=
  ∀ sz : Nat, vx_Met l M.y (wsM M) (rmk M) (va_Pc (as.map (cv ad)) (fun U => U.heap.size = sz ∧ Wd D ad aC h U U.heap ∧ Ev ad (AA ad sz) U U.heap)) (QR D ad aC res h' sz) (QX D ad aC res h' sz) M.mc (6 * M.mc) (AA ad sz)
theorem fx_ofW {l : Launch} {y : MethodName} {ws ws' : List Cond} {rm : Room} {Pc : Array Value → State → Prop} {Qc : Array Value → State → Outcome → State → Prop} {XC : String → State → State → Prop} {mc ms : Nat} {free : Addr → Prop} {cc : ByteArray} {maxL : Nat} {ret : Option FieldType}
    (hy : plainFor y = true) (hw : ws = Cond.code y cc maxL ret :: ws')
    (body : ∀ p e s m args below meth c s₁, BodyLoose p l y (headSpec ws rm) cc maxL ret e s m args below meth c s₁ → c.maxLocals = maxL → (∀ x ∈ c.exceptionTable.toList, False) → Pc args s →
      W p l e (headSpec ws rm).room s m args below meth c s.heap [] 0 0 (vx_MQ below Qc XC args s mc ms free) (entryFrame m args maxL)) : vx_Met l y ws rm Pc Qc XC mc ms free := by
  refine MetFree.of_bodySF (code := cc) (maxLocals := maxL) (ret := ret) hy ?_ ?_
  · intro args s m h hn
    obtain ⟨meth, c, h1, h2, h3, h4, h5, h6, -, -⟩ := Cond.code_spec hn (atoms_spec (ws := ws) h _ (by rw [hw]; exact List.mem_cons_self))
    exact ⟨meth, c, h1, h2, h3, h4, h5, h6⟩
  · intro p e s m args below meth c s₁ B hml hP _
    have hh0 : s₁.heap = s.heap := by rw [B.state]; rfl
    have ht : ∀ x ∈ c.exceptionTable.toList, False := by
      obtain ⟨meth9, c9, h1, h2, -, -, -, -, h7, -⟩ := Cond.code_spec B.named (atoms_spec (ws := ws) B.pre _ (by rw [hw]; exact List.mem_cons_self))
      cases Option.some.inj (h1.symm.trans B.method)
      cases Option.some.inj (h2.symm.trans (Stand.of_body B).code)
      intro x hx
      rw [Array.isEmpty_iff.mp h7] at hx
      cases hx
    obtain ⟨t, a1, o, b1, b2, b3⟩ := body p e s m args below meth c s₁ B hml ht hP s₁ hh0 (Stand.of_body B)
    exact ⟨t, o, a1, b1, b2, b3⟩
section RULES
variable {l : Launch} {D : va_G} {ad : Nat → Nat} {aC : Nat → ClassId} {R : Room} {QQ : List Frame → Array Value → State → State → Prop} {M : MI} {pc k n : Nat} {ls : List (Option Value)} {st rest : List Value} {h h' : HP}
theorem gtGood {w : Cond} (hw : w ∈ GT) : (w.onTables && w.keeps) = true ∨ ∃ ty, w = .arrayClass ty := good_of_word (List.mem_filter.mp hw).2
theorem CT.ofGo {as : List Value} {res : Res} (hy : plainFor M.y = true) (hh : M.hh = []) (hL : (ini as).length ≤ M.mL) (g : Go l D ad aC (rmk M) (QM D ad aC M res h') M 0 (inil as M.mL) [] h 0 0) : CT l D ad aC M as h res h' := by
  intro sz
  have hcw : wsM M = Cond.code M.y M.b M.mL M.ret :: GT := by unfold wsM codeW; rw [hh]
  refine fx_ofW (cc := M.b) (maxL := M.mL) (ret := M.ret) hy hcw ?_
  intro p e s m args below meth c s₁ B hml hx0 hv
  obtain ⟨rfl, hsz, hw, hev⟩ := hv
  subst hsz
  have hts := atoms_spec (ws := wsM M) B.pre
  rw [lg_entry_eq]
  have hemp : c.exceptionTable.toList = [] := List.eq_nil_iff_forall_not_mem.mpr fun x hx => hx0 x hx
  exact g p e s m _ below meth c s.heap [] _ ⟨B.exec, B.bytes, B.returns, hml, findClass_of_methodNamed B.named, fun w hw => hts w (List.mem_cons_of_mem _ hw), fun _ => by rw [hh]; exact hemp, B.notSynchronized, hev⟩ va_S.rf hw (LV.entry ad as hL)
theorem CT.ofGoH {as : List Value} {res : Res} {x : Nat × Nat × Nat × Nat} {hs : List (Nat × Nat × Nat × Nat)} (hy : plainName M.y.cls = true) (hh : M.hh = x :: hs) (hL : (ini as).length ≤ M.mL) (g : Go l D ad aC (rmk M) (QM D ad aC M res h') M 0 (inil as M.mL) [] h 0 0) : CT l D ad aC M as h res h' := by
  intro sz
  have hcw : wsM M = Cond.codeWith M.y M.b M.mL M.ret M.hh :: GT := by unfold wsM codeW; rw [hh]
  refine vx_ofWH (cc := M.b) (maxL := M.mL) (ret := M.ret) (hh := M.hh) hy hcw ?_
  intro p e s m args below meth c s₁ B hml hv
  obtain ⟨rfl, hsz, hw, hev⟩ := hv
  subst hsz
  have hts := atoms_spec (ws := wsM M) B.pre
  rw [lg_entry_eq]
  exact g p e s m _ below meth c s.heap [] _ ⟨B.exec, B.bytes, B.returns, hml, findClass_of_methodNamed B.named, fun w hw => hts w (List.mem_cons_of_mem _ hw), fun _ => vx_table (x := M.y) (y := M.y) B (hts _ (by rw [hcw]; exact List.mem_cons_self)), B.notSynchronized, hev⟩ va_S.rf hw (LV.entry ad as hL)
/-! simple instructions -/
def sI2 (f : Int32 → Int32 → Int32) (st : List Value) : Option (List Value) := match st with
  | .int y :: .int x :: r => some (.int (f x y) :: r)
  | _ => none
def sD2 (f : Int32 → Int32 → Int32) (st : List Value) : Option (List Value) := match st with
  | .int y :: .int x :: r => if y = 0 then none else some (.int (f x y) :: r)
  | _ => none
def sL2 (f : Int64 → Int64 → Int64) (st : List Value) : Option (List Value) := match st with
  | .long y :: .long x :: r => some (.long (f x y) :: r)
  | _ => none
def sM2 (f : Int64 → Int64 → Int64) (st : List Value) : Option (List Value) := match st with
  | .long y :: .long x :: r => if y = 0 then none else some (.long (f x y) :: r)
  | _ => none
def ldI (ls : List (Option Value)) (i : Nat) (st : List Value) : Option (List (Option Value) × List Value) := match ls[i]? with
  | some (some (.int x)) => some (ls, .int x :: st)
  | _ => none
def ldL (ls : List (Option Value)) (i : Nat) (st : List Value) : Option (List (Option Value) × List Value) := match ls[i]? with
  | some (some (.long x)) => some (ls, .long x :: st)
  | _ => none
def ldA (ls : List (Option Value)) (i : Nat) (st : List Value) : Option (List (Option Value) × List Value) := match ls[i]? with
  | some (some (.ref x)) => some (ls, .ref x :: st)
  | _ => none
def stI (ls : List (Option Value)) (i : Nat) (st : List Value) : Option (List (Option Value) × List Value) := match st with
  | .int x :: r => if okS ls i = true then some (ls.set i (some (.int x)), r) else none
  | _ => none
def stL (ls : List (Option Value)) (i : Nat) (st : List Value) : Option (List (Option Value) × List Value) := match st with
  | .long x :: r => if okS ls i = true then (if Nat.blt (i + 1) ls.length = true then some ((ls.set i (some (.long x))).set (i + 1) none, r) else none) else none
  | _ => none
def stA (ls : List (Option Value)) (i : Nat) (st : List Value) : Option (List (Option Value) × List Value) := match st with
  | .ref x :: r => if okS ls i = true then some (ls.set i (some (.ref x)), r) else none
  | _ => none
def inc (ls : List (Option Value)) (i : Nat) (v : Int) (st : List Value) : Option (List (Option Value) × List Value) := match ls[i]? with
  | some (some (.int x)) => if okS ls i = true then some (ls.set i (some (.int (x + Int32.ofInt v))), st) else none
  | _ => none
def up2 (ls : List (Option Value)) (o : Option (List Value)) : Option (List (Option Value) × List Value) := match o with
  | some st => some (ls, st)
  | none => none
def sI2L (st : List Value) : Option (List Value) := match st with
  | .int x :: r => some (.long x.toInt64 :: r)
  | _ => none
def sL2I (st : List Value) : Option (List Value) := match st with
  | .long x :: r => some (.int x.toInt32 :: r)
  | _ => none
def sI2C (st : List Value) : Option (List Value) := match st with
  | .int x :: r => some (.int (x.toUInt32 % 65536).toInt32 :: r)
  | _ => none
def sLush (st : List Value) : Option (List Value) := match st with
  | .int y :: .long x :: r => some (.long (x.toUInt64 >>> (y.toInt64.toUInt64 &&& Int64.toUInt64 63)).toInt64 :: r)
  | _ => none
def sLshl (st : List Value) : Option (List Value) := match st with
  | .int y :: .long x :: r => some (.long (x <<< (y.toInt64 &&& 63)) :: r)
  | _ => none
def sLcmp (st : List Value) : Option (List Value) := match st with
  | .long y :: .long x :: r => some (.int (lg_cmp x y) :: r)
  | _ => none
def sDup (st : List Value) : Option (List Value) := match st with
  | v :: r => if v.category = 1 then some (v :: v :: r) else none
  | _ => none
def sDup2 (st : List Value) : Option (List Value) := match st with
  | v :: w :: r => if v.category = 1 then (if w.category = 1 then some (v :: w :: v :: w :: r) else none) else none
  | _ => none
def sPop (st : List Value) : Option (List Value) := match st with
  | v :: r => if v.category = 1 then some r else none
  | _ => none
def sem1 (i : Instr) (ls : List (Option Value)) (st : List Value) : Option (List (Option Value) × List Value) := match i with
  | .iconst v => some (ls, .int (Int32.ofInt v) :: st)
  | .bipush v => some (ls, .int (Int8.ofInt v).toInt32 :: st)
  | .sipush v => some (ls, .int (Int16.ofInt v).toInt32 :: st)
  | .lconst v => some (ls, .long (Int64.ofNat (v : Nat)) :: st)
  | .iload_n j => ldI ls j st
  | .iload j => ldI ls j st
  | .lload_n j => ldL ls j st
  | .lload j => ldL ls j st
  | .aload_n j => ldA ls j st
  | .aload j => ldA ls j st
  | .istore_n j => stI ls j st
  | .istore j => stI ls j st
  | .lstore_n j => stL ls j st
  | .lstore j => stL ls j st
  | .astore_n j => stA ls j st
  | .astore j => stA ls j st
  | .iinc j v => inc ls j v st
  | .iadd => up2 ls (sI2 (fun x y => x + y) st)
  | .isub => up2 ls (sI2 (fun x y => x - y) st)
  | .imul => up2 ls (sI2 (fun x y => x * y) st)
  | .iand => up2 ls (sI2 (fun x y => x &&& y) st)
  | .ixor => up2 ls (sI2 (fun x y => x ^^^ y) st)
  | .idiv => up2 ls (sD2 (fun x y => x / y) st)
  | .irem => up2 ls (sD2 (fun x y => x - x / y * y) st)
  | .ladd => up2 ls (sL2 (fun x y => x + y) st)
  | .lsub => up2 ls (sL2 (fun x y => x - y) st)
  | .lmul => up2 ls (sL2 (fun x y => x * y) st)
  | .land => up2 ls (sL2 (fun x y => x &&& y) st)
  | .lor => up2 ls (sL2 (fun x y => x ||| y) st)
  | .ldiv => up2 ls (sM2 (fun x y => x / y) st)
  | .lrem => up2 ls (sM2 (fun x y => x - x / y * y) st)
  | .i2l => up2 ls (sI2L st)
  | .l2i => up2 ls (sL2I st)
  | .i2c => up2 ls (sI2C st)
  | .lushr => up2 ls (sLush st)
  | .lshl => up2 ls (sLshl st)
  | .lcmp => up2 ls (sLcmp st)
  | .dup => up2 ls (sDup st)
  | .dup2 => up2 ls (sDup2 st)
  | .pop => up2 ls (sPop st)
  | _ => none
def len1 (i : Instr) : Nat := match i with
  | .bipush _ => 2
  | .sipush _ => 3
  | .iload _ => 2
  | .lload _ => 2
  | .aload _ => 2
  | .istore _ => 2
  | .lstore _ => 2
  | .astore _ => 2
  | .iinc _ _ => 3
  | _ => 1
end RULES
end
section
section STEP
variable {l : Launch} {D : va_G} {ad : Nat → Nat} {aC : Nat → ClassId} {R : Room} {QQ : List Frame → Array Value → State → State → Prop} {M : MI} {pc k n : Nat} {ls ls' : List (Option Value)} {st st' rest : List Value} {h h' : HP}
theorem up2_inv {o : Option (List Value)} (hs : up2 ls o = some (ls', st')) : ls' = ls ∧ o = some st' := by
  cases o with
  | none => cases hs
  | some x => cases hs; exact ⟨rfl, rfl⟩
theorem sI2_inv {f : Int32 → Int32 → Int32} (hs : sI2 f st = some st') : ∃ y x r, st = .int y :: .int x :: r ∧ st' = .int (f x y) :: r := by
  unfold sI2 at hs
  split at hs
  · cases hs; exact ⟨_, _, _, rfl, rfl⟩
  · cases hs
theorem sD2_inv {f : Int32 → Int32 → Int32} (hs : sD2 f st = some st') : ∃ y x r, ¬ y = 0 ∧ st = .int y :: .int x :: r ∧ st' = .int (f x y) :: r := by
  unfold sD2 at hs
  split at hs
  · split at hs
    · cases hs
    · cases hs; exact ⟨_, _, _, by assumption, rfl, rfl⟩
  · cases hs
theorem sL2_inv {f : Int64 → Int64 → Int64} (hs : sL2 f st = some st') : ∃ y x r, st = .long y :: .long x :: r ∧ st' = .long (f x y) :: r := by
  unfold sL2 at hs
  split at hs
  · cases hs; exact ⟨_, _, _, rfl, rfl⟩
  · cases hs
theorem sM2_inv {f : Int64 → Int64 → Int64} (hs : sM2 f st = some st') : ∃ y x r, ¬ y = 0 ∧ st = .long y :: .long x :: r ∧ st' = .long (f x y) :: r := by
  unfold sM2 at hs
  split at hs
  · split at hs
    · cases hs
    · cases hs; exact ⟨_, _, _, by assumption, rfl, rfl⟩
  · cases hs
theorem ldI_inv {i : Nat} (hs : ldI ls i st = some (ls', st')) : ∃ x, ls[i]? = some (some (.int x)) ∧ ls' = ls ∧ st' = .int x :: st := by
  unfold ldI at hs
  split at hs
  · cases hs; exact ⟨_, by assumption, rfl, rfl⟩
  · cases hs
theorem ldL_inv {i : Nat} (hs : ldL ls i st = some (ls', st')) : ∃ x, ls[i]? = some (some (.long x)) ∧ ls' = ls ∧ st' = .long x :: st := by
  unfold ldL at hs
  split at hs
  · cases hs; exact ⟨_, by assumption, rfl, rfl⟩
  · cases hs
theorem ldA_inv {i : Nat} (hs : ldA ls i st = some (ls', st')) : ∃ x, ls[i]? = some (some (.ref x)) ∧ ls' = ls ∧ st' = .ref x :: st := by
  unfold ldA at hs
  split at hs
  · cases hs; exact ⟨_, by assumption, rfl, rfl⟩
  · cases hs
theorem stI_inv {i : Nat} (hs : stI ls i st = some (ls', st')) : ∃ x r, st = .int x :: r ∧ okS ls i = true ∧ ls' = ls.set i (some (.int x)) ∧ st' = r := by
  unfold stI at hs
  split at hs
  · split at hs
    · cases hs; exact ⟨_, _, rfl, by assumption, rfl, rfl⟩
    · cases hs
  · cases hs
theorem stA_inv {i : Nat} (hs : stA ls i st = some (ls', st')) : ∃ x r, st = .ref x :: r ∧ okS ls i = true ∧ ls' = ls.set i (some (.ref x)) ∧ st' = r := by
  unfold stA at hs
  split at hs
  · split at hs
    · cases hs; exact ⟨_, _, rfl, by assumption, rfl, rfl⟩
    · cases hs
  · cases hs
theorem stL_inv {i : Nat} (hs : stL ls i st = some (ls', st')) : ∃ x r, st = .long x :: r ∧ okS ls i = true ∧ i + 1 < ls.length ∧ ls' = (ls.set i (some (.long x))).set (i + 1) none ∧ st' = r := by
  unfold stL at hs
  split at hs
  · split at hs
    · split at hs
      · rename_i hb
        cases hs; exact ⟨_, _, rfl, by assumption, by simpa using hb, rfl, rfl⟩
      · cases hs
    · cases hs
  · cases hs
theorem inc_inv {i : Nat} {v : Int} (hs : inc ls i v st = some (ls', st')) : ∃ x, ls[i]? = some (some (.int x)) ∧ okS ls i = true ∧ ls' = ls.set i (some (.int (x + Int32.ofInt v))) ∧ st' = st := by
  unfold inc at hs
  split at hs
  · split at hs
    · cases hs; exact ⟨_, by assumption, by assumption, rfl, rfl⟩
    · cases hs
  · cases hs
theorem okS_lt {i : Nat} (ho : okS ls i = true) : i < ls.length := by
  simp only [okS, Bool.and_eq_true, Nat.blt_eq] at ho
  exact ho.1
theorem Go.stepS {i : Instr} (hs : sem1 i ls st = some (ls', st')) (hd : decode M.b pc = .ok (i, len1 i)) (g : Go l D ad aC R QQ M (pc + len1 i) ls' st' h k n) : Go l D ad aC R QQ M pc ls st h k n := by
  intro p e s m args below meth c H locs cs F hS hW hl
  have G := g p e s m args below meth c H locs
  obtain ⟨hx, hb, -⟩ := id F
  cases i <;> try (exfalso; simp [sem1] at hs; done)
  case iconst v =>
    simp only [sem1, Option.some.injEq, Prod.mk.injEq] at hs; obtain ⟨rfl, rfl⟩ := hs
    exact lv_iconst hx hb hd rfl (G cs F hS hW hl)
  case bipush v =>
    simp only [sem1, Option.some.injEq, Prod.mk.injEq] at hs; obtain ⟨rfl, rfl⟩ := hs
    exact lv_bipush hx hb hd rfl (G cs F hS hW hl)
  case sipush v =>
    simp only [sem1, Option.some.injEq, Prod.mk.injEq] at hs; obtain ⟨rfl, rfl⟩ := hs
    exact lv_sipush hx hb hd rfl (G cs F hS hW hl)
  case lconst v =>
    simp only [sem1, Option.some.injEq, Prod.mk.injEq] at hs; obtain ⟨rfl, rfl⟩ := hs
    exact lv_lconst hx hb hd rfl (G cs F hS hW hl)
  case iload_n j =>
    obtain ⟨x, hv, rfl, rfl⟩ := ldI_inv hs
    exact lv_iload_n hx hb hd rfl (hl.get hv) (G cs F hS hW hl)
  case iload j =>
    obtain ⟨x, hv, rfl, rfl⟩ := ldI_inv hs
    exact lv_iload hx hb hd (hl.get hv) (G cs F hS hW hl)
  case lload_n j =>
    obtain ⟨x, hv, rfl, rfl⟩ := ldL_inv hs
    exact lv_lload_n hx hb hd rfl (hl.get hv) (G cs F hS hW hl)
  case lload j =>
    obtain ⟨x, hv, rfl, rfl⟩ := ldL_inv hs
    exact lv_lload hx hb hd (hl.get hv) (G cs F hS hW hl)
  case aload_n j =>
    obtain ⟨x, hv, rfl, rfl⟩ := ldA_inv hs
    exact lv_aload_n hx hb hd rfl (hl.get hv) (G cs F hS hW hl)
  case aload j =>
    obtain ⟨x, hv, rfl, rfl⟩ := ldA_inv hs
    exact lv_aload hx hb hd (hl.get hv) (G cs F hS hW hl)
  case istore_n j =>
    obtain ⟨x, r, rfl, ho, rfl, rfl⟩ := stI_inv hs
    exact lv_istore_n hx hb hd rfl hl.2 (by rw [← hl.1]; exact okS_lt ho) rfl (fun cs' hl' => G cs' F hS hW (LV.set1 hl.1 ho hl'))
  case istore j =>
    obtain ⟨x, r, rfl, ho, rfl, rfl⟩ := stI_inv hs
    exact lv_istore hx hb hd hl.2 (by rw [← hl.1]; exact okS_lt ho) rfl (fun cs' hl' => G cs' F hS hW (LV.set1 hl.1 ho hl'))
  case lstore_n j =>
    obtain ⟨x, r, rfl, ho, h1, rfl, rfl⟩ := stL_inv hs
    exact lv_lstore_n hx hb hd rfl hl.2 (by rw [← hl.1]; exact h1) rfl (fun cs' hl' => G cs' F hS hW (LV.set2 (v := .long x) hl.1 ho hl'))
  case lstore j =>
    obtain ⟨x, r, rfl, ho, h1, rfl, rfl⟩ := stL_inv hs
    exact lv_lstore hx hb hd hl.2 (by rw [← hl.1]; exact h1) rfl (fun cs' hl' => G cs' F hS hW (LV.set2 (v := .long x) hl.1 ho hl'))
  case astore_n j =>
    obtain ⟨x, r, rfl, ho, rfl, rfl⟩ := stA_inv hs
    exact lv_astore_n hx hb hd rfl hl.2 (by rw [← hl.1]; exact okS_lt ho) rfl (fun cs' hl' => G cs' F hS hW (LV.set1 (v := .ref x) hl.1 ho hl'))
  case astore j =>
    obtain ⟨x, r, rfl, ho, rfl, rfl⟩ := stA_inv hs
    exact lv_astore hx hb hd hl.2 (by rw [← hl.1]; exact okS_lt ho) rfl (fun cs' hl' => G cs' F hS hW (LV.set1 (v := .ref x) hl.1 ho hl'))
  case iinc j v =>
    obtain ⟨x, hv, ho, rfl, rfl⟩ := inc_inv hs
    obtain ⟨kk, hkk⟩ := hl.ix hv
    exact lv_iinc hx hb hd hl.2 hkk rfl (by rw [← hl.1]; exact okS_lt ho) rfl (fun cs' hl' => G cs' F hS hW (LV.set1 (v := .int _) hl.1 ho hl'))
  case iadd =>
    obtain ⟨rfl, h2⟩ := up2_inv hs; obtain ⟨y, x, r, rfl, rfl⟩ := sI2_inv h2
    exact lv_iadd hx hb hd (G cs F hS hW hl)
  case isub =>
    obtain ⟨rfl, h2⟩ := up2_inv hs; obtain ⟨y, x, r, rfl, rfl⟩ := sI2_inv h2
    exact lv_isub hx hb hd (G cs F hS hW hl)
  case imul =>
    obtain ⟨rfl, h2⟩ := up2_inv hs; obtain ⟨y, x, r, rfl, rfl⟩ := sI2_inv h2
    exact lv_imul hx hb hd (G cs F hS hW hl)
  case iand =>
    obtain ⟨rfl, h2⟩ := up2_inv hs; obtain ⟨y, x, r, rfl, rfl⟩ := sI2_inv h2
    exact lv_iand hx hb hd (G cs F hS hW hl)
  case ixor =>
    obtain ⟨rfl, h2⟩ := up2_inv hs; obtain ⟨y, x, r, rfl, rfl⟩ := sI2_inv h2
    exact lv_ixor hx hb hd (G cs F hS hW hl)
  case idiv =>
    obtain ⟨rfl, h2⟩ := up2_inv hs; obtain ⟨y, x, r, h0, rfl, rfl⟩ := sD2_inv h2
    exact lv_idiv hx hb hd h0 (G cs F hS hW hl)
  case irem =>
    obtain ⟨rfl, h2⟩ := up2_inv hs; obtain ⟨y, x, r, h0, rfl, rfl⟩ := sD2_inv h2
    exact lv_irem hx hb hd h0 (G cs F hS hW hl)
  case ladd =>
    obtain ⟨rfl, h2⟩ := up2_inv hs; obtain ⟨y, x, r, rfl, rfl⟩ := sL2_inv h2
    exact lv_ladd hx hb hd (G cs F hS hW hl)
  case lsub =>
    obtain ⟨rfl, h2⟩ := up2_inv hs; obtain ⟨y, x, r, rfl, rfl⟩ := sL2_inv h2
    exact lv_lsub hx hb hd (G cs F hS hW hl)
  case lmul =>
    obtain ⟨rfl, h2⟩ := up2_inv hs; obtain ⟨y, x, r, rfl, rfl⟩ := sL2_inv h2
    exact lv_lmul hx hb hd (G cs F hS hW hl)
  case land =>
    obtain ⟨rfl, h2⟩ := up2_inv hs; obtain ⟨y, x, r, rfl, rfl⟩ := sL2_inv h2
    exact lv_land hx hb hd (G cs F hS hW hl)
  case lor =>
    obtain ⟨rfl, h2⟩ := up2_inv hs; obtain ⟨y, x, r, rfl, rfl⟩ := sL2_inv h2
    exact lv_lor hx hb hd (G cs F hS hW hl)
  case ldiv =>
    obtain ⟨rfl, h2⟩ := up2_inv hs; obtain ⟨y, x, r, h0, rfl, rfl⟩ := sM2_inv h2
    exact lv_ldiv hx hb hd h0 (G cs F hS hW hl)
  case lrem =>
    obtain ⟨rfl, h2⟩ := up2_inv hs; obtain ⟨y, x, r, h0, rfl, rfl⟩ := sM2_inv h2
    exact lv_lrem hx hb hd h0 (G cs F hS hW hl)
  case i2l =>
    obtain ⟨rfl, h2⟩ := up2_inv hs; unfold sI2L at h2; split at h2 <;> cases h2
    exact lv_i2l hx hb hd rfl (G cs F hS hW hl)
  case l2i =>
    obtain ⟨rfl, h2⟩ := up2_inv hs; unfold sL2I at h2; split at h2 <;> cases h2
    exact lv_l2i hx hb hd rfl (G cs F hS hW hl)
  case i2c =>
    obtain ⟨rfl, h2⟩ := up2_inv hs; unfold sI2C at h2; split at h2 <;> cases h2
    exact lv_i2c hx hb hd rfl (G cs F hS hW hl)
  case lushr =>
    obtain ⟨rfl, h2⟩ := up2_inv hs; unfold sLush at h2; split at h2 <;> cases h2
    exact lv_lushr hx hb hd rfl (G cs F hS hW hl)
  case lshl =>
    obtain ⟨rfl, h2⟩ := up2_inv hs; unfold sLshl at h2; split at h2 <;> cases h2
    exact lv_lshl hx hb hd rfl (G cs F hS hW hl)
  case lcmp =>
    obtain ⟨rfl, h2⟩ := up2_inv hs; unfold sLcmp at h2; split at h2 <;> cases h2
    exact W.lcmp hx hb hd (G cs F hS hW hl)
  case dup =>
    obtain ⟨rfl, h2⟩ := up2_inv hs; unfold sDup at h2; split at h2
    · split at h2 <;> cases h2
      exact lv_dup hx hb hd (by rw [cv_cat]; assumption) (G cs F hS hW hl)
    · cases h2
  case dup2 =>
    obtain ⟨rfl, h2⟩ := up2_inv hs; unfold sDup2 at h2; split at h2
    · split at h2
      · split at h2 <;> cases h2
        exact lv_dup2_11 hx hb hd (by rw [cv_cat]; assumption) (by rw [cv_cat]; assumption) (G cs F hS hW hl)
      · cases h2
    · cases h2
  case pop =>
    obtain ⟨rfl, h2⟩ := up2_inv hs; unfold sPop at h2; split at h2
    · split at h2 <;> cases h2
      exact lv_pop hx hb hd (by rw [cv_cat]; assumption) (G cs F hS hW hl)
    · cases h2
/-- a run of simple instructions -/
def runS : List Instr → List (Option Value) → List Value → Option (List (Option Value) × List Value)
  | [], ls, st => some (ls, st)
  | i :: r, ls, st => match sem1 i ls st with
    | some (ls', st') => runS r ls' st'
    | none => none
def lenS : List Instr → Nat
  | [] => 0
  | i :: r => len1 i + lenS r
def decs (b : ByteArray) : Nat → List Instr → Bool
  | _, [] => true
  | pc, i :: r => decide (decode b pc = .ok (i, len1 i)) && decs b (pc + len1 i) r
theorem Go.runX : ∀ (is : List Instr) {pc : Nat} {ls : List (Option Value)} {st : List Value}, decs M.b pc is = true → runS is ls st = some (ls', st') → Go l D ad aC R QQ M (pc + lenS is) ls' st' h k n → Go l D ad aC R QQ M pc ls st h k n := by
  intro is
  induction is with
  | nil =>
    intro pc ls st _ hr g
    simp only [runS, Option.some.injEq, Prod.mk.injEq] at hr
    obtain ⟨rfl, rfl⟩ := hr
    exact g
  | cons i r ih =>
    intro pc ls st hd hr g
    simp only [decs, Bool.and_eq_true, decide_eq_true_eq] at hd
    simp only [runS] at hr
    split at hr
    · rename_i l1 s1 he
      refine Go.stepS he hd.1 (ih hd.2 hr ?_)
      rw [Nat.add_assoc]
      exact g
    · cases hr
theorem Go.run {pc' : Nat} (is : List Instr) (hd : decs M.b pc is = true) (hr : runS is ls st = some (ls', st')) (hp : pc + lenS is = pc') (g : Go l D ad aC R QQ M pc' ls' st' h k n) : Go l D ad aC R QQ M pc ls st h k n := by
  subst hp
  exact Go.runX is hd hr g
end STEP
end
section
/-! rules for branches, fields, arrays, statics -/
section HEAPR
variable {l : Launch} {D : va_G} {ad : Nat → Nat} {aC : Nat → ClassId} {R : Room} {QQ : List Frame → Array Value → State → State → Prop} {M : MI} {pc k n : Nat} {ls ls' : List (Option Value)} {st st' rest : List Value} {h h' : HP}
theorem Go.goto {off : Int} {tgt : Nat} (hd : decode M.b pc = .ok (.goto off, 3)) (ht : (pc : Int) + off = (tgt : Int)) (g : Go l D ad aC R QQ M tgt ls st h k n) : Go l D ad aC R QQ M pc ls st h k n :=
  fun p e s m args below meth c H locs cs F hS hW hl => lv_goto F.1 F.2.1 hd ht (g p e s m args below meth c H locs cs F hS hW hl)
theorem Go.if_eq {off : Int} {tgt : Nat} {x : Int32} (hd : decode M.b pc = .ok (.ifCond .eq off, 3)) (ht : (pc : Int) + off = (tgt : Int)) (a : x = 0 → Go l D ad aC R QQ M tgt ls st h k n) (b : ¬ x = 0 → Go l D ad aC R QQ M (pc + 3) ls st h k n) : Go l D ad aC R QQ M pc ls (.int x :: st) h k n :=
  fun p e s m args below meth c H locs cs F hS hW hl => lv_if_eq F.1 F.2.1 hd ht (fun z => a z p e s m args below meth c H locs cs F hS hW hl) (fun z => b z p e s m args below meth c H locs cs F hS hW hl)
theorem Go.if_ne {off : Int} {tgt : Nat} {x : Int32} (hd : decode M.b pc = .ok (.ifCond .ne off, 3)) (ht : (pc : Int) + off = (tgt : Int)) (a : ¬ x = 0 → Go l D ad aC R QQ M tgt ls st h k n) (b : x = 0 → Go l D ad aC R QQ M (pc + 3) ls st h k n) : Go l D ad aC R QQ M pc ls (.int x :: st) h k n :=
  fun p e s m args below meth c H locs cs F hS hW hl => lv_if_ne F.1 F.2.1 hd ht (fun z => a z p e s m args below meth c H locs cs F hS hW hl) (fun z => b z p e s m args below meth c H locs cs F hS hW hl)
theorem Go.if_lt {off : Int} {tgt : Nat} {x : Int32} (hd : decode M.b pc = .ok (.ifCond .lt off, 3)) (ht : (pc : Int) + off = (tgt : Int)) (a : x < 0 → Go l D ad aC R QQ M tgt ls st h k n) (b : ¬ x < 0 → Go l D ad aC R QQ M (pc + 3) ls st h k n) : Go l D ad aC R QQ M pc ls (.int x :: st) h k n :=
  fun p e s m args below meth c H locs cs F hS hW hl => lv_if_lt F.1 F.2.1 hd ht (fun z => a z p e s m args below meth c H locs cs F hS hW hl) (fun z => b z p e s m args below meth c H locs cs F hS hW hl)
theorem Go.if_ge {off : Int} {tgt : Nat} {x : Int32} (hd : decode M.b pc = .ok (.ifCond .ge off, 3)) (ht : (pc : Int) + off = (tgt : Int)) (a : 0 ≤ x → Go l D ad aC R QQ M tgt ls st h k n) (b : ¬ 0 ≤ x → Go l D ad aC R QQ M (pc + 3) ls st h k n) : Go l D ad aC R QQ M pc ls (.int x :: st) h k n :=
  fun p e s m args below meth c H locs cs F hS hW hl => lv_if_ge F.1 F.2.1 hd ht (fun z => a z p e s m args below meth c H locs cs F hS hW hl) (fun z => b z p e s m args below meth c H locs cs F hS hW hl)
theorem Go.if_gt {off : Int} {tgt : Nat} {x : Int32} (hd : decode M.b pc = .ok (.ifCond .gt off, 3)) (ht : (pc : Int) + off = (tgt : Int)) (a : 0 < x → Go l D ad aC R QQ M tgt ls st h k n) (b : ¬ 0 < x → Go l D ad aC R QQ M (pc + 3) ls st h k n) : Go l D ad aC R QQ M pc ls (.int x :: st) h k n :=
  fun p e s m args below meth c H locs cs F hS hW hl => lv_if_gt F.1 F.2.1 hd ht (fun z => a z p e s m args below meth c H locs cs F hS hW hl) (fun z => b z p e s m args below meth c H locs cs F hS hW hl)
theorem Go.if_le {off : Int} {tgt : Nat} {x : Int32} (hd : decode M.b pc = .ok (.ifCond .le off, 3)) (ht : (pc : Int) + off = (tgt : Int)) (a : x ≤ 0 → Go l D ad aC R QQ M tgt ls st h k n) (b : ¬ x ≤ 0 → Go l D ad aC R QQ M (pc + 3) ls st h k n) : Go l D ad aC R QQ M pc ls (.int x :: st) h k n :=
  fun p e s m args below meth c H locs cs F hS hW hl => lv_if_le F.1 F.2.1 hd ht (fun z => a z p e s m args below meth c H locs cs F hS hW hl) (fun z => b z p e s m args below meth c H locs cs F hS hW hl)
theorem Go.ic_eq {off : Int} {tgt : Nat} {x y : Int32} (hd : decode M.b pc = .ok (.if_icmp .eq off, 3)) (ht : (pc : Int) + off = (tgt : Int)) (a : x = y → Go l D ad aC R QQ M tgt ls st h k n) (b : ¬ x = y → Go l D ad aC R QQ M (pc + 3) ls st h k n) : Go l D ad aC R QQ M pc ls (.int y :: .int x :: st) h k n :=
  fun p e s m args below meth c H locs cs F hS hW hl => lv_icmp_eq F.1 F.2.1 hd ht (fun z => a z p e s m args below meth c H locs cs F hS hW hl) (fun z => b z p e s m args below meth c H locs cs F hS hW hl)
theorem Go.ic_ne {off : Int} {tgt : Nat} {x y : Int32} (hd : decode M.b pc = .ok (.if_icmp .ne off, 3)) (ht : (pc : Int) + off = (tgt : Int)) (a : ¬ x = y → Go l D ad aC R QQ M tgt ls st h k n) (b : x = y → Go l D ad aC R QQ M (pc + 3) ls st h k n) : Go l D ad aC R QQ M pc ls (.int y :: .int x :: st) h k n :=
  fun p e s m args below meth c H locs cs F hS hW hl => lv_icmp_ne F.1 F.2.1 hd ht (fun z => a z p e s m args below meth c H locs cs F hS hW hl) (fun z => b z p e s m args below meth c H locs cs F hS hW hl)
theorem Go.ic_lt {off : Int} {tgt : Nat} {x y : Int32} (hd : decode M.b pc = .ok (.if_icmp .lt off, 3)) (ht : (pc : Int) + off = (tgt : Int)) (a : x < y → Go l D ad aC R QQ M tgt ls st h k n) (b : ¬ x < y → Go l D ad aC R QQ M (pc + 3) ls st h k n) : Go l D ad aC R QQ M pc ls (.int y :: .int x :: st) h k n :=
  fun p e s m args below meth c H locs cs F hS hW hl => lv_icmp_lt F.1 F.2.1 hd ht (fun z => a z p e s m args below meth c H locs cs F hS hW hl) (fun z => b z p e s m args below meth c H locs cs F hS hW hl)
theorem Go.ic_ge {off : Int} {tgt : Nat} {x y : Int32} (hd : decode M.b pc = .ok (.if_icmp .ge off, 3)) (ht : (pc : Int) + off = (tgt : Int)) (a : y ≤ x → Go l D ad aC R QQ M tgt ls st h k n) (b : ¬ y ≤ x → Go l D ad aC R QQ M (pc + 3) ls st h k n) : Go l D ad aC R QQ M pc ls (.int y :: .int x :: st) h k n :=
  fun p e s m args below meth c H locs cs F hS hW hl => lv_icmp_ge F.1 F.2.1 hd ht (fun z => a z p e s m args below meth c H locs cs F hS hW hl) (fun z => b z p e s m args below meth c H locs cs F hS hW hl)
theorem Go.ic_gt {off : Int} {tgt : Nat} {x y : Int32} (hd : decode M.b pc = .ok (.if_icmp .gt off, 3)) (ht : (pc : Int) + off = (tgt : Int)) (a : y < x → Go l D ad aC R QQ M tgt ls st h k n) (b : ¬ y < x → Go l D ad aC R QQ M (pc + 3) ls st h k n) : Go l D ad aC R QQ M pc ls (.int y :: .int x :: st) h k n :=
  fun p e s m args below meth c H locs cs F hS hW hl => lv_icmp_gt F.1 F.2.1 hd ht (fun z => a z p e s m args below meth c H locs cs F hS hW hl) (fun z => b z p e s m args below meth c H locs cs F hS hW hl)
theorem Go.ic_le {off : Int} {tgt : Nat} {x y : Int32} (hd : decode M.b pc = .ok (.if_icmp .le off, 3)) (ht : (pc : Int) + off = (tgt : Int)) (a : x ≤ y → Go l D ad aC R QQ M tgt ls st h k n) (b : ¬ x ≤ y → Go l D ad aC R QQ M (pc + 3) ls st h k n) : Go l D ad aC R QQ M pc ls (.int y :: .int x :: st) h k n :=
  fun p e s m args below meth c H locs cs F hS hW hl => lv_icmp_le F.1 F.2.1 hd ht (fun z => a z p e s m args below meth c H locs cs F hS hW hl) (fun z => b z p e s m args below meth c H locs cs F hS hW hl)
theorem Go.tsIn {dflt lo hi : Int} {offs : Array Int} {len : Nat} {x : Int32} {off : Int} {tgt : Nat} (v : Int) (hd : decode M.b pc = .ok (.tableswitch dflt lo hi offs, len)) (hx : x.toInt = v) (h1 : ¬ v < lo) (h2 : ¬ hi < v) (ho : offs[(v - lo).toNat]? = some off) (ht : (pc : Int) + off = (tgt : Int)) (g : Go l D ad aC R QQ M tgt ls st h k n) : Go l D ad aC R QQ M pc ls (.int x :: st) h k n :=
  fun p e s m args below meth c H locs cs F hS hW hl => lv_tableIn F.1 F.2.1 hd (by rw [hx]; exact h1) (by rw [hx]; exact h2) (by rw [hx]; exact ho) ht (g p e s m args below meth c H locs cs F hS hW hl)
theorem Go.tsOut {dflt lo hi : Int} {offs : Array Int} {len : Nat} {x : Int32} {tgt : Nat} (hd : decode M.b pc = .ok (.tableswitch dflt lo hi offs, len)) (hx : x.toInt < lo ∨ hi < x.toInt) (ht : (pc : Int) + dflt = (tgt : Int)) (g : Go l D ad aC R QQ M tgt ls st h k n) : Go l D ad aC R QQ M pc ls (.int x :: st) h k n :=
  fun p e s m args below meth c H locs cs F hS hW hl => lv_tableOut F.1 F.2.1 hd hx ht (g p e s m args below meth c H locs cs F hS hW hl)
theorem Go.lks {dflt : Int} {ps : Array (Int × Int)} {len : Nat} {x : Int32} {off : Int} {tgt : Nat} (hd : decode M.b pc = .ok (.lookupswitch dflt ps, len)) (hp : (ps.toList.zip (ps.toList.drop 1)).all (fun (a, next) => a.1 < next.1) = true) (ho : Op.lookupswitch.offset ps.toList dflt x.toInt = off) (ht : (pc : Int) + off = (tgt : Int)) (g : Go l D ad aC R QQ M tgt ls st h k n) : Go l D ad aC R QQ M pc ls (.int x :: st) h k n :=
  fun p e s m args below meth c H locs cs F hS hW hl => lv_lookup F.1 F.2.1 hd hp ho ht (g p e s m args below meth c H locs cs F hS hW hl)
theorem Go.ldc2 {idx : Nat} {v : Int64} (hw : Cond.constantLong M.y.cls idx v ∈ GT) (hd : decode M.b pc = .ok (.ldc2_w idx, 3)) (g : Go l D ad aC R QQ M (pc + 3) ls (.long v :: st) h k n) : Go l D ad aC R QQ M pc ls st h k n :=
  fun p e s m args below meth c H locs cs F hS hW hl => lv_ldc2 F.1 F.2.1 F.2.2.2.2.1 (F.2.2.2.2.2.1 _ hw) hd (g p e s m args below meth c H locs cs F hS hW hl)
theorem Go.ldcI {idx : Nat} {v : Int32} (hw : Cond.constant M.y.cls idx v ∈ GT) (hd : decode M.b pc = .ok (.ldc idx, 2)) (g : Go l D ad aC R QQ M (pc + 2) ls (.int v :: st) h k n) : Go l D ad aC R QQ M pc ls st h k n :=
  fun p e s m args below meth c H locs cs F hS hW hl => lv_ldc F.1 F.2.1 F.2.2.2.2.1 (F.2.2.2.2.2.1 _ hw) hd (g p e s m args below meth c H locs cs F hS hW hl)
theorem Go.ldcwI {idx : Nat} {v : Int32} (hw : Cond.constant M.y.cls idx v ∈ GT) (hd : decode M.b pc = .ok (.ldc_w idx, 3)) (g : Go l D ad aC R QQ M (pc + 3) ls (.int v :: st) h k n) : Go l D ad aC R QQ M pc ls st h k n :=
  fun p e s m args below meth c H locs cs F hS hW hl => lv_ldcw F.1 F.2.1 F.2.2.2.2.1 (F.2.2.2.2.2.1 _ hw) hd (g p e s m args below meth c H locs cs F hS hW hl)
/-- forgetting locals -/
theorem Go.wk (hlen : ls'.length = ls.length) (hs : ∀ (i : Nat) (v : Value), ls'[i]? = some (some v) → ls[i]? = some (some v)) (g : Go l D ad aC R QQ M pc ls' st h k n) : Go l D ad aC R QQ M pc ls st h k n :=
  fun p e s m args below meth c H locs cs F hS hW hl => g p e s m args below meth c H locs cs F hS hW (hl.wk hlen hs)
theorem Go.wid {k' n' : Nat} (h1 : k ≤ k') (h2 : n ≤ n') (g : Go l D ad aC R QQ M pc ls st h k' n') : Go l D ad aC R QQ M pc ls st h k n :=
  fun p e s m args below meth c H locs cs F hS hW hl => W.widen h1 h2 (g p e s m args below meth c H locs cs F hS hW hl)
def wkB : List (Option Value) → List (Option Value) → Bool
  | [], [] => true
  | none :: a, _ :: b => wkB a b
  | some _ :: a, some _ :: b => wkB a b
  | _, _ => false
/-! fields -/
def FOK (own : String) (idx c j : Nat) (r : Bool) : Prop := ∃ (C : String) (T : u_T) (N : Nat), clsL[c]? = some (C, T, N) ∧ j < N ∧ nF c = N ∧ 0 < c ∧ c < 10 ∧ isR c j = r ∧ (T j).1 = C ∧ (∀ w ∈ u_ws C T N, w ∈ GT) ∧
  ((Cond.fieldLink own idx C (T j).2.1 (T j).2.2.1) ∈ GT ∨ ∃ host : String, (Cond.fieldLinkNest own idx C (T j).2.1 (T j).2.2.1 host) ∈ NWs)
theorem range_map_at {α : Type} (f : Nat → α) {N j : Nat} (hj : j < N) : ((List.range N).map f)[j]? = some (f j) := by simp [hj]
theorem Go.get {c j idx a : Nat} {r : Bool} {v : Value} (hf : FOK M.y.cls idx c j r) (hka : knd a = c) (hv : v = (if r = true then Value.ref (fld a j) else .int (h a j))) (hd : decode M.b pc = .ok (.getfield idx, 3))
    (g : Go l D ad aC R QQ M (pc + 3) ls (v :: st) h k n) : Go l D ad aC R QQ M pc ls (.ref a :: st) h k n := by
  intro p e s m args below meth c0 H locs cs F hS hW hl
  obtain ⟨C, T, N, hc, hj, hN, h0, h10, hr, hT1, hin, hlk⟩ := hf
  have ha : a < 212 := knd_in hka (by omega) (by omega)
  have he : (wl ad aC h)[a]? = some (ad a, .inr (c, (List.range N).map (fun k => if isR c k = true then Value.ref (ad (fld a k)) else .int (h a k)))) := by
    rw [wl_at ad aC h ha, ent_o hka h10, hN]
  have hfv : ((List.range N).map (fun k => if isR c k = true then Value.ref (ad (fld a k)) else Value.int (h a k)))[j]? = some (cv ad v) := by
    rw [range_map_at _ hj, hr, hv]
    cases r <;> rfl
  have G := g p e s m args below meth c0 H locs cs F hS hW hl
  have hK := hW.2.1
  rcases hlk with hlk | ⟨host, hlk⟩
  · exact va_get (ref := C) F.1 F.2.1 F.2.2.2.2.2.1 hin F.2.2.2.2.1 hK hW.1 a he hc j hj (F.2.2.2.2.2.1 _ hlk) (fun x9 h9 => by rw [hT1] at h9; exact h9) hfv hd G
  · exact va_getN (ref := C) (host := host) F.1 F.2.1 F.2.2.2.2.2.1 hin F.2.2.2.2.1 hK hW.1 a he hc j hj (va_Nw.use rfl (F.ev.1 _ hlk)) (fun x9 h9 => by rw [hT1] at h9; exact h9) hfv hd G
theorem Go.getI {c j idx a : Nat} (hf : FOK M.y.cls idx c j false) (hka : knd a = c) (hd : decode M.b pc = .ok (.getfield idx, 3))
    (g : Go l D ad aC R QQ M (pc + 3) ls (.int (h a j) :: st) h k n) : Go l D ad aC R QQ M pc ls (.ref a :: st) h k n := Go.get hf hka rfl hd g
theorem Go.getR {c j idx a : Nat} (hf : FOK M.y.cls idx c j true) (hka : knd a = c) (hd : decode M.b pc = .ok (.getfield idx, 3))
    (g : Go l D ad aC R QQ M (pc + 3) ls (.ref (fld a j) :: st) h k n) : Go l D ad aC R QQ M pc ls (.ref a :: st) h k n := Go.get hf hka rfl hd g
def POK (own : String) (idx c j : Nat) (ty : FieldType) : Prop := ∃ (C : String) (T : u_T) (N : Nat), clsL[c]? = some (C, T, N) ∧ j < N ∧ nF c = N ∧ 0 < c ∧ c < 10 ∧ isR c j = false ∧ (T j).1 = C ∧ (∀ w ∈ u_ws C T N, w ∈ GT) ∧
  ((Cond.fieldLink own idx C (T j).2.1 (T j).2.2.1) ∈ GT ∨ ∃ host : String, (Cond.fieldLinkNest own idx C (T j).2.1 (T j).2.2.1 host) ∈ NWs) ∧
  (∃ ty0 : Nat → FieldType, (∀ k, k < N → parseFieldDescriptor (T k).2.2.1 = some (ty0 k)) ∧ ty0 j = ty) ∧ (∀ a, a < N → ∀ b, b < N → a ≠ b → (T a).2.1 ≠ (T b).2.1) ∧ (T j).2.2.2 = false
theorem Go.put {c j idx a : Nat} {ty : FieldType} {x : Int32} (hI : Inj ad) (hf : POK M.y.cls idx c j ty) (hka : knd a = c) (hn : narrow ty (.int x) = .int x) (hfit : fits ty (.int x) = true) (hd : decode M.b pc = .ok (.putfield idx, 3))
    (g : Go l D ad aC R QQ M (pc + 3) ls st (hset h a j x) k n) : Go l D ad aC R QQ M pc ls (.int x :: .ref a :: st) h k n := by
  intro p e s m args below meth c0 H locs cs F hS hW hl
  obtain ⟨C, T, N, hc, hj, hN, h0, h10, hr, hT1, hin, hlk, ⟨ty0, hty, htj⟩, hnm, hfin⟩ := hf
  have ha : a < 212 := knd_in hka (by omega) (by omega)
  have he : (wl ad aC h)[a]? = some (ad a, .inr (c, (List.range N).map (fun k => if isR c k = true then Value.ref (ad (fld a k)) else .int (h a k)))) := by
    rw [wl_at ad aC h ha, ent_o hka h10, hN]
  have hset1 : ((List.range N).map (fun k => if isR c k = true then Value.ref (ad (fld a k)) else Value.int (h a k))).set j (.int x) = (List.range N).map (fun k => if isR c k = true then Value.ref (ad (fld a k)) else Value.int (upd (h a) j x k)) := by
    apply List.ext_getElem?
    intro i
    rw [List.getElem?_set]
    by_cases hi : i < N
    · by_cases q : j = i
      · subst q
        rw [if_pos rfl, range_map_at _ hi, hr]
        simp [hj, upd]
      · rw [if_neg q, range_map_at _ hi, range_map_at _ hi]
        have : upd (h a) j x i = h a i := by unfold upd; rw [if_neg (fun z => q z.symm)]
        rw [this]
    · have q : ¬ j = i := by omega
      rw [if_neg q, List.getElem?_eq_none (by simp; omega), List.getElem?_eq_none (by simp; omega)]
  have hws : (wl ad aC h).set a (ad a, .inr (c, ((List.range N).map (fun k => if isR c k = true then Value.ref (ad (fld a k)) else Value.int (h a k))).set j (.int x))) = wl ad aC (hset h a j x) := by
    rw [hset_eq]
    refine wl_set ?_
    rw [ent_o hka h10, hset1, hN]
    simp only [hrow_s]
  have hK := hW.2.1
  have kk : ∀ (H1 : Heap) (locs1 : List Loc), va_P D clsL ((wl ad aC h).set a (ad a, .inr (c, ((List.range N).map (fun k => if isR c k = true then Value.ref (ad (fld a k)) else Value.int (h a k))).set j (.int x)))) H1 → va_D (AA ad s.heap.size) ((wl ad aC h).set a (ad a, .inr (c, ((List.range N).map (fun k => if isR c k = true then Value.ref (ad (fld a k)) else Value.int (h a k))).set j (.int x)))) → va_S (AA ad s.heap.size) s.heap H1 locs1 → W p l e R s m args below meth c0 H1 locs1 k n (QQ below args s) (F0 m (pc + 3) cs (st.map (cv ad))) := by
    intro H1 locs1 hP1 _ hS1
    rw [hws] at hP1
    exact g p e s m args below meth c0 H1 locs1 cs F hS1 ⟨hP1, hW.2⟩ hl
  have hfs : j < ((List.range N).map (fun k => if isR c k = true then Value.ref (ad (fld a k)) else Value.int (h a k))).length := by simpa using hj
  rcases hlk with hlk | ⟨host, hlk⟩
  · exact va_put (ref := C) F.1 F.2.1 F.2.2.2.2.2.1 hin ty0 hty hnm F.2.2.2.2.1 hK hW.1 (wl_D hI h _) hS a he hc j hj (F.2.2.2.2.2.1 _ hlk) (fun x9 h9 => by rw [hT1] at h9; exact h9) hfin (by rw [← htj]; exact hty j hj) hn hfit hfs hd kk
  · exact va_putN (ref := C) (host := host) F.1 F.2.1 F.2.2.2.2.2.1 hin ty0 hty hnm F.2.2.2.2.1 hK hW.1 (wl_D hI h _) hS a he hc j hj (va_Nw.use rfl (F.ev.1 _ hlk)) (fun x9 h9 => by rw [hT1] at h9; exact h9) hfin (by rw [← htj]; exact hty j hj) hn hfit hfs hd kk
/-! arrays -/
/-- an index within -/
def ib (j : Int32) (N : Nat) : Bool := !(decide (j < 0)) && Nat.blt j.toNatClampNeg N
theorem ib_in {j : Int32} {N : Nat} (h : ib j N = true) : vp_in j N := by
  simp only [ib, Bool.and_eq_true, Bool.not_eq_true', decide_eq_false_iff_not, Nat.blt_eq] at h
  intro q
  rcases q with q | q
  · exact h.1 q
  · omega
theorem Go.iald {a N : Nat} {j : Int32} (hk : knd a = 10) (hN : alen a = N) (hj : ib j N = true) (hd : decode M.b pc = .ok (.iaload, 1)) (g : Go l D ad aC R QQ M (pc + 1) ls (.int (h a j.toNatClampNeg) :: st) h k n) : Go l D ad aC R QQ M pc ls (.int j :: .ref a :: st) h k n := by
  intro p e s m args below meth c H locs cs F hS hW hl
  have ha : a < 212 := knd_in hk (by omega) (by omega)
  exact va_iald F.1 F.2.1 (hW.2.arr hk (by omega) (by omega)) hW.1 a 0 (by rw [wl_at ad aC h ha, ent_i hk (by omega)]) rfl (by rw [hN]; exact ib_in hj) hd (g p e s m args below meth c H locs cs F hS hW hl)
theorem Go.bald {a N : Nat} {j : Int32} (hk : knd a = 11) (hN : alen a = N) (hj : ib j N = true) (hd : decode M.b pc = .ok (.baload, 1)) (g : Go l D ad aC R QQ M (pc + 1) ls (.int (h a j.toNatClampNeg) :: st) h k n) : Go l D ad aC R QQ M pc ls (.int j :: .ref a :: st) h k n := by
  intro p e s m args below meth c H locs cs F hS hW hl
  have ha : a < 212 := knd_in hk (by omega) (by omega)
  exact va_zald F.1 F.2.1 (hW.2.arr hk (by omega) (by omega)) hW.1 a 0 (by rw [wl_at ad aC h ha, ent_i hk (by omega)]) rfl (by rw [hN]; exact ib_in hj) hd (g p e s m args below meth c H locs cs F hS hW hl)
theorem Go.cald {a N : Nat} {j : Int32} (hk : knd a = 12) (hN : alen a = N) (hj : ib j N = true) (hd : decode M.b pc = .ok (.caload, 1)) (g : Go l D ad aC R QQ M (pc + 1) ls (.int (h a j.toNatClampNeg) :: st) h k n) : Go l D ad aC R QQ M pc ls (.int j :: .ref a :: st) h k n := by
  intro p e s m args below meth c H locs cs F hS hW hl
  have ha : a < 212 := knd_in hk (by omega) (by omega)
  exact va_cald F.1 F.2.1 (hW.2.arr hk (by omega) (by omega)) hW.1 a 0 (by rw [wl_at ad aC h ha, ent_i hk (by omega)]) rfl (by rw [hN]; exact ib_in hj) hd (g p e s m args below meth c H locs cs F hS hW hl)
theorem Go.lald {a N : Nat} {j : Int32} (hk : knd a = 13) (hN : alen a = N) (hj : ib j N = true) (hd : decode M.b pc = .ok (.laload, 1)) (g : Go l D ad aC R QQ M (pc + 1) ls (.long (h a j.toNatClampNeg).toInt64 :: st) h k n) : Go l D ad aC R QQ M pc ls (.int j :: .ref a :: st) h k n := by
  intro p e s m args below meth c H locs cs F hS hW hl
  have ha : a < 212 := knd_in hk (by omega) (by omega)
  exact va_lald (f := fun j => (h a j).toInt64) F.1 F.2.1 (hW.2.arr hk (by omega) (by omega)) hW.1 a 0 (by rw [wl_at ad aC h ha, ent_l hk]) rfl (by rw [hN]; exact ib_in hj) hd (g p e s m args below meth c H locs cs F hS hW hl)
theorem Go.aald {a N : Nat} {j : Int32} (hk : knd a = 14) (hN : alen a = N) (hj : ib j N = true) (hd : decode M.b pc = .ok (.aaload, 1)) (g : Go l D ad aC R QQ M (pc + 1) ls (.ref (fld a j.toNatClampNeg) :: st) h k n) : Go l D ad aC R QQ M pc ls (.int j :: .ref a :: st) h k n := by
  intro p e s m args below meth c H locs cs F hS hW hl
  have ha : a < 212 := knd_in hk (by omega) (by omega)
  exact va_aldq (C := "FairWalls$State") (f := fun j => some (ad (fld a j))) F.1 F.2.1 (hW.2.arr hk (by omega) (by omega)) hW.1 a 0 (by rw [wl_at ad aC h ha, ent_q hk]) rfl (by rw [hN]; exact ib_in hj) hd (g p e s m args below meth c H locs cs F hS hW hl)
theorem wl_row {a c : Nat} {f : Nat → Int32} (hk : knd a = c) (hc : c = 10 ∨ c = 11 ∨ c = 12) : (wl ad aC h).set a (ad a, .inl (aC a, alen a, .inl f)) = wl ad aC (hrow h a f) := wl_set (by rw [ent_i hk hc, hrow_s])
theorem Go.iast {a N : Nat} {j x : Int32} (hI : Inj ad) (hk : knd a = 10) (hN : alen a = N) (hj : ib j N = true) (hd : decode M.b pc = .ok (.iastore, 1)) (g : Go l D ad aC R QQ M (pc + 1) ls st (hset h a j.toNatClampNeg x) k n) : Go l D ad aC R QQ M pc ls (.int x :: .int j :: .ref a :: st) h k n := by
  intro p e s m args below meth c H locs cs F hS hW hl
  have ha : a < 212 := knd_in hk (by omega) (by omega)
  refine va_iast F.1 F.2.1 (hW.2.arr hk (by omega) (by omega)) hW.1 (wl_D hI h _) hS a 0 (by rw [wl_at ad aC h ha, ent_i hk (by omega)]) rfl (by rw [hN]; exact ib_in hj) hd (fun H1 locs1 hP1 _ hS1 => ?_)
  rw [wl_row hk (by omega), ← hset_eq] at hP1
  exact g p e s m args below meth c H1 locs1 cs F hS1 ⟨hP1, hW.2⟩ hl
theorem Go.bast {a N : Nat} {j x : Int32} (hI : Inj ad) (hk : knd a = 11) (hN : alen a = N) (hj : ib j N = true) (hx : vp_nar .boolean x = x) (hd : decode M.b pc = .ok (.bastore, 1)) (g : Go l D ad aC R QQ M (pc + 1) ls st (hset h a j.toNatClampNeg x) k n) : Go l D ad aC R QQ M pc ls (.int x :: .int j :: .ref a :: st) h k n := by
  intro p e s m args below meth c H locs cs F hS hW hl
  have ha : a < 212 := knd_in hk (by omega) (by omega)
  refine va_zast F.1 F.2.1 (hW.2.arr hk (by omega) (by omega)) hW.1 (wl_D hI h _) hS a 0 (by rw [wl_at ad aC h ha, ent_i hk (by omega)]) rfl (by rw [hN]; exact ib_in hj) hd (fun H1 locs1 hP1 _ hS1 => ?_)
  rw [hx, wl_row hk (by omega), ← hset_eq] at hP1
  exact g p e s m args below meth c H1 locs1 cs F hS1 ⟨hP1, hW.2⟩ hl
theorem Go.cast {a N : Nat} {j x : Int32} (hI : Inj ad) (hk : knd a = 12) (hN : alen a = N) (hj : ib j N = true) (hx : vp_nar .char x = x) (hd : decode M.b pc = .ok (.castore, 1)) (g : Go l D ad aC R QQ M (pc + 1) ls st (hset h a j.toNatClampNeg x) k n) : Go l D ad aC R QQ M pc ls (.int x :: .int j :: .ref a :: st) h k n := by
  intro p e s m args below meth c H locs cs F hS hW hl
  have ha : a < 212 := knd_in hk (by omega) (by omega)
  refine va_cast F.1 F.2.1 (hW.2.arr hk (by omega) (by omega)) hW.1 (wl_D hI h _) hS a 0 (by rw [wl_at ad aC h ha, ent_i hk (by omega)]) rfl (by rw [hN]; exact ib_in hj) hd (fun H1 locs1 hP1 _ hS1 => ?_)
  rw [hx, wl_row hk (by omega), ← hset_eq] at hP1
  exact g p e s m args below meth c H1 locs1 cs F hS1 ⟨hP1, hW.2⟩ hl
theorem Go.last {a N : Nat} {j x : Int32} (hI : Inj ad) (hk : knd a = 13) (hN : alen a = N) (hj : ib j N = true) (hd : decode M.b pc = .ok (.lastore, 1)) (g : Go l D ad aC R QQ M (pc + 1) ls st (hset h a j.toNatClampNeg x) k n) : Go l D ad aC R QQ M pc ls (.long x.toInt64 :: .int j :: .ref a :: st) h k n := by
  intro p e s m args below meth c H locs cs F hS hW hl
  have ha : a < 212 := knd_in hk (by omega) (by omega)
  refine va_last (f := fun j => (h a j).toInt64) F.1 F.2.1 (hW.2.arr hk (by omega) (by omega)) hW.1 (wl_D hI h _) hS a 0 (by rw [wl_at ad aC h ha, ent_l hk]) rfl (by rw [hN]; exact ib_in hj) hd (fun H1 locs1 hP1 _ hS1 => ?_)
  have e1 : vp_updL (fun j => (h a j).toInt64) j.toNatClampNeg x.toInt64 = fun i => (upd (h a) j.toNatClampNeg x i).toInt64 := by
    funext i
    unfold vp_updL upd
    by_cases q : i = j.toNatClampNeg
    · rw [if_pos q, if_pos q]
    · rw [if_neg q, if_neg q]
  rw [e1, wl_set (f := upd (h a) j.toNatClampNeg x) (by rw [ent_l hk, hrow_s]), ← hset_eq] at hP1
  exact g p e s m args below meth c H1 locs1 cs F hS1 ⟨hP1, hW.2⟩ hl
/-! static arrays -/
def SOK (own : String) (idx i : Nat) : Prop := 212 ≤ i ∧ i < 215 ∧ Cond.fieldLink own idx (sCN i).1 (sCN i).2 "[I" ∈ GT
theorem Go.gets {i idx : Nat} (hf : SOK M.y.cls idx i) (hd : decode M.b pc = .ok (.getstatic idx, 3)) (g : Go l D ad aC R QQ M (pc + 3) ls (.ref i :: st) h k n) : Go l D ad aC R QQ M pc ls st h k n :=
  fun p e s m args below meth c H locs cs F hS hW hl => va_gets (ref := (sCN i).1) F.1 F.2.1 (F.ev.2.1 i hf.1 hf.2.1).1 hS F.2.2.2.2.1 (F.2.2.2.2.2.1 _ hf.2.2) (fun x9 h9 => h9) hd (g p e s m args below meth c H locs cs F hS hW hl)
theorem Go.sald {i N : Nat} {j : Int32} (h1 : 212 ≤ i) (h2 : i < 215) (hN : alen i = N) (hj : ib j N = true) (hd : decode M.b pc = .ok (.iaload, 1)) (g : Go l D ad aC R QQ M (pc + 1) ls (.int (sarr i j.toNatClampNeg) :: st) h k n) : Go l D ad aC R QQ M pc ls (.int j :: .ref i :: st) h k n :=
  fun p e s m args below meth c H locs cs F hS hW hl => va_ti F.1 F.2.1 (F.ev.2.1 i h1 h2).2 hS (by rw [hN]; exact ib_in hj) rfl hd (g p e s m args below meth c H locs cs F hS hW hl)
theorem Go.slen {i : Nat} {v : Int32} (h1 : 212 ≤ i) (h2 : i < 215) (hN : Int32.ofNat (alen i) = v) (hd : decode M.b pc = .ok (.arraylength, 1)) (g : Go l D ad aC R QQ M (pc + 1) ls (.int v :: st) h k n) : Go l D ad aC R QQ M pc ls (.ref i :: st) h k n :=
  fun p e s m args below meth c H locs cs F hS hW hl => va_tlen F.1 F.2.1 (F.ev.2.1 i h1 h2).2 hS hN hd (g p e s m args below meth c H locs cs F hS hW hl)
end HEAPR
end
section
/-! rules for calls and ends -/
section CALLR
variable {l : Launch} {D : va_G} {ad : Nat → Nat} {aC : Nat → ClassId} {R : Room} {QQ : List Frame → Array Value → State → State → Prop} {M M2 : MI} {pc k n idx : Nat} {ls ls' : List (Option Value)} {st st' rest as : List Value} {h h1 : HP}
/-- the words of a call of M2 from the class own, by its place idx -/
def WB (own : String) (idx : Nat) (M2 : MI) (n : Nat) : Prop :=
  Cond.methodLink own idx M2.y ∈ GT ∧ Cond.initialized M2.y.cls ∈ GT ∧ codeW M2 ∈ GT ∧ M2.hh = [] ∧ (M2.y.cls ≠ "java/lang/invoke/MethodHandle" ∧ M2.y.cls ≠ "java/lang/invoke/VarHandle") ∧ (parseMethodDescriptor M2.y.desc).map (fun d => d.parameters.length) = some n
def WV (own : String) (idx : Nat) (M2 : MI) (n : Nat) : Prop := WB own idx M2 n ∧ Cond.instanceMethod M2.y ∈ GT ∧ Cond.selects M2.y.cls M2.y M2.y ∈ GT
def WS (own : String) (idx : Nat) (M2 : MI) (n : Nat) : Prop := WB own idx M2 n ∧ Cond.static M2.y ∈ GT
theorem codeW_0 (hh : M2.hh = []) : codeW M2 = Cond.code M2.y M2.b M2.mL M2.ret := by unfold codeW; rw [hh]
theorem payM {args : Array Value} {s : State} (hts : ∀ w ∈ GT, w.before args s = true) (hc : codeW M2 ∈ GT) : ∀ w ∈ wsM M2, ∀ (a' : Array Value) (U : State), s.WarmedH U.vm → w.before a' U = true := by
  intro w hw a' U hW
  have hg : w ∈ GT := by
    rcases List.mem_cons.mp hw with rfl | h
    · exact hc
    · exact h
  exact word_at hW (gtGood hg) (hts w hg)
def RoomOK (R : Room) (M2 : MI) (k n : Nat) : Prop := (M2.rk + 1 ≤ R.frames ∧ 8 + (M2.mL + 11) + 38 * M2.rk ≤ R.locals) ∧ (k + M2.mc ≤ R.cells ∧ n + 6 * M2.mc ≤ R.slots)
theorem callB_ok {p : Program} {s : State} {m : MethodId} {args : Array Value} {meth : Method} {c : Code} {nn : Nat} (F : Fx ad M p s m args meth c) (w : WB M.y.cls idx M2 nn) (r : RoomOK R M2 k n) : CallB R s args M.y.cls idx M2.y M2.b M2.mL M2.ret (wsM M2) (rmk M2) M2.mc (6 * M2.mc) nn := by
  obtain ⟨h1, h2, h3, h4, h5, h6⟩ := w
  have hts := F.2.2.2.2.2.1
  have e := codeW_0 h4
  refine ⟨rfl, rfl, r.1.1, r.1.2, payM hts h3, ?_, ?_, hts _ h2, h5, fun sig hs => ?_, hts _ h1⟩
  · rw [← e]; exact List.mem_cons_self
  · rw [← e]; exact hts _ h3
  · rw [hs] at h6
    exact (Option.some.inj h6).symm
theorem blindP {as : List Value} {sz : Nat} : FrameBlind (va_Pc as (fun U => U.heap.size = sz ∧ Wd D ad aC h U U.heap ∧ Ev ad (AA ad sz) U U.heap)) := by
  intro a U g mk q
  obtain ⟨q0, q1, q2, q3⟩ := q
  exact ⟨q0, q1, q2.moved (U := U.calling g mk a) (Vm.Alike.refl U.vm), Ev.same (s := U) (U := U.calling g mk a) (H := U.heap) rfl q3⟩
/-- what a callee is given -/
theorem givenP {as : List Value} {s : State} {H : Heap} {locs : List Loc} (hev : Ev ad (AA ad s.heap.size) s s.heap) (hS : va_S (AA ad s.heap.size) s.heap H locs) (hW : Wd D ad aC h s H) : ∀ U : State, U.heap = H → s.WarmedH U.vm → va_Pc as (fun U => U.heap.size = H.size ∧ Wd D ad aC h U U.heap ∧ Ev ad (AA ad H.size) U U.heap) as.toArray U := by
  intro U hU hw
  refine ⟨rfl, by rw [hU], by rw [hU]; exact hW.moved hw.alike, ?_⟩
  rw [hU]
  exact ((hev.kept hS.2.1).narrow (AA_sub hS.1)).warm hw
/-- behind the call: a return -/
theorem backR {p : Program} {e : Env} {s : State} {m : MethodId} {args : Array Value} {below : List Frame} {meth : Method} {c : Code} {H : Heap} {locs : List Loc} {cs : Array Slot} {v : Option Value} {a : Array Value} {st0 : List Value} {mc ms : Nat}
    (F : Fx ad M p s m args meth c) (hS : va_S (AA ad s.heap.size) s.heap H locs) (hW : Wd D ad aC h s H) (hl : LV ad cs M.mL ls)
    (hr : vx_Run p l e R s m args below meth c H locs k n mc ms (F0 m pc cs st0) (rest.map (cv ad)) (QR D ad aC (.inl v) h1 H.size a) (QX D ad aC (.inl v) h1 H.size) (AA ad H.size))
    (g : Go l D ad aC R QQ M (pc + 3) ls (v.toList ++ rest) h1 (k + mc) (n + ms)) : W p l e R s m args below meth c H locs k n (QQ below args s) (F0 m pc cs st0) := by
  intro T hT X
  rcases hr T hT X with ⟨v2, st₀, t, T', L, h0, X', hL, e1, e2, ⟨⟨v3, hv3, hv⟩, hP, hF⟩, stp⟩ | ⟨q, st₀, t, T', L, E, ce, h0, X', hL, e1, e2, ⟨hv, -, -⟩, -, -, -, -⟩
  · cases hv3
    cases hv
    obtain ⟨k1, k2, k3⟩ := vx_keep (A0 := AA ad s.heap.size) (H0 := s.heap) (free := AA ad H.size) h0 e1 hS (fun q _ hq => AA_sub hS.1 q hq) (AA_sub hS.1) hL hF
    have G := g p e s m args below meth c T'.heap (locs ++ L) cs F k3 ⟨by rw [e1]; exact hP, hW.2⟩ hl
    have hst : (v.toList ++ rest).map (cv ad) = (v.map (cv ad)).toList ++ rest.map (cv ad) := by cases v <;> rfl
    rw [hst] at G
    obtain ⟨t2, a1, b1⟩ := G T' rfl X'
    exact ⟨t2, stp t2 a1, b1⟩
  · cases hv
theorem recvP {s : State} {H : Heap} {a c : Nat} {C : String} {T : u_T} {N : Nat} (hW : Wd D ad aC h s H) (hk : knd a = c) (hc : clsL[c]? = some (C, T, N)) (h0 : 0 < c) (h10 : c < 10) : ∃ cell : Cell, H[ad a]? = some cell ∧ cell.vm.isStatics = false ∧ s.vm.findClass C = some cell.cls :=
  va_recv (q := (C, T, N)) hW.2.1 hW.1 hc (q0 := a) (by rw [wl_at ad aC h (knd_in hk (by omega) (by omega)), ent_o hk h10])
theorem map_app_cv (a b : List Value) : (a ++ b).map (cv ad) = a.map (cv ad) ++ b.map (cv ad) := List.map_append
theorem cat_cv (r : List Value) : ((r.map (cv ad)).map fun v => v.category) = r.map fun v => v.category := by
  rw [List.map_map]
  exact List.map_congr_left fun v _ => cv_cat ad v
def KC (c : Nat) (C : String) : Prop := 0 < c ∧ c < 10 ∧ ∃ (T : u_T) (N : Nat), clsL[c]? = some (C, T, N)
theorem Go.callV {a c nn : Nat} {v : Option Value} (hct : CT l D ad aC M2 (.ref a :: as) h (.inl v) h1) (hw : WV M.y.cls idx M2 nn) (hka : knd a = c) (hkc : KC c M2.y.cls) (hd : decode M.b pc = .ok (.invokevirtual idx, 3)) (hst : st = as.reverse ++ .ref a :: rest) (hn : as.length = nn) (hR : RoomOK R M2 k n) (hcat : (rest.map fun v => v.category).sum ≤ 8)
    (g : Go l D ad aC R QQ M (pc + 3) ls (v.toList ++ rest) h1 (k + M2.mc) (n + 6 * M2.mc)) : Go l D ad aC R QQ M pc ls st h k n := by
  intro p e s m args below meth c0 H locs cs F hS hW hl
  obtain ⟨k0, k10, T, N, hcl⟩ := hkc
  have hts := F.2.2.2.2.2.1
  have hstk : st.map (cv ad) = (as.map (cv ad)).reverse ++ .ref (ad a) :: rest.map (cv ad) := by
    rw [hst, map_app_cv, List.map_reverse]; rfl
  rw [hstk]
  refine backR F hS hW hl (vx_runV (As := as.map (cv ad)) (rest := rest.map (cv ad)) (C := M2.y.cls) (nL := M.mL) (Ts := GT) (own := M.y.cls) (cc := M.b) ⟨F.1, F.2.1, F.2.2.2.1, F.2.2.2.2.1, hts⟩ (hct H.size) ⟨callB_ok F hw.1 hR, hts _ hw.2.1, hts _ hw.2.2⟩ ⟨blindP, recvP hW hka hcl k0 k10, givenP F.ev hS hW⟩ rfl (by rw [List.length_map]; exact hn) hl.2.1 rfl (lv_room (by rw [cat_cv]; exact hcat)) hd hR.2) g
theorem Go.callS {nn : Nat} {v : Option Value} (hct : CT l D ad aC M2 as h (.inl v) h1) (hw : WS M.y.cls idx M2 nn) (hd : decode M.b pc = .ok (.invokestatic idx, 3)) (hst : st = as.reverse ++ rest) (hn : as.length = nn) (hR : RoomOK R M2 k n) (hcat : (rest.map fun v => v.category).sum ≤ 8)
    (g : Go l D ad aC R QQ M (pc + 3) ls (v.toList ++ rest) h1 (k + M2.mc) (n + 6 * M2.mc)) : Go l D ad aC R QQ M pc ls st h k n := by
  intro p e s m args below meth c0 H locs cs F hS hW hl
  have hts := F.2.2.2.2.2.1
  have hstk : st.map (cv ad) = (as.map (cv ad)).reverse ++ rest.map (cv ad) := by
    rw [hst, map_app_cv, List.map_reverse]
  rw [hstk]
  refine backR F hS hW hl (vx_runS (As := as.map (cv ad)) (rest := rest.map (cv ad)) (nL := M.mL) (Ts := GT) (own := M.y.cls) (cc := M.b) ⟨F.1, F.2.1, F.2.2.2.1, F.2.2.2.2.1, hts⟩ (hct H.size) ⟨callB_ok F hw.1 hR, hts _ hw.2⟩ ⟨blindP, givenP F.ev hS hW⟩ rfl (by rw [List.length_map]; exact hn) hl.2.1 rfl (lv_room (by rw [cat_cv]; exact hcat)) hd hR.2) g
/-- a private static method of a nest mate -/
def WN (own : String) (idx : Nat) (M2 : MI) (n : Nat) : Prop := (∃ host : String, Cond.methodLinkNest own idx M2.y host ∈ NWs) ∧ Cond.initialized M2.y.cls ∈ GT ∧ codeW M2 ∈ GT ∧ M2.hh = [] ∧ (M2.y.cls ≠ "java/lang/invoke/MethodHandle" ∧ M2.y.cls ≠ "java/lang/invoke/VarHandle") ∧ (parseMethodDescriptor M2.y.desc).map (fun d => d.parameters.length) = some n ∧ Cond.static M2.y ∈ GT
theorem Go.callN {nn : Nat} {v : Option Value} (hct : CT l D ad aC M2 as h (.inl v) h1) (hw : WN M.y.cls idx M2 nn) (hd : decode M.b pc = .ok (.invokestatic idx, 3)) (hst : st = as.reverse ++ rest) (hn : as.length = nn) (hR : RoomOK R M2 k n) (hcat : (rest.map fun v => v.category).sum ≤ 8)
    (g : Go l D ad aC R QQ M (pc + 3) ls (v.toList ++ rest) h1 (k + M2.mc) (n + 6 * M2.mc)) : Go l D ad aC R QQ M pc ls st h k n := by
  intro p e s m args below meth c0 H locs cs F hS hW hl
  have hts := F.2.2.2.2.2.1
  obtain ⟨⟨host, hln⟩, h2, h3, h4, h5, h6, h7⟩ := hw
  have hG : GoodIn GT (wsM M2) := fun w hw => by
    have hg : w ∈ GT := by
      rcases List.mem_cons.mp hw with rfl | h
      · exact h3
      · exact h
    exact ⟨hg, gtGood hg⟩
  have hstk : st.map (cv ad) = (as.map (cv ad)).reverse ++ rest.map (cv ad) := by
    rw [hst, map_app_cv, List.map_reverse]
  rw [hstk]
  refine backR F hS hW hl (vx_runSN (As := as.map (cv ad)) (rest := rest.map (cv ad)) (nL := M.mL) (Ts := GT) (own := M.y.cls) (cc := M.b) (host := host) ⟨F.1, F.2.1, F.2.2.2.1, F.2.2.2.2.1, hts⟩ (hct H.size) ⟨va_cnB (ws' := GT) (bytes := M2.b) (maxL := M2.mL) (ret := M2.ret) nn hts hG (by unfold wsM; rw [codeW_0 h4]) rfl rfl (F.ev.1 _ hln) (hts _ h2) ⟨h5.1, h5.2, h6⟩ hR.1, hts _ h7, trivial⟩ ⟨blindP, givenP F.ev hS hW⟩ rfl (by rw [List.length_map]; exact hn) hl.2.1 rfl (lv_room (by rw [cat_cv]; exact hcat)) hd hR.2) g
/-! ends -/
theorem QR_of {s t : State} {H : Heap} {locs : List Loc} {a : Array Value} {v : Option Value} (hS : va_S (AA ad s.heap.size) s.heap H locs) (hW : Wd D ad aC h s H) (ht : t.heap = H) : QR D ad aC (.inl v) h s.heap.size a s (.returned (v.map (cv ad))) t :=
  ⟨⟨v, rfl, rfl⟩, by rw [ht]; exact hW.1, hS.F ht⟩
theorem Go.iret {x : Int32} (hr : M.ret = some .int) (hk : k ≤ M.mc) (hn : n ≤ 6 * M.mc) (hd : decode M.b pc = .ok (.ireturn, 1)) : Go l D ad aC R (QM D ad aC M (.inl (some (.int x))) h) M pc ls [.int x] h k n :=
  fun p e s m args below meth c H locs cs F hS hW hl => W.widen hk hn (vx_ret (W.iret F.1 F.2.1 (F.2.2.1.trans hr) (fun t ht _ => QR_of hS hW ht) hS.2.2 hd F.2.2.2.2.2.2.2.1))
theorem Go.zret {x : Int32} {ty : FieldType} (hr : M.ret = some ty) (hx : narrow ty (.int x) = .int x) (hk : k ≤ M.mc) (hn : n ≤ 6 * M.mc) (hd : decode M.b pc = .ok (.ireturn, 1)) : Go l D ad aC R (QM D ad aC M (.inl (some (.int x))) h) M pc ls [.int x] h k n :=
  fun p e s m args below meth c H locs cs F hS hW hl => W.widen hk hn (vx_ret (W.zret F.1 F.2.1 (F.2.2.1.trans hr) hx (fun t ht _ => QR_of hS hW ht) hS.2.2 hd F.2.2.2.2.2.2.2.1))
theorem Go.lret {x : Int64} (hr : M.ret = some .long) (hk : k ≤ M.mc) (hn : n ≤ 6 * M.mc) (hd : decode M.b pc = .ok (.lreturn, 1)) : Go l D ad aC R (QM D ad aC M (.inl (some (.long x))) h) M pc ls [.long x] h k n :=
  fun p e s m args below meth c H locs cs F hS hW hl => W.widen hk hn (vx_ret (W.lret F.1 F.2.1 (F.2.2.1.trans hr) (fun t ht _ => QR_of (v := some (.long x)) hS hW ht) hS.2.2 hd F.2.2.2.2.2.2.2.1))
theorem Go.vret (hr : M.ret = none) (hk : k ≤ M.mc) (hn : n ≤ 6 * M.mc) (hd : decode M.b pc = .ok (.return_, 1)) : Go l D ad aC R (QM D ad aC M (.inl none) h) M pc ls [] h k n :=
  fun p e s m args below meth c H locs cs F hS hW hl => W.widen hk hn (vx_ret (W.vret F.1 F.2.1 (F.2.2.1.trans hr) (fun t ht _ => QR_of (v := none) hS hW ht) hS.2.2 hd F.2.2.2.2.2.2.2.1))
theorem Go.aret {x : Nat} {rt : FieldType} (hr : M.ret = some rt) (hrt : (∃ n, rt = .object n) ∨ ∃ t, rt = .array t) (hk : k ≤ M.mc) (hn : n ≤ 6 * M.mc) (hd : decode M.b pc = .ok (.areturn, 1)) : Go l D ad aC R (QM D ad aC M (.inl (some (.ref x))) h) M pc ls [.ref x] h k n :=
  fun p e s m args below meth c H locs cs F hS hW hl => W.widen hk hn (vx_ret (W.aret F.1 F.2.1 (F.2.2.1.trans hr) hrt (Or.inr ⟨_, rfl⟩) (fun t ht _ => QR_of (v := some (.ref x)) hS hW ht) hS.2.2 hd F.2.2.2.2.2.2.2.1))
end CALLR
end
section
/-! what the printed rows use -/
theorem ite_t {α : Type} {c : Prop} [Decidable c] {a b : Option α} {r : α} (hc : c) (e : (if c then a else b) = some r) : a = some r := by rwa [if_pos hc] at e
theorem ite_f {α : Type} {c : Prop} [Decidable c] {a b : Option α} {r : α} (hc : ¬ c) (e : (if c then a else b) = some r) : b = some r := by rwa [if_neg hc] at e
theorem gd_inv {α : Type} {c : Prop} [Decidable c] {a : Option α} {r : α} (e : (if c then a else none) = some r) : c ∧ a = some r := by
  by_cases hc : c
  · rw [if_pos hc] at e; exact ⟨hc, e⟩
  · rw [if_neg hc] at e; cases e
theorem bd_inv {α β : Type} {o : Option α} {f : α → Option β} {r : β} (e : o.bind f = some r) : ∃ a, o = some a ∧ f a = some r := by
  cases o with
  | none => cases e
  | some a => exact ⟨a, rfl, e⟩
theorem no_none {α : Type} {r : α} {P : Prop} (e : (none : Option α) = some r) : P := nomatch e
def WK (a b : List (Option Value)) : Prop := a.length = b.length ∧ ∀ (i : Nat) (v : Value), a[i]? = some (some v) → b[i]? = some (some v)
theorem wk0 : WK [] [] := ⟨rfl, fun _ _ h => h⟩
theorem wkn {a b : List (Option Value)} {x : Option Value} (h : WK a b) : WK (none :: a) (x :: b) := by
  refine ⟨congrArg (· + 1) h.1, fun i v hv => ?_⟩
  cases i with
  | zero => simp at hv
  | succ i => exact h.2 i v (by simpa using hv)
theorem wks {a b : List (Option Value)} {x : Option Value} (h : WK a b) : WK (x :: a) (x :: b) := by
  refine ⟨congrArg (· + 1) h.1, fun i v hv => ?_⟩
  cases i with
  | zero => exact hv
  | succ i => exact h.2 i v (by simpa using hv)
theorem nar_z0 : narrow .boolean (.int 0) = .int 0 := by decide +kernel
theorem nar_z1 : narrow .boolean (.int 1) = .int 1 := by decide +kernel
theorem fit_z0 : fits .boolean (.int 0) = true := by decide +kernel
theorem fit_z1 : fits .boolean (.int 1) = true := by decide +kernel
theorem nar_i (x : Int32) : narrow .int (.int x) = .int x := rfl
theorem fit_i (x : Int32) : fits .int (.int x) = true := rfl
def isB (x : Int32) : Bool := decide (x = 0) || decide (x = 1)
theorem isB_or {x : Int32} (h : isB x = true) : x = 0 ∨ x = 1 := by simpa [isB] using h
theorem isB_nar {x : Int32} (h : isB x = true) : narrow .boolean (.int x) = .int x := by rcases isB_or h with rfl | rfl; exact nar_z0; exact nar_z1
theorem isB_fit {x : Int32} (h : isB x = true) : fits .boolean (.int x) = true := by rcases isB_or h with rfl | rfl; exact fit_z0; exact fit_z1
theorem isB_vp {x : Int32} (h : isB x = true) : vp_nar .boolean x = x := by rcases isB_or h with rfl | rfl <;> decide +kernel
/-- facts of ids -/
theorem kf_7_0 {t : Nat} (h : knd t = 7) : knd (fld t 0) = 1 := kd (P := fun t => knd (fld t 0) = 1) (by decide) (by decide +kernel) h
theorem kf_7_1 {t : Nat} (h : knd t = 7) : knd (fld t 1) = 1 := kd (P := fun t => knd (fld t 1) = 1) (by decide) (by decide +kernel) h
theorem kf_7_2 {t : Nat} (h : knd t = 7) : knd (fld t 2) = 3 := kd (P := fun t => knd (fld t 2) = 3) (by decide) (by decide +kernel) h
theorem kf_7_3 {t : Nat} (h : knd t = 7) : knd (fld t 3) = 5 := kd (P := fun t => knd (fld t 3) = 5) (by decide) (by decide +kernel) h
theorem kf_7_4 {t : Nat} (h : knd t = 7) : knd (fld t 4) = 2 := kd (P := fun t => knd (fld t 4) = 2) (by decide) (by decide +kernel) h
theorem kf_7_5 {t : Nat} (h : knd t = 7) : knd (fld t 5) = 10 := kd (P := fun t => knd (fld t 5) = 10) (by decide) (by decide +kernel) h
theorem kf_1_0 {t : Nat} (h : knd t = 1) : knd (fld t 0) = 6 := kd (P := fun t => knd (fld t 0) = 6) (by decide) (by decide +kernel) h
theorem kf_1_1 {t : Nat} (h : knd t = 1) : knd (fld t 1) = 4 := kd (P := fun t => knd (fld t 1) = 4) (by decide) (by decide +kernel) h
theorem kf_3_0 {t : Nat} (h : knd t = 3) : knd (fld t 0) = 14 := kd (P := fun t => knd (fld t 0) = 14) (by decide) (by decide +kernel) h
theorem kf_5_0 {t : Nat} (h : knd t = 5) : knd (fld t 0) = 14 := kd (P := fun t => knd (fld t 0) = 14) (by decide) (by decide +kernel) h
theorem kf_5_1 {t : Nat} (h : knd t = 5) : knd (fld t 1) = 11 := kd (P := fun t => knd (fld t 1) = 11) (by decide) (by decide +kernel) h
theorem kf_2_0 {t : Nat} (h : knd t = 2) : knd (fld t 0) = 12 := kd (P := fun t => knd (fld t 0) = 12) (by decide) (by decide +kernel) h
theorem kf_2_1 {t : Nat} (h : knd t = 2) : knd (fld t 1) = 10 := kd (P := fun t => knd (fld t 1) = 10) (by decide) (by decide +kernel) h
theorem kf_8_7 {t : Nat} (h : knd t = 8) : knd (fld t 7) = 11 := kd (P := fun t => knd (fld t 7) = 11) (by decide) (by decide +kernel) h
theorem kf_4 : ∀ i, i < 215 → knd i = 4 → (knd (fld i 0) = 10 ∧ knd (fld i 1) = 10 ∧ knd (fld i 2) = 10 ∧ alen (fld i 0) = 120 ∧ alen (fld i 1) = 30 ∧ alen (fld i 2) = 10) := by decide +kernel
theorem kf_4_0 {t : Nat} (h : knd t = 4) : knd (fld t 0) = 10 := (kd (by decide) kf_4 h).1
theorem kf_4_1 {t : Nat} (h : knd t = 4) : knd (fld t 1) = 10 := (kd (by decide) kf_4 h).2.1
theorem kf_4_2 {t : Nat} (h : knd t = 4) : knd (fld t 2) = 10 := (kd (by decide) kf_4 h).2.2.1
theorem al_4_0 {t : Nat} (h : knd t = 4) : alen (fld t 0) = 120 := (kd (by decide) kf_4 h).2.2.2.1
theorem al_4_1 {t : Nat} (h : knd t = 4) : alen (fld t 1) = 30 := (kd (by decide) kf_4 h).2.2.2.2.1
theorem al_4_2 {t : Nat} (h : knd t = 4) : alen (fld t 2) = 10 := (kd (by decide) kf_4 h).2.2.2.2.2
theorem kf_6 : ∀ i, i < 215 → knd i = 6 → ∀ j, j < 9 → (knd (fld i j) = 10 ∧ alen (fld i j) = [4,120,10,10,10,10,10,10,6].getD j 0) := by decide +kernel
theorem kf_6_j {t : Nat} (j : Nat) (h : knd t = 6) (hj : j < 9) : knd (fld t j) = 10 := (kd (by decide) kf_6 h j hj).1
theorem al_6_j {t N : Nat} (j : Nat) (h : knd t = 6) (hj : j < 9) (hN : [4,120,10,10,10,10,10,10,6].getD j 0 = N) : alen (fld t j) = N := ((kd (by decide) kf_6 h j hj).2).trans hN
theorem kf_8 : ∀ i, i < 215 → knd i = 8 → ∀ j, j < 12 → ((j = 0 ∨ j = 5 ∨ j = 7) ∨ (knd (fld i j) = 10 ∧ alen (fld i j) = [0,196,196,196,2744,0,392,2,120,10,30,120].getD j 0)) := by decide +kernel
theorem kf_8_j {t : Nat} (j : Nat) (h : knd t = 8) (h1 : j < 12) (h2 : ¬ (j = 0 ∨ j = 5 ∨ j = 7)) : knd (fld t j) = 10 := ((kd (by decide) kf_8 h j h1).resolve_left h2).1
theorem al_8_j {t N : Nat} (j : Nat) (h : knd t = 8) (h1 : j < 12) (h2 : ¬ (j = 0 ∨ j = 5 ∨ j = 7)) (hN : [0,196,196,196,2744,0,392,2,120,10,30,120].getD j 0 = N) : alen (fld t j) = N := (((kd (by decide) kf_8 h j h1).resolve_left h2).2).trans hN
theorem al_8_7 {t : Nat} (h : knd t = 8) : alen (fld t 7) = 2 := kd (P := fun t => alen (fld t 7) = 2) (by decide) (by decide +kernel) h
theorem al_7_5 {t : Nat} (h : knd t = 7) : alen (fld t 5) = 3 := kd (P := fun t => alen (fld t 5) = 3) (by decide) (by decide +kernel) h
theorem al_3_0 {t : Nat} (h : knd t = 3) : alen (fld t 0) = 14 := kd (P := fun t => alen (fld t 0) = 14) (by decide) (by decide +kernel) h
theorem al_5_0 {t : Nat} (h : knd t = 5) : alen (fld t 0) = 2 := kd (P := fun t => alen (fld t 0) = 2) (by decide) (by decide +kernel) h
theorem al_5_1 {t : Nat} (h : knd t = 5) : alen (fld t 1) = 2 := kd (P := fun t => alen (fld t 1) = 2) (by decide) (by decide +kernel) h
theorem al_2_0 {t : Nat} (h : knd t = 2) : alen (fld t 0) = 120 := kd (P := fun t => alen (fld t 0) = 120) (by decide) (by decide +kernel) h
theorem al_2_1 {t : Nat} (h : knd t = 2) : alen (fld t 1) = 3 := kd (P := fun t => alen (fld t 1) = 3) (by decide) (by decide +kernel) h
theorem al_13 {t : Nat} (h : knd t = 13) : alen t = 1 := kd (P := fun t => alen t = 1) (by decide) (by decide +kernel) h
theorem ke_14 : ∀ i, i < 215 → knd i = 14 → ∀ j, j < alen i → knd (fld i j) = 6 := by decide +kernel
theorem ke {a N : Nat} {j : Int32} (h : knd a = 14) (hN : alen a = N) (hj : ib j N = true) : knd (fld a j.toNatClampNeg) = 6 := by
  refine kd (by decide) ke_14 h _ ?_
  simp only [ib, Bool.and_eq_true, Nat.blt_eq] at hj
  rw [hN]
  exact hj.2
section GLUE
variable {l : Launch} {D : va_G} {ad : Nat → Nat} {aC : Nat → ClassId} {R : Room} {QQ : List Frame → Array Value → State → State → Prop} {M M2 : MI} {pc k n idx : Nat} {ls ls' : List (Option Value)} {st st' rest as : List Value} {h h1 : HP}
theorem Go.wk' (w : WK ls' ls) (g : Go l D ad aC R QQ M pc ls' st h k n) : Go l D ad aC R QQ M pc ls st h k n := Go.wk w.1 w.2 g
/-- a static callee of this class that throws: it goes on to the caller -/
theorem Go.thrown {nn : Nat} {E : String} (hct : CT l D ad aC M2 as h (.inr E) h1) (hw : WS M.y.cls idx M2 nn) (hd : decode M.b pc = .ok (.invokestatic idx, 3)) (hst : st = as.reverse ++ rest) (hn : as.length = nn) (hR : RoomOK R M2 k n) (hcat : (rest.map fun v => v.category).sum ≤ 8)
    (hh : M.hh = []) (hrk : M.rk < 12) (hk : k + M2.mc ≤ M.mc) (hk2 : n + 6 * M2.mc ≤ 6 * M.mc) : Go l D ad aC R (QM D ad aC M (.inr E) h1) M pc ls st h k n := by
  intro p e s m args below meth c0 H locs cs F hS hW hl
  have hts := F.2.2.2.2.2.1
  have hstk : st.map (cv ad) = (as.map (cv ad)).reverse ++ rest.map (cv ad) := by
    rw [hst, map_app_cv, List.map_reverse]
  rw [hstk]
  have hr := vx_runS (As := as.map (cv ad)) (rest := rest.map (cv ad)) (nL := M.mL) (Ts := GT) (own := M.y.cls) (cc := M.b) (g := F0 m pc cs ((as.map (cv ad)).reverse ++ rest.map (cv ad))) (p := p) (l := l) (e := e) (below := below) (meth := meth) (locs := locs) (cells := k) (slots := n) ⟨F.1, F.2.1, F.2.2.2.1, F.2.2.2.2.1, hts⟩ (hct H.size) ⟨callB_ok F hw.1 hR, hts _ hw.2⟩ ⟨blindP, givenP F.ev hS hW⟩ rfl (by rw [List.length_map]; exact hn) hl.2.1 rfl (lv_room (by rw [cat_cv]; exact hcat)) hd hR.2
  intro T hT X
  rcases hr T hT X with ⟨v2, st₀, t, T', L, h0, X', hL, e1, e2, ⟨⟨v3, hv3, hv⟩, hP, hF⟩, stp⟩ | ⟨q, st₀, t, T', L, E2, ce, h0, X', hL, e1, e2, ⟨hv, hP, hF⟩, hce, hcv, hcl, stp⟩
  · cases hv3
  · cases hv
    obtain ⟨k1, k2, k3⟩ := vx_keep (A0 := AA ad s.heap.size) (H0 := s.heap) (free := AA ad H.size) h0 e1 hS (fun q _ hq => AA_sub hS.1 q hq) (AA_sub hS.1) hL hF
    have hout : ∀ x ∈ c0.exceptionTable.toList, covers x pc = false := by
      have ht := F.2.2.2.2.2.2.1 hrk
      rw [hh] at ht
      rw [ht]
      intro x hx
      cases hx
    have O := vx_out (p := p) (l := l) (e := e) (R := R) (s := s) (m := m) (args := args) (below := below) (meth := meth) (c := c0) (H := T'.heap) (locs := locs ++ L) (ls := cs) (rest := rest.map (cv ad)) (Qc := QR D ad aC (.inr E) h1 s.heap.size) (XC := QX D ad aC (.inr E) h1 s.heap.size) (free := AA ad s.heap.size) (pc := pc) (E := E) (ce := ce) (q := q) hout F.2.2.2.2.2.2.2.1 (by rw [e1]; exact hce) hcv hcl
      (fun t2 ht2 _ => ⟨rfl, by rw [ht2, e1]; exact hP, k3.F ht2⟩) k3.2.2 hk hk2
    obtain ⟨t2, a1, b1⟩ := O T' rfl X'
    exact ⟨t2, stp.trans a1, b1⟩
/-- System.arraycopy of ints, both arrays of the world, from 0 to 0 -/
def cpy0 (f g : Nat → Int32) (N : Nat) : Nat → Int32 := fun j => if j < N then f j else g j
def NOK (own : String) (idx : Nat) : Prop := Cond.methodLink own idx arraycopyName ∈ GT ∧ Cond.native arraycopyName ∈ GT ∧ Cond.static arraycopyName ∈ GT ∧ Cond.initialized "java/lang/System" ∈ GT
theorem va_cpy0 {f g : Nat → Int32} {N : Int32} {N' : Nat} (hN : N.toNatClampNeg = N') : va_cpy f g (0 : Int32).toNatClampNeg (0 : Int32).toNatClampNeg N.toNatClampNeg = cpy0 f g N' := by
  funext j
  have e0 : (0 : Int32).toNatClampNeg = 0 := rfl
  unfold va_cpy cpy0
  rw [hN, e0]
  simp only [Nat.zero_le, true_and, Nat.zero_add, Nat.sub_zero]
theorem Go.copy {a b na nb N' : Nat} {N : Int32} (hI : Inj ad) (hka : knd a = 10) (hna : alen a = na) (hkb : knd b = 10) (hnb : alen b = nb) (hN : N.toNatClampNeg = N') (h0 : ¬ N < 0) (h4 : N' ≤ na) (h5 : N' ≤ nb) (hw : NOK M.y.cls idx) (hfr : 1 ≤ R.frames) (hlo : (rest.map fun v => v.category).sum + (nativeFrameWords "java/lang/System" "arraycopy" 5 + 11) ≤ R.locals)
    (hd : decode M.b pc = .ok (.invokestatic idx, 3)) (g : Go l D ad aC R QQ M (pc + 3) ls rest (hrow h b (cpy0 (h a) (h b) N')) k n) : Go l D ad aC R QQ M pc ls (.int N :: .int 0 :: .ref b :: .int 0 :: .ref a :: rest) h k n := by
  intro p e s m args below meth c H locs cs F hS hW hl
  have hts := F.2.2.2.2.2.1
  have ha : a < 212 := knd_in hka (by omega) (by omega)
  have hb : b < 212 := knd_in hkb (by omega) (by omega)
  have e0 : (0 : Int32).toNatClampNeg = 0 := rfl
  have hK2 : va_K D clsL [(aC a, .int), (aC b, .int)] s := by
    refine ⟨hW.2.1.1, fun i q hq => ?_⟩
    match i, hq with
    | 0, hq => cases hq; exact (hW.2.arr hka (by omega) (by omega)).2 0 _ rfl
    | 1, hq => cases hq; exact (hW.2.arr hkb (by omega) (by omega)).2 0 _ rfl
    | i + 2, hq => simp at hq
  refine va_copyi F.1 F.2.1 (by rw [hl.2.1]; exact F.2.2.2.1) F.2.2.2.2.1 (hts _ hw.1) (hts _ hw.2.1) (hts _ hw.2.2.1) (hts _ hw.2.2.2) hK2 hW.1 (wl_D hI h _) hS a b 0 1 (ty := .int) (by rw [wl_at ad aC h ha, ent_i hka (by omega)]) (by rw [wl_at ad aC h hb, ent_i hkb (by omega)]) rfl rfl (by decide) (by decide) (by decide) h0 (by rw [e0, hN, hna]; omega) (by rw [e0, hN, hnb]; omega) (fun i _ => rfl) hfr (by rw [cat_cv]; exact hlo) hd (fun H1 locs1 hP1 _ hS1 => ?_)
  rw [va_cpy0 hN, wl_row hkb (by omega)] at hP1
  exact g p e s m args below meth c H1 locs1 cs F hS1 ⟨hP1, hW.2⟩ hl
theorem Go.alen {a N : Nat} {v : Int32} (hk : knd a = 10) (hN : alen a = N) (hv : Int32.ofNat N = v) (hd : decode M.b pc = .ok (.arraylength, 1)) (g : Go l D ad aC R QQ M (pc + 1) ls (.int v :: st) h k n) : Go l D ad aC R QQ M pc ls (.ref a :: st) h k n := by
  intro p e s m args below meth c H locs cs F hS hW hl
  have ha : a < 212 := knd_in hk (by omega) (by omega)
  exact va_alen F.1 F.2.1 (hW.2.arr hk (by omega) (by omega)) hW.1 a 0 (by rw [wl_at ad aC h ha, ent_i hk (by omega)]) rfl (by rw [hN]; exact hv) hd (g p e s m args below meth c H locs cs F hS hW hl)
end GLUE
section GLUE2
variable {l : Launch} {D : va_G} {ad : Nat → Nat} {aC : Nat → ClassId} {R : Room} {QQ : List Frame → Array Value → State → State → Prop} {M M2 : MI} {pc k n idx : Nat} {ls ls' : List (Option Value)} {st st' rest as : List Value} {h h1 : HP}
theorem Go.eqH (q : h = h1) (g : Go l D ad aC R QQ M pc ls st h1 k n) : Go l D ad aC R QQ M pc ls st h k n := by rw [q]; exact g
theorem Go.idivn {x y : Int32} (hne : ¬ y = 0) (hd : decode M.b pc = .ok (.idiv, 1)) (g : Go l D ad aC R QQ M (pc + 1) ls (.int (x / y) :: st) h k n) : Go l D ad aC R QQ M pc ls (.int y :: .int x :: st) h k n :=
  fun p e s m args below meth c H locs cs F hS hW hl => lv_idiv F.1 F.2.1 hd hne (g p e s m args below meth c H locs cs F hS hW hl)
theorem Go.iremn {x y : Int32} (hne : ¬ y = 0) (hd : decode M.b pc = .ok (.irem, 1)) (g : Go l D ad aC R QQ M (pc + 1) ls (.int (x - x / y * y) :: st) h k n) : Go l D ad aC R QQ M pc ls (.int y :: .int x :: st) h k n :=
  fun p e s m args below meth c H locs cs F hS hW hl => lv_irem F.1 F.2.1 hd hne (g p e s m args below meth c H locs cs F hS hW hl)
theorem Go.ldivn {x y : Int64} (hne : ¬ y = 0) (hd : decode M.b pc = .ok (.ldiv, 1)) (g : Go l D ad aC R QQ M (pc + 1) ls (.long (x / y) :: st) h k n) : Go l D ad aC R QQ M pc ls (.long y :: .long x :: st) h k n :=
  fun p e s m args below meth c H locs cs F hS hW hl => lv_ldiv F.1 F.2.1 hd hne (g p e s m args below meth c H locs cs F hS hW hl)
theorem Go.lremn {x y : Int64} (hne : ¬ y = 0) (hd : decode M.b pc = .ok (.lrem, 1)) (g : Go l D ad aC R QQ M (pc + 1) ls (.long (x - x / y * y) :: st) h k n) : Go l D ad aC R QQ M pc ls (.long y :: .long x :: st) h k n :=
  fun p e s m args below meth c H locs cs F hS hW hl => lv_lrem F.1 F.2.1 hd hne (g p e s m args below meth c H locs cs F hS hW hl)
theorem Go.ldcS (hM : M.y.cls = "FairWalls$FairText") (hd : decode M.b pc = .ok (.ldc 40, 2)) (g : Go l D ad aC R QQ M (pc + 2) ls (.ref 215 :: st) h k n) : Go l D ad aC R QQ M pc ls st h k n :=
  fun p e s m args below meth c H locs cs F hS hW hl => va_ldcS (own := "FairWalls$FairText") (tx := "wodplsne") F.1 F.2.1 (by rw [← hM]; exact F.2.2.2.2.1) F.ev.2.2.2.1.2.1 hd (g p e s m args below meth c H locs cs F hS hW hl)
/-- "wodplsne".indexOf -/
def lix (c : Int32) : Int32 := if c = 119 then 0 else if c = 111 then 1 else if c = 100 then 2 else if c = 112 then 3 else if c = 108 then 4 else if c = 115 then 5 else if c = 110 then 6 else if c = 101 then 7 else -1
end GLUE2
section CATCH
variable {l : Launch} {D : va_G} {ad : Nat → Nat} {aC : Nat → ClassId} {R : Room} {QQ : List Frame → Array Value → State → State → Prop} {M M2 : MI} {pc k n idx : Nat} {ls ls' : List (Option Value)} {st st' rest as : List Value} {h h1 : HP}
/-- a call that throws, caught by this method's row x -/
theorem Go.caught {a c nn j len : Nat} {E : String} (hct : CT l D ad aC M2 (.ref a :: as) h (.inr E) h1) (hw : WV M.y.cls idx M2 nn) (hka : knd a = c) (hkc : KC c M2.y.cls) (hd : decode M.b pc = .ok (.invokevirtual idx, 3)) (hst : st = as.reverse ++ .ref a :: rest) (hn : as.length = nn) (hR : RoomOK R M2 k n) (hcat : (rest.map fun v => v.category).sum ≤ 8)
    (hrk : M.rk < 12) (pre : List ExceptionTableEntry) (x : ExceptionTableEntry) (suf : List ExceptionTableEntry) (hsplit : tableOf M.hh = pre ++ x :: suf)
    (hpass : ∀ z ∈ pre, covers z pc = false ∨ (z.catchType ≠ 0 ∧ ∃ nm : String, Cond.classLink M.y.cls z.catchType nm ∈ GT ∧ (E, nm) ∈ ncP)) (hx : covers x pc = true) (h0 : x.catchType ≠ 0) (hlink : Cond.classLink M.y.cls x.catchType E ∈ GT) (hcast : Cond.castable E E ∈ NWs)
    (hj : (decode M.b x.handlerPc = .ok (.astore j, 2) ∧ len = 2) ∨ ∃ i : Fin 4, decode M.b x.handlerPc = .ok (.astore_n i, 1) ∧ (i : Nat) = j ∧ len = 1) (ho : okS ls j = true)
    (g : Go l D ad aC R QQ M (x.handlerPc + len) (ls.set j none) [] h1 (k + M2.mc) (n + 6 * M2.mc)) : Go l D ad aC R QQ M pc ls st h k n := by
  intro p e s m args below meth c0 H locs cs F hS hW hl
  obtain ⟨k0, k10, T9, N, hcl⟩ := hkc
  have hts := F.2.2.2.2.2.1
  have hstk : st.map (cv ad) = (as.map (cv ad)).reverse ++ .ref (ad a) :: rest.map (cv ad) := by
    rw [hst, map_app_cv, List.map_reverse]; rfl
  rw [hstk]
  have hr := vx_runV (As := as.map (cv ad)) (rest := rest.map (cv ad)) (C := M2.y.cls) (nL := M.mL) (Ts := GT) (own := M.y.cls) (cc := M.b) (g := F0 m pc cs ((as.map (cv ad)).reverse ++ .ref (ad a) :: rest.map (cv ad))) (p := p) (l := l) (e := e) (below := below) (meth := meth) (locs := locs) (cells := k) (slots := n) ⟨F.1, F.2.1, F.2.2.2.1, F.2.2.2.2.1, hts⟩ (hct H.size) ⟨callB_ok F hw.1 hR, hts _ hw.2.1, hts _ hw.2.2⟩ ⟨blindP, recvP hW hka hcl k0 k10, givenP F.ev hS hW⟩ rfl (by rw [List.length_map]; exact hn) hl.2.1 rfl (lv_room (by rw [cat_cv]; exact hcat)) hd hR.2
  intro T hT X
  rcases hr T hT X with ⟨v2, st₀, t, T', L, h0', X', hL, e1, e2, ⟨⟨v3, hv3, hv⟩, hP, hF⟩, stp⟩ | ⟨q, st₀, t, T', L, E2, ce, h0', X', hL, e1, e2, ⟨hv, hP, hF⟩, hce, hcv, hcl2, stp⟩
  · cases hv3
  · cases hv
    obtain ⟨k1, k2, k3⟩ := vx_keep (A0 := AA ad s.heap.size) (H0 := s.heap) (free := AA ad H.size) h0' e1 hS (fun q _ hq => AA_sub hS.1 q hq) (AA_sub hS.1) hL hF
    have kk : W p l e R s m args below meth c0 T'.heap (locs ++ L) (k + M2.mc) (n + 6 * M2.mc) (QQ below args s) (F0 m x.handlerPc cs [.ref q]) := by
      have G := g p e s m args below meth c0 T'.heap (locs ++ L)
      rcases hj with ⟨d, rfl⟩ | ⟨i, d, hi, rfl⟩
      · exact lv_astore F.1 F.2.1 d hl.2 (by rw [← hl.1]; exact okS_lt ho) rfl (fun cs' hl' => G cs' F k3 ⟨by rw [e1]; exact hP, hW.2⟩ (LV.setN hl.1 ho hl'))
      · exact lv_astore_n F.1 F.2.1 d hi hl.2 (by rw [← hl.1]; exact okS_lt ho) rfl (fun cs' hl' => G cs' F k3 ⟨by rw [e1]; exact hP, hW.2⟩ (LV.setN hl.1 ho hl'))
    have O := vx_catch (p := p) (l := l) (e := e) (R := R) (s := s) (m := m) (args := args) (below := below) (meth := meth) (c := c0) (H := T'.heap) (locs := locs ++ L) (cells := k + M2.mc) (slots := n + 6 * M2.mc) (Q := QQ below args s) (pc := pc) (ls := cs) (rest := rest.map (cv ad)) (own := M.y.cls) (name := E) (E := E) (ce := ce) (q := q) F.2.2.2.2.1 pre x suf (by rw [F.2.2.2.2.2.2.1 hrk]; exact hsplit)
      (fun z hz => (hpass z hz).elim Or.inl (fun ⟨hz0, nm, hl1, hl2⟩ => Or.inr ⟨hz0, nm, hts _ hl1, F.ev.2.2.2.2 _ hl2⟩)) hx h0 (hts _ hlink) (va_Nw.use (Nw_tab hcast) (F.ev.1 _ hcast)) (by rw [e1]; exact hce) hcv hcl2 kk
    obtain ⟨t2, a1, b1⟩ := O T' rfl X'
    exact ⟨t2, stp.trans a1, b1⟩
/-- what a wrapper of the law makes of an answer: its number, the answer in out -/
def wrapR (hs : List String) (out : Nat) (r : Res × HP) : Option (Int32 × HP) := match r.1 with
  | .inl (some (.int v)) => some (0, hset r.2 out 0 v)
  | .inl _ => none
  | .inr E => if hs[0]? = some E then some (1, r.2) else if hs[1]? = some E then some (2, r.2) else none
end CATCH
end
section
/-! the three methods that throw -/
def m_F_needExists : MI := (⟨"FairWalls", "needExists", "(Z)V"⟩, prog_1_method_31_code, 1, none, 7, 1, [])
theorem hat_needExists : ((vx_atS "FairWalls" 329 "java/lang/IndexOutOfBoundsException" ["java/lang/RuntimeException", "java/lang/Exception"]).all (fun w => decide (w ∈ lw_tbl) && (goodWord w || isNest w))) = true := by decide +kernel
theorem hot_needExists : ((Cond.classLink "FairWalls" 325 "java/lang/IndexOutOfBoundsException" :: Cond.initialized "java/lang/IndexOutOfBoundsException" :: vx_atS "FairWalls" 329 "java/lang/IndexOutOfBoundsException" ["java/lang/RuntimeException", "java/lang/Exception"]).all vx_ot) = true := by decide +kernel
theorem hk_needExists : Cond.classLink "FairWalls" 325 "java/lang/IndexOutOfBoundsException" ∈ GT := gtb 707 (by decide +kernel) (by decide +kernel)
theorem hi_needExists : Cond.initialized "java/lang/IndexOutOfBoundsException" ∈ GT := gtb 23 (by decide +kernel) (by decide +kernel)
theorem x_F_needExists {l : Launch} {D : va_G} {ad : Nat → Nat} {aC : Nat → ClassId} (hf : l.flags = flags0) {h : HP} {b : Int32} : CT l D ad aC m_F_needExists [.int b] h (if b = 0 then .inr "java/lang/IndexOutOfBoundsException" else .inl none) h := by
  by_cases hb : b = 0
  · rw [if_pos hb]
    refine CT.ofGo (by decide +kernel) rfl (Nat.le_of_ble_eq_true rfl) ?_
    refine Go.run (pc' := 1) [.iload_n 0] (ls' := [some (.int b)]) (st' := [.int b]) (by decide +kernel) rfl rfl ?_
    refine Go.if_ne (off := 14) (tgt := 15) (by decide +kernel) (by decide) (fun c => absurd hb c) (fun c => ?_)
    intro p e s m args below meth c0 H locs cs F hS hW hl
    have hts := F.2.2.2.2.2.1
    have hemp : c0.exceptionTable.toList = [] := F.2.2.2.2.2.2.1 (by decide)
    obtain ⟨sa, hsa⟩ := F.ev.2.2.2.1.1 0 (by decide)
    refine vx_throwSW (own := "FairWalls") (cls := "java/lang/IndexOutOfBoundsException") (names := ["java/lang/RuntimeException", "java/lang/Exception"]) (ik := 325) (is := 327) (ic := 329) (text := (txF 0).2) (sa := sa) (A := AA ad s.heap.size) F.1 F.2.1 ?_ F.2.2.2.2.1 (by decide +kernel) (by decide +kernel) (hts _ hk_needExists) (hts _ hi_needExists) hsa ?_ (List.all_eq_true.mp hot_needExists) F.ev.2.2.1.1 F.ev.2.2.1.2 hS (by rw [hl.2.1]; exact F.2.2.2.1.symm) (by decide +kernel) (by decide +kernel) (by decide +kernel) (by decide +kernel) (by decide +kernel) ?_ (by decide) (Nat.le_of_ble_eq_true rfl) (by decide) (by decide) F.2.2.2.2.2.2.2.1 ?_ hS.2.2 (by decide) (by decide)
    · have e1 : l.stackTraces = false := by
        unfold Launch.stackTraces
        rw [hf]
        decide +kernel
      exact e1
    · intro w hw
      have q := List.all_eq_true.mp hat_needExists w hw
      simp only [Bool.and_eq_true, decide_eq_true_eq, Bool.or_eq_true] at q
      rcases q.2 with g | g
      · exact hts w (gt q.1 g)
      · have hn : w ∈ NWs := by
          rcases List.mem_append.mp q.1 with z | z
          · exfalso
            obtain ⟨y, -, rfl⟩ := List.mem_map.mp z
            simp [isNest] at g
          · exact List.mem_filter.mpr ⟨z, g⟩
        exact va_Nw.use (Nw_tab hn) (F.ev.1 w hn)
    · intro x hx
      rw [hemp] at hx
      cases hx
    · intro t ht hz hq
      refine ⟨rfl, ?_, ?_⟩
      · intro i q hi
        have hlt := (hW.1 i q hi).lt
        exact (hW.1 i q hi).kept (hq q.1 hlt)
      · exact ⟨Nat.le_trans hS.1 hz, fun q h1 h2 => (hq q (Nat.lt_of_lt_of_le h1 hS.1)).trans (hS.2.1 q h1 h2)⟩
  · rw [if_neg hb]
    refine CT.ofGo (by decide +kernel) rfl (Nat.le_of_ble_eq_true rfl) ?_
    refine Go.run (pc' := 1) [.iload_n 0] (ls' := [some (.int b)]) (st' := [.int b]) (by decide +kernel) rfl rfl ?_
    refine Go.if_ne (off := 14) (tgt := 15) (by decide +kernel) (by decide) (fun c => ?_) (fun c => absurd c hb)
    exact Go.vret rfl (by decide) (by decide) (by decide +kernel)
def m_F_needArgument : MI := (⟨"FairWalls", "needArgument", "(Z)V"⟩, prog_1_method_32_code, 1, none, 7, 1, [])
theorem hat_needArgument : ((vx_atS "FairWalls" 336 "java/lang/IllegalArgumentException" ["java/lang/RuntimeException", "java/lang/Exception"]).all (fun w => decide (w ∈ lw_tbl) && (goodWord w || isNest w))) = true := by decide +kernel
theorem hot_needArgument : ((Cond.classLink "FairWalls" 332 "java/lang/IllegalArgumentException" :: Cond.initialized "java/lang/IllegalArgumentException" :: vx_atS "FairWalls" 336 "java/lang/IllegalArgumentException" ["java/lang/RuntimeException", "java/lang/Exception"]).all vx_ot) = true := by decide +kernel
theorem hk_needArgument : Cond.classLink "FairWalls" 332 "java/lang/IllegalArgumentException" ∈ GT := gtb 375 (by decide +kernel) (by decide +kernel)
theorem hi_needArgument : Cond.initialized "java/lang/IllegalArgumentException" ∈ GT := gtb 14 (by decide +kernel) (by decide +kernel)
theorem x_F_needArgument {l : Launch} {D : va_G} {ad : Nat → Nat} {aC : Nat → ClassId} (hf : l.flags = flags0) {h : HP} {b : Int32} : CT l D ad aC m_F_needArgument [.int b] h (if b = 0 then .inr "java/lang/IllegalArgumentException" else .inl none) h := by
  by_cases hb : b = 0
  · rw [if_pos hb]
    refine CT.ofGo (by decide +kernel) rfl (Nat.le_of_ble_eq_true rfl) ?_
    refine Go.run (pc' := 1) [.iload_n 0] (ls' := [some (.int b)]) (st' := [.int b]) (by decide +kernel) rfl rfl ?_
    refine Go.if_ne (off := 14) (tgt := 15) (by decide +kernel) (by decide) (fun c => absurd hb c) (fun c => ?_)
    intro p e s m args below meth c0 H locs cs F hS hW hl
    have hts := F.2.2.2.2.2.1
    have hemp : c0.exceptionTable.toList = [] := F.2.2.2.2.2.2.1 (by decide)
    obtain ⟨sa, hsa⟩ := F.ev.2.2.2.1.1 1 (by decide)
    refine vx_throwSW (own := "FairWalls") (cls := "java/lang/IllegalArgumentException") (names := ["java/lang/RuntimeException", "java/lang/Exception"]) (ik := 332) (is := 334) (ic := 336) (text := (txF 1).2) (sa := sa) (A := AA ad s.heap.size) F.1 F.2.1 ?_ F.2.2.2.2.1 (by decide +kernel) (by decide +kernel) (hts _ hk_needArgument) (hts _ hi_needArgument) hsa ?_ (List.all_eq_true.mp hot_needArgument) F.ev.2.2.1.1 F.ev.2.2.1.2 hS (by rw [hl.2.1]; exact F.2.2.2.1.symm) (by decide +kernel) (by decide +kernel) (by decide +kernel) (by decide +kernel) (by decide +kernel) ?_ (by decide) (Nat.le_of_ble_eq_true rfl) (by decide) (by decide) F.2.2.2.2.2.2.2.1 ?_ hS.2.2 (by decide) (by decide)
    · have e1 : l.stackTraces = false := by
        unfold Launch.stackTraces
        rw [hf]
        decide +kernel
      exact e1
    · intro w hw
      have q := List.all_eq_true.mp hat_needArgument w hw
      simp only [Bool.and_eq_true, decide_eq_true_eq, Bool.or_eq_true] at q
      rcases q.2 with g | g
      · exact hts w (gt q.1 g)
      · have hn : w ∈ NWs := by
          rcases List.mem_append.mp q.1 with z | z
          · exfalso
            obtain ⟨y, -, rfl⟩ := List.mem_map.mp z
            simp [isNest] at g
          · exact List.mem_filter.mpr ⟨z, g⟩
        exact va_Nw.use (Nw_tab hn) (F.ev.1 w hn)
    · intro x hx
      rw [hemp] at hx
      cases hx
    · intro t ht hz hq
      refine ⟨rfl, ?_, ?_⟩
      · intro i q hi
        have hlt := (hW.1 i q hi).lt
        exact (hW.1 i q hi).kept (hq q.1 hlt)
      · exact ⟨Nat.le_trans hS.1 hz, fun q h1 h2 => (hq q (Nat.lt_of_lt_of_le h1 hS.1)).trans (hS.2.1 q h1 h2)⟩
  · rw [if_neg hb]
    refine CT.ofGo (by decide +kernel) rfl (Nat.le_of_ble_eq_true rfl) ?_
    refine Go.run (pc' := 1) [.iload_n 0] (ls' := [some (.int b)]) (st' := [.int b]) (by decide +kernel) rfl rfl ?_
    refine Go.if_ne (off := 14) (tgt := 15) (by decide +kernel) (by decide) (fun c => ?_) (fun c => absurd c hb)
    exact Go.vret rfl (by decide) (by decide) (by decide +kernel)
def m_F_needState : MI := (⟨"FairWalls", "needState", "(Z)V"⟩, prog_1_method_33_code, 1, none, 7, 1, [])
theorem hat_needState : ((vx_atS "FairWalls" 341 "java/lang/IllegalStateException" ["java/lang/RuntimeException", "java/lang/Exception"]).all (fun w => decide (w ∈ lw_tbl) && (goodWord w || isNest w))) = true := by decide +kernel
theorem hot_needState : ((Cond.classLink "FairWalls" 337 "java/lang/IllegalStateException" :: Cond.initialized "java/lang/IllegalStateException" :: vx_atS "FairWalls" 341 "java/lang/IllegalStateException" ["java/lang/RuntimeException", "java/lang/Exception"]).all vx_ot) = true := by decide +kernel
theorem hk_needState : Cond.classLink "FairWalls" 337 "java/lang/IllegalStateException" ∈ GT := gtb 449 (by decide +kernel) (by decide +kernel)
theorem hi_needState : Cond.initialized "java/lang/IllegalStateException" ∈ GT := gtb 15 (by decide +kernel) (by decide +kernel)
theorem x_F_needState {l : Launch} {D : va_G} {ad : Nat → Nat} {aC : Nat → ClassId} (hf : l.flags = flags0) {h : HP} {b : Int32} : CT l D ad aC m_F_needState [.int b] h (if b = 0 then .inr "java/lang/IllegalStateException" else .inl none) h := by
  by_cases hb : b = 0
  · rw [if_pos hb]
    refine CT.ofGo (by decide +kernel) rfl (Nat.le_of_ble_eq_true rfl) ?_
    refine Go.run (pc' := 1) [.iload_n 0] (ls' := [some (.int b)]) (st' := [.int b]) (by decide +kernel) rfl rfl ?_
    refine Go.if_ne (off := 14) (tgt := 15) (by decide +kernel) (by decide) (fun c => absurd hb c) (fun c => ?_)
    intro p e s m args below meth c0 H locs cs F hS hW hl
    have hts := F.2.2.2.2.2.1
    have hemp : c0.exceptionTable.toList = [] := F.2.2.2.2.2.2.1 (by decide)
    obtain ⟨sa, hsa⟩ := F.ev.2.2.2.1.1 2 (by decide)
    refine vx_throwSW (own := "FairWalls") (cls := "java/lang/IllegalStateException") (names := ["java/lang/RuntimeException", "java/lang/Exception"]) (ik := 337) (is := 339) (ic := 341) (text := (txF 2).2) (sa := sa) (A := AA ad s.heap.size) F.1 F.2.1 ?_ F.2.2.2.2.1 (by decide +kernel) (by decide +kernel) (hts _ hk_needState) (hts _ hi_needState) hsa ?_ (List.all_eq_true.mp hot_needState) F.ev.2.2.1.1 F.ev.2.2.1.2 hS (by rw [hl.2.1]; exact F.2.2.2.1.symm) (by decide +kernel) (by decide +kernel) (by decide +kernel) (by decide +kernel) (by decide +kernel) ?_ (by decide) (Nat.le_of_ble_eq_true rfl) (by decide) (by decide) F.2.2.2.2.2.2.2.1 ?_ hS.2.2 (by decide) (by decide)
    · have e1 : l.stackTraces = false := by
        unfold Launch.stackTraces
        rw [hf]
        decide +kernel
      exact e1
    · intro w hw
      have q := List.all_eq_true.mp hat_needState w hw
      simp only [Bool.and_eq_true, decide_eq_true_eq, Bool.or_eq_true] at q
      rcases q.2 with g | g
      · exact hts w (gt q.1 g)
      · have hn : w ∈ NWs := by
          rcases List.mem_append.mp q.1 with z | z
          · exfalso
            obtain ⟨y, -, rfl⟩ := List.mem_map.mp z
            simp [isNest] at g
          · exact List.mem_filter.mpr ⟨z, g⟩
        exact va_Nw.use (Nw_tab hn) (F.ev.1 w hn)
    · intro x hx
      rw [hemp] at hx
      cases hx
    · intro t ht hz hq
      refine ⟨rfl, ?_, ?_⟩
      · intro i q hi
        have hlt := (hW.1 i q hi).lt
        exact (hW.1 i q hi).kept (hq q.1 hlt)
      · exact ⟨Nat.le_trans hS.1 hz, fun q h1 h2 => (hq q (Nat.lt_of_lt_of_le h1 hS.1)).trans (hS.2.1 q h1 h2)⟩
  · rw [if_neg hb]
    refine CT.ofGo (by decide +kernel) rfl (Nat.le_of_ble_eq_true rfl) ?_
    refine Go.run (pc' := 1) [.iload_n 0] (ls' := [some (.int b)]) (st' := [.int b]) (by decide +kernel) rfl rfl ?_
    refine Go.if_ne (off := 14) (tgt := 15) (by decide +kernel) (by decide) (fun c => ?_) (fun c => absurd c hb)
    exact Go.vret rfl (by decide) (by decide) (by decide +kernel)
end
section
/-! words: fields, constants, methods, calls -/
theorem kc_1 : KC 1 "FairWalls$Fair" := ⟨by decide, by decide, _, _, rfl⟩
theorem kc_2 : KC 2 "FairWalls$FairText" := ⟨by decide, by decide, _, _, rfl⟩
theorem kc_3 : KC 3 "FairWalls$Past" := ⟨by decide, by decide, _, _, rfl⟩
theorem kc_4 : KC 4 "FairWalls$Power" := ⟨by decide, by decide, _, _, rfl⟩
theorem kc_5 : KC 5 "FairWalls$Slots" := ⟨by decide, by decide, _, _, rfl⟩
theorem kc_6 : KC 6 "FairWalls$State" := ⟨by decide, by decide, _, _, rfl⟩
theorem kc_7 : KC 7 "FairWalls" := ⟨by decide, by decide, _, _, rfl⟩
theorem kc_8 : KC 8 "FairWallsModel" := ⟨by decide, by decide, _, _, rfl⟩
theorem gdT {C : String} {T : u_T} {N : Nat} (a : ∀ w ∈ u_ws C T N, w ∈ lw_tbl) (b : ∀ w ∈ u_ws C T N, goodWord w = true) : ∀ w ∈ u_ws C T N, w ∈ GT := fun w hw => gt (a w hw) (b w hw)
theorem fo_F_10 : FOK "FairWalls" 10 7 0 true := ⟨_, TX7, 6, rfl, by decide, rfl, by decide, by decide, rfl, rfl, gdT inTX7 gdTX7, (Or.inl (gtb 219 (by decide +kernel) (by decide +kernel)))⟩
theorem fo_F_16 : FOK "FairWalls" 16 7 1 true := ⟨_, TX7, 6, rfl, by decide, rfl, by decide, by decide, rfl, rfl, gdT inTX7 gdTX7, (Or.inl (gtb 220 (by decide +kernel) (by decide +kernel)))⟩
theorem fo_F_22 : FOK "FairWalls" 22 7 2 true := ⟨_, TX7, 6, rfl, by decide, rfl, by decide, by decide, rfl, rfl, gdT inTX7 gdTX7, (Or.inl (gtb 221 (by decide +kernel) (by decide +kernel)))⟩
theorem fo_F_29 : FOK "FairWalls" 29 7 3 true := ⟨_, TX7, 6, rfl, by decide, rfl, by decide, by decide, rfl, rfl, gdT inTX7 gdTX7, (Or.inl (gtb 222 (by decide +kernel) (by decide +kernel)))⟩
theorem fo_F_36 : FOK "FairWalls" 36 7 4 true := ⟨_, TX7, 6, rfl, by decide, rfl, by decide, by decide, rfl, rfl, gdT inTX7 gdTX7, (Or.inl (gtb 223 (by decide +kernel) (by decide +kernel)))⟩
theorem fo_F_40 : FOK "FairWalls" 40 7 5 true := ⟨_, TX7, 6, rfl, by decide, rfl, by decide, by decide, rfl, rfl, gdT inTX7 gdTX7, (Or.inl (gtb 224 (by decide +kernel) (by decide +kernel)))⟩
theorem fo_F_89 : FOK "FairWalls" 89 1 0 true := ⟨_, TX1, 2, rfl, by decide, rfl, by decide, by decide, rfl, rfl, gdT inTX1 gdTX1, (Or.inr ⟨"FairWalls", nwt 152 (by decide +kernel) (by decide +kernel)⟩)⟩
theorem fo_F_93 : FOK "FairWalls" 93 6 9 false := ⟨_, TX6, 14, rfl, by decide, rfl, by decide, by decide, rfl, rfl, gdT inTX6 gdTX6, (Or.inr ⟨"FairWalls", nwt 89 (by decide +kernel) (by decide +kernel)⟩)⟩
theorem fo_F_99 : FOK "FairWalls" 99 6 10 false := ⟨_, TX6, 14, rfl, by decide, rfl, by decide, by decide, rfl, rfl, gdT inTX6 gdTX6, (Or.inr ⟨"FairWalls", nwt 93 (by decide +kernel) (by decide +kernel)⟩)⟩
theorem fo_F_126 : FOK "FairWalls" 126 6 11 false := ⟨_, TX6, 14, rfl, by decide, rfl, by decide, by decide, rfl, rfl, gdT inTX6 gdTX6, (Or.inr ⟨"FairWalls", nwt 96 (by decide +kernel) (by decide +kernel)⟩)⟩
theorem fo_F_129 : FOK "FairWalls" 129 6 12 false := ⟨_, TX6, 14, rfl, by decide, rfl, by decide, by decide, rfl, rfl, gdT inTX6 gdTX6, (Or.inr ⟨"FairWalls", nwt 99 (by decide +kernel) (by decide +kernel)⟩)⟩
theorem fo_F_132 : FOK "FairWalls" 132 6 13 false := ⟨_, TX6, 14, rfl, by decide, rfl, by decide, by decide, rfl, rfl, gdT inTX6 gdTX6, (Or.inr ⟨"FairWalls", nwt 102 (by decide +kernel) (by decide +kernel)⟩)⟩
theorem fo_F_172 : FOK "FairWalls" 172 1 1 true := ⟨_, TX1, 2, rfl, by decide, rfl, by decide, by decide, rfl, rfl, gdT inTX1 gdTX1, (Or.inr ⟨"FairWalls", nwt 155 (by decide +kernel) (by decide +kernel)⟩)⟩
theorem fo_F_187 : FOK "FairWalls" 187 6 2 true := ⟨_, TX6, 14, rfl, by decide, rfl, by decide, by decide, rfl, rfl, gdT inTX6 gdTX6, (Or.inr ⟨"FairWalls", nwt 64 (by decide +kernel) (by decide +kernel)⟩)⟩
theorem fo_F_190 : FOK "FairWalls" 190 6 3 true := ⟨_, TX6, 14, rfl, by decide, rfl, by decide, by decide, rfl, rfl, gdT inTX6 gdTX6, (Or.inr ⟨"FairWalls", nwt 68 (by decide +kernel) (by decide +kernel)⟩)⟩
theorem fo_F_193 : FOK "FairWalls" 193 6 4 true := ⟨_, TX6, 14, rfl, by decide, rfl, by decide, by decide, rfl, rfl, gdT inTX6 gdTX6, (Or.inr ⟨"FairWalls", nwt 72 (by decide +kernel) (by decide +kernel)⟩)⟩
theorem fo_F_196 : FOK "FairWalls" 196 6 5 true := ⟨_, TX6, 14, rfl, by decide, rfl, by decide, by decide, rfl, rfl, gdT inTX6 gdTX6, (Or.inr ⟨"FairWalls", nwt 76 (by decide +kernel) (by decide +kernel)⟩)⟩
theorem fo_F_199 : FOK "FairWalls" 199 6 6 true := ⟨_, TX6, 14, rfl, by decide, rfl, by decide, by decide, rfl, rfl, gdT inTX6 gdTX6, (Or.inr ⟨"FairWalls", nwt 80 (by decide +kernel) (by decide +kernel)⟩)⟩
theorem fo_F_211 : FOK "FairWalls" 211 6 7 true := ⟨_, TX6, 14, rfl, by decide, rfl, by decide, by decide, rfl, rfl, gdT inTX6 gdTX6, (Or.inr ⟨"FairWalls", nwt 83 (by decide +kernel) (by decide +kernel)⟩)⟩
theorem fo_F_226 : FOK "FairWalls" 226 6 8 true := ⟨_, TX6, 14, rfl, by decide, rfl, by decide, by decide, rfl, rfl, gdT inTX6 gdTX6, (Or.inr ⟨"FairWalls", nwt 86 (by decide +kernel) (by decide +kernel)⟩)⟩
theorem fo_C_47 : FOK "FairWalls$Clerk" 47 1 0 true := ⟨_, TX1, 2, rfl, by decide, rfl, by decide, by decide, rfl, rfl, gdT inTX1 gdTX1, (Or.inr ⟨"FairWalls", nwt 151 (by decide +kernel) (by decide +kernel)⟩)⟩
theorem fo_C_60 : FOK "FairWalls$Clerk" 60 1 1 true := ⟨_, TX1, 2, rfl, by decide, rfl, by decide, by decide, rfl, rfl, gdT inTX1 gdTX1, (Or.inr ⟨"FairWalls", nwt 154 (by decide +kernel) (by decide +kernel)⟩)⟩
theorem fo_A_12 : FOK "FairWalls$Fair" 12 1 0 true := ⟨_, TX1, 2, rfl, by decide, rfl, by decide, by decide, rfl, rfl, gdT inTX1 gdTX1, (Or.inl (gtb 150 (by decide +kernel) (by decide +kernel)))⟩
theorem fo_A_21 : FOK "FairWalls$Fair" 21 1 1 true := ⟨_, TX1, 2, rfl, by decide, rfl, by decide, by decide, rfl, rfl, gdT inTX1 gdTX1, (Or.inl (gtb 153 (by decide +kernel) (by decide +kernel)))⟩
theorem fo_A_47 : FOK "FairWalls$Fair" 47 6 9 false := ⟨_, TX6, 14, rfl, by decide, rfl, by decide, by decide, rfl, rfl, gdT inTX6 gdTX6, (Or.inr ⟨"FairWalls", nwt 90 (by decide +kernel) (by decide +kernel)⟩)⟩
theorem fo_A_51 : FOK "FairWalls$Fair" 51 6 0 true := ⟨_, TX6, 14, rfl, by decide, rfl, by decide, by decide, rfl, rfl, gdT inTX6 gdTX6, (Or.inr ⟨"FairWalls", nwt 58 (by decide +kernel) (by decide +kernel)⟩)⟩
theorem fo_A_58 : FOK "FairWalls$Fair" 58 6 1 true := ⟨_, TX6, 14, rfl, by decide, rfl, by decide, by decide, rfl, rfl, gdT inTX6 gdTX6, (Or.inr ⟨"FairWalls", nwt 61 (by decide +kernel) (by decide +kernel)⟩)⟩
theorem fo_A_61 : FOK "FairWalls$Fair" 61 6 10 false := ⟨_, TX6, 14, rfl, by decide, rfl, by decide, by decide, rfl, rfl, gdT inTX6 gdTX6, (Or.inr ⟨"FairWalls", nwt 94 (by decide +kernel) (by decide +kernel)⟩)⟩
theorem fo_A_67 : FOK "FairWalls$Fair" 67 6 2 true := ⟨_, TX6, 14, rfl, by decide, rfl, by decide, by decide, rfl, rfl, gdT inTX6 gdTX6, (Or.inr ⟨"FairWalls", nwt 63 (by decide +kernel) (by decide +kernel)⟩)⟩
theorem fo_A_70 : FOK "FairWalls$Fair" 70 6 3 true := ⟨_, TX6, 14, rfl, by decide, rfl, by decide, by decide, rfl, rfl, gdT inTX6 gdTX6, (Or.inr ⟨"FairWalls", nwt 67 (by decide +kernel) (by decide +kernel)⟩)⟩
theorem fo_A_73 : FOK "FairWalls$Fair" 73 6 4 true := ⟨_, TX6, 14, rfl, by decide, rfl, by decide, by decide, rfl, rfl, gdT inTX6 gdTX6, (Or.inr ⟨"FairWalls", nwt 71 (by decide +kernel) (by decide +kernel)⟩)⟩
theorem fo_A_76 : FOK "FairWalls$Fair" 76 6 5 true := ⟨_, TX6, 14, rfl, by decide, rfl, by decide, by decide, rfl, rfl, gdT inTX6 gdTX6, (Or.inr ⟨"FairWalls", nwt 75 (by decide +kernel) (by decide +kernel)⟩)⟩
theorem fo_A_79 : FOK "FairWalls$Fair" 79 6 6 true := ⟨_, TX6, 14, rfl, by decide, rfl, by decide, by decide, rfl, rfl, gdT inTX6 gdTX6, (Or.inr ⟨"FairWalls", nwt 79 (by decide +kernel) (by decide +kernel)⟩)⟩
theorem fo_A_82 : FOK "FairWalls$Fair" 82 6 7 true := ⟨_, TX6, 14, rfl, by decide, rfl, by decide, by decide, rfl, rfl, gdT inTX6 gdTX6, (Or.inr ⟨"FairWalls", nwt 82 (by decide +kernel) (by decide +kernel)⟩)⟩
theorem fo_A_96 : FOK "FairWalls$Fair" 96 6 12 false := ⟨_, TX6, 14, rfl, by decide, rfl, by decide, by decide, rfl, rfl, gdT inTX6 gdTX6, (Or.inr ⟨"FairWalls", nwt 100 (by decide +kernel) (by decide +kernel)⟩)⟩
theorem fo_A_103 : FOK "FairWalls$Fair" 103 6 11 false := ⟨_, TX6, 14, rfl, by decide, rfl, by decide, by decide, rfl, rfl, gdT inTX6 gdTX6, (Or.inr ⟨"FairWalls", nwt 97 (by decide +kernel) (by decide +kernel)⟩)⟩
theorem fo_A_109 : FOK "FairWalls$Fair" 109 6 8 true := ⟨_, TX6, 14, rfl, by decide, rfl, by decide, by decide, rfl, rfl, gdT inTX6 gdTX6, (Or.inr ⟨"FairWalls", nwt 87 (by decide +kernel) (by decide +kernel)⟩)⟩
theorem fo_A_112 : FOK "FairWalls$Fair" 112 6 13 false := ⟨_, TX6, 14, rfl, by decide, rfl, by decide, by decide, rfl, rfl, gdT inTX6 gdTX6, (Or.inr ⟨"FairWalls", nwt 103 (by decide +kernel) (by decide +kernel)⟩)⟩
theorem fo_T_9 : FOK "FairWalls$FairText" 9 2 0 true := ⟨_, TX2, 5, rfl, by decide, rfl, by decide, by decide, rfl, rfl, gdT inTX2 gdTX2, (Or.inl (gtb 202 (by decide +kernel) (by decide +kernel)))⟩
theorem fo_T_15 : FOK "FairWalls$FairText" 15 2 1 true := ⟨_, TX2, 5, rfl, by decide, rfl, by decide, by decide, rfl, rfl, gdT inTX2 gdTX2, (Or.inl (gtb 203 (by decide +kernel) (by decide +kernel)))⟩
theorem fo_T_19 : FOK "FairWalls$FairText" 19 2 2 false := ⟨_, TX2, 5, rfl, by decide, rfl, by decide, by decide, rfl, rfl, gdT inTX2 gdTX2, (Or.inl (gtb 204 (by decide +kernel) (by decide +kernel)))⟩
theorem fo_T_23 : FOK "FairWalls$FairText" 23 2 4 false := ⟨_, TX2, 5, rfl, by decide, rfl, by decide, by decide, rfl, rfl, gdT inTX2 gdTX2, (Or.inl (gtb 206 (by decide +kernel) (by decide +kernel)))⟩
theorem fo_T_33 : FOK "FairWalls$FairText" 33 2 3 false := ⟨_, TX2, 5, rfl, by decide, rfl, by decide, by decide, rfl, rfl, gdT inTX2 gdTX2, (Or.inl (gtb 205 (by decide +kernel) (by decide +kernel)))⟩
theorem fo_P_11 : FOK "FairWalls$Past" 11 3 0 true := ⟨_, TX3, 3, rfl, by decide, rfl, by decide, by decide, rfl, rfl, gdT inTX3 gdTX3, (Or.inl (gtb 170 (by decide +kernel) (by decide +kernel)))⟩
theorem fo_P_18 : FOK "FairWalls$Past" 18 3 2 false := ⟨_, TX3, 3, rfl, by decide, rfl, by decide, by decide, rfl, rfl, gdT inTX3 gdTX3, (Or.inl (gtb 172 (by decide +kernel) (by decide +kernel)))⟩
theorem fo_P_22 : FOK "FairWalls$Past" 22 3 1 false := ⟨_, TX3, 3, rfl, by decide, rfl, by decide, by decide, rfl, rfl, gdT inTX3 gdTX3, (Or.inl (gtb 171 (by decide +kernel) (by decide +kernel)))⟩
theorem fo_W_9 : FOK "FairWalls$Power" 9 4 0 true := ⟨_, TX4, 3, rfl, by decide, rfl, by decide, by decide, rfl, rfl, gdT inTX4 gdTX4, (Or.inl (gtb 140 (by decide +kernel) (by decide +kernel)))⟩
theorem fo_W_15 : FOK "FairWalls$Power" 15 4 1 true := ⟨_, TX4, 3, rfl, by decide, rfl, by decide, by decide, rfl, rfl, gdT inTX4 gdTX4, (Or.inl (gtb 141 (by decide +kernel) (by decide +kernel)))⟩
theorem fo_W_18 : FOK "FairWalls$Power" 18 4 2 true := ⟨_, TX4, 3, rfl, by decide, rfl, by decide, by decide, rfl, rfl, gdT inTX4 gdTX4, (Or.inl (gtb 142 (by decide +kernel) (by decide +kernel)))⟩
theorem fo_W_27 : FOK "FairWalls$Power" 27 6 10 false := ⟨_, TX6, 14, rfl, by decide, rfl, by decide, by decide, rfl, rfl, gdT inTX6 gdTX6, (Or.inr ⟨"FairWalls", nwt 91 (by decide +kernel) (by decide +kernel)⟩)⟩
theorem fo_W_41 : FOK "FairWalls$Power" 41 6 5 true := ⟨_, TX6, 14, rfl, by decide, rfl, by decide, by decide, rfl, rfl, gdT inTX6 gdTX6, (Or.inr ⟨"FairWalls", nwt 74 (by decide +kernel) (by decide +kernel)⟩)⟩
theorem fo_W_44 : FOK "FairWalls$Power" 44 6 4 true := ⟨_, TX6, 14, rfl, by decide, rfl, by decide, by decide, rfl, rfl, gdT inTX6 gdTX6, (Or.inr ⟨"FairWalls", nwt 70 (by decide +kernel) (by decide +kernel)⟩)⟩
theorem fo_W_55 : FOK "FairWalls$Power" 55 6 6 true := ⟨_, TX6, 14, rfl, by decide, rfl, by decide, by decide, rfl, rfl, gdT inTX6 gdTX6, (Or.inr ⟨"FairWalls", nwt 78 (by decide +kernel) (by decide +kernel)⟩)⟩
theorem fo_W_58 : FOK "FairWalls$Power" 58 6 3 true := ⟨_, TX6, 14, rfl, by decide, rfl, by decide, by decide, rfl, rfl, gdT inTX6 gdTX6, (Or.inr ⟨"FairWalls", nwt 66 (by decide +kernel) (by decide +kernel)⟩)⟩
theorem fo_W_65 : FOK "FairWalls$Power" 65 6 8 true := ⟨_, TX6, 14, rfl, by decide, rfl, by decide, by decide, rfl, rfl, gdT inTX6 gdTX6, (Or.inr ⟨"FairWalls", nwt 85 (by decide +kernel) (by decide +kernel)⟩)⟩
theorem fo_W_68 : FOK "FairWalls$Power" 68 6 0 true := ⟨_, TX6, 14, rfl, by decide, rfl, by decide, by decide, rfl, rfl, gdT inTX6 gdTX6, (Or.inr ⟨"FairWalls", nwt 57 (by decide +kernel) (by decide +kernel)⟩)⟩
theorem fo_W_71 : FOK "FairWalls$Power" 71 6 1 true := ⟨_, TX6, 14, rfl, by decide, rfl, by decide, by decide, rfl, rfl, gdT inTX6 gdTX6, (Or.inr ⟨"FairWalls", nwt 60 (by decide +kernel) (by decide +kernel)⟩)⟩
theorem fo_L_11 : FOK "FairWalls$Slots" 11 5 0 true := ⟨_, TX5, 2, rfl, by decide, rfl, by decide, by decide, rfl, rfl, gdT inTX5 gdTX5, (Or.inl (gtb 188 (by decide +kernel) (by decide +kernel)))⟩
theorem fo_L_17 : FOK "FairWalls$Slots" 17 5 1 true := ⟨_, TX5, 2, rfl, by decide, rfl, by decide, by decide, rfl, rfl, gdT inTX5 gdTX5, (Or.inl (gtb 189 (by decide +kernel) (by decide +kernel)))⟩
theorem fo_S_9 : FOK "FairWalls$State" 9 6 0 true := ⟨_, TX6, 14, rfl, by decide, rfl, by decide, by decide, rfl, rfl, gdT inTX6 gdTX6, (Or.inl (gtb 56 (by decide +kernel) (by decide +kernel)))⟩
theorem fo_S_15 : FOK "FairWalls$State" 15 6 1 true := ⟨_, TX6, 14, rfl, by decide, rfl, by decide, by decide, rfl, rfl, gdT inTX6 gdTX6, (Or.inl (gtb 59 (by decide +kernel) (by decide +kernel)))⟩
theorem fo_S_18 : FOK "FairWalls$State" 18 6 2 true := ⟨_, TX6, 14, rfl, by decide, rfl, by decide, by decide, rfl, rfl, gdT inTX6 gdTX6, (Or.inl (gtb 62 (by decide +kernel) (by decide +kernel)))⟩
theorem fo_S_21 : FOK "FairWalls$State" 21 6 3 true := ⟨_, TX6, 14, rfl, by decide, rfl, by decide, by decide, rfl, rfl, gdT inTX6 gdTX6, (Or.inl (gtb 65 (by decide +kernel) (by decide +kernel)))⟩
theorem fo_S_24 : FOK "FairWalls$State" 24 6 4 true := ⟨_, TX6, 14, rfl, by decide, rfl, by decide, by decide, rfl, rfl, gdT inTX6 gdTX6, (Or.inl (gtb 69 (by decide +kernel) (by decide +kernel)))⟩
theorem fo_S_27 : FOK "FairWalls$State" 27 6 5 true := ⟨_, TX6, 14, rfl, by decide, rfl, by decide, by decide, rfl, rfl, gdT inTX6 gdTX6, (Or.inl (gtb 73 (by decide +kernel) (by decide +kernel)))⟩
theorem fo_S_30 : FOK "FairWalls$State" 30 6 6 true := ⟨_, TX6, 14, rfl, by decide, rfl, by decide, by decide, rfl, rfl, gdT inTX6 gdTX6, (Or.inl (gtb 77 (by decide +kernel) (by decide +kernel)))⟩
theorem fo_S_33 : FOK "FairWalls$State" 33 6 7 true := ⟨_, TX6, 14, rfl, by decide, rfl, by decide, by decide, rfl, rfl, gdT inTX6 gdTX6, (Or.inl (gtb 81 (by decide +kernel) (by decide +kernel)))⟩
theorem fo_S_36 : FOK "FairWalls$State" 36 6 8 true := ⟨_, TX6, 14, rfl, by decide, rfl, by decide, by decide, rfl, rfl, gdT inTX6 gdTX6, (Or.inl (gtb 84 (by decide +kernel) (by decide +kernel)))⟩
theorem fo_S_57 : FOK "FairWalls$State" 57 6 9 false := ⟨_, TX6, 14, rfl, by decide, rfl, by decide, by decide, rfl, rfl, gdT inTX6 gdTX6, (Or.inl (gtb 88 (by decide +kernel) (by decide +kernel)))⟩
theorem fo_S_61 : FOK "FairWalls$State" 61 6 10 false := ⟨_, TX6, 14, rfl, by decide, rfl, by decide, by decide, rfl, rfl, gdT inTX6 gdTX6, (Or.inl (gtb 92 (by decide +kernel) (by decide +kernel)))⟩
theorem fo_S_64 : FOK "FairWalls$State" 64 6 11 false := ⟨_, TX6, 14, rfl, by decide, rfl, by decide, by decide, rfl, rfl, gdT inTX6 gdTX6, (Or.inl (gtb 95 (by decide +kernel) (by decide +kernel)))⟩
theorem fo_S_67 : FOK "FairWalls$State" 67 6 12 false := ⟨_, TX6, 14, rfl, by decide, rfl, by decide, by decide, rfl, rfl, gdT inTX6 gdTX6, (Or.inl (gtb 98 (by decide +kernel) (by decide +kernel)))⟩
theorem fo_S_70 : FOK "FairWalls$State" 70 6 13 false := ⟨_, TX6, 14, rfl, by decide, rfl, by decide, by decide, rfl, rfl, gdT inTX6 gdTX6, (Or.inl (gtb 101 (by decide +kernel) (by decide +kernel)))⟩
theorem fo_M_7 : FOK "FairWallsModel" 7 8 1 true := ⟨_, TX8, 16, rfl, by decide, rfl, by decide, by decide, rfl, rfl, gdT inTX8 gdTX8, (Or.inl (gtb 1019 (by decide +kernel) (by decide +kernel)))⟩
theorem fo_M_13 : FOK "FairWallsModel" 13 8 2 true := ⟨_, TX8, 16, rfl, by decide, rfl, by decide, by decide, rfl, rfl, gdT inTX8 gdTX8, (Or.inl (gtb 1020 (by decide +kernel) (by decide +kernel)))⟩
theorem fo_M_16 : FOK "FairWallsModel" 16 8 3 true := ⟨_, TX8, 16, rfl, by decide, rfl, by decide, by decide, rfl, rfl, gdT inTX8 gdTX8, (Or.inl (gtb 1021 (by decide +kernel) (by decide +kernel)))⟩
theorem fo_M_19 : FOK "FairWallsModel" 19 8 4 true := ⟨_, TX8, 16, rfl, by decide, rfl, by decide, by decide, rfl, rfl, gdT inTX8 gdTX8, (Or.inl (gtb 1022 (by decide +kernel) (by decide +kernel)))⟩
theorem fo_M_22 : FOK "FairWallsModel" 22 8 6 true := ⟨_, TX8, 16, rfl, by decide, rfl, by decide, by decide, rfl, rfl, gdT inTX8 gdTX8, (Or.inl (gtb 1024 (by decide +kernel) (by decide +kernel)))⟩
theorem fo_M_25 : FOK "FairWallsModel" 25 8 7 true := ⟨_, TX8, 16, rfl, by decide, rfl, by decide, by decide, rfl, rfl, gdT inTX8 gdTX8, (Or.inl (gtb 1025 (by decide +kernel) (by decide +kernel)))⟩
theorem fo_M_29 : FOK "FairWallsModel" 29 8 8 true := ⟨_, TX8, 16, rfl, by decide, rfl, by decide, by decide, rfl, rfl, gdT inTX8 gdTX8, (Or.inl (gtb 1026 (by decide +kernel) (by decide +kernel)))⟩
theorem fo_M_32 : FOK "FairWallsModel" 32 8 9 true := ⟨_, TX8, 16, rfl, by decide, rfl, by decide, by decide, rfl, rfl, gdT inTX8 gdTX8, (Or.inl (gtb 1027 (by decide +kernel) (by decide +kernel)))⟩
theorem fo_M_35 : FOK "FairWallsModel" 35 8 10 true := ⟨_, TX8, 16, rfl, by decide, rfl, by decide, by decide, rfl, rfl, gdT inTX8 gdTX8, (Or.inl (gtb 1028 (by decide +kernel) (by decide +kernel)))⟩
theorem fo_M_38 : FOK "FairWallsModel" 38 8 11 true := ⟨_, TX8, 16, rfl, by decide, rfl, by decide, by decide, rfl, rfl, gdT inTX8 gdTX8, (Or.inl (gtb 1029 (by decide +kernel) (by decide +kernel)))⟩
theorem fo_M_45 : FOK "FairWallsModel" 45 8 0 false := ⟨_, TX8, 16, rfl, by decide, rfl, by decide, by decide, rfl, rfl, gdT inTX8 gdTX8, (Or.inl (gtb 1018 (by decide +kernel) (by decide +kernel)))⟩
theorem fo_M_134 : FOK "FairWallsModel" 134 8 5 false := ⟨_, TX8, 16, rfl, by decide, rfl, by decide, by decide, rfl, rfl, gdT inTX8 gdTX8, (Or.inl (gtb 1023 (by decide +kernel) (by decide +kernel)))⟩
theorem fo_M_139 : FOK "FairWallsModel" 139 8 12 false := ⟨_, TX8, 16, rfl, by decide, rfl, by decide, by decide, rfl, rfl, gdT inTX8 gdTX8, (Or.inl (gtb 1030 (by decide +kernel) (by decide +kernel)))⟩
theorem fo_M_146 : FOK "FairWallsModel" 146 8 13 false := ⟨_, TX8, 16, rfl, by decide, rfl, by decide, by decide, rfl, rfl, gdT inTX8 gdTX8, (Or.inl (gtb 1031 (by decide +kernel) (by decide +kernel)))⟩
theorem fo_M_149 : FOK "FairWallsModel" 149 8 14 false := ⟨_, TX8, 16, rfl, by decide, rfl, by decide, by decide, rfl, rfl, gdT inTX8 gdTX8, (Or.inl (gtb 1032 (by decide +kernel) (by decide +kernel)))⟩
theorem fo_M_165 : FOK "FairWallsModel" 165 8 15 false := ⟨_, TX8, 16, rfl, by decide, rfl, by decide, by decide, rfl, rfl, gdT inTX8 gdTX8, (Or.inl (gtb 1033 (by decide +kernel) (by decide +kernel)))⟩
theorem po_A_47 : POK "FairWalls$Fair" 47 6 9 .int := ⟨_, TX6, 14, rfl, by decide, rfl, by decide, by decide, rfl, rfl, gdT inTX6 gdTX6, (Or.inr ⟨"FairWalls", nwt 90 (by decide +kernel) (by decide +kernel)⟩), ⟨tyX6, tyX6_ok, rfl⟩, nmX6, rfl⟩
theorem po_A_61 : POK "FairWalls$Fair" 61 6 10 .int := ⟨_, TX6, 14, rfl, by decide, rfl, by decide, by decide, rfl, rfl, gdT inTX6 gdTX6, (Or.inr ⟨"FairWalls", nwt 94 (by decide +kernel) (by decide +kernel)⟩), ⟨tyX6, tyX6_ok, rfl⟩, nmX6, rfl⟩
theorem po_A_96 : POK "FairWalls$Fair" 96 6 12 .int := ⟨_, TX6, 14, rfl, by decide, rfl, by decide, by decide, rfl, rfl, gdT inTX6 gdTX6, (Or.inr ⟨"FairWalls", nwt 100 (by decide +kernel) (by decide +kernel)⟩), ⟨tyX6, tyX6_ok, rfl⟩, nmX6, rfl⟩
theorem po_A_103 : POK "FairWalls$Fair" 103 6 11 .int := ⟨_, TX6, 14, rfl, by decide, rfl, by decide, by decide, rfl, rfl, gdT inTX6 gdTX6, (Or.inr ⟨"FairWalls", nwt 97 (by decide +kernel) (by decide +kernel)⟩), ⟨tyX6, tyX6_ok, rfl⟩, nmX6, rfl⟩
theorem po_A_112 : POK "FairWalls$Fair" 112 6 13 .int := ⟨_, TX6, 14, rfl, by decide, rfl, by decide, by decide, rfl, rfl, gdT inTX6 gdTX6, (Or.inr ⟨"FairWalls", nwt 103 (by decide +kernel) (by decide +kernel)⟩), ⟨tyX6, tyX6_ok, rfl⟩, nmX6, rfl⟩
theorem po_T_19 : POK "FairWalls$FairText" 19 2 2 .int := ⟨_, TX2, 5, rfl, by decide, rfl, by decide, by decide, rfl, rfl, gdT inTX2 gdTX2, (Or.inl (gtb 204 (by decide +kernel) (by decide +kernel))), ⟨tyX2, tyX2_ok, rfl⟩, nmX2, rfl⟩
theorem po_T_23 : POK "FairWalls$FairText" 23 2 4 .int := ⟨_, TX2, 5, rfl, by decide, rfl, by decide, by decide, rfl, rfl, gdT inTX2 gdTX2, (Or.inl (gtb 206 (by decide +kernel) (by decide +kernel))), ⟨tyX2, tyX2_ok, rfl⟩, nmX2, rfl⟩
theorem po_T_33 : POK "FairWalls$FairText" 33 2 3 .int := ⟨_, TX2, 5, rfl, by decide, rfl, by decide, by decide, rfl, rfl, gdT inTX2 gdTX2, (Or.inl (gtb 205 (by decide +kernel) (by decide +kernel))), ⟨tyX2, tyX2_ok, rfl⟩, nmX2, rfl⟩
theorem po_P_18 : POK "FairWalls$Past" 18 3 2 .int := ⟨_, TX3, 3, rfl, by decide, rfl, by decide, by decide, rfl, rfl, gdT inTX3 gdTX3, (Or.inl (gtb 172 (by decide +kernel) (by decide +kernel))), ⟨tyX3, tyX3_ok, rfl⟩, nmX3, rfl⟩
theorem po_P_22 : POK "FairWalls$Past" 22 3 1 .int := ⟨_, TX3, 3, rfl, by decide, rfl, by decide, by decide, rfl, rfl, gdT inTX3 gdTX3, (Or.inl (gtb 171 (by decide +kernel) (by decide +kernel))), ⟨tyX3, tyX3_ok, rfl⟩, nmX3, rfl⟩
theorem po_S_57 : POK "FairWalls$State" 57 6 9 .int := ⟨_, TX6, 14, rfl, by decide, rfl, by decide, by decide, rfl, rfl, gdT inTX6 gdTX6, (Or.inl (gtb 88 (by decide +kernel) (by decide +kernel))), ⟨tyX6, tyX6_ok, rfl⟩, nmX6, rfl⟩
theorem po_S_61 : POK "FairWalls$State" 61 6 10 .int := ⟨_, TX6, 14, rfl, by decide, rfl, by decide, by decide, rfl, rfl, gdT inTX6 gdTX6, (Or.inl (gtb 92 (by decide +kernel) (by decide +kernel))), ⟨tyX6, tyX6_ok, rfl⟩, nmX6, rfl⟩
theorem po_S_64 : POK "FairWalls$State" 64 6 11 .int := ⟨_, TX6, 14, rfl, by decide, rfl, by decide, by decide, rfl, rfl, gdT inTX6 gdTX6, (Or.inl (gtb 95 (by decide +kernel) (by decide +kernel))), ⟨tyX6, tyX6_ok, rfl⟩, nmX6, rfl⟩
theorem po_S_67 : POK "FairWalls$State" 67 6 12 .int := ⟨_, TX6, 14, rfl, by decide, rfl, by decide, by decide, rfl, rfl, gdT inTX6 gdTX6, (Or.inl (gtb 98 (by decide +kernel) (by decide +kernel))), ⟨tyX6, tyX6_ok, rfl⟩, nmX6, rfl⟩
theorem po_S_70 : POK "FairWalls$State" 70 6 13 .int := ⟨_, TX6, 14, rfl, by decide, rfl, by decide, by decide, rfl, rfl, gdT inTX6 gdTX6, (Or.inl (gtb 101 (by decide +kernel) (by decide +kernel))), ⟨tyX6, tyX6_ok, rfl⟩, nmX6, rfl⟩
theorem po_M_45 : POK "FairWallsModel" 45 8 0 .int := ⟨_, TX8, 16, rfl, by decide, rfl, by decide, by decide, rfl, rfl, gdT inTX8 gdTX8, (Or.inl (gtb 1018 (by decide +kernel) (by decide +kernel))), ⟨tyX8, tyX8_ok, rfl⟩, nmX8, rfl⟩
theorem po_M_134 : POK "FairWallsModel" 134 8 5 .int := ⟨_, TX8, 16, rfl, by decide, rfl, by decide, by decide, rfl, rfl, gdT inTX8 gdTX8, (Or.inl (gtb 1023 (by decide +kernel) (by decide +kernel))), ⟨tyX8, tyX8_ok, rfl⟩, nmX8, rfl⟩
theorem po_M_139 : POK "FairWallsModel" 139 8 12 .int := ⟨_, TX8, 16, rfl, by decide, rfl, by decide, by decide, rfl, rfl, gdT inTX8 gdTX8, (Or.inl (gtb 1030 (by decide +kernel) (by decide +kernel))), ⟨tyX8, tyX8_ok, rfl⟩, nmX8, rfl⟩
theorem po_M_146 : POK "FairWallsModel" 146 8 13 .int := ⟨_, TX8, 16, rfl, by decide, rfl, by decide, by decide, rfl, rfl, gdT inTX8 gdTX8, (Or.inl (gtb 1031 (by decide +kernel) (by decide +kernel))), ⟨tyX8, tyX8_ok, rfl⟩, nmX8, rfl⟩
theorem po_M_149 : POK "FairWallsModel" 149 8 14 .boolean := ⟨_, TX8, 16, rfl, by decide, rfl, by decide, by decide, rfl, rfl, gdT inTX8 gdTX8, (Or.inl (gtb 1032 (by decide +kernel) (by decide +kernel))), ⟨tyX8, tyX8_ok, rfl⟩, nmX8, rfl⟩
theorem po_M_165 : POK "FairWallsModel" 165 8 15 .int := ⟨_, TX8, 16, rfl, by decide, rfl, by decide, by decide, rfl, rfl, gdT inTX8 gdTX8, (Or.inl (gtb 1033 (by decide +kernel) (by decide +kernel))), ⟨tyX8, tyX8_ok, rfl⟩, nmX8, rfl⟩
theorem so_A_29 : SOK "FairWalls$Fair" 29 213 := ⟨by decide, by decide, gtb 633 (by decide +kernel) (by decide +kernel)⟩
theorem so_T_48 : SOK "FairWalls$FairText" 48 214 := ⟨by decide, by decide, gtb 349 (by decide +kernel) (by decide +kernel)⟩
theorem so_S_48 : SOK "FairWalls$State" 48 212 := ⟨by decide, by decide, gtb 51 (by decide +kernel) (by decide +kernel)⟩
theorem lo_F_306 : Cond.constantLong "FairWalls" 306 (6364136223846793005) ∈ GT := gtb 976 (by decide +kernel) (by decide +kernel)
theorem lo_F_308 : Cond.constantLong "FairWalls" 308 (1442695040888963407) ∈ GT := gtb 977 (by decide +kernel) (by decide +kernel)
theorem lo_F_342 : Cond.constantLong "FairWalls" 342 (100000) ∈ GT := gtb 960 (by decide +kernel) (by decide +kernel)
theorem lo_M_49 : Cond.constantLong "FairWallsModel" 49 (10) ∈ GT := gtb 1382 (by decide +kernel) (by decide +kernel)
theorem lo_M_59 : Cond.constantLong "FairWallsModel" 59 (4) ∈ GT := gtb 1309 (by decide +kernel) (by decide +kernel)
theorem lo_M_61 : Cond.constantLong "FairWallsModel" 61 (30) ∈ GT := gtb 1310 (by decide +kernel) (by decide +kernel)
theorem lo_M_63 : Cond.constantLong "FairWallsModel" 63 (5) ∈ GT := gtb 1231 (by decide +kernel) (by decide +kernel)
theorem lo_M_65 : Cond.constantLong "FairWallsModel" 65 (9) ∈ GT := gtb 1232 (by decide +kernel) (by decide +kernel)
theorem lo_M_67 : Cond.constantLong "FairWallsModel" 67 (3) ∈ GT := gtb 1326 (by decide +kernel) (by decide +kernel)
theorem lo_M_69 : Cond.constantLong "FairWallsModel" 69 (50) ∈ GT := gtb 1233 (by decide +kernel) (by decide +kernel)
theorem lo_M_137 : Cond.constantLong "FairWallsModel" 137 (255) ∈ GT := gtb 1075 (by decide +kernel) (by decide +kernel)
theorem lo_M_237 : Cond.constantLong "FairWallsModel" 237 (13) ∈ GT := gtb 1245 (by decide +kernel) (by decide +kernel)
theorem lo_M_258 : Cond.constantLong "FairWallsModel" 258 (2) ∈ GT := gtb 1281 (by decide +kernel) (by decide +kernel)
theorem lo_M_260 : Cond.constantLong "FairWallsModel" 260 (11) ∈ GT := gtb 1286 (by decide +kernel) (by decide +kernel)
theorem lo_M_278 : Cond.constantLong "FairWallsModel" 278 (60) ∈ GT := gtb 1346 (by decide +kernel) (by decide +kernel)
theorem lo_M_312 : Cond.constantLong "FairWallsModel" 312 (100000) ∈ GT := gtb 1383 (by decide +kernel) (by decide +kernel)
theorem lo_M_317 : Cond.constantLong "FairWallsModel" 317 (6364136223846793005) ∈ GT := gtb 1424 (by decide +kernel) (by decide +kernel)
theorem lo_M_319 : Cond.constantLong "FairWallsModel" 319 (1442695040888963407) ∈ GT := gtb 1425 (by decide +kernel) (by decide +kernel)
theorem no_S_51 : NOK "FairWalls$State" 51 := ⟨gtb 53 (by decide +kernel) (by decide +kernel), gtb 55 (by decide +kernel) (by decide +kernel), gtb 54 (by decide +kernel) (by decide +kernel), gtb 5 (by decide +kernel) (by decide +kernel)⟩
def m_F_about : MI := (⟨"FairWalls", "about", "(I)I"⟩, prog_1_method_6_code, 3, (Option.some Jvm.ClassFile.FieldType.int), 8, 1, [])
theorem cw_F_about : codeW m_F_about ∈ GT := gtb 641 (by decide +kernel) (by decide +kernel)
theorem iw_F_about : Cond.initialized m_F_about.y.cls ∈ GT := gtb 1 (by decide +kernel) (by decide +kernel)
theorem nw_F_about : Cond.instanceMethod m_F_about.y ∈ GT := gtb 639 (by decide +kernel) (by decide +kernel)
theorem vw_F_about : Cond.selects m_F_about.y.cls m_F_about.y m_F_about.y ∈ GT := gtb 640 (by decide +kernel) (by decide +kernel)
def m_F_append : MI := (⟨"FairWalls", "append", "(I)I"⟩, prog_1_method_2_code, 2, (Option.some Jvm.ClassFile.FieldType.int), 8, 2, [])
theorem cw_F_append : codeW m_F_append ∈ GT := gtb 368 (by decide +kernel) (by decide +kernel)
theorem iw_F_append : Cond.initialized m_F_append.y.cls ∈ GT := gtb 1 (by decide +kernel) (by decide +kernel)
theorem nw_F_append : Cond.instanceMethod m_F_append.y ∈ GT := gtb 366 (by decide +kernel) (by decide +kernel)
theorem vw_F_append : Cond.selects m_F_append.y.cls m_F_append.y m_F_append.y ∈ GT := gtb 367 (by decide +kernel) (by decide +kernel)
def m_F_bestSwap : MI := (⟨"FairWalls", "bestSwap", "(I)I"⟩, prog_1_method_24_code, 7, (Option.some Jvm.ClassFile.FieldType.int), 8, 1, [])
theorem cw_F_bestSwap : codeW m_F_bestSwap ∈ GT := gtb 936 (by decide +kernel) (by decide +kernel)
theorem iw_F_bestSwap : Cond.initialized m_F_bestSwap.y.cls ∈ GT := gtb 1 (by decide +kernel) (by decide +kernel)
theorem nw_F_bestSwap : Cond.instanceMethod m_F_bestSwap.y ∈ GT := gtb 934 (by decide +kernel) (by decide +kernel)
theorem vw_F_bestSwap : Cond.selects m_F_bestSwap.y.cls m_F_bestSwap.y m_F_bestSwap.y ∈ GT := gtb 935 (by decide +kernel) (by decide +kernel)
def m_F_cheapest : MI := (⟨"FairWalls", "cheapest", "(II)I"⟩, prog_1_method_23_code, 8, (Option.some Jvm.ClassFile.FieldType.int), 8, 2, [])
theorem cw_F_cheapest : codeW m_F_cheapest ∈ GT := gtb 929 (by decide +kernel) (by decide +kernel)
theorem iw_F_cheapest : Cond.initialized m_F_cheapest.y.cls ∈ GT := gtb 1 (by decide +kernel) (by decide +kernel)
theorem nw_F_cheapest : Cond.instanceMethod m_F_cheapest.y ∈ GT := gtb 927 (by decide +kernel) (by decide +kernel)
theorem vw_F_cheapest : Cond.selects m_F_cheapest.y.cls m_F_cheapest.y m_F_cheapest.y ∈ GT := gtb 928 (by decide +kernel) (by decide +kernel)
def m_F_clearText : MI := (⟨"FairWalls", "clearText", "()I"⟩, prog_1_method_3_code, 1, (Option.some Jvm.ClassFile.FieldType.int), 1, 0, [])
theorem cw_F_clearText : codeW m_F_clearText ∈ GT := gtb 241 (by decide +kernel) (by decide +kernel)
theorem iw_F_clearText : Cond.initialized m_F_clearText.y.cls ∈ GT := gtb 1 (by decide +kernel) (by decide +kernel)
theorem nw_F_clearText : Cond.instanceMethod m_F_clearText.y ∈ GT := gtb 239 (by decide +kernel) (by decide +kernel)
theorem vw_F_clearText : Cond.selects m_F_clearText.y.cls m_F_clearText.y m_F_clearText.y ∈ GT := gtb 240 (by decide +kernel) (by decide +kernel)
def m_F_days : MI := (⟨"FairWalls", "days", "(I)I"⟩, prog_1_method_19_code, 2, (Option.some Jvm.ClassFile.FieldType.int), 8, 1, [])
theorem cw_F_days : codeW m_F_days ∈ GT := gtb 878 (by decide +kernel) (by decide +kernel)
theorem iw_F_days : Cond.initialized m_F_days.y.cls ∈ GT := gtb 1 (by decide +kernel) (by decide +kernel)
theorem nw_F_days : Cond.instanceMethod m_F_days.y ∈ GT := gtb 876 (by decide +kernel) (by decide +kernel)
theorem vw_F_days : Cond.selects m_F_days.y.cls m_F_days.y m_F_days.y ∈ GT := gtb 877 (by decide +kernel) (by decide +kernel)
def m_F_dealer : MI := (⟨"FairWalls", "dealer", "(III)I"⟩, prog_1_method_15_code, 4, (Option.some Jvm.ClassFile.FieldType.int), 8, 2, [])
theorem cw_F_dealer : codeW m_F_dealer ∈ GT := gtb 840 (by decide +kernel) (by decide +kernel)
theorem iw_F_dealer : Cond.initialized m_F_dealer.y.cls ∈ GT := gtb 1 (by decide +kernel) (by decide +kernel)
theorem nw_F_dealer : Cond.instanceMethod m_F_dealer.y ∈ GT := gtb 838 (by decide +kernel) (by decide +kernel)
theorem vw_F_dealer : Cond.selects m_F_dealer.y.cls m_F_dealer.y m_F_dealer.y ∈ GT := gtb 839 (by decide +kernel) (by decide +kernel)
def m_F_dealerOf : MI := (⟨"FairWalls", "dealerOf", "(II)I"⟩, prog_1_method_9_code, 4, (Option.some Jvm.ClassFile.FieldType.int), 8, 2, [])
theorem cw_F_dealerOf : codeW m_F_dealerOf ∈ GT := gtb 763 (by decide +kernel) (by decide +kernel)
theorem iw_F_dealerOf : Cond.initialized m_F_dealerOf.y.cls ∈ GT := gtb 1 (by decide +kernel) (by decide +kernel)
theorem nw_F_dealerOf : Cond.instanceMethod m_F_dealerOf.y ∈ GT := gtb 761 (by decide +kernel) (by decide +kernel)
theorem vw_F_dealerOf : Cond.selects m_F_dealerOf.y.cls m_F_dealerOf.y m_F_dealerOf.y ∈ GT := gtb 762 (by decide +kernel) (by decide +kernel)
def m_F_errorPosition : MI := (⟨"FairWalls", "errorPosition", "()I"⟩, prog_1_method_4_code, 1, (Option.some Jvm.ClassFile.FieldType.int), 8, 0, [])
theorem cw_F_errorPosition : codeW m_F_errorPosition ∈ GT := gtb 249 (by decide +kernel) (by decide +kernel)
theorem iw_F_errorPosition : Cond.initialized m_F_errorPosition.y.cls ∈ GT := gtb 1 (by decide +kernel) (by decide +kernel)
theorem nw_F_errorPosition : Cond.instanceMethod m_F_errorPosition.y ∈ GT := gtb 247 (by decide +kernel) (by decide +kernel)
theorem vw_F_errorPosition : Cond.selects m_F_errorPosition.y.cls m_F_errorPosition.y m_F_errorPosition.y ∈ GT := gtb 248 (by decide +kernel) (by decide +kernel)
def m_F_free : MI := (⟨"FairWalls", "free", "(II)I"⟩, prog_1_method_12_code, 3, (Option.some Jvm.ClassFile.FieldType.int), 8, 2, [])
theorem cw_F_free : codeW m_F_free ∈ GT := gtb 799 (by decide +kernel) (by decide +kernel)
theorem iw_F_free : Cond.initialized m_F_free.y.cls ∈ GT := gtb 1 (by decide +kernel) (by decide +kernel)
theorem nw_F_free : Cond.instanceMethod m_F_free.y ∈ GT := gtb 797 (by decide +kernel) (by decide +kernel)
theorem vw_F_free : Cond.selects m_F_free.y.cls m_F_free.y m_F_free.y ∈ GT := gtb 798 (by decide +kernel) (by decide +kernel)
def m_F_inRange : MI := (⟨"FairWalls", "inRange", "(III)Z"⟩, prog_1_method_30_code, 3, (Option.some Jvm.ClassFile.FieldType.boolean), 0, 0, [])
theorem cw_F_inRange : codeW m_F_inRange ∈ GT := gtb 371 (by decide +kernel) (by decide +kernel)
theorem iw_F_inRange : Cond.initialized m_F_inRange.y.cls ∈ GT := gtb 1 (by decide +kernel) (by decide +kernel)
theorem sw_F_inRange : Cond.static m_F_inRange.y ∈ GT := gtb 370 (by decide +kernel) (by decide +kernel)
def m_F_leave : MI := (⟨"FairWalls", "leave", "(I)I"⟩, prog_1_method_17_code, 2, (Option.some Jvm.ClassFile.FieldType.int), 8, 2, [])
theorem cw_F_leave : codeW m_F_leave ∈ GT := gtb 861 (by decide +kernel) (by decide +kernel)
theorem iw_F_leave : Cond.initialized m_F_leave.y.cls ∈ GT := gtb 1 (by decide +kernel) (by decide +kernel)
theorem nw_F_leave : Cond.instanceMethod m_F_leave.y ∈ GT := gtb 859 (by decide +kernel) (by decide +kernel)
theorem vw_F_leave : Cond.selects m_F_leave.y.cls m_F_leave.y m_F_leave.y ∈ GT := gtb 860 (by decide +kernel) (by decide +kernel)
def m_F_load : MI := (⟨"FairWalls", "load", "()I"⟩, prog_1_method_5_code, 3, (Option.some Jvm.ClassFile.FieldType.int), 8, 1, [])
theorem cw_F_load : codeW m_F_load ∈ GT := gtb 475 (by decide +kernel) (by decide +kernel)
theorem iw_F_load : Cond.initialized m_F_load.y.cls ∈ GT := gtb 1 (by decide +kernel) (by decide +kernel)
theorem nw_F_load : Cond.instanceMethod m_F_load.y ∈ GT := gtb 473 (by decide +kernel) (by decide +kernel)
theorem vw_F_load : Cond.selects m_F_load.y.cls m_F_load.y m_F_load.y ∈ GT := gtb 474 (by decide +kernel) (by decide +kernel)
def m_F_metreOf : MI := (⟨"FairWalls", "metreOf", "(III)I"⟩, prog_1_method_8_code, 4, (Option.some Jvm.ClassFile.FieldType.int), 8, 2, [])
theorem cw_F_metreOf : codeW m_F_metreOf ∈ GT := gtb 752 (by decide +kernel) (by decide +kernel)
theorem iw_F_metreOf : Cond.initialized m_F_metreOf.y.cls ∈ GT := gtb 1 (by decide +kernel) (by decide +kernel)
theorem nw_F_metreOf : Cond.instanceMethod m_F_metreOf.y ∈ GT := gtb 750 (by decide +kernel) (by decide +kernel)
theorem vw_F_metreOf : Cond.selects m_F_metreOf.y.cls m_F_metreOf.y m_F_metreOf.y ∈ GT := gtb 751 (by decide +kernel) (by decide +kernel)
theorem cw_F_needArgument : codeW m_F_needArgument ∈ GT := gtb 374 (by decide +kernel) (by decide +kernel)
theorem iw_F_needArgument : Cond.initialized m_F_needArgument.y.cls ∈ GT := gtb 1 (by decide +kernel) (by decide +kernel)
theorem sw_F_needArgument : Cond.static m_F_needArgument.y ∈ GT := gtb 373 (by decide +kernel) (by decide +kernel)
theorem cw_F_needExists : codeW m_F_needExists ∈ GT := gtb 706 (by decide +kernel) (by decide +kernel)
theorem iw_F_needExists : Cond.initialized m_F_needExists.y.cls ∈ GT := gtb 1 (by decide +kernel) (by decide +kernel)
theorem sw_F_needExists : Cond.static m_F_needExists.y ∈ GT := gtb 705 (by decide +kernel) (by decide +kernel)
theorem cw_F_needState : codeW m_F_needState ∈ GT := gtb 448 (by decide +kernel) (by decide +kernel)
theorem iw_F_needState : Cond.initialized m_F_needState.y.cls ∈ GT := gtb 1 (by decide +kernel) (by decide +kernel)
theorem sw_F_needState : Cond.static m_F_needState.y ∈ GT := gtb 447 (by decide +kernel) (by decide +kernel)
def m_F_outlet : MI := (⟨"FairWalls", "outlet", "(III)I"⟩, prog_1_method_14_code, 4, (Option.some Jvm.ClassFile.FieldType.int), 8, 2, [])
theorem cw_F_outlet : codeW m_F_outlet ∈ GT := gtb 832 (by decide +kernel) (by decide +kernel)
theorem iw_F_outlet : Cond.initialized m_F_outlet.y.cls ∈ GT := gtb 1 (by decide +kernel) (by decide +kernel)
theorem nw_F_outlet : Cond.instanceMethod m_F_outlet.y ∈ GT := gtb 830 (by decide +kernel) (by decide +kernel)
theorem vw_F_outlet : Cond.selects m_F_outlet.y.cls m_F_outlet.y m_F_outlet.y ∈ GT := gtb 831 (by decide +kernel) (by decide +kernel)
def m_F_place : MI := (⟨"FairWalls", "place", "(III)I"⟩, prog_1_method_16_code, 4, (Option.some Jvm.ClassFile.FieldType.int), 8, 1, [])
theorem cw_F_place : codeW m_F_place ∈ GT := gtb 849 (by decide +kernel) (by decide +kernel)
theorem iw_F_place : Cond.initialized m_F_place.y.cls ∈ GT := gtb 1 (by decide +kernel) (by decide +kernel)
theorem nw_F_place : Cond.instanceMethod m_F_place.y ∈ GT := gtb 847 (by decide +kernel) (by decide +kernel)
theorem vw_F_place : Cond.selects m_F_place.y.cls m_F_place.y m_F_place.y ∈ GT := gtb 848 (by decide +kernel) (by decide +kernel)
def m_F_plugOf : MI := (⟨"FairWalls", "plugOf", "(II)I"⟩, prog_1_method_10_code, 3, (Option.some Jvm.ClassFile.FieldType.int), 8, 2, [])
theorem cw_F_plugOf : codeW m_F_plugOf ∈ GT := gtb 780 (by decide +kernel) (by decide +kernel)
theorem iw_F_plugOf : Cond.initialized m_F_plugOf.y.cls ∈ GT := gtb 1 (by decide +kernel) (by decide +kernel)
theorem nw_F_plugOf : Cond.instanceMethod m_F_plugOf.y ∈ GT := gtb 778 (by decide +kernel) (by decide +kernel)
theorem vw_F_plugOf : Cond.selects m_F_plugOf.y.cls m_F_plugOf.y m_F_plugOf.y ∈ GT := gtb 779 (by decide +kernel) (by decide +kernel)
def m_F_rentIf : MI := (⟨"FairWalls", "rentIf", "(III)I"⟩, prog_1_method_22_code, 4, (Option.some Jvm.ClassFile.FieldType.int), 8, 1, [])
theorem cw_F_rentIf : codeW m_F_rentIf ∈ GT := gtb 916 (by decide +kernel) (by decide +kernel)
theorem iw_F_rentIf : Cond.initialized m_F_rentIf.y.cls ∈ GT := gtb 1 (by decide +kernel) (by decide +kernel)
theorem nw_F_rentIf : Cond.instanceMethod m_F_rentIf.y ∈ GT := gtb 914 (by decide +kernel) (by decide +kernel)
theorem vw_F_rentIf : Cond.selects m_F_rentIf.y.cls m_F_rentIf.y m_F_rentIf.y ∈ GT := gtb 915 (by decide +kernel) (by decide +kernel)
def m_F_rentsBehindSwap : MI := (⟨"FairWalls", "rentsBehindSwap", "(II)I"⟩, prog_1_method_34_code, 3, (Option.some Jvm.ClassFile.FieldType.int), 5, 0, [])
theorem cw_F_rentsBehindSwap : codeW m_F_rentsBehindSwap ∈ GT := gtb 940 (by decide +kernel) (by decide +kernel)
theorem iw_F_rentsBehindSwap : Cond.initialized m_F_rentsBehindSwap.y.cls ∈ GT := gtb 1 (by decide +kernel) (by decide +kernel)
theorem nw_F_rentsBehindSwap : Cond.instanceMethod m_F_rentsBehindSwap.y ∈ GT := gtb 939 (by decide +kernel) (by decide +kernel)
theorem vw_F_rentsBehindSwap : Cond.selects m_F_rentsBehindSwap.y.cls m_F_rentsBehindSwap.y m_F_rentsBehindSwap.y ∈ GT := gts 9 (by decide +kernel) (by decide +kernel)
def m_F_restore : MI := (⟨"FairWalls", "restore", "(I)I"⟩, prog_1_method_29_code, 2, (Option.some Jvm.ClassFile.FieldType.int), 8, 2, [])
theorem cw_F_restore : codeW m_F_restore ∈ GT := gtb 1000 (by decide +kernel) (by decide +kernel)
theorem iw_F_restore : Cond.initialized m_F_restore.y.cls ∈ GT := gtb 1 (by decide +kernel) (by decide +kernel)
theorem nw_F_restore : Cond.instanceMethod m_F_restore.y ∈ GT := gtb 998 (by decide +kernel) (by decide +kernel)
theorem vw_F_restore : Cond.selects m_F_restore.y.cls m_F_restore.y m_F_restore.y ∈ GT := gtb 999 (by decide +kernel) (by decide +kernel)
def m_F_runScript : MI := (⟨"FairWalls", "runScript", "(IJ)I"⟩, prog_1_method_26_code, 5, (Option.some Jvm.ClassFile.FieldType.int), 8, 2, [])
theorem cw_F_runScript : codeW m_F_runScript ∈ GT := gtb 955 (by decide +kernel) (by decide +kernel)
theorem iw_F_runScript : Cond.initialized m_F_runScript.y.cls ∈ GT := gtb 1 (by decide +kernel) (by decide +kernel)
theorem nw_F_runScript : Cond.instanceMethod m_F_runScript.y ∈ GT := gtb 953 (by decide +kernel) (by decide +kernel)
theorem vw_F_runScript : Cond.selects m_F_runScript.y.cls m_F_runScript.y m_F_runScript.y ∈ GT := gtb 954 (by decide +kernel) (by decide +kernel)
def m_F_save : MI := (⟨"FairWalls", "save", "(I)I"⟩, prog_1_method_28_code, 2, (Option.some Jvm.ClassFile.FieldType.int), 8, 1, [])
theorem cw_F_save : codeW m_F_save ∈ GT := gtb 987 (by decide +kernel) (by decide +kernel)
theorem iw_F_save : Cond.initialized m_F_save.y.cls ∈ GT := gtb 1 (by decide +kernel) (by decide +kernel)
theorem nw_F_save : Cond.instanceMethod m_F_save.y ∈ GT := gtb 985 (by decide +kernel) (by decide +kernel)
theorem vw_F_save : Cond.selects m_F_save.y.cls m_F_save.y m_F_save.y ∈ GT := gtb 986 (by decide +kernel) (by decide +kernel)
def m_F_set : MI := (⟨"FairWalls", "set", "(II)I"⟩, prog_1_method_20_code, 3, (Option.some Jvm.ClassFile.FieldType.int), 8, 1, [])
theorem cw_F_set : codeW m_F_set ∈ GT := gtb 886 (by decide +kernel) (by decide +kernel)
theorem iw_F_set : Cond.initialized m_F_set.y.cls ∈ GT := gtb 1 (by decide +kernel) (by decide +kernel)
theorem nw_F_set : Cond.instanceMethod m_F_set.y ∈ GT := gtb 884 (by decide +kernel) (by decide +kernel)
theorem vw_F_set : Cond.selects m_F_set.y.cls m_F_set.y m_F_set.y ∈ GT := gtb 885 (by decide +kernel) (by decide +kernel)
def m_F_setting : MI := (⟨"FairWalls", "setting", "(I)I"⟩, prog_1_method_11_code, 2, (Option.some Jvm.ClassFile.FieldType.int), 8, 1, [])
theorem cw_F_setting : codeW m_F_setting ∈ GT := gtb 792 (by decide +kernel) (by decide +kernel)
theorem iw_F_setting : Cond.initialized m_F_setting.y.cls ∈ GT := gtb 1 (by decide +kernel) (by decide +kernel)
theorem nw_F_setting : Cond.instanceMethod m_F_setting.y ∈ GT := gtb 790 (by decide +kernel) (by decide +kernel)
theorem vw_F_setting : Cond.selects m_F_setting.y.cls m_F_setting.y m_F_setting.y ∈ GT := gtb 791 (by decide +kernel) (by decide +kernel)
def m_F_simulate : MI := (⟨"FairWalls", "simulate", "(JI)I"⟩, prog_1_method_27_code, 7, (Option.some Jvm.ClassFile.FieldType.int), 8, 1, [])
theorem cw_F_simulate : codeW m_F_simulate ∈ GT := gtb 975 (by decide +kernel) (by decide +kernel)
theorem iw_F_simulate : Cond.initialized m_F_simulate.y.cls ∈ GT := gtb 1 (by decide +kernel) (by decide +kernel)
theorem nw_F_simulate : Cond.instanceMethod m_F_simulate.y ∈ GT := gtb 973 (by decide +kernel) (by decide +kernel)
theorem vw_F_simulate : Cond.selects m_F_simulate.y.cls m_F_simulate.y m_F_simulate.y ∈ GT := gtb 974 (by decide +kernel) (by decide +kernel)
def m_F_splitScript : MI := (⟨"FairWalls", "splitScript", "(IJ)J"⟩, prog_1_method_35_code, 7, (Option.some Jvm.ClassFile.FieldType.long), 0, 0, [])
theorem cw_F_splitScript : codeW m_F_splitScript ∈ GT := gtb 959 (by decide +kernel) (by decide +kernel)
theorem iw_F_splitScript : Cond.initialized m_F_splitScript.y.cls ∈ GT := gtb 1 (by decide +kernel) (by decide +kernel)
theorem nw_F_splitScript : Cond.instanceMethod m_F_splitScript.y ∈ GT := gtb 958 (by decide +kernel) (by decide +kernel)
theorem vw_F_splitScript : Cond.selects m_F_splitScript.y.cls m_F_splitScript.y m_F_splitScript.y ∈ GT := gts 10 (by decide +kernel) (by decide +kernel)
def m_F_swap : MI := (⟨"FairWalls", "swap", "(II)I"⟩, prog_1_method_18_code, 3, (Option.some Jvm.ClassFile.FieldType.int), 8, 2, [])
theorem cw_F_swap : codeW m_F_swap ∈ GT := gtb 870 (by decide +kernel) (by decide +kernel)
theorem iw_F_swap : Cond.initialized m_F_swap.y.cls ∈ GT := gtb 1 (by decide +kernel) (by decide +kernel)
theorem nw_F_swap : Cond.instanceMethod m_F_swap.y ∈ GT := gtb 868 (by decide +kernel) (by decide +kernel)
theorem vw_F_swap : Cond.selects m_F_swap.y.cls m_F_swap.y m_F_swap.y ∈ GT := gtb 869 (by decide +kernel) (by decide +kernel)
def m_F_undo : MI := (⟨"FairWalls", "undo", "()I"⟩, prog_1_method_21_code, 1, (Option.some Jvm.ClassFile.FieldType.int), 8, 1, [])
theorem cw_F_undo : codeW m_F_undo ∈ GT := gtb 895 (by decide +kernel) (by decide +kernel)
theorem iw_F_undo : Cond.initialized m_F_undo.y.cls ∈ GT := gtb 1 (by decide +kernel) (by decide +kernel)
theorem nw_F_undo : Cond.instanceMethod m_F_undo.y ∈ GT := gtb 893 (by decide +kernel) (by decide +kernel)
theorem vw_F_undo : Cond.selects m_F_undo.y.cls m_F_undo.y m_F_undo.y ∈ GT := gtb 894 (by decide +kernel) (by decide +kernel)
def m_F_wall : MI := (⟨"FairWalls", "wall", "(I)I"⟩, prog_1_method_13_code, 2, (Option.some Jvm.ClassFile.FieldType.int), 8, 2, [])
theorem cw_F_wall : codeW m_F_wall ∈ GT := gtb 811 (by decide +kernel) (by decide +kernel)
theorem iw_F_wall : Cond.initialized m_F_wall.y.cls ∈ GT := gtb 1 (by decide +kernel) (by decide +kernel)
theorem nw_F_wall : Cond.instanceMethod m_F_wall.y ∈ GT := gtb 809 (by decide +kernel) (by decide +kernel)
theorem vw_F_wall : Cond.selects m_F_wall.y.cls m_F_wall.y m_F_wall.y ∈ GT := gtb 810 (by decide +kernel) (by decide +kernel)
def m_F_wallOf : MI := (⟨"FairWalls", "wallOf", "(II)I"⟩, prog_1_method_7_code, 3, (Option.some Jvm.ClassFile.FieldType.int), 8, 2, [])
theorem cw_F_wallOf : codeW m_F_wallOf ∈ GT := gtb 702 (by decide +kernel) (by decide +kernel)
theorem iw_F_wallOf : Cond.initialized m_F_wallOf.y.cls ∈ GT := gtb 1 (by decide +kernel) (by decide +kernel)
theorem nw_F_wallOf : Cond.instanceMethod m_F_wallOf.y ∈ GT := gtb 700 (by decide +kernel) (by decide +kernel)
theorem vw_F_wallOf : Cond.selects m_F_wallOf.y.cls m_F_wallOf.y m_F_wallOf.y ∈ GT := gtb 701 (by decide +kernel) (by decide +kernel)
def m_F_why : MI := (⟨"FairWalls", "why", "(II)I"⟩, prog_1_method_25_code, 3, (Option.some Jvm.ClassFile.FieldType.int), 8, 2, [])
theorem cw_F_why : codeW m_F_why ∈ GT := gtb 948 (by decide +kernel) (by decide +kernel)
theorem iw_F_why : Cond.initialized m_F_why.y.cls ∈ GT := gtb 1 (by decide +kernel) (by decide +kernel)
theorem nw_F_why : Cond.instanceMethod m_F_why.y ∈ GT := gtb 946 (by decide +kernel) (by decide +kernel)
theorem vw_F_why : Cond.selects m_F_why.y.cls m_F_why.y m_F_why.y ∈ GT := gtb 947 (by decide +kernel) (by decide +kernel)
def m_C_obeyCommand : MI := (⟨"FairWalls$Clerk", "obeyCommand", "(LFairWalls$Fair;LFairWalls$FairText;)Z"⟩, prog_2_method_2_code, 5, (Option.some Jvm.ClassFile.FieldType.boolean), 5, 0, [])
theorem cw_C_obeyCommand : codeW m_C_obeyCommand ∈ GT := gtb 518 (by decide +kernel) (by decide +kernel)
theorem iw_C_obeyCommand : Cond.initialized m_C_obeyCommand.y.cls ∈ GT := gtb 22 (by decide +kernel) (by decide +kernel)
theorem sw_C_obeyCommand : Cond.static m_C_obeyCommand.y ∈ GT := gtb 517 (by decide +kernel) (by decide +kernel)
def m_C_obeyGroup : MI := (⟨"FairWalls$Clerk", "obeyGroup", "(LFairWalls$Fair;I)Z"⟩, prog_2_method_3_code, 7, (Option.some Jvm.ClassFile.FieldType.boolean), 5, 0, [])
theorem cw_C_obeyGroup : codeW m_C_obeyGroup ∈ GT := gtb 963 (by decide +kernel) (by decide +kernel)
theorem iw_C_obeyGroup : Cond.initialized m_C_obeyGroup.y.cls ∈ GT := gtb 22 (by decide +kernel) (by decide +kernel)
theorem sw_C_obeyGroup : Cond.static m_C_obeyGroup.y ∈ GT := gtb 962 (by decide +kernel) (by decide +kernel)
def m_C_takeTurn : MI := (⟨"FairWalls$Clerk", "takeTurn", "(LFairWalls$Fair;I)V"⟩, prog_2_method_4_code, 3, (Option.none : Option Jvm.ClassFile.FieldType), 5, 0, [])
theorem cw_C_takeTurn : codeW m_C_takeTurn ∈ GT := gtb 980 (by decide +kernel) (by decide +kernel)
theorem iw_C_takeTurn : Cond.initialized m_C_takeTurn.y.cls ∈ GT := gtb 22 (by decide +kernel) (by decide +kernel)
theorem sw_C_takeTurn : Cond.static m_C_takeTurn.y ∈ GT := gtb 979 (by decide +kernel) (by decide +kernel)
def m_A_admit : MI := (⟨"FairWalls$Fair", "admit", "(III)I"⟩, prog_3_method_9_code, 5, (Option.some Jvm.ClassFile.FieldType.int), 2, 0, [])
theorem cw_A_admit : codeW m_A_admit ∈ GT := gtb 544 (by decide +kernel) (by decide +kernel)
theorem iw_A_admit : Cond.initialized m_A_admit.y.cls ∈ GT := gtb 2 (by decide +kernel) (by decide +kernel)
theorem nw_A_admit : Cond.instanceMethod m_A_admit.y ∈ GT := gtb 542 (by decide +kernel) (by decide +kernel)
theorem vw_A_admit : Cond.selects m_A_admit.y.cls m_A_admit.y m_A_admit.y ∈ GT := gtb 543 (by decide +kernel) (by decide +kernel)
def m_A_allFreeMetres : MI := (⟨"FairWalls$Fair", "allFreeMetres", "()I"⟩, prog_3_method_43_code, 3, (Option.some Jvm.ClassFile.FieldType.int), 3, 0, [])
theorem cw_A_allFreeMetres : codeW m_A_allFreeMetres ∈ GT := gtb 653 (by decide +kernel) (by decide +kernel)
theorem iw_A_allFreeMetres : Cond.initialized m_A_allFreeMetres.y.cls ∈ GT := gtb 2 (by decide +kernel) (by decide +kernel)
theorem nw_A_allFreeMetres : Cond.instanceMethod m_A_allFreeMetres.y ∈ GT := gtb 651 (by decide +kernel) (by decide +kernel)
theorem vw_A_allFreeMetres : Cond.selects m_A_allFreeMetres.y.cls m_A_allFreeMetres.y m_A_allFreeMetres.y ∈ GT := gtb 652 (by decide +kernel) (by decide +kernel)
def m_A_allMetres : MI := (⟨"FairWalls$Fair", "allMetres", "()I"⟩, prog_3_method_42_code, 3, (Option.some Jvm.ClassFile.FieldType.int), 2, 0, [])
theorem cw_A_allMetres : codeW m_A_allMetres ∈ GT := gtb 649 (by decide +kernel) (by decide +kernel)
theorem iw_A_allMetres : Cond.initialized m_A_allMetres.y.cls ∈ GT := gtb 2 (by decide +kernel) (by decide +kernel)
theorem nw_A_allMetres : Cond.instanceMethod m_A_allMetres.y ∈ GT := gtb 647 (by decide +kernel) (by decide +kernel)
theorem vw_A_allMetres : Cond.selects m_A_allMetres.y.cls m_A_allMetres.y m_A_allMetres.y ∈ GT := gtb 648 (by decide +kernel) (by decide +kernel)
def m_A_allOwed : MI := (⟨"FairWalls$Fair", "allOwed", "()I"⟩, prog_3_method_23_code, 3, (Option.some Jvm.ClassFile.FieldType.int), 0, 0, [])
theorem cw_A_allOwed : codeW m_A_allOwed ∈ GT := gtb 690 (by decide +kernel) (by decide +kernel)
theorem iw_A_allOwed : Cond.initialized m_A_allOwed.y.cls ∈ GT := gtb 2 (by decide +kernel) (by decide +kernel)
theorem nw_A_allOwed : Cond.instanceMethod m_A_allOwed.y ∈ GT := gtb 688 (by decide +kernel) (by decide +kernel)
theorem vw_A_allOwed : Cond.selects m_A_allOwed.y.cls m_A_allOwed.y m_A_allOwed.y ∈ GT := gtb 689 (by decide +kernel) (by decide +kernel)
def m_A_allPlugs : MI := (⟨"FairWalls$Fair", "allPlugs", "()I"⟩, prog_3_method_44_code, 3, (Option.some Jvm.ClassFile.FieldType.int), 3, 0, [])
theorem cw_A_allPlugs : codeW m_A_allPlugs ∈ GT := gtb 665 (by decide +kernel) (by decide +kernel)
theorem iw_A_allPlugs : Cond.initialized m_A_allPlugs.y.cls ∈ GT := gtb 2 (by decide +kernel) (by decide +kernel)
theorem nw_A_allPlugs : Cond.instanceMethod m_A_allPlugs.y ∈ GT := gtb 663 (by decide +kernel) (by decide +kernel)
theorem vw_A_allPlugs : Cond.selects m_A_allPlugs.y.cls m_A_allPlugs.y m_A_allPlugs.y ∈ GT := gtb 664 (by decide +kernel) (by decide +kernel)
def m_A_allPlugsHad : MI := (⟨"FairWalls$Fair", "allPlugsHad", "()I"⟩, prog_3_method_25_code, 3, (Option.some Jvm.ClassFile.FieldType.int), 2, 0, [])
theorem cw_A_allPlugsHad : codeW m_A_allPlugsHad ∈ GT := gtb 678 (by decide +kernel) (by decide +kernel)
theorem iw_A_allPlugsHad : Cond.initialized m_A_allPlugsHad.y.cls ∈ GT := gtb 2 (by decide +kernel) (by decide +kernel)
theorem nw_A_allPlugsHad : Cond.instanceMethod m_A_allPlugsHad.y ∈ GT := gtb 676 (by decide +kernel) (by decide +kernel)
theorem vw_A_allPlugsHad : Cond.selects m_A_allPlugsHad.y.cls m_A_allPlugsHad.y m_A_allPlugsHad.y ∈ GT := gtb 677 (by decide +kernel) (by decide +kernel)
def m_A_allPlugsLacking : MI := (⟨"FairWalls$Fair", "allPlugsLacking", "()I"⟩, prog_3_method_26_code, 3, (Option.some Jvm.ClassFile.FieldType.int), 3, 0, [])
theorem cw_A_allPlugsLacking : codeW m_A_allPlugsLacking ∈ GT := gtb 682 (by decide +kernel) (by decide +kernel)
theorem iw_A_allPlugsLacking : Cond.initialized m_A_allPlugsLacking.y.cls ∈ GT := gtb 2 (by decide +kernel) (by decide +kernel)
theorem nw_A_allPlugsLacking : Cond.instanceMethod m_A_allPlugsLacking.y ∈ GT := gtb 680 (by decide +kernel) (by decide +kernel)
theorem vw_A_allPlugsLacking : Cond.selects m_A_allPlugsLacking.y.cls m_A_allPlugsLacking.y m_A_allPlugsLacking.y ∈ GT := gtb 681 (by decide +kernel) (by decide +kernel)
def m_A_areNeighbours : MI := (⟨"FairWalls$Fair", "areNeighbours", "(II)Z"⟩, prog_3_method_31_code, 3, (Option.some Jvm.ClassFile.FieldType.boolean), 1, 0, [])
theorem cw_A_areNeighbours : codeW m_A_areNeighbours ∈ GT := gtb 620 (by decide +kernel) (by decide +kernel)
theorem iw_A_areNeighbours : Cond.initialized m_A_areNeighbours.y.cls ∈ GT := gtb 2 (by decide +kernel) (by decide +kernel)
theorem nw_A_areNeighbours : Cond.instanceMethod m_A_areNeighbours.y ∈ GT := gtb 619 (by decide +kernel) (by decide +kernel)
theorem vw_A_areNeighbours : Cond.selects m_A_areNeighbours.y.cls m_A_areNeighbours.y m_A_areNeighbours.y ∈ GT := gts 8 (by decide +kernel) (by decide +kernel)
def m_A_become : MI := (⟨"FairWalls$Fair", "become", "(LFairWalls$State;)V"⟩, prog_3_method_6_code, 2, (Option.none : Option Jvm.ClassFile.FieldType), 4, 0, [])
theorem cw_A_become : codeW m_A_become ∈ GT := gtb 908 (by decide +kernel) (by decide +kernel)
theorem iw_A_become : Cond.initialized m_A_become.y.cls ∈ GT := gtb 2 (by decide +kernel) (by decide +kernel)
theorem nw_A_become : Cond.instanceMethod m_A_become.y ∈ GT := gtb 906 (by decide +kernel) (by decide +kernel)
theorem vw_A_become : Cond.selects m_A_become.y.cls m_A_become.y m_A_become.y ∈ GT := gtb 907 (by decide +kernel) (by decide +kernel)
def m_A_changeSetting : MI := (⟨"FairWalls$Fair", "changeSetting", "(II)I"⟩, prog_3_method_14_code, 4, (Option.some Jvm.ClassFile.FieldType.int), 4, 0, [])
theorem cw_A_changeSetting : codeW m_A_changeSetting ∈ GT := gtb 629 (by decide +kernel) (by decide +kernel)
theorem iw_A_changeSetting : Cond.initialized m_A_changeSetting.y.cls ∈ GT := gtb 2 (by decide +kernel) (by decide +kernel)
theorem nw_A_changeSetting : Cond.instanceMethod m_A_changeSetting.y ∈ GT := gtb 627 (by decide +kernel) (by decide +kernel)
theorem vw_A_changeSetting : Cond.selects m_A_changeSetting.y.cls m_A_changeSetting.y m_A_changeSetting.y ∈ GT := gtb 628 (by decide +kernel) (by decide +kernel)
def m_A_countRefusal : MI := (⟨"FairWalls$Fair", "countRefusal", "(I)I"⟩, prog_3_method_15_code, 2, (Option.some Jvm.ClassFile.FieldType.int), 0, 0, [])
theorem cw_A_countRefusal : codeW m_A_countRefusal ∈ GT := gtb 854 (by decide +kernel) (by decide +kernel)
theorem iw_A_countRefusal : Cond.initialized m_A_countRefusal.y.cls ∈ GT := gtb 2 (by decide +kernel) (by decide +kernel)
theorem nw_A_countRefusal : Cond.instanceMethod m_A_countRefusal.y ∈ GT := gtb 852 (by decide +kernel) (by decide +kernel)
theorem vw_A_countRefusal : Cond.selects m_A_countRefusal.y.cls m_A_countRefusal.y m_A_countRefusal.y ∈ GT := gtb 853 (by decide +kernel) (by decide +kernel)
def m_A_endsOf : MI := (⟨"FairWalls$Fair", "endsOf", "(I)I"⟩, prog_3_method_27_code, 4, (Option.some Jvm.ClassFile.FieldType.int), 2, 0, [])
theorem cw_A_endsOf : codeW m_A_endsOf ∈ GT := gtb 607 (by decide +kernel) (by decide +kernel)
theorem iw_A_endsOf : Cond.initialized m_A_endsOf.y.cls ∈ GT := gtb 2 (by decide +kernel) (by decide +kernel)
theorem nw_A_endsOf : Cond.instanceMethod m_A_endsOf.y ∈ GT := gtb 605 (by decide +kernel) (by decide +kernel)
theorem vw_A_endsOf : Cond.selects m_A_endsOf.y.cls m_A_endsOf.y m_A_endsOf.y ∈ GT := gtb 606 (by decide +kernel) (by decide +kernel)
def m_A_exchange : MI := (⟨"FairWalls$Fair", "exchange", "(II)I"⟩, prog_3_method_12_code, 6, (Option.some Jvm.ClassFile.FieldType.int), 4, 0, [])
theorem cw_A_exchange : codeW m_A_exchange ∈ GT := gtb 587 (by decide +kernel) (by decide +kernel)
theorem iw_A_exchange : Cond.initialized m_A_exchange.y.cls ∈ GT := gtb 2 (by decide +kernel) (by decide +kernel)
theorem nw_A_exchange : Cond.instanceMethod m_A_exchange.y ∈ GT := gtb 585 (by decide +kernel) (by decide +kernel)
theorem vw_A_exchange : Cond.selects m_A_exchange.y.cls m_A_exchange.y m_A_exchange.y ∈ GT := gtb 586 (by decide +kernel) (by decide +kernel)
def m_A_fitsBothAway : MI := (⟨"FairWalls$Fair", "fitsBothAway", "(II)Z"⟩, prog_3_method_19_code, 5, (Option.some Jvm.ClassFile.FieldType.boolean), 2, 0, [])
theorem cw_A_fitsBothAway : codeW m_A_fitsBothAway ∈ GT := gtb 595 (by decide +kernel) (by decide +kernel)
theorem iw_A_fitsBothAway : Cond.initialized m_A_fitsBothAway.y.cls ∈ GT := gtb 2 (by decide +kernel) (by decide +kernel)
theorem nw_A_fitsBothAway : Cond.instanceMethod m_A_fitsBothAway.y ∈ GT := gtb 594 (by decide +kernel) (by decide +kernel)
theorem vw_A_fitsBothAway : Cond.selects m_A_fitsBothAway.y.cls m_A_fitsBothAway.y m_A_fitsBothAway.y ∈ GT := gts 7 (by decide +kernel) (by decide +kernel)
def m_A_freeByFrontages : MI := (⟨"FairWalls$Fair", "freeByFrontages", "(I)I"⟩, prog_3_method_39_code, 4, (Option.some Jvm.ClassFile.FieldType.int), 2, 0, [])
theorem cw_A_freeByFrontages : codeW m_A_freeByFrontages ∈ GT := gtb 804 (by decide +kernel) (by decide +kernel)
theorem iw_A_freeByFrontages : Cond.initialized m_A_freeByFrontages.y.cls ∈ GT := gtb 2 (by decide +kernel) (by decide +kernel)
theorem nw_A_freeByFrontages : Cond.instanceMethod m_A_freeByFrontages.y ∈ GT := gtb 802 (by decide +kernel) (by decide +kernel)
theorem vw_A_freeByFrontages : Cond.selects m_A_freeByFrontages.y.cls m_A_freeByFrontages.y m_A_freeByFrontages.y ∈ GT := gtb 803 (by decide +kernel) (by decide +kernel)
def m_A_freeByMetres : MI := (⟨"FairWalls$Fair", "freeByMetres", "(I)I"⟩, prog_3_method_38_code, 4, (Option.some Jvm.ClassFile.FieldType.int), 2, 0, [])
theorem cw_A_freeByMetres : codeW m_A_freeByMetres ∈ GT := gtb 657 (by decide +kernel) (by decide +kernel)
theorem iw_A_freeByMetres : Cond.initialized m_A_freeByMetres.y.cls ∈ GT := gtb 2 (by decide +kernel) (by decide +kernel)
theorem nw_A_freeByMetres : Cond.instanceMethod m_A_freeByMetres.y ∈ GT := gtb 655 (by decide +kernel) (by decide +kernel)
theorem vw_A_freeByMetres : Cond.selects m_A_freeByMetres.y.cls m_A_freeByMetres.y m_A_freeByMetres.y ∈ GT := gtb 656 (by decide +kernel) (by decide +kernel)
def m_A_isDealer : MI := (⟨"FairWalls$Fair", "isDealer", "(III)Z"⟩, prog_3_method_3_code, 3, (Option.some Jvm.ClassFile.FieldType.boolean), 1, 0, [])
theorem cw_A_isDealer : codeW m_A_isDealer ∈ GT := gtb 547 (by decide +kernel) (by decide +kernel)
theorem iw_A_isDealer : Cond.initialized m_A_isDealer.y.cls ∈ GT := gtb 2 (by decide +kernel) (by decide +kernel)
theorem sw_A_isDealer : Cond.static m_A_isDealer.y ∈ GT := gtb 546 (by decide +kernel) (by decide +kernel)
def m_A_isFreeButFor : MI := (⟨"FairWalls$Fair", "isFreeButFor", "(IIIII)Z"⟩, prog_3_method_20_code, 7, (Option.some Jvm.ClassFile.FieldType.boolean), 1, 0, [])
theorem cw_A_isFreeButFor : codeW m_A_isFreeButFor ∈ GT := gtb 572 (by decide +kernel) (by decide +kernel)
theorem iw_A_isFreeButFor : Cond.initialized m_A_isFreeButFor.y.cls ∈ GT := gtb 2 (by decide +kernel) (by decide +kernel)
theorem nw_A_isFreeButFor : Cond.instanceMethod m_A_isFreeButFor.y ∈ GT := gtb 571 (by decide +kernel) (by decide +kernel)
theorem vw_A_isFreeButFor : Cond.selects m_A_isFreeButFor.y.cls m_A_isFreeButFor.y m_A_isFreeButFor.y ∈ GT := gts 6 (by decide +kernel) (by decide +kernel)
def m_A_isLength : MI := (⟨"FairWalls$Fair", "isLength", "(I)Z"⟩, prog_3_method_2_code, 1, (Option.some Jvm.ClassFile.FieldType.boolean), 1, 0, [])
theorem cw_A_isLength : codeW m_A_isLength ∈ GT := gtb 534 (by decide +kernel) (by decide +kernel)
theorem iw_A_isLength : Cond.initialized m_A_isLength.y.cls ∈ GT := gtb 2 (by decide +kernel) (by decide +kernel)
theorem sw_A_isLength : Cond.static m_A_isLength.y ∈ GT := gtb 533 (by decide +kernel) (by decide +kernel)
def m_A_isSetting : MI := (⟨"FairWalls$Fair", "isSetting", "(II)Z"⟩, prog_3_method_4_code, 2, (Option.some Jvm.ClassFile.FieldType.boolean), 1, 0, [])
theorem cw_A_isSetting : codeW m_A_isSetting ∈ GT := gtb 632 (by decide +kernel) (by decide +kernel)
theorem iw_A_isSetting : Cond.initialized m_A_isSetting.y.cls ∈ GT := gtb 2 (by decide +kernel) (by decide +kernel)
theorem sw_A_isSetting : Cond.static m_A_isSetting.y ∈ GT := gtb 631 (by decide +kernel) (by decide +kernel)
def m_A_letStand : MI := (⟨"FairWalls$Fair", "letStand", "(III)I"⟩, prog_3_method_10_code, 5, (Option.some Jvm.ClassFile.FieldType.int), 4, 0, [])
theorem cw_A_letStand : codeW m_A_letStand ∈ GT := gtb 551 (by decide +kernel) (by decide +kernel)
theorem iw_A_letStand : Cond.initialized m_A_letStand.y.cls ∈ GT := gtb 2 (by decide +kernel) (by decide +kernel)
theorem nw_A_letStand : Cond.instanceMethod m_A_letStand.y ∈ GT := gtb 549 (by decide +kernel) (by decide +kernel)
theorem vw_A_letStand : Cond.selects m_A_letStand.y.cls m_A_letStand.y m_A_letStand.y ∈ GT := gtb 550 (by decide +kernel) (by decide +kernel)
def m_A_longestFreeRow : MI := (⟨"FairWalls$Fair", "longestFreeRow", "(I)I"⟩, prog_3_method_40_code, 5, (Option.some Jvm.ClassFile.FieldType.int), 2, 0, [])
theorem cw_A_longestFreeRow : codeW m_A_longestFreeRow ∈ GT := gtb 740 (by decide +kernel) (by decide +kernel)
theorem iw_A_longestFreeRow : Cond.initialized m_A_longestFreeRow.y.cls ∈ GT := gtb 2 (by decide +kernel) (by decide +kernel)
theorem nw_A_longestFreeRow : Cond.instanceMethod m_A_longestFreeRow.y ∈ GT := gtb 738 (by decide +kernel) (by decide +kernel)
theorem vw_A_longestFreeRow : Cond.selects m_A_longestFreeRow.y.cls m_A_longestFreeRow.y m_A_longestFreeRow.y ∈ GT := gtb 739 (by decide +kernel) (by decide +kernel)
def m_A_neighbours : MI := (⟨"FairWalls$Fair", "neighbours", "(I)I"⟩, prog_3_method_28_code, 4, (Option.some Jvm.ClassFile.FieldType.int), 2, 0, [])
theorem cw_A_neighbours : codeW m_A_neighbours ∈ GT := gtb 772 (by decide +kernel) (by decide +kernel)
theorem iw_A_neighbours : Cond.initialized m_A_neighbours.y.cls ∈ GT := gtb 2 (by decide +kernel) (by decide +kernel)
theorem nw_A_neighbours : Cond.instanceMethod m_A_neighbours.y ∈ GT := gtb 770 (by decide +kernel) (by decide +kernel)
theorem vw_A_neighbours : Cond.selects m_A_neighbours.y.cls m_A_neighbours.y m_A_neighbours.y ∈ GT := gtb 771 (by decide +kernel) (by decide +kernel)
def m_A_openWall : MI := (⟨"FairWalls$Fair", "openWall", "(I)I"⟩, prog_3_method_7_code, 2, (Option.some Jvm.ClassFile.FieldType.int), 2, 0, [])
theorem cw_A_openWall : codeW m_A_openWall ∈ GT := gtb 531 (by decide +kernel) (by decide +kernel)
theorem iw_A_openWall : Cond.initialized m_A_openWall.y.cls ∈ GT := gtb 2 (by decide +kernel) (by decide +kernel)
theorem nw_A_openWall : Cond.instanceMethod m_A_openWall.y ∈ GT := gtb 529 (by decide +kernel) (by decide +kernel)
theorem vw_A_openWall : Cond.selects m_A_openWall.y.cls m_A_openWall.y m_A_openWall.y ∈ GT := gtb 530 (by decide +kernel) (by decide +kernel)
def m_A_overlap : MI := (⟨"FairWalls$Fair", "overlap", "(IIII)Z"⟩, prog_3_method_21_code, 4, (Option.some Jvm.ClassFile.FieldType.boolean), 0, 0, [])
theorem cw_A_overlap : codeW m_A_overlap ∈ GT := gtb 579 (by decide +kernel) (by decide +kernel)
theorem iw_A_overlap : Cond.initialized m_A_overlap.y.cls ∈ GT := gtb 2 (by decide +kernel) (by decide +kernel)
theorem sw_A_overlap : Cond.static m_A_overlap.y ∈ GT := gtb 578 (by decide +kernel) (by decide +kernel)
def m_A_passDays : MI := (⟨"FairWalls$Fair", "passDays", "(I)I"⟩, prog_3_method_13_code, 5, (Option.some Jvm.ClassFile.FieldType.int), 4, 0, [])
theorem cw_A_passDays : codeW m_A_passDays ∈ GT := gtb 599 (by decide +kernel) (by decide +kernel)
theorem iw_A_passDays : Cond.initialized m_A_passDays.y.cls ∈ GT := gtb 2 (by decide +kernel) (by decide +kernel)
theorem nw_A_passDays : Cond.instanceMethod m_A_passDays.y ∈ GT := gtb 597 (by decide +kernel) (by decide +kernel)
theorem vw_A_passDays : Cond.selects m_A_passDays.y.cls m_A_passDays.y m_A_passDays.y ∈ GT := gtb 598 (by decide +kernel) (by decide +kernel)
def m_A_placeReason : MI := (⟨"FairWalls$Fair", "placeReason", "(III)I"⟩, prog_3_method_17_code, 4, (Option.some Jvm.ClassFile.FieldType.int), 2, 0, [])
theorem cw_A_placeReason : codeW m_A_placeReason ∈ GT := gtb 555 (by decide +kernel) (by decide +kernel)
theorem iw_A_placeReason : Cond.initialized m_A_placeReason.y.cls ∈ GT := gtb 2 (by decide +kernel) (by decide +kernel)
theorem nw_A_placeReason : Cond.instanceMethod m_A_placeReason.y ∈ GT := gtb 553 (by decide +kernel) (by decide +kernel)
theorem vw_A_placeReason : Cond.selects m_A_placeReason.y.cls m_A_placeReason.y m_A_placeReason.y ∈ GT := gtb 554 (by decide +kernel) (by decide +kernel)
def m_A_plugsAt : MI := (⟨"FairWalls$Fair", "plugsAt", "(I)I"⟩, prog_3_method_36_code, 4, (Option.some Jvm.ClassFile.FieldType.int), 2, 0, [])
theorem cw_A_plugsAt : codeW m_A_plugsAt ∈ GT := gtb 669 (by decide +kernel) (by decide +kernel)
theorem iw_A_plugsAt : Cond.initialized m_A_plugsAt.y.cls ∈ GT := gtb 2 (by decide +kernel) (by decide +kernel)
theorem nw_A_plugsAt : Cond.instanceMethod m_A_plugsAt.y ∈ GT := gtb 667 (by decide +kernel) (by decide +kernel)
theorem vw_A_plugsAt : Cond.selects m_A_plugsAt.y.cls m_A_plugsAt.y m_A_plugsAt.y ∈ GT := gtb 668 (by decide +kernel) (by decide +kernel)
def m_A_plugsHadAt : MI := (⟨"FairWalls$Fair", "plugsHadAt", "(I)I"⟩, prog_3_method_37_code, 4, (Option.some Jvm.ClassFile.FieldType.int), 2, 0, [])
theorem cw_A_plugsHadAt : codeW m_A_plugsHadAt ∈ GT := gtb 732 (by decide +kernel) (by decide +kernel)
theorem iw_A_plugsHadAt : Cond.initialized m_A_plugsHadAt.y.cls ∈ GT := gtb 2 (by decide +kernel) (by decide +kernel)
theorem nw_A_plugsHadAt : Cond.instanceMethod m_A_plugsHadAt.y ∈ GT := gtb 730 (by decide +kernel) (by decide +kernel)
theorem vw_A_plugsHadAt : Cond.selects m_A_plugsHadAt.y.cls m_A_plugsHadAt.y m_A_plugsHadAt.y ∈ GT := gtb 731 (by decide +kernel) (by decide +kernel)
def m_A_plugsLacking : MI := (⟨"FairWalls$Fair", "plugsLacking", "(I)I"⟩, prog_3_method_24_code, 2, (Option.some Jvm.ClassFile.FieldType.int), 2, 0, [])
theorem cw_A_plugsLacking : codeW m_A_plugsLacking ∈ GT := gtb 624 (by decide +kernel) (by decide +kernel)
theorem iw_A_plugsLacking : Cond.initialized m_A_plugsLacking.y.cls ∈ GT := gtb 2 (by decide +kernel) (by decide +kernel)
theorem nw_A_plugsLacking : Cond.instanceMethod m_A_plugsLacking.y ∈ GT := gtb 622 (by decide +kernel) (by decide +kernel)
theorem vw_A_plugsLacking : Cond.selects m_A_plugsLacking.y.cls m_A_plugsLacking.y m_A_plugsLacking.y ∈ GT := gtb 623 (by decide +kernel) (by decide +kernel)
def m_A_putPlugs : MI := (⟨"FairWalls$Fair", "putPlugs", "(III)I"⟩, prog_3_method_8_code, 5, (Option.some Jvm.ClassFile.FieldType.int), 4, 0, [])
theorem cw_A_putPlugs : codeW m_A_putPlugs ∈ GT := gtb 539 (by decide +kernel) (by decide +kernel)
theorem iw_A_putPlugs : Cond.initialized m_A_putPlugs.y.cls ∈ GT := gtb 2 (by decide +kernel) (by decide +kernel)
theorem nw_A_putPlugs : Cond.instanceMethod m_A_putPlugs.y ∈ GT := gtb 537 (by decide +kernel) (by decide +kernel)
theorem vw_A_putPlugs : Cond.selects m_A_putPlugs.y.cls m_A_putPlugs.y m_A_putPlugs.y ∈ GT := gtb 538 (by decide +kernel) (by decide +kernel)
def m_A_rentMovedTo : MI := (⟨"FairWalls$Fair", "rentMovedTo", "(III)I"⟩, prog_3_method_16_code, 4, (Option.some Jvm.ClassFile.FieldType.int), 5, 0, [])
theorem cw_A_rentMovedTo : codeW m_A_rentMovedTo ∈ GT := gtb 920 (by decide +kernel) (by decide +kernel)
theorem iw_A_rentMovedTo : Cond.initialized m_A_rentMovedTo.y.cls ∈ GT := gtb 2 (by decide +kernel) (by decide +kernel)
theorem nw_A_rentMovedTo : Cond.instanceMethod m_A_rentMovedTo.y ∈ GT := gtb 918 (by decide +kernel) (by decide +kernel)
theorem vw_A_rentMovedTo : Cond.selects m_A_rentMovedTo.y.cls m_A_rentMovedTo.y m_A_rentMovedTo.y ∈ GT := gtb 919 (by decide +kernel) (by decide +kernel)
def m_A_rentOf : MI := (⟨"FairWalls$Fair", "rentOf", "(I)I"⟩, prog_3_method_32_code, 3, (Option.some Jvm.ClassFile.FieldType.int), 3, 0, [])
theorem cw_A_rentOf : codeW m_A_rentOf ∈ GT := gtb 603 (by decide +kernel) (by decide +kernel)
theorem iw_A_rentOf : Cond.initialized m_A_rentOf.y.cls ∈ GT := gtb 2 (by decide +kernel) (by decide +kernel)
theorem nw_A_rentOf : Cond.instanceMethod m_A_rentOf.y ∈ GT := gtb 601 (by decide +kernel) (by decide +kernel)
theorem vw_A_rentOf : Cond.selects m_A_rentOf.y.cls m_A_rentOf.y m_A_rentOf.y ∈ GT := gtb 602 (by decide +kernel) (by decide +kernel)
def m_A_rents : MI := (⟨"FairWalls$Fair", "rents", "()I"⟩, prog_3_method_33_code, 3, (Option.some Jvm.ClassFile.FieldType.int), 4, 0, [])
theorem cw_A_rents : codeW m_A_rents ∈ GT := gtb 686 (by decide +kernel) (by decide +kernel)
theorem iw_A_rents : Cond.initialized m_A_rents.y.cls ∈ GT := gtb 2 (by decide +kernel) (by decide +kernel)
theorem nw_A_rents : Cond.instanceMethod m_A_rents.y ∈ GT := gtb 684 (by decide +kernel) (by decide +kernel)
theorem vw_A_rents : Cond.selects m_A_rents.y.cls m_A_rents.y m_A_rents.y ∈ GT := gtb 685 (by decide +kernel) (by decide +kernel)
def m_A_rivalPairs : MI := (⟨"FairWalls$Fair", "rivalPairs", "()I"⟩, prog_3_method_30_code, 3, (Option.some Jvm.ClassFile.FieldType.int), 3, 0, [])
theorem cw_A_rivalPairs : codeW m_A_rivalPairs ∈ GT := gtb 694 (by decide +kernel) (by decide +kernel)
theorem iw_A_rivalPairs : Cond.initialized m_A_rivalPairs.y.cls ∈ GT := gtb 2 (by decide +kernel) (by decide +kernel)
theorem nw_A_rivalPairs : Cond.instanceMethod m_A_rivalPairs.y ∈ GT := gtb 692 (by decide +kernel) (by decide +kernel)
theorem vw_A_rivalPairs : Cond.selects m_A_rivalPairs.y.cls m_A_rivalPairs.y m_A_rivalPairs.y ∈ GT := gtb 693 (by decide +kernel) (by decide +kernel)
def m_A_rivals : MI := (⟨"FairWalls$Fair", "rivals", "(I)I"⟩, prog_3_method_29_code, 4, (Option.some Jvm.ClassFile.FieldType.int), 2, 0, [])
theorem cw_A_rivals : codeW m_A_rivals ∈ GT := gtb 616 (by decide +kernel) (by decide +kernel)
theorem iw_A_rivals : Cond.initialized m_A_rivals.y.cls ∈ GT := gtb 2 (by decide +kernel) (by decide +kernel)
theorem nw_A_rivals : Cond.instanceMethod m_A_rivals.y ∈ GT := gtb 614 (by decide +kernel) (by decide +kernel)
theorem vw_A_rivals : Cond.selects m_A_rivals.y.cls m_A_rivals.y m_A_rivals.y ∈ GT := gtb 615 (by decide +kernel) (by decide +kernel)
def m_A_sendAway : MI := (⟨"FairWalls$Fair", "sendAway", "(I)I"⟩, prog_3_method_11_code, 2, (Option.some Jvm.ClassFile.FieldType.int), 4, 0, [])
theorem cw_A_sendAway : codeW m_A_sendAway ∈ GT := gtb 583 (by decide +kernel) (by decide +kernel)
theorem iw_A_sendAway : Cond.initialized m_A_sendAway.y.cls ∈ GT := gtb 2 (by decide +kernel) (by decide +kernel)
theorem nw_A_sendAway : Cond.instanceMethod m_A_sendAway.y ∈ GT := gtb 581 (by decide +kernel) (by decide +kernel)
theorem vw_A_sendAway : Cond.selects m_A_sendAway.y.cls m_A_sendAway.y m_A_sendAway.y ∈ GT := gtb 582 (by decide +kernel) (by decide +kernel)
def m_A_standing : MI := (⟨"FairWalls$Fair", "standing", "()I"⟩, prog_3_method_22_code, 3, (Option.some Jvm.ClassFile.FieldType.int), 1, 0, [])
theorem cw_A_standing : codeW m_A_standing ∈ GT := gtb 645 (by decide +kernel) (by decide +kernel)
theorem iw_A_standing : Cond.initialized m_A_standing.y.cls ∈ GT := gtb 2 (by decide +kernel) (by decide +kernel)
theorem nw_A_standing : Cond.instanceMethod m_A_standing.y ∈ GT := gtb 643 (by decide +kernel) (by decide +kernel)
theorem vw_A_standing : Cond.selects m_A_standing.y.cls m_A_standing.y m_A_standing.y ∈ GT := gtb 644 (by decide +kernel) (by decide +kernel)
def m_A_standingAt : MI := (⟨"FairWalls$Fair", "standingAt", "(I)I"⟩, prog_3_method_35_code, 4, (Option.some Jvm.ClassFile.FieldType.int), 1, 0, [])
theorem cw_A_standingAt : codeW m_A_standingAt ∈ GT := gtb 727 (by decide +kernel) (by decide +kernel)
theorem iw_A_standingAt : Cond.initialized m_A_standingAt.y.cls ∈ GT := gtb 2 (by decide +kernel) (by decide +kernel)
theorem nw_A_standingAt : Cond.instanceMethod m_A_standingAt.y ∈ GT := gtb 725 (by decide +kernel) (by decide +kernel)
theorem vw_A_standingAt : Cond.selects m_A_standingAt.y.cls m_A_standingAt.y m_A_standingAt.y ∈ GT := gtb 726 (by decide +kernel) (by decide +kernel)
def m_A_startAnew : MI := (⟨"FairWalls$Fair", "startAnew", "()V"⟩, prog_3_method_5_code, 1, (Option.none : Option Jvm.ClassFile.FieldType), 4, 0, [])
theorem cw_A_startAnew : codeW m_A_startAnew ∈ GT := gtb 479 (by decide +kernel) (by decide +kernel)
theorem iw_A_startAnew : Cond.initialized m_A_startAnew.y.cls ∈ GT := gtb 2 (by decide +kernel) (by decide +kernel)
theorem nw_A_startAnew : Cond.instanceMethod m_A_startAnew.y ∈ GT := gtb 477 (by decide +kernel) (by decide +kernel)
theorem vw_A_startAnew : Cond.selects m_A_startAnew.y.cls m_A_startAnew.y m_A_startAnew.y ∈ GT := gtb 478 (by decide +kernel) (by decide +kernel)
def m_A_startOfLongestFreeRow : MI := (⟨"FairWalls$Fair", "startOfLongestFreeRow", "(I)I"⟩, prog_3_method_41_code, 5, (Option.some Jvm.ClassFile.FieldType.int), 3, 0, [])
theorem cw_A_startOfLongestFreeRow : codeW m_A_startOfLongestFreeRow ∈ GT := gtb 744 (by decide +kernel) (by decide +kernel)
theorem iw_A_startOfLongestFreeRow : Cond.initialized m_A_startOfLongestFreeRow.y.cls ∈ GT := gtb 2 (by decide +kernel) (by decide +kernel)
theorem nw_A_startOfLongestFreeRow : Cond.instanceMethod m_A_startOfLongestFreeRow.y ∈ GT := gtb 742 (by decide +kernel) (by decide +kernel)
theorem vw_A_startOfLongestFreeRow : Cond.selects m_A_startOfLongestFreeRow.y.cls m_A_startOfLongestFreeRow.y m_A_startOfLongestFreeRow.y ∈ GT := gtb 743 (by decide +kernel) (by decide +kernel)
def m_A_swapReason : MI := (⟨"FairWalls$Fair", "swapReason", "(II)I"⟩, prog_3_method_18_code, 4, (Option.some Jvm.ClassFile.FieldType.int), 3, 0, [])
theorem cw_A_swapReason : codeW m_A_swapReason ∈ GT := gtb 591 (by decide +kernel) (by decide +kernel)
theorem iw_A_swapReason : Cond.initialized m_A_swapReason.y.cls ∈ GT := gtb 2 (by decide +kernel) (by decide +kernel)
theorem nw_A_swapReason : Cond.instanceMethod m_A_swapReason.y ∈ GT := gtb 589 (by decide +kernel) (by decide +kernel)
theorem vw_A_swapReason : Cond.selects m_A_swapReason.y.cls m_A_swapReason.y m_A_swapReason.y ∈ GT := gtb 590 (by decide +kernel) (by decide +kernel)
def m_A_whoStandsAt : MI := (⟨"FairWalls$Fair", "whoStandsAt", "(II)I"⟩, prog_3_method_34_code, 4, (Option.some Jvm.ClassFile.FieldType.int), 1, 0, [])
theorem cw_A_whoStandsAt : codeW m_A_whoStandsAt ∈ GT := gtb 661 (by decide +kernel) (by decide +kernel)
theorem iw_A_whoStandsAt : Cond.initialized m_A_whoStandsAt.y.cls ∈ GT := gtb 2 (by decide +kernel) (by decide +kernel)
theorem nw_A_whoStandsAt : Cond.instanceMethod m_A_whoStandsAt.y ∈ GT := gtb 659 (by decide +kernel) (by decide +kernel)
theorem vw_A_whoStandsAt : Cond.selects m_A_whoStandsAt.y.cls m_A_whoStandsAt.y m_A_whoStandsAt.y ∈ GT := gtb 660 (by decide +kernel) (by decide +kernel)
def m_T_add : MI := (⟨"FairWalls$FairText", "add", "(C)I"⟩, prog_4_method_3_code, 2, (Option.some Jvm.ClassFile.FieldType.int), 0, 0, [])
theorem cw_T_add : codeW m_T_add ∈ GT := gtb 468 (by decide +kernel) (by decide +kernel)
theorem iw_T_add : Cond.initialized m_T_add.y.cls ∈ GT := gtb 9 (by decide +kernel) (by decide +kernel)
theorem nw_T_add : Cond.instanceMethod m_T_add.y ∈ GT := gtb 466 (by decide +kernel) (by decide +kernel)
theorem vw_T_add : Cond.selects m_T_add.y.cls m_T_add.y m_T_add.y ∈ GT := gtb 467 (by decide +kernel) (by decide +kernel)
def m_T_empty : MI := (⟨"FairWalls$FairText", "empty", "()I"⟩, prog_4_method_4_code, 2, (Option.some Jvm.ClassFile.FieldType.int), 0, 0, [])
theorem cw_T_empty : codeW m_T_empty ∈ GT := gtb 245 (by decide +kernel) (by decide +kernel)
theorem iw_T_empty : Cond.initialized m_T_empty.y.cls ∈ GT := gtb 9 (by decide +kernel) (by decide +kernel)
theorem nw_T_empty : Cond.instanceMethod m_T_empty.y ∈ GT := gtb 243 (by decide +kernel) (by decide +kernel)
theorem vw_T_empty : Cond.selects m_T_empty.y.cls m_T_empty.y m_T_empty.y ∈ GT := gtb 244 (by decide +kernel) (by decide +kernel)
def m_T_firstError : MI := (⟨"FairWalls$FairText", "firstError", "()I"⟩, prog_4_method_7_code, 2, (Option.some Jvm.ClassFile.FieldType.int), 7, 0, [])
theorem cw_T_firstError : codeW m_T_firstError ∈ GT := gtb 253 (by decide +kernel) (by decide +kernel)
theorem iw_T_firstError : Cond.initialized m_T_firstError.y.cls ∈ GT := gtb 9 (by decide +kernel) (by decide +kernel)
theorem nw_T_firstError : Cond.instanceMethod m_T_firstError.y ∈ GT := gtb 251 (by decide +kernel) (by decide +kernel)
theorem vw_T_firstError : Cond.selects m_T_firstError.y.cls m_T_firstError.y m_T_firstError.y ∈ GT := gtb 252 (by decide +kernel) (by decide +kernel)
def m_T_goToCommands : MI := (⟨"FairWalls$FairText", "goToCommands", "()V"⟩, prog_4_method_8_code, 1, (Option.none : Option Jvm.ClassFile.FieldType), 0, 0, [])
theorem cw_T_goToCommands : codeW m_T_goToCommands ∈ GT := gtb 257 (by decide +kernel) (by decide +kernel)
theorem iw_T_goToCommands : Cond.initialized m_T_goToCommands.y.cls ∈ GT := gtb 9 (by decide +kernel) (by decide +kernel)
theorem nw_T_goToCommands : Cond.instanceMethod m_T_goToCommands.y ∈ GT := gtb 255 (by decide +kernel) (by decide +kernel)
theorem vw_T_goToCommands : Cond.selects m_T_goToCommands.y.cls m_T_goToCommands.y m_T_goToCommands.y ∈ GT := gtb 256 (by decide +kernel) (by decide +kernel)
def m_T_letter : MI := (⟨"FairWalls$FairText", "letter", "()I"⟩, prog_4_method_5_code, 1, (Option.some Jvm.ClassFile.FieldType.int), 0, 0, [])
theorem cw_T_letter : codeW m_T_letter ∈ GT := gtb 527 (by decide +kernel) (by decide +kernel)
theorem iw_T_letter : Cond.initialized m_T_letter.y.cls ∈ GT := gtb 9 (by decide +kernel) (by decide +kernel)
theorem nw_T_letter : Cond.instanceMethod m_T_letter.y ∈ GT := gtb 525 (by decide +kernel) (by decide +kernel)
theorem vw_T_letter : Cond.selects m_T_letter.y.cls m_T_letter.y m_T_letter.y ∈ GT := gtb 526 (by decide +kernel) (by decide +kernel)
def m_T_number : MI := (⟨"FairWalls$FairText", "number", "(I)I"⟩, prog_4_method_6_code, 2, (Option.some Jvm.ClassFile.FieldType.int), 1, 0, [])
theorem cw_T_number : codeW m_T_number ∈ GT := gtb 522 (by decide +kernel) (by decide +kernel)
theorem iw_T_number : Cond.initialized m_T_number.y.cls ∈ GT := gtb 9 (by decide +kernel) (by decide +kernel)
theorem nw_T_number : Cond.instanceMethod m_T_number.y ∈ GT := gtb 520 (by decide +kernel) (by decide +kernel)
theorem vw_T_number : Cond.selects m_T_number.y.cls m_T_number.y m_T_number.y ∈ GT := gtb 521 (by decide +kernel) (by decide +kernel)
def m_T_readCommand : MI := (⟨"FairWalls$FairText", "readCommand", "()Z"⟩, prog_4_method_9_code, 4, (Option.some Jvm.ClassFile.FieldType.boolean), 6, 0, [])
theorem cw_T_readCommand : codeW m_T_readCommand ∈ GT := gtb 261 (by decide +kernel) (by decide +kernel)
theorem iw_T_readCommand : Cond.initialized m_T_readCommand.y.cls ∈ GT := gtb 9 (by decide +kernel) (by decide +kernel)
theorem nw_T_readCommand : Cond.instanceMethod m_T_readCommand.y ∈ GT := gtb 259 (by decide +kernel) (by decide +kernel)
theorem vw_T_readCommand : Cond.selects m_T_readCommand.y.cls m_T_readCommand.y m_T_readCommand.y ∈ GT := gtb 260 (by decide +kernel) (by decide +kernel)
def m_T_readDigit : MI := (⟨"FairWalls$FairText", "readDigit", "()I"⟩, prog_4_method_11_code, 2, (Option.some Jvm.ClassFile.FieldType.int), 0, 0, [])
theorem cw_T_readDigit : codeW m_T_readDigit ∈ GT := gtb 358 (by decide +kernel) (by decide +kernel)
theorem iw_T_readDigit : Cond.initialized m_T_readDigit.y.cls ∈ GT := gtb 9 (by decide +kernel) (by decide +kernel)
theorem nw_T_readDigit : Cond.instanceMethod m_T_readDigit.y ∈ GT := gtb 357 (by decide +kernel) (by decide +kernel)
theorem vw_T_readDigit : Cond.selects m_T_readDigit.y.cls m_T_readDigit.y m_T_readDigit.y ∈ GT := gts 1 (by decide +kernel) (by decide +kernel)
def m_T_readNumber : MI := (⟨"FairWalls$FairText", "readNumber", "(III)I"⟩, prog_4_method_10_code, 9, (Option.some Jvm.ClassFile.FieldType.int), 1, 0, [])
theorem cw_T_readNumber : codeW m_T_readNumber ∈ GT := gtb 354 (by decide +kernel) (by decide +kernel)
theorem iw_T_readNumber : Cond.initialized m_T_readNumber.y.cls ∈ GT := gtb 9 (by decide +kernel) (by decide +kernel)
theorem nw_T_readNumber : Cond.instanceMethod m_T_readNumber.y ∈ GT := gtb 353 (by decide +kernel) (by decide +kernel)
theorem vw_T_readNumber : Cond.selects m_T_readNumber.y.cls m_T_readNumber.y m_T_readNumber.y ∈ GT := gts 0 (by decide +kernel) (by decide +kernel)
def m_T_size : MI := (⟨"FairWalls$FairText", "size", "()I"⟩, prog_4_method_2_code, 1, (Option.some Jvm.ClassFile.FieldType.int), 0, 0, [])
theorem cw_T_size : codeW m_T_size ∈ GT := gtb 445 (by decide +kernel) (by decide +kernel)
theorem iw_T_size : Cond.initialized m_T_size.y.cls ∈ GT := gtb 9 (by decide +kernel) (by decide +kernel)
theorem nw_T_size : Cond.instanceMethod m_T_size.y ∈ GT := gtb 443 (by decide +kernel) (by decide +kernel)
theorem vw_T_size : Cond.selects m_T_size.y.cls m_T_size.y m_T_size.y ∈ GT := gtb 444 (by decide +kernel) (by decide +kernel)
def m_P_count : MI := (⟨"FairWalls$Past", "count", "()I"⟩, prog_5_method_2_code, 1, (Option.some Jvm.ClassFile.FieldType.int), 0, 0, [])
theorem cw_P_count : codeW m_P_count ∈ GT := gtb 899 (by decide +kernel) (by decide +kernel)
theorem iw_P_count : Cond.initialized m_P_count.y.cls ∈ GT := gtb 7 (by decide +kernel) (by decide +kernel)
theorem nw_P_count : Cond.instanceMethod m_P_count.y ∈ GT := gtb 897 (by decide +kernel) (by decide +kernel)
theorem vw_P_count : Cond.selects m_P_count.y.cls m_P_count.y m_P_count.y ∈ GT := gtb 898 (by decide +kernel) (by decide +kernel)
def m_P_forget : MI := (⟨"FairWalls$Past", "forget", "()V"⟩, prog_5_method_3_code, 1, (Option.none : Option Jvm.ClassFile.FieldType), 0, 0, [])
theorem cw_P_forget : codeW m_P_forget ∈ GT := gtb 509 (by decide +kernel) (by decide +kernel)
theorem iw_P_forget : Cond.initialized m_P_forget.y.cls ∈ GT := gtb 7 (by decide +kernel) (by decide +kernel)
theorem nw_P_forget : Cond.instanceMethod m_P_forget.y ∈ GT := gtb 507 (by decide +kernel) (by decide +kernel)
theorem vw_P_forget : Cond.selects m_P_forget.y.cls m_P_forget.y m_P_forget.y ∈ GT := gtb 508 (by decide +kernel) (by decide +kernel)
def m_P_remember : MI := (⟨"FairWalls$Past", "remember", "(LFairWalls$State;)V"⟩, prog_5_method_4_code, 3, (Option.none : Option Jvm.ClassFile.FieldType), 2, 0, [])
theorem cw_P_remember : codeW m_P_remember ∈ GT := gtb 816 (by decide +kernel) (by decide +kernel)
theorem iw_P_remember : Cond.initialized m_P_remember.y.cls ∈ GT := gtb 7 (by decide +kernel) (by decide +kernel)
theorem nw_P_remember : Cond.instanceMethod m_P_remember.y ∈ GT := gtb 814 (by decide +kernel) (by decide +kernel)
theorem vw_P_remember : Cond.selects m_P_remember.y.cls m_P_remember.y m_P_remember.y ∈ GT := gtb 815 (by decide +kernel) (by decide +kernel)
def m_P_takeLast : MI := (⟨"FairWalls$Past", "takeLast", "()LFairWalls$State;"⟩, prog_5_method_5_code, 1, (Option.some (Jvm.ClassFile.FieldType.object "FairWalls$State")), 1, 0, [])
theorem cw_P_takeLast : codeW m_P_takeLast ∈ GT := gtb 903 (by decide +kernel) (by decide +kernel)
theorem iw_P_takeLast : Cond.initialized m_P_takeLast.y.cls ∈ GT := gtb 7 (by decide +kernel) (by decide +kernel)
theorem nw_P_takeLast : Cond.instanceMethod m_P_takeLast.y ∈ GT := gtb 901 (by decide +kernel) (by decide +kernel)
theorem vw_P_takeLast : Cond.selects m_P_takeLast.y.cls m_P_takeLast.y m_P_takeLast.y ∈ GT := gtb 902 (by decide +kernel) (by decide +kernel)
def m_W_hasFreePlug : MI := (⟨"FairWalls$Power", "hasFreePlug", "(LFairWalls$State;II)Z"⟩, prog_6_method_5_code, 5, (Option.some Jvm.ClassFile.FieldType.boolean), 0, 0, [])
theorem cw_W_hasFreePlug : codeW m_W_hasFreePlug ∈ GT := gtb 501 (by decide +kernel) (by decide +kernel)
theorem iw_W_hasFreePlug : Cond.initialized m_W_hasFreePlug.y.cls ∈ GT := gtb 6 (by decide +kernel) (by decide +kernel)
theorem nw_W_hasFreePlug : Cond.instanceMethod m_W_hasFreePlug.y ∈ GT := gtb 500 (by decide +kernel) (by decide +kernel)
theorem vw_W_hasFreePlug : Cond.selects m_W_hasFreePlug.y.cls m_W_hasFreePlug.y m_W_hasFreePlug.y ∈ GT := gts 5 (by decide +kernel) (by decide +kernel)
def m_W_metreOfPlug : MI := (⟨"FairWalls$Power", "metreOfPlug", "(II)I"⟩, prog_6_method_8_code, 4, (Option.some Jvm.ClassFile.FieldType.int), 2, 0, [])
theorem cw_W_metreOfPlug : codeW m_W_metreOfPlug ∈ GT := gtb 784 (by decide +kernel) (by decide +kernel)
theorem iw_W_metreOfPlug : Cond.initialized m_W_metreOfPlug.y.cls ∈ GT := gtb 6 (by decide +kernel) (by decide +kernel)
theorem nw_W_metreOfPlug : Cond.instanceMethod m_W_metreOfPlug.y ∈ GT := gtb 782 (by decide +kernel) (by decide +kernel)
theorem vw_W_metreOfPlug : Cond.selects m_W_metreOfPlug.y.cls m_W_metreOfPlug.y m_W_metreOfPlug.y ∈ GT := gtb 783 (by decide +kernel) (by decide +kernel)
def m_W_nearest : MI := (⟨"FairWalls$Power", "nearest", "(LFairWalls$State;I)I"⟩, prog_6_method_4_code, 7, (Option.some Jvm.ClassFile.FieldType.int), 1, 0, [])
theorem cw_W_nearest : codeW m_W_nearest ∈ GT := gtb 497 (by decide +kernel) (by decide +kernel)
theorem iw_W_nearest : Cond.initialized m_W_nearest.y.cls ∈ GT := gtb 6 (by decide +kernel) (by decide +kernel)
theorem nw_W_nearest : Cond.instanceMethod m_W_nearest.y ∈ GT := gtb 496 (by decide +kernel) (by decide +kernel)
theorem vw_W_nearest : Cond.selects m_W_nearest.y.cls m_W_nearest.y m_W_nearest.y ∈ GT := gts 4 (by decide +kernel) (by decide +kernel)
def m_W_plugsHad : MI := (⟨"FairWalls$Power", "plugsHad", "(I)I"⟩, prog_6_method_7_code, 2, (Option.some Jvm.ClassFile.FieldType.int), 1, 0, [])
theorem cw_W_plugsHad : codeW m_W_plugsHad ∈ GT := gtb 611 (by decide +kernel) (by decide +kernel)
theorem iw_W_plugsHad : Cond.initialized m_W_plugsHad.y.cls ∈ GT := gtb 6 (by decide +kernel) (by decide +kernel)
theorem nw_W_plugsHad : Cond.instanceMethod m_W_plugsHad.y ∈ GT := gtb 609 (by decide +kernel) (by decide +kernel)
theorem vw_W_plugsHad : Cond.selects m_W_plugsHad.y.cls m_W_plugsHad.y m_W_plugsHad.y ∈ GT := gtb 610 (by decide +kernel) (by decide +kernel)
def m_W_serve : MI := (⟨"FairWalls$Power", "serve", "(LFairWalls$State;I)V"⟩, prog_6_method_3_code, 6, (Option.none : Option Jvm.ClassFile.FieldType), 2, 0, [])
theorem cw_W_serve : codeW m_W_serve ∈ GT := gtb 493 (by decide +kernel) (by decide +kernel)
theorem iw_W_serve : Cond.initialized m_W_serve.y.cls ∈ GT := gtb 6 (by decide +kernel) (by decide +kernel)
theorem nw_W_serve : Cond.instanceMethod m_W_serve.y ∈ GT := gtb 492 (by decide +kernel) (by decide +kernel)
theorem vw_W_serve : Cond.selects m_W_serve.y.cls m_W_serve.y m_W_serve.y ∈ GT := gts 3 (by decide +kernel) (by decide +kernel)
def m_W_shareOut : MI := (⟨"FairWalls$Power", "shareOut", "(LFairWalls$State;)V"⟩, prog_6_method_2_code, 3, (Option.none : Option Jvm.ClassFile.FieldType), 3, 0, [])
theorem cw_W_shareOut : codeW m_W_shareOut ∈ GT := gtb 484 (by decide +kernel) (by decide +kernel)
theorem iw_W_shareOut : Cond.initialized m_W_shareOut.y.cls ∈ GT := gtb 6 (by decide +kernel) (by decide +kernel)
theorem nw_W_shareOut : Cond.instanceMethod m_W_shareOut.y ∈ GT := gtb 482 (by decide +kernel) (by decide +kernel)
theorem vw_W_shareOut : Cond.selects m_W_shareOut.y.cls m_W_shareOut.y m_W_shareOut.y ∈ GT := gtb 483 (by decide +kernel) (by decide +kernel)
def m_W_takenFrom : MI := (⟨"FairWalls$Power", "takenFrom", "(II)I"⟩, prog_6_method_6_code, 3, (Option.some Jvm.ClassFile.FieldType.int), 1, 0, [])
theorem cw_W_takenFrom : codeW m_W_takenFrom ∈ GT := gtb 736 (by decide +kernel) (by decide +kernel)
theorem iw_W_takenFrom : Cond.initialized m_W_takenFrom.y.cls ∈ GT := gtb 6 (by decide +kernel) (by decide +kernel)
theorem nw_W_takenFrom : Cond.instanceMethod m_W_takenFrom.y ∈ GT := gtb 734 (by decide +kernel) (by decide +kernel)
theorem vw_W_takenFrom : Cond.selects m_W_takenFrom.y.cls m_W_takenFrom.y m_W_takenFrom.y ∈ GT := gtb 735 (by decide +kernel) (by decide +kernel)
def m_L_forget : MI := (⟨"FairWalls$Slots", "forget", "()V"⟩, prog_7_method_2_code, 2, (Option.none : Option Jvm.ClassFile.FieldType), 0, 0, [])
theorem cw_L_forget : codeW m_L_forget ∈ GT := gtb 513 (by decide +kernel) (by decide +kernel)
theorem iw_L_forget : Cond.initialized m_L_forget.y.cls ∈ GT := gtb 8 (by decide +kernel) (by decide +kernel)
theorem nw_L_forget : Cond.instanceMethod m_L_forget.y ∈ GT := gtb 511 (by decide +kernel) (by decide +kernel)
theorem vw_L_forget : Cond.selects m_L_forget.y.cls m_L_forget.y m_L_forget.y ∈ GT := gtb 512 (by decide +kernel) (by decide +kernel)
def m_L_isFilled : MI := (⟨"FairWalls$Slots", "isFilled", "(I)Z"⟩, prog_7_method_3_code, 2, (Option.some Jvm.ClassFile.FieldType.boolean), 1, 0, [])
theorem cw_L_isFilled : codeW m_L_isFilled ∈ GT := gtb 1004 (by decide +kernel) (by decide +kernel)
theorem iw_L_isFilled : Cond.initialized m_L_isFilled.y.cls ∈ GT := gtb 8 (by decide +kernel) (by decide +kernel)
theorem nw_L_isFilled : Cond.instanceMethod m_L_isFilled.y ∈ GT := gtb 1002 (by decide +kernel) (by decide +kernel)
theorem vw_L_isFilled : Cond.selects m_L_isFilled.y.cls m_L_isFilled.y m_L_isFilled.y ∈ GT := gtb 1003 (by decide +kernel) (by decide +kernel)
def m_L_keep : MI := (⟨"FairWalls$Slots", "keep", "(ILFairWalls$State;)V"⟩, prog_7_method_4_code, 3, (Option.none : Option Jvm.ClassFile.FieldType), 2, 0, [])
theorem cw_L_keep : codeW m_L_keep ∈ GT := gtb 991 (by decide +kernel) (by decide +kernel)
theorem iw_L_keep : Cond.initialized m_L_keep.y.cls ∈ GT := gtb 8 (by decide +kernel) (by decide +kernel)
theorem nw_L_keep : Cond.instanceMethod m_L_keep.y ∈ GT := gtb 989 (by decide +kernel) (by decide +kernel)
theorem vw_L_keep : Cond.selects m_L_keep.y.cls m_L_keep.y m_L_keep.y ∈ GT := gtb 990 (by decide +kernel) (by decide +kernel)
def m_L_kept : MI := (⟨"FairWalls$Slots", "kept", "(I)LFairWalls$State;"⟩, prog_7_method_5_code, 2, (Option.some (Jvm.ClassFile.FieldType.object "FairWalls$State")), 0, 0, [])
theorem cw_L_kept : codeW m_L_kept ∈ GT := gtb 1008 (by decide +kernel) (by decide +kernel)
theorem iw_L_kept : Cond.initialized m_L_kept.y.cls ∈ GT := gtb 8 (by decide +kernel) (by decide +kernel)
theorem nw_L_kept : Cond.instanceMethod m_L_kept.y ∈ GT := gtb 1006 (by decide +kernel) (by decide +kernel)
theorem vw_L_kept : Cond.selects m_L_kept.y.cls m_L_kept.y m_L_kept.y ∈ GT := gtb 1007 (by decide +kernel) (by decide +kernel)
def m_S_clear : MI := (⟨"FairWalls$State", "clear", "()V"⟩, prog_8_method_2_code, 1, (Option.none : Option Jvm.ClassFile.FieldType), 1, 0, [])
theorem cw_S_clear : codeW m_S_clear ∈ GT := gtb 47 (by decide +kernel) (by decide +kernel)
theorem iw_S_clear : Cond.initialized m_S_clear.y.cls ∈ GT := gtb 3 (by decide +kernel) (by decide +kernel)
theorem nw_S_clear : Cond.instanceMethod m_S_clear.y ∈ GT := gtb 45 (by decide +kernel) (by decide +kernel)
theorem vw_S_clear : Cond.selects m_S_clear.y.cls m_S_clear.y m_S_clear.y ∈ GT := gtb 46 (by decide +kernel) (by decide +kernel)
def m_S_copy : MI := (⟨"FairWalls$State", "copy", "(LFairWalls$State;)V"⟩, prog_8_method_3_code, 2, (Option.none : Option Jvm.ClassFile.FieldType), 1, 0, [])
theorem cw_S_copy : codeW m_S_copy ∈ GT := gtb 823 (by decide +kernel) (by decide +kernel)
theorem iw_S_copy : Cond.initialized m_S_copy.y.cls ∈ GT := gtb 3 (by decide +kernel) (by decide +kernel)
theorem nw_S_copy : Cond.instanceMethod m_S_copy.y ∈ GT := gtb 821 (by decide +kernel) (by decide +kernel)
theorem vw_S_copy : Cond.selects m_S_copy.y.cls m_S_copy.y m_S_copy.y ∈ GT := gtb 822 (by decide +kernel) (by decide +kernel)
def m_S_hasDealer : MI := (⟨"FairWalls$State", "hasDealer", "(I)Z"⟩, prog_8_method_6_code, 2, (Option.some Jvm.ClassFile.FieldType.boolean), 0, 0, [])
theorem cw_S_hasDealer : codeW m_S_hasDealer ∈ GT := gtb 559 (by decide +kernel) (by decide +kernel)
theorem iw_S_hasDealer : Cond.initialized m_S_hasDealer.y.cls ∈ GT := gtb 3 (by decide +kernel) (by decide +kernel)
theorem nw_S_hasDealer : Cond.instanceMethod m_S_hasDealer.y ∈ GT := gtb 557 (by decide +kernel) (by decide +kernel)
theorem vw_S_hasDealer : Cond.selects m_S_hasDealer.y.cls m_S_hasDealer.y m_S_hasDealer.y ∈ GT := gtb 558 (by decide +kernel) (by decide +kernel)
def m_S_hasMetre : MI := (⟨"FairWalls$State", "hasMetre", "(II)Z"⟩, prog_8_method_5_code, 3, (Option.some Jvm.ClassFile.FieldType.boolean), 0, 0, [])
theorem cw_S_hasMetre : codeW m_S_hasMetre ∈ GT := gtb 505 (by decide +kernel) (by decide +kernel)
theorem iw_S_hasMetre : Cond.initialized m_S_hasMetre.y.cls ∈ GT := gtb 3 (by decide +kernel) (by decide +kernel)
theorem nw_S_hasMetre : Cond.instanceMethod m_S_hasMetre.y ∈ GT := gtb 503 (by decide +kernel) (by decide +kernel)
theorem vw_S_hasMetre : Cond.selects m_S_hasMetre.y.cls m_S_hasMetre.y m_S_hasMetre.y ∈ GT := gtb 504 (by decide +kernel) (by decide +kernel)
def m_S_hasWall : MI := (⟨"FairWalls$State", "hasWall", "(I)Z"⟩, prog_8_method_4_code, 2, (Option.some Jvm.ClassFile.FieldType.boolean), 0, 0, [])
theorem cw_S_hasWall : codeW m_S_hasWall ∈ GT := gtb 568 (by decide +kernel) (by decide +kernel)
theorem iw_S_hasWall : Cond.initialized m_S_hasWall.y.cls ∈ GT := gtb 3 (by decide +kernel) (by decide +kernel)
theorem nw_S_hasWall : Cond.instanceMethod m_S_hasWall.y ∈ GT := gtb 566 (by decide +kernel) (by decide +kernel)
theorem vw_S_hasWall : Cond.selects m_S_hasWall.y.cls m_S_hasWall.y m_S_hasWall.y ∈ GT := gtb 567 (by decide +kernel) (by decide +kernel)
def m_S_lengthOf : MI := (⟨"FairWalls$State", "lengthOf", "(I)I"⟩, prog_8_method_9_code, 2, (Option.some Jvm.ClassFile.FieldType.int), 1, 0, [])
theorem cw_S_lengthOf : codeW m_S_lengthOf ∈ GT := gtb 564 (by decide +kernel) (by decide +kernel)
theorem iw_S_lengthOf : Cond.initialized m_S_lengthOf.y.cls ∈ GT := gtb 3 (by decide +kernel) (by decide +kernel)
theorem nw_S_lengthOf : Cond.instanceMethod m_S_lengthOf.y ∈ GT := gtb 562 (by decide +kernel) (by decide +kernel)
theorem vw_S_lengthOf : Cond.selects m_S_lengthOf.y.cls m_S_lengthOf.y m_S_lengthOf.y ∈ GT := gtb 563 (by decide +kernel) (by decide +kernel)
def m_S_plugsOf : MI := (⟨"FairWalls$State", "plugsOf", "(II)I"⟩, prog_8_method_10_code, 3, (Option.some Jvm.ClassFile.FieldType.int), 1, 0, [])
theorem cw_S_plugsOf : codeW m_S_plugsOf ∈ GT := gtb 673 (by decide +kernel) (by decide +kernel)
theorem iw_S_plugsOf : Cond.initialized m_S_plugsOf.y.cls ∈ GT := gtb 3 (by decide +kernel) (by decide +kernel)
theorem nw_S_plugsOf : Cond.instanceMethod m_S_plugsOf.y ∈ GT := gtb 671 (by decide +kernel) (by decide +kernel)
theorem vw_S_plugsOf : Cond.selects m_S_plugsOf.y.cls m_S_plugsOf.y m_S_plugsOf.y ∈ GT := gtb 672 (by decide +kernel) (by decide +kernel)
def m_S_stands : MI := (⟨"FairWalls$State", "stands", "(I)Z"⟩, prog_8_method_7_code, 2, (Option.some Jvm.ClassFile.FieldType.boolean), 0, 0, [])
theorem cw_S_stands : codeW m_S_stands ∈ GT := gtb 489 (by decide +kernel) (by decide +kernel)
theorem iw_S_stands : Cond.initialized m_S_stands.y.cls ∈ GT := gtb 3 (by decide +kernel) (by decide +kernel)
theorem nw_S_stands : Cond.instanceMethod m_S_stands.y ∈ GT := gtb 487 (by decide +kernel) (by decide +kernel)
theorem vw_S_stands : Cond.selects m_S_stands.y.cls m_S_stands.y m_S_stands.y ∈ GT := gtb 488 (by decide +kernel) (by decide +kernel)
def m_S_standsAt : MI := (⟨"FairWalls$State", "standsAt", "(II)Z"⟩, prog_8_method_8_code, 3, (Option.some Jvm.ClassFile.FieldType.boolean), 0, 0, [])
theorem cw_S_standsAt : codeW m_S_standsAt ∈ GT := gtb 576 (by decide +kernel) (by decide +kernel)
theorem iw_S_standsAt : Cond.initialized m_S_standsAt.y.cls ∈ GT := gtb 3 (by decide +kernel) (by decide +kernel)
theorem nw_S_standsAt : Cond.instanceMethod m_S_standsAt.y ∈ GT := gtb 574 (by decide +kernel) (by decide +kernel)
theorem vw_S_standsAt : Cond.selects m_S_standsAt.y.cls m_S_standsAt.y m_S_standsAt.y ∈ GT := gtb 575 (by decide +kernel) (by decide +kernel)
def m_M_about : MI := (⟨"FairWallsModel", "about", "(I)I"⟩, prog_10_method_63_code, 2, (Option.some Jvm.ClassFile.FieldType.int), 6, 0, [])
theorem cw_M_about : codeW m_M_about ∈ GT := gtb 1244 (by decide +kernel) (by decide +kernel)
theorem iw_M_about : Cond.initialized m_M_about.y.cls ∈ GT := gtb 10 (by decide +kernel) (by decide +kernel)
theorem nw_M_about : Cond.instanceMethod m_M_about.y ∈ GT := gtb 1242 (by decide +kernel) (by decide +kernel)
theorem vw_M_about : Cond.selects m_M_about.y.cls m_M_about.y m_M_about.y ∈ GT := gtb 1243 (by decide +kernel) (by decide +kernel)
def m_M_addDealer : MI := (⟨"FairWallsModel", "addDealer", "([IIII)I"⟩, prog_10_method_31_code, 5, (Option.some Jvm.ClassFile.FieldType.int), 1, 0, [])
theorem cw_M_addDealer : codeW m_M_addDealer ∈ GT := gtb 1138 (by decide +kernel) (by decide +kernel)
theorem iw_M_addDealer : Cond.initialized m_M_addDealer.y.cls ∈ GT := gtb 10 (by decide +kernel) (by decide +kernel)
theorem sw_M_addDealer : Cond.static m_M_addDealer.y ∈ GT := gtb 1137 (by decide +kernel) (by decide +kernel)
def m_M_addWall : MI := (⟨"FairWallsModel", "addWall", "([II)I"⟩, prog_10_method_29_code, 2, (Option.some Jvm.ClassFile.FieldType.int), 0, 0, [])
theorem cw_M_addWall : codeW m_M_addWall ∈ GT := gtb 1189 (by decide +kernel) (by decide +kernel)
theorem iw_M_addWall : Cond.initialized m_M_addWall.y.cls ∈ GT := gtb 10 (by decide +kernel) (by decide +kernel)
theorem sw_M_addWall : Cond.static m_M_addWall.y ∈ GT := gtb 1188 (by decide +kernel) (by decide +kernel)
def m_M_append : MI := (⟨"FairWallsModel", "append", "(I)I"⟩, prog_10_method_41_code, 2, (Option.some Jvm.ClassFile.FieldType.int), 1, 0, [])
theorem cw_M_append : codeW m_M_append ∈ GT := gtb 1074 (by decide +kernel) (by decide +kernel)
theorem iw_M_append : Cond.initialized m_M_append.y.cls ∈ GT := gtb 10 (by decide +kernel) (by decide +kernel)
theorem nw_M_append : Cond.instanceMethod m_M_append.y ∈ GT := gtb 1072 (by decide +kernel) (by decide +kernel)
theorem vw_M_append : Cond.selects m_M_append.y.cls m_M_append.y m_M_append.y ∈ GT := gtb 1073 (by decide +kernel) (by decide +kernel)
def m_M_areBeside : MI := (⟨"FairWallsModel", "areBeside", "([III)Z"⟩, prog_10_method_24_code, 6, (Option.some Jvm.ClassFile.FieldType.boolean), 2, 0, [])
theorem cw_M_areBeside : codeW m_M_areBeside ∈ GT := gtb 1223 (by decide +kernel) (by decide +kernel)
theorem iw_M_areBeside : Cond.initialized m_M_areBeside.y.cls ∈ GT := gtb 10 (by decide +kernel) (by decide +kernel)
theorem sw_M_areBeside : Cond.static m_M_areBeside.y ∈ GT := gtb 1222 (by decide +kernel) (by decide +kernel)
def m_M_areDealers : MI := (⟨"FairWallsModel", "areDealers", "([III)Z"⟩, prog_10_method_77_code, 3, (Option.some Jvm.ClassFile.FieldType.boolean), 2, 0, [])
theorem cw_M_areDealers : codeW m_M_areDealers ∈ GT := gtb 1341 (by decide +kernel) (by decide +kernel)
theorem iw_M_areDealers : Cond.initialized m_M_areDealers.y.cls ∈ GT := gtb 10 (by decide +kernel) (by decide +kernel)
theorem sw_M_areDealers : Cond.static m_M_areDealers.y ∈ GT := gtb 1340 (by decide +kernel) (by decide +kernel)
def m_M_away : MI := (⟨"FairWallsModel", "away", "([III)I"⟩, prog_10_method_20_code, 5, (Option.some Jvm.ClassFile.FieldType.int), 1, 0, [])
theorem cw_M_away : codeW m_M_away ∈ GT := gtb 1210 (by decide +kernel) (by decide +kernel)
theorem iw_M_away : Cond.initialized m_M_away.y.cls ∈ GT := gtb 10 (by decide +kernel) (by decide +kernel)
theorem sw_M_away : Cond.static m_M_away.y ∈ GT := gtb 1209 (by decide +kernel) (by decide +kernel)
def m_M_bestSwap : MI := (⟨"FairWallsModel", "bestSwap", "(I)I"⟩, prog_10_method_85_code, 7, (Option.some Jvm.ClassFile.FieldType.int), 6, 0, [])
theorem cw_M_bestSwap : codeW m_M_bestSwap ∈ GT := gtb 1370 (by decide +kernel) (by decide +kernel)
theorem iw_M_bestSwap : Cond.initialized m_M_bestSwap.y.cls ∈ GT := gtb 10 (by decide +kernel) (by decide +kernel)
theorem nw_M_bestSwap : Cond.instanceMethod m_M_bestSwap.y ∈ GT := gtb 1368 (by decide +kernel) (by decide +kernel)
theorem vw_M_bestSwap : Cond.selects m_M_bestSwap.y.cls m_M_bestSwap.y m_M_bestSwap.y ∈ GT := gtb 1369 (by decide +kernel) (by decide +kernel)
def m_M_cheapest : MI := (⟨"FairWallsModel", "cheapest", "(II)I"⟩, prog_10_method_84_code, 9, (Option.some Jvm.ClassFile.FieldType.int), 6, 0, [])
theorem cw_M_cheapest : codeW m_M_cheapest ∈ GT := gtb 1366 (by decide +kernel) (by decide +kernel)
theorem iw_M_cheapest : Cond.initialized m_M_cheapest.y.cls ∈ GT := gtb 10 (by decide +kernel) (by decide +kernel)
theorem nw_M_cheapest : Cond.instanceMethod m_M_cheapest.y ∈ GT := gtb 1364 (by decide +kernel) (by decide +kernel)
theorem vw_M_cheapest : Cond.selects m_M_cheapest.y.cls m_M_cheapest.y m_M_cheapest.y ∈ GT := gtb 1365 (by decide +kernel) (by decide +kernel)
def m_M_clearText : MI := (⟨"FairWallsModel", "clearText", "()I"⟩, prog_10_method_42_code, 2, (Option.some Jvm.ClassFile.FieldType.int), 0, 0, [])
theorem cw_M_clearText : codeW m_M_clearText ∈ GT := gtb 1086 (by decide +kernel) (by decide +kernel)
theorem iw_M_clearText : Cond.initialized m_M_clearText.y.cls ∈ GT := gtb 10 (by decide +kernel) (by decide +kernel)
theorem nw_M_clearText : Cond.instanceMethod m_M_clearText.y ∈ GT := gtb 1084 (by decide +kernel) (by decide +kernel)
theorem vw_M_clearText : Cond.selects m_M_clearText.y.cls m_M_clearText.y m_M_clearText.y ∈ GT := gtb 1085 (by decide +kernel) (by decide +kernel)
def m_M_command : MI := (⟨"FairWallsModel", "command", "(I)Z"⟩, prog_10_method_95_code, 7, (Option.some Jvm.ClassFile.FieldType.boolean), 7, 0, [])
theorem cw_M_command : codeW m_M_command ∈ GT := gtb 1387 (by decide +kernel) (by decide +kernel)
theorem iw_M_command : Cond.initialized m_M_command.y.cls ∈ GT := gtb 10 (by decide +kernel) (by decide +kernel)
theorem nw_M_command : Cond.instanceMethod m_M_command.y ∈ GT := gtb 1386 (by decide +kernel) (by decide +kernel)
theorem vw_M_command : Cond.selects m_M_command.y.cls m_M_command.y m_M_command.y ∈ GT := gts 34 (by decide +kernel) (by decide +kernel)
def m_M_copy : MI := (⟨"FairWallsModel", "copy", "([I[I)V"⟩, prog_10_method_7_code, 3, (Option.none : Option Jvm.ClassFile.FieldType), 0, 0, [])
theorem cw_M_copy : codeW m_M_copy ∈ GT := gtb 1240 (by decide +kernel) (by decide +kernel)
theorem iw_M_copy : Cond.initialized m_M_copy.y.cls ∈ GT := gtb 10 (by decide +kernel) (by decide +kernel)
theorem sw_M_copy : Cond.static m_M_copy.y ∈ GT := gtb 1239 (by decide +kernel) (by decide +kernel)
def m_M_days : MI := (⟨"FairWallsModel", "days", "(I)I"⟩, prog_10_method_79_code, 2, (Option.some Jvm.ClassFile.FieldType.int), 6, 0, [])
theorem cw_M_days : codeW m_M_days ∈ GT := gtb 1345 (by decide +kernel) (by decide +kernel)
theorem iw_M_days : Cond.initialized m_M_days.y.cls ∈ GT := gtb 10 (by decide +kernel) (by decide +kernel)
theorem nw_M_days : Cond.instanceMethod m_M_days.y ∈ GT := gtb 1343 (by decide +kernel) (by decide +kernel)
theorem vw_M_days : Cond.selects m_M_days.y.cls m_M_days.y m_M_days.y ∈ GT := gtb 1344 (by decide +kernel) (by decide +kernel)
def m_M_dealer : MI := (⟨"FairWallsModel", "dealer", "(III)I"⟩, prog_10_method_74_code, 4, (Option.some Jvm.ClassFile.FieldType.int), 2, 0, [])
theorem cw_M_dealer : codeW m_M_dealer ∈ GT := gtb 1322 (by decide +kernel) (by decide +kernel)
theorem iw_M_dealer : Cond.initialized m_M_dealer.y.cls ∈ GT := gtb 10 (by decide +kernel) (by decide +kernel)
theorem nw_M_dealer : Cond.instanceMethod m_M_dealer.y ∈ GT := gtb 1320 (by decide +kernel) (by decide +kernel)
theorem vw_M_dealer : Cond.selects m_M_dealer.y.cls m_M_dealer.y m_M_dealer.y ∈ GT := gtb 1321 (by decide +kernel) (by decide +kernel)
def m_M_dealerOf : MI := (⟨"FairWallsModel", "dealerOf", "(II)I"⟩, prog_10_method_67_code, 3, (Option.some Jvm.ClassFile.FieldType.int), 5, 0, [])
theorem cw_M_dealerOf : codeW m_M_dealerOf ∈ GT := gtb 1285 (by decide +kernel) (by decide +kernel)
theorem iw_M_dealerOf : Cond.initialized m_M_dealerOf.y.cls ∈ GT := gtb 10 (by decide +kernel) (by decide +kernel)
theorem nw_M_dealerOf : Cond.instanceMethod m_M_dealerOf.y ∈ GT := gtb 1283 (by decide +kernel) (by decide +kernel)
theorem vw_M_dealerOf : Cond.selects m_M_dealerOf.y.cls m_M_dealerOf.y m_M_dealerOf.y ∈ GT := gtb 1284 (by decide +kernel) (by decide +kernel)
def m_M_digit : MI := (⟨"FairWallsModel", "digit", "(II)I"⟩, prog_10_method_45_code, 4, (Option.some Jvm.ClassFile.FieldType.int), 1, 0, [])
theorem cw_M_digit : codeW m_M_digit ∈ GT := gtb 1114 (by decide +kernel) (by decide +kernel)
theorem iw_M_digit : Cond.initialized m_M_digit.y.cls ∈ GT := gtb 10 (by decide +kernel) (by decide +kernel)
theorem nw_M_digit : Cond.instanceMethod m_M_digit.y ∈ GT := gtb 1113 (by decide +kernel) (by decide +kernel)
theorem vw_M_digit : Cond.selects m_M_digit.y.cls m_M_digit.y m_M_digit.y ∈ GT := gts 17 (by decide +kernel) (by decide +kernel)
def m_M_ends : MI := (⟨"FairWallsModel", "ends", "([II)I"⟩, prog_10_method_26_code, 3, (Option.some Jvm.ClassFile.FieldType.int), 2, 0, [])
theorem cw_M_ends : codeW m_M_ends ∈ GT := gtb 1217 (by decide +kernel) (by decide +kernel)
theorem iw_M_ends : Cond.initialized m_M_ends.y.cls ∈ GT := gtb 10 (by decide +kernel) (by decide +kernel)
theorem sw_M_ends : Cond.static m_M_ends.y ∈ GT := gtb 1216 (by decide +kernel) (by decide +kernel)
def m_M_errorPosition : MI := (⟨"FairWallsModel", "errorPosition", "()I"⟩, prog_10_method_55_code, 1, (Option.some Jvm.ClassFile.FieldType.int), 9, 0, [])
theorem cw_M_errorPosition : codeW m_M_errorPosition ∈ GT := gtb 1090 (by decide +kernel) (by decide +kernel)
theorem iw_M_errorPosition : Cond.initialized m_M_errorPosition.y.cls ∈ GT := gtb 10 (by decide +kernel) (by decide +kernel)
theorem nw_M_errorPosition : Cond.instanceMethod m_M_errorPosition.y ∈ GT := gtb 1088 (by decide +kernel) (by decide +kernel)
theorem vw_M_errorPosition : Cond.selects m_M_errorPosition.y.cls m_M_errorPosition.y m_M_errorPosition.y ∈ GT := gtb 1089 (by decide +kernel) (by decide +kernel)
def m_M_exchange : MI := (⟨"FairWallsModel", "exchange", "([III)V"⟩, prog_10_method_36_code, 5, (Option.none : Option Jvm.ClassFile.FieldType), 2, 0, [])
theorem cw_M_exchange : codeW m_M_exchange ∈ GT := gtb 1182 (by decide +kernel) (by decide +kernel)
theorem iw_M_exchange : Cond.initialized m_M_exchange.y.cls ∈ GT := gtb 10 (by decide +kernel) (by decide +kernel)
theorem sw_M_exchange : Cond.static m_M_exchange.y ∈ GT := gtb 1181 (by decide +kernel) (by decide +kernel)
def m_M_fits : MI := (⟨"FairWallsModel", "fits", "([IIIII)Z"⟩, prog_10_method_19_code, 8, (Option.some Jvm.ClassFile.FieldType.boolean), 2, 0, [])
theorem cw_M_fits : codeW m_M_fits ∈ GT := gtb 1160 (by decide +kernel) (by decide +kernel)
theorem iw_M_fits : Cond.initialized m_M_fits.y.cls ∈ GT := gtb 10 (by decide +kernel) (by decide +kernel)
theorem sw_M_fits : Cond.static m_M_fits.y ∈ GT := gtb 1159 (by decide +kernel) (by decide +kernel)
def m_M_free : MI := (⟨"FairWallsModel", "free", "(II)I"⟩, prog_10_method_71_code, 3, (Option.some Jvm.ClassFile.FieldType.int), 3, 0, [])
theorem cw_M_free : codeW m_M_free ∈ GT := gtb 1298 (by decide +kernel) (by decide +kernel)
theorem iw_M_free : Cond.initialized m_M_free.y.cls ∈ GT := gtb 10 (by decide +kernel) (by decide +kernel)
theorem nw_M_free : Cond.instanceMethod m_M_free.y ∈ GT := gtb 1296 (by decide +kernel) (by decide +kernel)
theorem vw_M_free : Cond.selects m_M_free.y.cls m_M_free.y m_M_free.y ∈ GT := gtb 1297 (by decide +kernel) (by decide +kernel)
def m_M_freeAt : MI := (⟨"FairWallsModel", "freeAt", "([II)I"⟩, prog_10_method_58_code, 4, (Option.some Jvm.ClassFile.FieldType.int), 2, 0, [])
theorem cw_M_freeAt : codeW m_M_freeAt ∈ GT := gtb 1258 (by decide +kernel) (by decide +kernel)
theorem iw_M_freeAt : Cond.initialized m_M_freeAt.y.cls ∈ GT := gtb 10 (by decide +kernel) (by decide +kernel)
theorem sw_M_freeAt : Cond.static m_M_freeAt.y ∈ GT := gtb 1257 (by decide +kernel) (by decide +kernel)
def m_M_fresh : MI := (⟨"FairWallsModel", "fresh", "([I)V"⟩, prog_10_method_6_code, 2, (Option.none : Option Jvm.ClassFile.FieldType), 0, 0, [])
theorem cw_M_fresh : codeW m_M_fresh ∈ GT := gtb 1017 (by decide +kernel) (by decide +kernel)
theorem iw_M_fresh : Cond.initialized m_M_fresh.y.cls ∈ GT := gtb 10 (by decide +kernel) (by decide +kernel)
theorem sw_M_fresh : Cond.static m_M_fresh.y ∈ GT := gtb 1016 (by decide +kernel) (by decide +kernel)
def m_M_goDays : MI := (⟨"FairWallsModel", "goDays", "([II)I"⟩, prog_10_method_39_code, 7, (Option.some Jvm.ClassFile.FieldType.int), 5, 0, [])
theorem cw_M_goDays : codeW m_M_goDays ∈ GT := gtb 1196 (by decide +kernel) (by decide +kernel)
theorem iw_M_goDays : Cond.initialized m_M_goDays.y.cls ∈ GT := gtb 10 (by decide +kernel) (by decide +kernel)
theorem nw_M_goDays : Cond.instanceMethod m_M_goDays.y ∈ GT := gtb 1195 (by decide +kernel) (by decide +kernel)
theorem vw_M_goDays : Cond.selects m_M_goDays.y.cls m_M_goDays.y m_M_goDays.y ∈ GT := gts 24 (by decide +kernel) (by decide +kernel)
def m_M_goLeave : MI := (⟨"FairWallsModel", "goLeave", "([II)I"⟩, prog_10_method_35_code, 2, (Option.some Jvm.ClassFile.FieldType.int), 2, 0, [])
theorem cw_M_goLeave : codeW m_M_goLeave ∈ GT := gtb 1192 (by decide +kernel) (by decide +kernel)
theorem iw_M_goLeave : Cond.initialized m_M_goLeave.y.cls ∈ GT := gtb 10 (by decide +kernel) (by decide +kernel)
theorem sw_M_goLeave : Cond.static m_M_goLeave.y ∈ GT := gtb 1191 (by decide +kernel) (by decide +kernel)
def m_M_goPlace : MI := (⟨"FairWallsModel", "goPlace", "([IIII)I"⟩, prog_10_method_34_code, 5, (Option.some Jvm.ClassFile.FieldType.int), 4, 0, [])
theorem cw_M_goPlace : codeW m_M_goPlace ∈ GT := gtb 1166 (by decide +kernel) (by decide +kernel)
theorem iw_M_goPlace : Cond.initialized m_M_goPlace.y.cls ∈ GT := gtb 10 (by decide +kernel) (by decide +kernel)
theorem sw_M_goPlace : Cond.static m_M_goPlace.y ∈ GT := gtb 1165 (by decide +kernel) (by decide +kernel)
def m_M_goSwap : MI := (⟨"FairWallsModel", "goSwap", "([III)I"⟩, prog_10_method_38_code, 4, (Option.some Jvm.ClassFile.FieldType.int), 4, 0, [])
theorem cw_M_goSwap : codeW m_M_goSwap ∈ GT := gtb 1179 (by decide +kernel) (by decide +kernel)
theorem iw_M_goSwap : Cond.initialized m_M_goSwap.y.cls ∈ GT := gtb 10 (by decide +kernel) (by decide +kernel)
theorem sw_M_goSwap : Cond.static m_M_goSwap.y ∈ GT := gtb 1178 (by decide +kernel) (by decide +kernel)
def m_M_goes : MI := (⟨"FairWallsModel", "goes", "(Z)Z"⟩, prog_10_method_47_code, 2, (Option.some Jvm.ClassFile.FieldType.boolean), 0, 0, [])
theorem cw_M_goes : codeW m_M_goes ∈ GT := gtb 1128 (by decide +kernel) (by decide +kernel)
theorem iw_M_goes : Cond.initialized m_M_goes.y.cls ∈ GT := gtb 10 (by decide +kernel) (by decide +kernel)
theorem nw_M_goes : Cond.instanceMethod m_M_goes.y ∈ GT := gtb 1127 (by decide +kernel) (by decide +kernel)
theorem vw_M_goes : Cond.selects m_M_goes.y.cls m_M_goes.y m_M_goes.y ∈ GT := gts 19 (by decide +kernel) (by decide +kernel)
def m_M_here : MI := (⟨"FairWallsModel", "here", "()I"⟩, prog_10_method_43_code, 1, (Option.some Jvm.ClassFile.FieldType.int), 0, 0, [])
theorem cw_M_here : codeW m_M_here ∈ GT := gtb 1098 (by decide +kernel) (by decide +kernel)
theorem iw_M_here : Cond.initialized m_M_here.y.cls ∈ GT := gtb 10 (by decide +kernel) (by decide +kernel)
theorem nw_M_here : Cond.instanceMethod m_M_here.y ∈ GT := gtb 1097 (by decide +kernel) (by decide +kernel)
theorem vw_M_here : Cond.selects m_M_here.y.cls m_M_here.y m_M_here.y ∈ GT := gts 13 (by decide +kernel) (by decide +kernel)
def m_M_in : MI := (⟨"FairWallsModel", "in", "(JJJ)Z"⟩, prog_10_method_4_code, 6, (Option.some Jvm.ClassFile.FieldType.boolean), 0, 0, [])
theorem cw_M_in : codeW m_M_in ∈ GT := gtb 1078 (by decide +kernel) (by decide +kernel)
theorem iw_M_in : Cond.initialized m_M_in.y.cls ∈ GT := gtb 10 (by decide +kernel) (by decide +kernel)
theorem sw_M_in : Cond.static m_M_in.y ∈ GT := gtb 1077 (by decide +kernel) (by decide +kernel)
def m_M_isCheap : MI := (⟨"FairWallsModel", "isCheap", "(II)Z"⟩, prog_10_method_93_code, 3, (Option.some Jvm.ClassFile.FieldType.boolean), 5, 0, [])
theorem cw_M_isCheap : codeW m_M_isCheap ∈ GT := gtb 1415 (by decide +kernel) (by decide +kernel)
theorem iw_M_isCheap : Cond.initialized m_M_isCheap.y.cls ∈ GT := gtb 10 (by decide +kernel) (by decide +kernel)
theorem nw_M_isCheap : Cond.instanceMethod m_M_isCheap.y ∈ GT := gtb 1414 (by decide +kernel) (by decide +kernel)
theorem vw_M_isCheap : Cond.selects m_M_isCheap.y.cls m_M_isCheap.y m_M_isCheap.y ∈ GT := gts 41 (by decide +kernel) (by decide +kernel)
def m_M_isDealer : MI := (⟨"FairWallsModel", "isDealer", "([II)Z"⟩, prog_10_method_10_code, 2, (Option.some Jvm.ClassFile.FieldType.boolean), 1, 0, [])
theorem cw_M_isDealer : codeW m_M_isDealer ∈ GT := gtb 1148 (by decide +kernel) (by decide +kernel)
theorem iw_M_isDealer : Cond.initialized m_M_isDealer.y.cls ∈ GT := gtb 10 (by decide +kernel) (by decide +kernel)
theorem sw_M_isDealer : Cond.static m_M_isDealer.y ∈ GT := gtb 1147 (by decide +kernel) (by decide +kernel)
def m_M_isFed : MI := (⟨"FairWallsModel", "isFed", "(II)Z"⟩, prog_10_method_94_code, 3, (Option.some Jvm.ClassFile.FieldType.boolean), 4, 0, [])
theorem cw_M_isFed : codeW m_M_isFed ∈ GT := gtb 1419 (by decide +kernel) (by decide +kernel)
theorem iw_M_isFed : Cond.initialized m_M_isFed.y.cls ∈ GT := gtb 10 (by decide +kernel) (by decide +kernel)
theorem nw_M_isFed : Cond.instanceMethod m_M_isFed.y ∈ GT := gtb 1418 (by decide +kernel) (by decide +kernel)
theorem vw_M_isFed : Cond.selects m_M_isFed.y.cls m_M_isFed.y m_M_isFed.y ∈ GT := gts 42 (by decide +kernel) (by decide +kernel)
def m_M_isKind : MI := (⟨"FairWallsModel", "isKind", "(III)Z"⟩, prog_10_method_12_code, 3, (Option.some Jvm.ClassFile.FieldType.boolean), 1, 0, [])
theorem cw_M_isKind : codeW m_M_isKind ∈ GT := gtb 1325 (by decide +kernel) (by decide +kernel)
theorem iw_M_isKind : Cond.initialized m_M_isKind.y.cls ∈ GT := gtb 10 (by decide +kernel) (by decide +kernel)
theorem sw_M_isKind : Cond.static m_M_isKind.y ∈ GT := gtb 1324 (by decide +kernel) (by decide +kernel)
def m_M_isLength : MI := (⟨"FairWallsModel", "isLength", "(I)Z"⟩, prog_10_method_11_code, 1, (Option.some Jvm.ClassFile.FieldType.boolean), 1, 0, [])
theorem cw_M_isLength : codeW m_M_isLength ∈ GT := gtb 1308 (by decide +kernel) (by decide +kernel)
theorem iw_M_isLength : Cond.initialized m_M_isLength.y.cls ∈ GT := gtb 10 (by decide +kernel) (by decide +kernel)
theorem sw_M_isLength : Cond.static m_M_isLength.y ∈ GT := gtb 1307 (by decide +kernel) (by decide +kernel)
def m_M_isMetre : MI := (⟨"FairWallsModel", "isMetre", "([III)Z"⟩, prog_10_method_9_code, 3, (Option.some Jvm.ClassFile.FieldType.boolean), 2, 0, [])
theorem cw_M_isMetre : codeW m_M_isMetre ∈ GT := gtb 1121 (by decide +kernel) (by decide +kernel)
theorem iw_M_isMetre : Cond.initialized m_M_isMetre.y.cls ∈ GT := gtb 10 (by decide +kernel) (by decide +kernel)
theorem sw_M_isMetre : Cond.static m_M_isMetre.y ∈ GT := gtb 1120 (by decide +kernel) (by decide +kernel)
def m_M_isSetting : MI := (⟨"FairWallsModel", "isSetting", "(II)Z"⟩, prog_10_method_13_code, 2, (Option.some Jvm.ClassFile.FieldType.boolean), 1, 0, [])
theorem cw_M_isSetting : codeW m_M_isSetting ∈ GT := gtb 1230 (by decide +kernel) (by decide +kernel)
theorem iw_M_isSetting : Cond.initialized m_M_isSetting.y.cls ∈ GT := gtb 10 (by decide +kernel) (by decide +kernel)
theorem sw_M_isSetting : Cond.static m_M_isSetting.y ∈ GT := gtb 1229 (by decide +kernel) (by decide +kernel)
def m_M_isWall : MI := (⟨"FairWallsModel", "isWall", "([II)Z"⟩, prog_10_method_8_code, 2, (Option.some Jvm.ClassFile.FieldType.boolean), 1, 0, [])
theorem cw_M_isWall : codeW m_M_isWall ∈ GT := gtb 1124 (by decide +kernel) (by decide +kernel)
theorem iw_M_isWall : Cond.initialized m_M_isWall.y.cls ∈ GT := gtb 10 (by decide +kernel) (by decide +kernel)
theorem sw_M_isWall : Cond.static m_M_isWall.y ∈ GT := gtb 1123 (by decide +kernel) (by decide +kernel)
def m_M_lacks : MI := (⟨"FairWallsModel", "lacks", "([II)I"⟩, prog_10_method_23_code, 3, (Option.some Jvm.ClassFile.FieldType.int), 2, 0, [])
theorem cw_M_lacks : codeW m_M_lacks ∈ GT := gtb 1227 (by decide +kernel) (by decide +kernel)
theorem iw_M_lacks : Cond.initialized m_M_lacks.y.cls ∈ GT := gtb 10 (by decide +kernel) (by decide +kernel)
theorem nw_M_lacks : Cond.instanceMethod m_M_lacks.y ∈ GT := gtb 1226 (by decide +kernel) (by decide +kernel)
theorem vw_M_lacks : Cond.selects m_M_lacks.y.cls m_M_lacks.y m_M_lacks.y ∈ GT := gts 28 (by decide +kernel) (by decide +kernel)
def m_M_leave : MI := (⟨"FairWallsModel", "leave", "(I)I"⟩, prog_10_method_76_code, 2, (Option.some Jvm.ClassFile.FieldType.int), 3, 0, [])
theorem cw_M_leave : codeW m_M_leave ∈ GT := gtb 1334 (by decide +kernel) (by decide +kernel)
theorem iw_M_leave : Cond.initialized m_M_leave.y.cls ∈ GT := gtb 10 (by decide +kernel) (by decide +kernel)
theorem nw_M_leave : Cond.instanceMethod m_M_leave.y ∈ GT := gtb 1332 (by decide +kernel) (by decide +kernel)
theorem vw_M_leave : Cond.selects m_M_leave.y.cls m_M_leave.y m_M_leave.y ∈ GT := gtb 1333 (by decide +kernel) (by decide +kernel)
def m_M_lessFronts : MI := (⟨"FairWallsModel", "lessFronts", "([II)I"⟩, prog_10_method_70_code, 4, (Option.some Jvm.ClassFile.FieldType.int), 1, 0, [])
theorem cw_M_lessFronts : codeW m_M_lessFronts ∈ GT := gtb 1301 (by decide +kernel) (by decide +kernel)
theorem iw_M_lessFronts : Cond.initialized m_M_lessFronts.y.cls ∈ GT := gtb 10 (by decide +kernel) (by decide +kernel)
theorem sw_M_lessFronts : Cond.static m_M_lessFronts.y ∈ GT := gtb 1300 (by decide +kernel) (by decide +kernel)
def m_M_load : MI := (⟨"FairWallsModel", "load", "()I"⟩, prog_10_method_56_code, 1, (Option.some Jvm.ClassFile.FieldType.int), 9, 0, [])
theorem cw_M_load : codeW m_M_load ∈ GT := gtb 1237 (by decide +kernel) (by decide +kernel)
theorem iw_M_load : Cond.initialized m_M_load.y.cls ∈ GT := gtb 10 (by decide +kernel) (by decide +kernel)
theorem nw_M_load : Cond.instanceMethod m_M_load.y ∈ GT := gtb 1235 (by decide +kernel) (by decide +kernel)
theorem vw_M_load : Cond.selects m_M_load.y.cls m_M_load.y m_M_load.y ∈ GT := gtb 1236 (by decide +kernel) (by decide +kernel)
def m_M_longestRow : MI := (⟨"FairWallsModel", "longestRow", "([IIZ)I"⟩, prog_10_method_64_code, 7, (Option.some Jvm.ClassFile.FieldType.int), 2, 0, [])
theorem cw_M_longestRow : codeW m_M_longestRow ∈ GT := gtb 1276 (by decide +kernel) (by decide +kernel)
theorem iw_M_longestRow : Cond.initialized m_M_longestRow.y.cls ∈ GT := gtb 10 (by decide +kernel) (by decide +kernel)
theorem sw_M_longestRow : Cond.static m_M_longestRow.y ∈ GT := gtb 1275 (by decide +kernel) (by decide +kernel)
def m_M_metreOf : MI := (⟨"FairWallsModel", "metreOf", "(III)I"⟩, prog_10_method_66_code, 4, (Option.some Jvm.ClassFile.FieldType.int), 4, 0, [])
theorem cw_M_metreOf : codeW m_M_metreOf ∈ GT := gtb 1280 (by decide +kernel) (by decide +kernel)
theorem iw_M_metreOf : Cond.initialized m_M_metreOf.y.cls ∈ GT := gtb 10 (by decide +kernel) (by decide +kernel)
theorem nw_M_metreOf : Cond.instanceMethod m_M_metreOf.y ∈ GT := gtb 1278 (by decide +kernel) (by decide +kernel)
theorem vw_M_metreOf : Cond.selects m_M_metreOf.y.cls m_M_metreOf.y m_M_metreOf.y ∈ GT := gtb 1279 (by decide +kernel) (by decide +kernel)
def m_M_metres : MI := (⟨"FairWallsModel", "metres", "([I)I"⟩, prog_10_method_57_code, 3, (Option.some Jvm.ClassFile.FieldType.int), 1, 0, [])
theorem cw_M_metres : codeW m_M_metres ∈ GT := gtb 1251 (by decide +kernel) (by decide +kernel)
theorem iw_M_metres : Cond.initialized m_M_metres.y.cls ∈ GT := gtb 10 (by decide +kernel) (by decide +kernel)
theorem sw_M_metres : Cond.static m_M_metres.y ∈ GT := gtb 1250 (by decide +kernel) (by decide +kernel)
def m_M_nearest : MI := (⟨"FairWallsModel", "nearest", "([II)I"⟩, prog_10_method_21_code, 7, (Option.some Jvm.ClassFile.FieldType.int), 2, 0, [])
theorem cw_M_nearest : codeW m_M_nearest ∈ GT := gtb 1204 (by decide +kernel) (by decide +kernel)
theorem iw_M_nearest : Cond.initialized m_M_nearest.y.cls ∈ GT := gtb 10 (by decide +kernel) (by decide +kernel)
theorem nw_M_nearest : Cond.instanceMethod m_M_nearest.y ∈ GT := gtb 1203 (by decide +kernel) (by decide +kernel)
theorem vw_M_nearest : Cond.selects m_M_nearest.y.cls m_M_nearest.y m_M_nearest.y ∈ GT := gts 26 (by decide +kernel) (by decide +kernel)
def m_M_neighbours : MI := (⟨"FairWallsModel", "neighbours", "([IIZ)I"⟩, prog_10_method_25_code, 6, (Option.some Jvm.ClassFile.FieldType.int), 3, 0, [])
theorem cw_M_neighbours : codeW m_M_neighbours ∈ GT := gtb 1220 (by decide +kernel) (by decide +kernel)
theorem iw_M_neighbours : Cond.initialized m_M_neighbours.y.cls ∈ GT := gtb 10 (by decide +kernel) (by decide +kernel)
theorem sw_M_neighbours : Cond.static m_M_neighbours.y ∈ GT := gtb 1219 (by decide +kernel) (by decide +kernel)
def m_M_outlet : MI := (⟨"FairWallsModel", "outlet", "(III)I"⟩, prog_10_method_73_code, 4, (Option.some Jvm.ClassFile.FieldType.int), 3, 0, [])
theorem cw_M_outlet : codeW m_M_outlet ∈ GT := gtb 1318 (by decide +kernel) (by decide +kernel)
theorem iw_M_outlet : Cond.initialized m_M_outlet.y.cls ∈ GT := gtb 10 (by decide +kernel) (by decide +kernel)
theorem nw_M_outlet : Cond.instanceMethod m_M_outlet.y ∈ GT := gtb 1316 (by decide +kernel) (by decide +kernel)
theorem vw_M_outlet : Cond.selects m_M_outlet.y.cls m_M_outlet.y m_M_outlet.y ∈ GT := gtb 1317 (by decide +kernel) (by decide +kernel)
def m_M_place : MI := (⟨"FairWallsModel", "place", "(III)I"⟩, prog_10_method_75_code, 4, (Option.some Jvm.ClassFile.FieldType.int), 5, 0, [])
theorem cw_M_place : codeW m_M_place ∈ GT := gtb 1330 (by decide +kernel) (by decide +kernel)
theorem iw_M_place : Cond.initialized m_M_place.y.cls ∈ GT := gtb 10 (by decide +kernel) (by decide +kernel)
theorem nw_M_place : Cond.instanceMethod m_M_place.y ∈ GT := gtb 1328 (by decide +kernel) (by decide +kernel)
theorem vw_M_place : Cond.selects m_M_place.y.cls m_M_place.y m_M_place.y ∈ GT := gtb 1329 (by decide +kernel) (by decide +kernel)
def m_M_plugOf : MI := (⟨"FairWallsModel", "plugOf", "(II)I"⟩, prog_10_method_68_code, 3, (Option.some Jvm.ClassFile.FieldType.int), 4, 0, [])
theorem cw_M_plugOf : codeW m_M_plugOf ∈ GT := gtb 1290 (by decide +kernel) (by decide +kernel)
theorem iw_M_plugOf : Cond.initialized m_M_plugOf.y.cls ∈ GT := gtb 10 (by decide +kernel) (by decide +kernel)
theorem nw_M_plugOf : Cond.instanceMethod m_M_plugOf.y ∈ GT := gtb 1288 (by decide +kernel) (by decide +kernel)
theorem vw_M_plugOf : Cond.selects m_M_plugOf.y.cls m_M_plugOf.y m_M_plugOf.y ∈ GT := gtb 1289 (by decide +kernel) (by decide +kernel)
def m_M_plugs : MI := (⟨"FairWallsModel", "plugs", "([III)I"⟩, prog_10_method_17_code, 3, (Option.some Jvm.ClassFile.FieldType.int), 0, 0, [])
theorem cw_M_plugs : codeW m_M_plugs ∈ GT := gtb 1207 (by decide +kernel) (by decide +kernel)
theorem iw_M_plugs : Cond.initialized m_M_plugs.y.cls ∈ GT := gtb 10 (by decide +kernel) (by decide +kernel)
theorem sw_M_plugs : Cond.static m_M_plugs.y ∈ GT := gtb 1206 (by decide +kernel) (by decide +kernel)
def m_M_plugsAt : MI := (⟨"FairWallsModel", "plugsAt", "([II)I"⟩, prog_10_method_59_code, 4, (Option.some Jvm.ClassFile.FieldType.int), 1, 0, [])
theorem cw_M_plugsAt : codeW m_M_plugsAt ∈ GT := gtb 1261 (by decide +kernel) (by decide +kernel)
theorem iw_M_plugsAt : Cond.initialized m_M_plugsAt.y.cls ∈ GT := gtb 10 (by decide +kernel) (by decide +kernel)
theorem sw_M_plugsAt : Cond.static m_M_plugsAt.y ∈ GT := gtb 1260 (by decide +kernel) (by decide +kernel)
def m_M_put : MI := (⟨"FairWallsModel", "put", "([III)I"⟩, prog_10_method_30_code, 4, (Option.some Jvm.ClassFile.FieldType.int), 0, 0, [])
theorem cw_M_put : codeW m_M_put ∈ GT := gtb 1131 (by decide +kernel) (by decide +kernel)
theorem iw_M_put : Cond.initialized m_M_put.y.cls ∈ GT := gtb 10 (by decide +kernel) (by decide +kernel)
theorem sw_M_put : Cond.static m_M_put.y ∈ GT := gtb 1130 (by decide +kernel) (by decide +kernel)
def m_M_readAll : MI := (⟨"FairWallsModel", "readAll", "()I"⟩, prog_10_method_54_code, 2, (Option.some Jvm.ClassFile.FieldType.int), 8, 0, [])
theorem cw_M_readAll : codeW m_M_readAll ∈ GT := gtb 1094 (by decide +kernel) (by decide +kernel)
theorem iw_M_readAll : Cond.initialized m_M_readAll.y.cls ∈ GT := gtb 10 (by decide +kernel) (by decide +kernel)
theorem nw_M_readAll : Cond.instanceMethod m_M_readAll.y ∈ GT := gtb 1093 (by decide +kernel) (by decide +kernel)
theorem vw_M_readAll : Cond.selects m_M_readAll.y.cls m_M_readAll.y m_M_readAll.y ∈ GT := gts 12 (by decide +kernel) (by decide +kernel)
def m_M_readCommand : MI := (⟨"FairWallsModel", "readCommand", "()I"⟩, prog_10_method_53_code, 2, (Option.some Jvm.ClassFile.FieldType.int), 7, 0, [])
theorem cw_M_readCommand : codeW m_M_readCommand ∈ GT := gtb 1106 (by decide +kernel) (by decide +kernel)
theorem iw_M_readCommand : Cond.initialized m_M_readCommand.y.cls ∈ GT := gtb 10 (by decide +kernel) (by decide +kernel)
theorem nw_M_readCommand : Cond.instanceMethod m_M_readCommand.y ∈ GT := gtb 1105 (by decide +kernel) (by decide +kernel)
theorem vw_M_readCommand : Cond.selects m_M_readCommand.y.cls m_M_readCommand.y m_M_readCommand.y ∈ GT := gts 15 (by decide +kernel) (by decide +kernel)
def m_M_readDealer : MI := (⟨"FairWallsModel", "readDealer", "()I"⟩, prog_10_method_49_code, 4, (Option.some Jvm.ClassFile.FieldType.int), 2, 0, [])
theorem cw_M_readDealer : codeW m_M_readDealer ∈ GT := gtb 1135 (by decide +kernel) (by decide +kernel)
theorem iw_M_readDealer : Cond.initialized m_M_readDealer.y.cls ∈ GT := gtb 10 (by decide +kernel) (by decide +kernel)
theorem nw_M_readDealer : Cond.instanceMethod m_M_readDealer.y ∈ GT := gtb 1134 (by decide +kernel) (by decide +kernel)
theorem vw_M_readDealer : Cond.selects m_M_readDealer.y.cls m_M_readDealer.y m_M_readDealer.y ∈ GT := gts 20 (by decide +kernel) (by decide +kernel)
def m_M_readOutlet : MI := (⟨"FairWallsModel", "readOutlet", "()I"⟩, prog_10_method_48_code, 4, (Option.some Jvm.ClassFile.FieldType.int), 3, 0, [])
theorem cw_M_readOutlet : codeW m_M_readOutlet ∈ GT := gtb 1110 (by decide +kernel) (by decide +kernel)
theorem iw_M_readOutlet : Cond.initialized m_M_readOutlet.y.cls ∈ GT := gtb 10 (by decide +kernel) (by decide +kernel)
theorem nw_M_readOutlet : Cond.instanceMethod m_M_readOutlet.y ∈ GT := gtb 1109 (by decide +kernel) (by decide +kernel)
theorem vw_M_readOutlet : Cond.selects m_M_readOutlet.y.cls m_M_readOutlet.y m_M_readOutlet.y ∈ GT := gts 16 (by decide +kernel) (by decide +kernel)
def m_M_readPlace : MI := (⟨"FairWallsModel", "readPlace", "()I"⟩, prog_10_method_50_code, 5, (Option.some Jvm.ClassFile.FieldType.int), 5, 0, [])
theorem cw_M_readPlace : codeW m_M_readPlace ∈ GT := gtb 1145 (by decide +kernel) (by decide +kernel)
theorem iw_M_readPlace : Cond.initialized m_M_readPlace.y.cls ∈ GT := gtb 10 (by decide +kernel) (by decide +kernel)
theorem nw_M_readPlace : Cond.instanceMethod m_M_readPlace.y ∈ GT := gtb 1144 (by decide +kernel) (by decide +kernel)
theorem vw_M_readPlace : Cond.selects m_M_readPlace.y.cls m_M_readPlace.y m_M_readPlace.y ∈ GT := gts 21 (by decide +kernel) (by decide +kernel)
def m_M_readRest : MI := (⟨"FairWallsModel", "readRest", "(I)I"⟩, prog_10_method_52_code, 4, (Option.some Jvm.ClassFile.FieldType.int), 6, 0, [])
theorem cw_M_readRest : codeW m_M_readRest ∈ GT := gtb 1186 (by decide +kernel) (by decide +kernel)
theorem iw_M_readRest : Cond.initialized m_M_readRest.y.cls ∈ GT := gtb 10 (by decide +kernel) (by decide +kernel)
theorem nw_M_readRest : Cond.instanceMethod m_M_readRest.y ∈ GT := gtb 1185 (by decide +kernel) (by decide +kernel)
theorem vw_M_readRest : Cond.selects m_M_readRest.y.cls m_M_readRest.y m_M_readRest.y ∈ GT := gts 23 (by decide +kernel) (by decide +kernel)
def m_M_readSwap : MI := (⟨"FairWallsModel", "readSwap", "()I"⟩, prog_10_method_51_code, 4, (Option.some Jvm.ClassFile.FieldType.int), 5, 0, [])
theorem cw_M_readSwap : codeW m_M_readSwap ∈ GT := gtb 1173 (by decide +kernel) (by decide +kernel)
theorem iw_M_readSwap : Cond.initialized m_M_readSwap.y.cls ∈ GT := gtb 10 (by decide +kernel) (by decide +kernel)
theorem nw_M_readSwap : Cond.instanceMethod m_M_readSwap.y ∈ GT := gtb 1172 (by decide +kernel) (by decide +kernel)
theorem vw_M_readSwap : Cond.selects m_M_readSwap.y.cls m_M_readSwap.y m_M_readSwap.y ∈ GT := gts 22 (by decide +kernel) (by decide +kernel)
def m_M_refused : MI := (⟨"FairWallsModel", "refused", "(I)Z"⟩, prog_10_method_3_code, 2, (Option.some Jvm.ClassFile.FieldType.boolean), 0, 0, [])
theorem cw_M_refused : codeW m_M_refused ∈ GT := gtb 1082 (by decide +kernel) (by decide +kernel)
theorem iw_M_refused : Cond.initialized m_M_refused.y.cls ∈ GT := gtb 10 (by decide +kernel) (by decide +kernel)
theorem nw_M_refused : Cond.instanceMethod m_M_refused.y ∈ GT := gtb 1081 (by decide +kernel) (by decide +kernel)
theorem vw_M_refused : Cond.selects m_M_refused.y.cls m_M_refused.y m_M_refused.y ∈ GT := gts 11 (by decide +kernel) (by decide +kernel)
def m_M_remember : MI := (⟨"FairWallsModel", "remember", "()V"⟩, prog_10_method_40_code, 2, (Option.none : Option Jvm.ClassFile.FieldType), 0, 0, [])
theorem cw_M_remember : codeW m_M_remember ∈ GT := gtb 1314 (by decide +kernel) (by decide +kernel)
theorem iw_M_remember : Cond.initialized m_M_remember.y.cls ∈ GT := gtb 10 (by decide +kernel) (by decide +kernel)
theorem nw_M_remember : Cond.instanceMethod m_M_remember.y ∈ GT := gtb 1313 (by decide +kernel) (by decide +kernel)
theorem vw_M_remember : Cond.selects m_M_remember.y.cls m_M_remember.y m_M_remember.y ∈ GT := gts 32 (by decide +kernel) (by decide +kernel)
def m_M_rent : MI := (⟨"FairWallsModel", "rent", "([II)I"⟩, prog_10_method_27_code, 4, (Option.some Jvm.ClassFile.FieldType.int), 4, 0, [])
theorem cw_M_rent : codeW m_M_rent ∈ GT := gtb 1214 (by decide +kernel) (by decide +kernel)
theorem iw_M_rent : Cond.initialized m_M_rent.y.cls ∈ GT := gtb 10 (by decide +kernel) (by decide +kernel)
theorem nw_M_rent : Cond.instanceMethod m_M_rent.y ∈ GT := gtb 1213 (by decide +kernel) (by decide +kernel)
theorem vw_M_rent : Cond.selects m_M_rent.y.cls m_M_rent.y m_M_rent.y ∈ GT := gts 27 (by decide +kernel) (by decide +kernel)
def m_M_rentAt : MI := (⟨"FairWallsModel", "rentAt", "(III)I"⟩, prog_10_method_82_code, 4, (Option.some Jvm.ClassFile.FieldType.int), 5, 0, [])
theorem cw_M_rentAt : codeW m_M_rentAt ∈ GT := gtb 1362 (by decide +kernel) (by decide +kernel)
theorem iw_M_rentAt : Cond.initialized m_M_rentAt.y.cls ∈ GT := gtb 10 (by decide +kernel) (by decide +kernel)
theorem nw_M_rentAt : Cond.instanceMethod m_M_rentAt.y ∈ GT := gtb 1361 (by decide +kernel) (by decide +kernel)
theorem vw_M_rentAt : Cond.selects m_M_rentAt.y.cls m_M_rentAt.y m_M_rentAt.y ∈ GT := gts 33 (by decide +kernel) (by decide +kernel)
def m_M_rentIf : MI := (⟨"FairWallsModel", "rentIf", "(III)I"⟩, prog_10_method_83_code, 4, (Option.some Jvm.ClassFile.FieldType.int), 6, 0, [])
theorem cw_M_rentIf : codeW m_M_rentIf ∈ GT := gtb 1358 (by decide +kernel) (by decide +kernel)
theorem iw_M_rentIf : Cond.initialized m_M_rentIf.y.cls ∈ GT := gtb 10 (by decide +kernel) (by decide +kernel)
theorem nw_M_rentIf : Cond.instanceMethod m_M_rentIf.y ∈ GT := gtb 1356 (by decide +kernel) (by decide +kernel)
theorem vw_M_rentIf : Cond.selects m_M_rentIf.y.cls m_M_rentIf.y m_M_rentIf.y ∈ GT := gtb 1357 (by decide +kernel) (by decide +kernel)
def m_M_rents : MI := (⟨"FairWallsModel", "rents", "([I)I"⟩, prog_10_method_28_code, 4, (Option.some Jvm.ClassFile.FieldType.int), 5, 0, [])
theorem cw_M_rents : codeW m_M_rents ∈ GT := gtb 1269 (by decide +kernel) (by decide +kernel)
theorem iw_M_rents : Cond.initialized m_M_rents.y.cls ∈ GT := gtb 10 (by decide +kernel) (by decide +kernel)
theorem nw_M_rents : Cond.instanceMethod m_M_rents.y ∈ GT := gtb 1268 (by decide +kernel) (by decide +kernel)
theorem vw_M_rents : Cond.selects m_M_rents.y.cls m_M_rents.y m_M_rents.y ∈ GT := gts 31 (by decide +kernel) (by decide +kernel)
def m_M_restore : MI := (⟨"FairWallsModel", "restore", "(I)I"⟩, prog_10_method_100_code, 3, (Option.some Jvm.ClassFile.FieldType.int), 1, 0, [])
theorem cw_M_restore : codeW m_M_restore ∈ GT := gtb 1437 (by decide +kernel) (by decide +kernel)
theorem iw_M_restore : Cond.initialized m_M_restore.y.cls ∈ GT := gtb 10 (by decide +kernel) (by decide +kernel)
theorem nw_M_restore : Cond.instanceMethod m_M_restore.y ∈ GT := gtb 1435 (by decide +kernel) (by decide +kernel)
theorem vw_M_restore : Cond.selects m_M_restore.y.cls m_M_restore.y m_M_restore.y ∈ GT := gtb 1436 (by decide +kernel) (by decide +kernel)
def m_M_runDays : MI := (⟨"FairWallsModel", "runDays", "(I)Z"⟩, prog_10_method_90_code, 2, (Option.some Jvm.ClassFile.FieldType.boolean), 6, 0, [])
theorem cw_M_runDays : codeW m_M_runDays ∈ GT := gtb 1403 (by decide +kernel) (by decide +kernel)
theorem iw_M_runDays : Cond.initialized m_M_runDays.y.cls ∈ GT := gtb 10 (by decide +kernel) (by decide +kernel)
theorem nw_M_runDays : Cond.instanceMethod m_M_runDays.y ∈ GT := gtb 1402 (by decide +kernel) (by decide +kernel)
theorem vw_M_runDays : Cond.selects m_M_runDays.y.cls m_M_runDays.y m_M_runDays.y ∈ GT := gts 38 (by decide +kernel) (by decide +kernel)
def m_M_runLeave : MI := (⟨"FairWallsModel", "runLeave", "(I)Z"⟩, prog_10_method_89_code, 2, (Option.some Jvm.ClassFile.FieldType.boolean), 3, 0, [])
theorem cw_M_runLeave : codeW m_M_runLeave ∈ GT := gtb 1399 (by decide +kernel) (by decide +kernel)
theorem iw_M_runLeave : Cond.initialized m_M_runLeave.y.cls ∈ GT := gtb 10 (by decide +kernel) (by decide +kernel)
theorem nw_M_runLeave : Cond.instanceMethod m_M_runLeave.y ∈ GT := gtb 1398 (by decide +kernel) (by decide +kernel)
theorem vw_M_runLeave : Cond.selects m_M_runLeave.y.cls m_M_runLeave.y m_M_runLeave.y ∈ GT := gts 37 (by decide +kernel) (by decide +kernel)
def m_M_runOutlet : MI := (⟨"FairWallsModel", "runOutlet", "(III)Z"⟩, prog_10_method_92_code, 4, (Option.some Jvm.ClassFile.FieldType.boolean), 3, 0, [])
theorem cw_M_runOutlet : codeW m_M_runOutlet ∈ GT := gtb 1411 (by decide +kernel) (by decide +kernel)
theorem iw_M_runOutlet : Cond.initialized m_M_runOutlet.y.cls ∈ GT := gtb 10 (by decide +kernel) (by decide +kernel)
theorem nw_M_runOutlet : Cond.instanceMethod m_M_runOutlet.y ∈ GT := gtb 1410 (by decide +kernel) (by decide +kernel)
theorem vw_M_runOutlet : Cond.selects m_M_runOutlet.y.cls m_M_runOutlet.y m_M_runOutlet.y ∈ GT := gts 40 (by decide +kernel) (by decide +kernel)
def m_M_runPlace : MI := (⟨"FairWallsModel", "runPlace", "(III)Z"⟩, prog_10_method_87_code, 4, (Option.some Jvm.ClassFile.FieldType.boolean), 5, 0, [])
theorem cw_M_runPlace : codeW m_M_runPlace ∈ GT := gtb 1391 (by decide +kernel) (by decide +kernel)
theorem iw_M_runPlace : Cond.initialized m_M_runPlace.y.cls ∈ GT := gtb 10 (by decide +kernel) (by decide +kernel)
theorem nw_M_runPlace : Cond.instanceMethod m_M_runPlace.y ∈ GT := gtb 1390 (by decide +kernel) (by decide +kernel)
theorem vw_M_runPlace : Cond.selects m_M_runPlace.y.cls m_M_runPlace.y m_M_runPlace.y ∈ GT := gts 35 (by decide +kernel) (by decide +kernel)
def m_M_runScript : MI := (⟨"FairWallsModel", "runScript", "(IJ)I"⟩, prog_10_method_96_code, 5, (Option.some Jvm.ClassFile.FieldType.int), 8, 0, [])
theorem cw_M_runScript : codeW m_M_runScript ∈ GT := gtb 1378 (by decide +kernel) (by decide +kernel)
theorem iw_M_runScript : Cond.initialized m_M_runScript.y.cls ∈ GT := gtb 10 (by decide +kernel) (by decide +kernel)
theorem nw_M_runScript : Cond.instanceMethod m_M_runScript.y ∈ GT := gtb 1376 (by decide +kernel) (by decide +kernel)
theorem vw_M_runScript : Cond.selects m_M_runScript.y.cls m_M_runScript.y m_M_runScript.y ∈ GT := gtb 1377 (by decide +kernel) (by decide +kernel)
def m_M_runSet : MI := (⟨"FairWallsModel", "runSet", "(II)Z"⟩, prog_10_method_91_code, 3, (Option.some Jvm.ClassFile.FieldType.boolean), 2, 0, [])
theorem cw_M_runSet : codeW m_M_runSet ∈ GT := gtb 1407 (by decide +kernel) (by decide +kernel)
theorem iw_M_runSet : Cond.initialized m_M_runSet.y.cls ∈ GT := gtb 10 (by decide +kernel) (by decide +kernel)
theorem nw_M_runSet : Cond.instanceMethod m_M_runSet.y ∈ GT := gtb 1406 (by decide +kernel) (by decide +kernel)
theorem vw_M_runSet : Cond.selects m_M_runSet.y.cls m_M_runSet.y m_M_runSet.y ∈ GT := gts 39 (by decide +kernel) (by decide +kernel)
def m_M_runSwap : MI := (⟨"FairWallsModel", "runSwap", "(II)Z"⟩, prog_10_method_88_code, 3, (Option.some Jvm.ClassFile.FieldType.boolean), 5, 0, [])
theorem cw_M_runSwap : codeW m_M_runSwap ∈ GT := gtb 1395 (by decide +kernel) (by decide +kernel)
theorem iw_M_runSwap : Cond.initialized m_M_runSwap.y.cls ∈ GT := gtb 10 (by decide +kernel) (by decide +kernel)
theorem nw_M_runSwap : Cond.instanceMethod m_M_runSwap.y ∈ GT := gtb 1394 (by decide +kernel) (by decide +kernel)
theorem vw_M_runSwap : Cond.selects m_M_runSwap.y.cls m_M_runSwap.y m_M_runSwap.y ∈ GT := gts 36 (by decide +kernel) (by decide +kernel)
def m_M_save : MI := (⟨"FairWallsModel", "save", "(I)I"⟩, prog_10_method_99_code, 3, (Option.some Jvm.ClassFile.FieldType.int), 1, 0, [])
theorem cw_M_save : codeW m_M_save ∈ GT := gtb 1433 (by decide +kernel) (by decide +kernel)
theorem iw_M_save : Cond.initialized m_M_save.y.cls ∈ GT := gtb 10 (by decide +kernel) (by decide +kernel)
theorem nw_M_save : Cond.instanceMethod m_M_save.y ∈ GT := gtb 1431 (by decide +kernel) (by decide +kernel)
theorem vw_M_save : Cond.selects m_M_save.y.cls m_M_save.y m_M_save.y ∈ GT := gtb 1432 (by decide +kernel) (by decide +kernel)
def m_M_set : MI := (⟨"FairWallsModel", "set", "(II)I"⟩, prog_10_method_80_code, 3, (Option.some Jvm.ClassFile.FieldType.int), 2, 0, [])
theorem cw_M_set : codeW m_M_set ∈ GT := gtb 1350 (by decide +kernel) (by decide +kernel)
theorem iw_M_set : Cond.initialized m_M_set.y.cls ∈ GT := gtb 10 (by decide +kernel) (by decide +kernel)
theorem nw_M_set : Cond.instanceMethod m_M_set.y ∈ GT := gtb 1348 (by decide +kernel) (by decide +kernel)
theorem vw_M_set : Cond.selects m_M_set.y.cls m_M_set.y m_M_set.y ∈ GT := gtb 1349 (by decide +kernel) (by decide +kernel)
def m_M_setting : MI := (⟨"FairWallsModel", "setting", "(I)I"⟩, prog_10_method_69_code, 2, (Option.some Jvm.ClassFile.FieldType.int), 1, 0, [])
theorem cw_M_setting : codeW m_M_setting ∈ GT := gtb 1294 (by decide +kernel) (by decide +kernel)
theorem iw_M_setting : Cond.initialized m_M_setting.y.cls ∈ GT := gtb 10 (by decide +kernel) (by decide +kernel)
theorem nw_M_setting : Cond.instanceMethod m_M_setting.y ∈ GT := gtb 1292 (by decide +kernel) (by decide +kernel)
theorem vw_M_setting : Cond.selects m_M_setting.y.cls m_M_setting.y m_M_setting.y ∈ GT := gtb 1293 (by decide +kernel) (by decide +kernel)
def m_M_share : MI := (⟨"FairWallsModel", "share", "([I)V"⟩, prog_10_method_22_code, 5, (Option.none : Option Jvm.ClassFile.FieldType), 3, 0, [])
theorem cw_M_share : codeW m_M_share ∈ GT := gtb 1200 (by decide +kernel) (by decide +kernel)
theorem iw_M_share : Cond.initialized m_M_share.y.cls ∈ GT := gtb 10 (by decide +kernel) (by decide +kernel)
theorem nw_M_share : Cond.instanceMethod m_M_share.y ∈ GT := gtb 1199 (by decide +kernel) (by decide +kernel)
theorem vw_M_share : Cond.selects m_M_share.y.cls m_M_share.y m_M_share.y ∈ GT := gts 25 (by decide +kernel) (by decide +kernel)
def m_M_simulate : MI := (⟨"FairWallsModel", "simulate", "(JI)I"⟩, prog_10_method_98_code, 7, (Option.some Jvm.ClassFile.FieldType.int), 8, 0, [])
theorem cw_M_simulate : codeW m_M_simulate ∈ GT := gtb 1423 (by decide +kernel) (by decide +kernel)
theorem iw_M_simulate : Cond.initialized m_M_simulate.y.cls ∈ GT := gtb 10 (by decide +kernel) (by decide +kernel)
theorem nw_M_simulate : Cond.instanceMethod m_M_simulate.y ∈ GT := gtb 1421 (by decide +kernel) (by decide +kernel)
theorem vw_M_simulate : Cond.selects m_M_simulate.y.cls m_M_simulate.y m_M_simulate.y ∈ GT := gtb 1422 (by decide +kernel) (by decide +kernel)
def m_M_size : MI := (⟨"FairWallsModel", "size", "([II)I"⟩, prog_10_method_16_code, 2, (Option.some Jvm.ClassFile.FieldType.int), 0, 0, [])
theorem cw_M_size : codeW m_M_size ∈ GT := gtb 1157 (by decide +kernel) (by decide +kernel)
theorem iw_M_size : Cond.initialized m_M_size.y.cls ∈ GT := gtb 10 (by decide +kernel) (by decide +kernel)
theorem sw_M_size : Cond.static m_M_size.y ∈ GT := gtb 1156 (by decide +kernel) (by decide +kernel)
def m_M_spot : MI := (⟨"FairWallsModel", "spot", "(I)I"⟩, prog_10_method_14_code, 1, (Option.some Jvm.ClassFile.FieldType.int), 0, 0, [])
theorem cw_M_spot : codeW m_M_spot ∈ GT := gtb 1141 (by decide +kernel) (by decide +kernel)
theorem iw_M_spot : Cond.initialized m_M_spot.y.cls ∈ GT := gtb 10 (by decide +kernel) (by decide +kernel)
theorem sw_M_spot : Cond.static m_M_spot.y ∈ GT := gtb 1140 (by decide +kernel) (by decide +kernel)
def m_M_stand : MI := (⟨"FairWallsModel", "stand", "([IIII)V"⟩, prog_10_method_32_code, 4, (Option.none : Option Jvm.ClassFile.FieldType), 1, 0, [])
theorem cw_M_stand : codeW m_M_stand ∈ GT := gtb 1169 (by decide +kernel) (by decide +kernel)
theorem iw_M_stand : Cond.initialized m_M_stand.y.cls ∈ GT := gtb 10 (by decide +kernel) (by decide +kernel)
theorem sw_M_stand : Cond.static m_M_stand.y ∈ GT := gtb 1168 (by decide +kernel) (by decide +kernel)
def m_M_standing : MI := (⟨"FairWallsModel", "standing", "([I)I"⟩, prog_10_method_60_code, 3, (Option.some Jvm.ClassFile.FieldType.int), 2, 0, [])
theorem cw_M_standing : codeW m_M_standing ∈ GT := gtb 1248 (by decide +kernel) (by decide +kernel)
theorem iw_M_standing : Cond.initialized m_M_standing.y.cls ∈ GT := gtb 10 (by decide +kernel) (by decide +kernel)
theorem sw_M_standing : Cond.static m_M_standing.y ∈ GT := gtb 1247 (by decide +kernel) (by decide +kernel)
def m_M_stands : MI := (⟨"FairWallsModel", "stands", "([II)Z"⟩, prog_10_method_15_code, 2, (Option.some Jvm.ClassFile.FieldType.boolean), 1, 0, [])
theorem cw_M_stands : codeW m_M_stands ∈ GT := gtb 1154 (by decide +kernel) (by decide +kernel)
theorem iw_M_stands : Cond.initialized m_M_stands.y.cls ∈ GT := gtb 10 (by decide +kernel) (by decide +kernel)
theorem sw_M_stands : Cond.static m_M_stands.y ∈ GT := gtb 1153 (by decide +kernel) (by decide +kernel)
def m_M_standsAt : MI := (⟨"FairWallsModel", "standsAt", "([III)I"⟩, prog_10_method_18_code, 5, (Option.some Jvm.ClassFile.FieldType.int), 1, 0, [])
theorem cw_M_standsAt : codeW m_M_standsAt ∈ GT := gtb 1163 (by decide +kernel) (by decide +kernel)
theorem iw_M_standsAt : Cond.initialized m_M_standsAt.y.cls ∈ GT := gtb 10 (by decide +kernel) (by decide +kernel)
theorem sw_M_standsAt : Cond.static m_M_standsAt.y ∈ GT := gtb 1162 (by decide +kernel) (by decide +kernel)
def m_M_stir : MI := (⟨"FairWallsModel", "stir", "(I)V"⟩, prog_10_method_97_code, 4, (Option.none : Option Jvm.ClassFile.FieldType), 7, 0, [])
theorem cw_M_stir : codeW m_M_stir ∈ GT := gtb 1429 (by decide +kernel) (by decide +kernel)
theorem iw_M_stir : Cond.initialized m_M_stir.y.cls ∈ GT := gtb 10 (by decide +kernel) (by decide +kernel)
theorem nw_M_stir : Cond.instanceMethod m_M_stir.y ∈ GT := gtb 1428 (by decide +kernel) (by decide +kernel)
theorem vw_M_stir : Cond.selects m_M_stir.y.cls m_M_stir.y m_M_stir.y ∈ GT := gts 43 (by decide +kernel) (by decide +kernel)
def m_M_sumDealers : MI := (⟨"FairWallsModel", "sumDealers", "(I)I"⟩, prog_10_method_62_code, 4, (Option.some Jvm.ClassFile.FieldType.int), 4, 0, [])
theorem cw_M_sumDealers : codeW m_M_sumDealers ∈ GT := gtb 1265 (by decide +kernel) (by decide +kernel)
theorem iw_M_sumDealers : Cond.initialized m_M_sumDealers.y.cls ∈ GT := gtb 10 (by decide +kernel) (by decide +kernel)
theorem nw_M_sumDealers : Cond.instanceMethod m_M_sumDealers.y ∈ GT := gtb 1264 (by decide +kernel) (by decide +kernel)
theorem vw_M_sumDealers : Cond.selects m_M_sumDealers.y.cls m_M_sumDealers.y m_M_sumDealers.y ∈ GT := gts 30 (by decide +kernel) (by decide +kernel)
def m_M_sumWalls : MI := (⟨"FairWallsModel", "sumWalls", "(I)I"⟩, prog_10_method_61_code, 4, (Option.some Jvm.ClassFile.FieldType.int), 3, 0, [])
theorem cw_M_sumWalls : codeW m_M_sumWalls ∈ GT := gtb 1255 (by decide +kernel) (by decide +kernel)
theorem iw_M_sumWalls : Cond.initialized m_M_sumWalls.y.cls ∈ GT := gtb 10 (by decide +kernel) (by decide +kernel)
theorem nw_M_sumWalls : Cond.instanceMethod m_M_sumWalls.y ∈ GT := gtb 1254 (by decide +kernel) (by decide +kernel)
theorem vw_M_sumWalls : Cond.selects m_M_sumWalls.y.cls m_M_sumWalls.y m_M_sumWalls.y ∈ GT := gts 29 (by decide +kernel) (by decide +kernel)
def m_M_swap : MI := (⟨"FairWallsModel", "swap", "(II)I"⟩, prog_10_method_78_code, 3, (Option.some Jvm.ClassFile.FieldType.int), 5, 0, [])
theorem cw_M_swap : codeW m_M_swap ∈ GT := gtb 1338 (by decide +kernel) (by decide +kernel)
theorem iw_M_swap : Cond.initialized m_M_swap.y.cls ∈ GT := gtb 10 (by decide +kernel) (by decide +kernel)
theorem nw_M_swap : Cond.instanceMethod m_M_swap.y ∈ GT := gtb 1336 (by decide +kernel) (by decide +kernel)
theorem vw_M_swap : Cond.selects m_M_swap.y.cls m_M_swap.y m_M_swap.y ∈ GT := gtb 1337 (by decide +kernel) (by decide +kernel)
def m_M_take : MI := (⟨"FairWallsModel", "take", "(Z)V"⟩, prog_10_method_44_code, 2, (Option.none : Option Jvm.ClassFile.FieldType), 0, 0, [])
theorem cw_M_take : codeW m_M_take ∈ GT := gtb 1102 (by decide +kernel) (by decide +kernel)
theorem iw_M_take : Cond.initialized m_M_take.y.cls ∈ GT := gtb 10 (by decide +kernel) (by decide +kernel)
theorem nw_M_take : Cond.instanceMethod m_M_take.y ∈ GT := gtb 1101 (by decide +kernel) (by decide +kernel)
theorem vw_M_take : Cond.selects m_M_take.y.cls m_M_take.y m_M_take.y ∈ GT := gts 14 (by decide +kernel) (by decide +kernel)
def m_M_tens : MI := (⟨"FairWallsModel", "tens", "(I)J"⟩, prog_10_method_5_code, 4, (Option.some Jvm.ClassFile.FieldType.long), 0, 0, [])
theorem cw_M_tens : codeW m_M_tens ∈ GT := gtb 1381 (by decide +kernel) (by decide +kernel)
theorem iw_M_tens : Cond.initialized m_M_tens.y.cls ∈ GT := gtb 10 (by decide +kernel) (by decide +kernel)
theorem sw_M_tens : Cond.static m_M_tens.y ∈ GT := gtb 1380 (by decide +kernel) (by decide +kernel)
def m_M_thrown : MI := (⟨"FairWallsModel", "thrown", "()I"⟩, prog_10_method_2_code, 1, (Option.some Jvm.ClassFile.FieldType.int), 0, 0, [])
theorem cw_M_thrown : codeW m_M_thrown ∈ GT := gtb 1070 (by decide +kernel) (by decide +kernel)
theorem iw_M_thrown : Cond.initialized m_M_thrown.y.cls ∈ GT := gtb 10 (by decide +kernel) (by decide +kernel)
theorem nw_M_thrown : Cond.instanceMethod m_M_thrown.y ∈ GT := gtb 1068 (by decide +kernel) (by decide +kernel)
theorem vw_M_thrown : Cond.selects m_M_thrown.y.cls m_M_thrown.y m_M_thrown.y ∈ GT := gtb 1069 (by decide +kernel) (by decide +kernel)
def m_M_two : MI := (⟨"FairWallsModel", "two", "(II)I"⟩, prog_10_method_46_code, 4, (Option.some Jvm.ClassFile.FieldType.int), 2, 0, [])
theorem cw_M_two : codeW m_M_two ∈ GT := gtb 1118 (by decide +kernel) (by decide +kernel)
theorem iw_M_two : Cond.initialized m_M_two.y.cls ∈ GT := gtb 10 (by decide +kernel) (by decide +kernel)
theorem nw_M_two : Cond.instanceMethod m_M_two.y ∈ GT := gtb 1117 (by decide +kernel) (by decide +kernel)
theorem vw_M_two : Cond.selects m_M_two.y.cls m_M_two.y m_M_two.y ∈ GT := gts 18 (by decide +kernel) (by decide +kernel)
def m_M_undo : MI := (⟨"FairWallsModel", "undo", "()I"⟩, prog_10_method_81_code, 2, (Option.some Jvm.ClassFile.FieldType.int), 1, 0, [])
theorem cw_M_undo : codeW m_M_undo ∈ GT := gtb 1354 (by decide +kernel) (by decide +kernel)
theorem iw_M_undo : Cond.initialized m_M_undo.y.cls ∈ GT := gtb 10 (by decide +kernel) (by decide +kernel)
theorem nw_M_undo : Cond.instanceMethod m_M_undo.y ∈ GT := gtb 1352 (by decide +kernel) (by decide +kernel)
theorem vw_M_undo : Cond.selects m_M_undo.y.cls m_M_undo.y m_M_undo.y ∈ GT := gtb 1353 (by decide +kernel) (by decide +kernel)
def m_M_wall : MI := (⟨"FairWallsModel", "wall", "(I)I"⟩, prog_10_method_72_code, 2, (Option.some Jvm.ClassFile.FieldType.int), 2, 0, [])
theorem cw_M_wall : codeW m_M_wall ∈ GT := gtb 1305 (by decide +kernel) (by decide +kernel)
theorem iw_M_wall : Cond.initialized m_M_wall.y.cls ∈ GT := gtb 10 (by decide +kernel) (by decide +kernel)
theorem nw_M_wall : Cond.instanceMethod m_M_wall.y ∈ GT := gtb 1303 (by decide +kernel) (by decide +kernel)
theorem vw_M_wall : Cond.selects m_M_wall.y.cls m_M_wall.y m_M_wall.y ∈ GT := gtb 1304 (by decide +kernel) (by decide +kernel)
def m_M_wallOf : MI := (⟨"FairWallsModel", "wallOf", "(II)I"⟩, prog_10_method_65_code, 5, (Option.some Jvm.ClassFile.FieldType.int), 4, 0, [])
theorem cw_M_wallOf : codeW m_M_wallOf ∈ GT := gtb 1273 (by decide +kernel) (by decide +kernel)
theorem iw_M_wallOf : Cond.initialized m_M_wallOf.y.cls ∈ GT := gtb 10 (by decide +kernel) (by decide +kernel)
theorem nw_M_wallOf : Cond.instanceMethod m_M_wallOf.y ∈ GT := gtb 1271 (by decide +kernel) (by decide +kernel)
theorem vw_M_wallOf : Cond.selects m_M_wallOf.y.cls m_M_wallOf.y m_M_wallOf.y ∈ GT := gtb 1272 (by decide +kernel) (by decide +kernel)
def m_M_why : MI := (⟨"FairWallsModel", "why", "(II)I"⟩, prog_10_method_86_code, 3, (Option.some Jvm.ClassFile.FieldType.int), 4, 0, [])
theorem cw_M_why : codeW m_M_why ∈ GT := gtb 1374 (by decide +kernel) (by decide +kernel)
theorem iw_M_why : Cond.initialized m_M_why.y.cls ∈ GT := gtb 10 (by decide +kernel) (by decide +kernel)
theorem nw_M_why : Cond.instanceMethod m_M_why.y ∈ GT := gtb 1372 (by decide +kernel) (by decide +kernel)
theorem vw_M_why : Cond.selects m_M_why.y.cls m_M_why.y m_M_why.y ∈ GT := gtb 1373 (by decide +kernel) (by decide +kernel)
def m_M_whyNoPlace : MI := (⟨"FairWallsModel", "whyNoPlace", "([IIII)I"⟩, prog_10_method_33_code, 4, (Option.some Jvm.ClassFile.FieldType.int), 3, 0, [])
theorem cw_M_whyNoPlace : codeW m_M_whyNoPlace ∈ GT := gtb 1151 (by decide +kernel) (by decide +kernel)
theorem iw_M_whyNoPlace : Cond.initialized m_M_whyNoPlace.y.cls ∈ GT := gtb 10 (by decide +kernel) (by decide +kernel)
theorem sw_M_whyNoPlace : Cond.static m_M_whyNoPlace.y ∈ GT := gtb 1150 (by decide +kernel) (by decide +kernel)
def m_M_whyNoSwap : MI := (⟨"FairWallsModel", "whyNoSwap", "([III)I"⟩, prog_10_method_37_code, 8, (Option.some Jvm.ClassFile.FieldType.int), 3, 0, [])
theorem cw_M_whyNoSwap : codeW m_M_whyNoSwap ∈ GT := gtb 1176 (by decide +kernel) (by decide +kernel)
theorem iw_M_whyNoSwap : Cond.initialized m_M_whyNoSwap.y.cls ∈ GT := gtb 10 (by decide +kernel) (by decide +kernel)
theorem sw_M_whyNoSwap : Cond.static m_M_whyNoSwap.y ∈ GT := gtb 1175 (by decide +kernel) (by decide +kernel)
def m_J_floorMod : MI := (⟨"java/lang/Math", "floorMod", "(II)I"⟩, prog_16_method_50_code, 3, (Option.some Jvm.ClassFile.FieldType.int), 0, 0, [])
theorem cw_J_floorMod : codeW m_J_floorMod ∈ GT := gtb 819 (by decide +kernel) (by decide +kernel)
theorem iw_J_floorMod : Cond.initialized m_J_floorMod.y.cls ∈ GT := gtb 18 (by decide +kernel) (by decide +kernel)
theorem sw_J_floorMod : Cond.static m_J_floorMod.y ∈ GT := gtb 818 (by decide +kernel) (by decide +kernel)
def m_J_max : MI := (⟨"java/lang/Math", "max", "(II)I"⟩, prog_16_method_65_code, 2, (Option.some Jvm.ClassFile.FieldType.int), 0, 0, [])
theorem cw_J_max : codeW m_J_max ∈ GT := gtb 293 (by decide +kernel) (by decide +kernel)
theorem iw_J_max : Cond.initialized m_J_max.y.cls ∈ GT := gtb 18 (by decide +kernel) (by decide +kernel)
theorem sw_J_max : Cond.static m_J_max.y ∈ GT := gtb 292 (by decide +kernel) (by decide +kernel)
def m_J_min : MI := (⟨"java/lang/Math", "min", "(II)I"⟩, prog_16_method_69_code, 2, (Option.some Jvm.ClassFile.FieldType.int), 0, 0, [])
theorem cw_J_min : codeW m_J_min ∈ GT := gtb 296 (by decide +kernel) (by decide +kernel)
theorem iw_J_min : Cond.initialized m_J_min.y.cls ∈ GT := gtb 18 (by decide +kernel) (by decide +kernel)
theorem sw_J_min : Cond.static m_J_min.y ∈ GT := gtb 295 (by decide +kernel) (by decide +kernel)
def m_Z_indexOf : MI := (⟨"java/lang/String", "indexOf", "(I)I"⟩, prog_18_method_79_code, 2, (Option.some Jvm.ClassFile.FieldType.int), 5, 0, [])
theorem cw_Z_indexOf : codeW m_Z_indexOf ∈ GT := gtb 266 (by decide +kernel) (by decide +kernel)
theorem iw_Z_indexOf : Cond.initialized m_Z_indexOf.y.cls ∈ GT := gtb 16 (by decide +kernel) (by decide +kernel)
theorem nw_Z_indexOf : Cond.instanceMethod m_Z_indexOf.y ∈ GT := gtb 264 (by decide +kernel) (by decide +kernel)
theorem vw_Z_indexOf : Cond.selects m_Z_indexOf.y.cls m_Z_indexOf.y m_Z_indexOf.y ∈ GT := gtb 265 (by decide +kernel) (by decide +kernel)
def m_R_fill : MI := (⟨"java/util/Arrays", "fill", "([II)V"⟩, prog_23_method_103_code, 4, (Option.none : Option Jvm.ClassFile.FieldType), 0, 0, [])
theorem cw_R_fill : codeW m_R_fill ∈ GT := gtb 50 (by decide +kernel) (by decide +kernel)
theorem iw_R_fill : Cond.initialized m_R_fill.y.cls ∈ GT := gtb 4 (by decide +kernel) (by decide +kernel)
theorem sw_R_fill : Cond.static m_R_fill.y ∈ GT := gtb 49 (by decide +kernel) (by decide +kernel)
theorem ws_F_44 : WS "FairWalls" 44 m_F_inRange 3 := ⟨⟨gtb 369 (by decide +kernel) (by decide +kernel), iw_F_inRange, cw_F_inRange, rfl, by decide +kernel, by decide +kernel⟩, sw_F_inRange⟩
theorem ws_F_48 : WS "FairWalls" 48 m_F_needArgument 1 := ⟨⟨gtb 372 (by decide +kernel) (by decide +kernel), iw_F_needArgument, cw_F_needArgument, rfl, by decide +kernel, by decide +kernel⟩, sw_F_needArgument⟩
theorem wv_F_52 : WV "FairWalls" 52 m_T_size 0 := ⟨⟨gtb 442 (by decide +kernel) (by decide +kernel), iw_T_size, cw_T_size, rfl, by decide +kernel, by decide +kernel⟩, nw_T_size, vw_T_size⟩
theorem ws_F_56 : WS "FairWalls" 56 m_F_needState 1 := ⟨⟨gtb 446 (by decide +kernel) (by decide +kernel), iw_F_needState, cw_F_needState, rfl, by decide +kernel, by decide +kernel⟩, sw_F_needState⟩
theorem wv_F_59 : WV "FairWalls" 59 m_T_add 1 := ⟨⟨gtb 465 (by decide +kernel) (by decide +kernel), iw_T_add, cw_T_add, rfl, by decide +kernel, by decide +kernel⟩, nw_T_add, vw_T_add⟩
theorem wv_F_63 : WV "FairWalls" 63 m_T_empty 0 := ⟨⟨gtb 242 (by decide +kernel) (by decide +kernel), iw_T_empty, cw_T_empty, rfl, by decide +kernel, by decide +kernel⟩, nw_T_empty, vw_T_empty⟩
theorem wv_F_66 : WV "FairWalls" 66 m_T_firstError 0 := ⟨⟨gtb 250 (by decide +kernel) (by decide +kernel), iw_T_firstError, cw_T_firstError, rfl, by decide +kernel, by decide +kernel⟩, nw_T_firstError, vw_T_firstError⟩
theorem wv_F_69 : WV "FairWalls" 69 m_A_startAnew 0 := ⟨⟨gtb 476 (by decide +kernel) (by decide +kernel), iw_A_startAnew, cw_A_startAnew, rfl, by decide +kernel, by decide +kernel⟩, nw_A_startAnew, vw_A_startAnew⟩
theorem wv_F_72 : WV "FairWalls" 72 m_P_forget 0 := ⟨⟨gtb 506 (by decide +kernel) (by decide +kernel), iw_P_forget, cw_P_forget, rfl, by decide +kernel, by decide +kernel⟩, nw_P_forget, vw_P_forget⟩
theorem wv_F_75 : WV "FairWalls" 75 m_L_forget 0 := ⟨⟨gtb 510 (by decide +kernel) (by decide +kernel), iw_L_forget, cw_L_forget, rfl, by decide +kernel, by decide +kernel⟩, nw_L_forget, vw_L_forget⟩
theorem wv_F_76 : WV "FairWalls" 76 m_T_goToCommands 0 := ⟨⟨gtb 514 (by decide +kernel) (by decide +kernel), iw_T_goToCommands, cw_T_goToCommands, rfl, by decide +kernel, by decide +kernel⟩, nw_T_goToCommands, vw_T_goToCommands⟩
theorem wv_F_79 : WV "FairWalls" 79 m_T_readCommand 0 := ⟨⟨gtb 515 (by decide +kernel) (by decide +kernel), iw_T_readCommand, cw_T_readCommand, rfl, by decide +kernel, by decide +kernel⟩, nw_T_readCommand, vw_T_readCommand⟩
theorem ws_F_83 : WS "FairWalls" 83 m_C_obeyCommand 2 := ⟨⟨gtb 516 (by decide +kernel) (by decide +kernel), iw_C_obeyCommand, cw_C_obeyCommand, rfl, by decide +kernel, by decide +kernel⟩, sw_C_obeyCommand⟩
theorem wv_F_102 : WV "FairWalls" 102 m_A_standing 0 := ⟨⟨gtb 642 (by decide +kernel) (by decide +kernel), iw_A_standing, cw_A_standing, rfl, by decide +kernel, by decide +kernel⟩, nw_A_standing, vw_A_standing⟩
theorem wv_F_105 : WV "FairWalls" 105 m_A_allMetres 0 := ⟨⟨gtb 646 (by decide +kernel) (by decide +kernel), iw_A_allMetres, cw_A_allMetres, rfl, by decide +kernel, by decide +kernel⟩, nw_A_allMetres, vw_A_allMetres⟩
theorem wv_F_108 : WV "FairWalls" 108 m_A_allFreeMetres 0 := ⟨⟨gtb 650 (by decide +kernel) (by decide +kernel), iw_A_allFreeMetres, cw_A_allFreeMetres, rfl, by decide +kernel, by decide +kernel⟩, nw_A_allFreeMetres, vw_A_allFreeMetres⟩
theorem wv_F_111 : WV "FairWalls" 111 m_A_allPlugs 0 := ⟨⟨gtb 662 (by decide +kernel) (by decide +kernel), iw_A_allPlugs, cw_A_allPlugs, rfl, by decide +kernel, by decide +kernel⟩, nw_A_allPlugs, vw_A_allPlugs⟩
theorem wv_F_114 : WV "FairWalls" 114 m_A_allPlugsHad 0 := ⟨⟨gtb 675 (by decide +kernel) (by decide +kernel), iw_A_allPlugsHad, cw_A_allPlugsHad, rfl, by decide +kernel, by decide +kernel⟩, nw_A_allPlugsHad, vw_A_allPlugsHad⟩
theorem wv_F_117 : WV "FairWalls" 117 m_A_allPlugsLacking 0 := ⟨⟨gtb 679 (by decide +kernel) (by decide +kernel), iw_A_allPlugsLacking, cw_A_allPlugsLacking, rfl, by decide +kernel, by decide +kernel⟩, nw_A_allPlugsLacking, vw_A_allPlugsLacking⟩
theorem wv_F_120 : WV "FairWalls" 120 m_A_rents 0 := ⟨⟨gtb 683 (by decide +kernel) (by decide +kernel), iw_A_rents, cw_A_rents, rfl, by decide +kernel, by decide +kernel⟩, nw_A_rents, vw_A_rents⟩
theorem wv_F_123 : WV "FairWalls" 123 m_A_allOwed 0 := ⟨⟨gtb 687 (by decide +kernel) (by decide +kernel), iw_A_allOwed, cw_A_allOwed, rfl, by decide +kernel, by decide +kernel⟩, nw_A_allOwed, vw_A_allOwed⟩
theorem wv_F_135 : WV "FairWalls" 135 m_A_rivalPairs 0 := ⟨⟨gtb 691 (by decide +kernel) (by decide +kernel), iw_A_rivalPairs, cw_A_rivalPairs, rfl, by decide +kernel, by decide +kernel⟩, nw_A_rivalPairs, vw_A_rivalPairs⟩
theorem wv_F_138 : WV "FairWalls" 138 m_S_hasWall 1 := ⟨⟨gtb 703 (by decide +kernel) (by decide +kernel), iw_S_hasWall, cw_S_hasWall, rfl, by decide +kernel, by decide +kernel⟩, nw_S_hasWall, vw_S_hasWall⟩
theorem ws_F_142 : WS "FairWalls" 142 m_F_needExists 1 := ⟨⟨gtb 704 (by decide +kernel) (by decide +kernel), iw_F_needExists, cw_F_needExists, rfl, by decide +kernel, by decide +kernel⟩, sw_F_needExists⟩
theorem wv_F_145 : WV "FairWalls" 145 m_S_lengthOf 1 := ⟨⟨gtb 723 (by decide +kernel) (by decide +kernel), iw_S_lengthOf, cw_S_lengthOf, rfl, by decide +kernel, by decide +kernel⟩, nw_S_lengthOf, vw_S_lengthOf⟩
theorem wv_F_149 : WV "FairWalls" 149 m_A_standingAt 1 := ⟨⟨gtb 724 (by decide +kernel) (by decide +kernel), iw_A_standingAt, cw_A_standingAt, rfl, by decide +kernel, by decide +kernel⟩, nw_A_standingAt, vw_A_standingAt⟩
theorem wv_F_152 : WV "FairWalls" 152 m_A_plugsAt 1 := ⟨⟨gtb 728 (by decide +kernel) (by decide +kernel), iw_A_plugsAt, cw_A_plugsAt, rfl, by decide +kernel, by decide +kernel⟩, nw_A_plugsAt, vw_A_plugsAt⟩
theorem wv_F_155 : WV "FairWalls" 155 m_A_plugsHadAt 1 := ⟨⟨gtb 729 (by decide +kernel) (by decide +kernel), iw_A_plugsHadAt, cw_A_plugsHadAt, rfl, by decide +kernel, by decide +kernel⟩, nw_A_plugsHadAt, vw_A_plugsHadAt⟩
theorem wv_F_158 : WV "FairWalls" 158 m_A_longestFreeRow 1 := ⟨⟨gtb 737 (by decide +kernel) (by decide +kernel), iw_A_longestFreeRow, cw_A_longestFreeRow, rfl, by decide +kernel, by decide +kernel⟩, nw_A_longestFreeRow, vw_A_longestFreeRow⟩
theorem wv_F_161 : WV "FairWalls" 161 m_A_startOfLongestFreeRow 1 := ⟨⟨gtb 741 (by decide +kernel) (by decide +kernel), iw_A_startOfLongestFreeRow, cw_A_startOfLongestFreeRow, rfl, by decide +kernel, by decide +kernel⟩, nw_A_startOfLongestFreeRow, vw_A_startOfLongestFreeRow⟩
theorem wv_F_164 : WV "FairWalls" 164 m_S_hasMetre 2 := ⟨⟨gtb 753 (by decide +kernel) (by decide +kernel), iw_S_hasMetre, cw_S_hasMetre, rfl, by decide +kernel, by decide +kernel⟩, nw_S_hasMetre, vw_S_hasMetre⟩
theorem wv_F_168 : WV "FairWalls" 168 m_S_plugsOf 2 := ⟨⟨gtb 754 (by decide +kernel) (by decide +kernel), iw_S_plugsOf, cw_S_plugsOf, rfl, by decide +kernel, by decide +kernel⟩, nw_S_plugsOf, vw_S_plugsOf⟩
theorem wv_F_176 : WV "FairWalls" 176 m_W_takenFrom 2 := ⟨⟨gtb 755 (by decide +kernel) (by decide +kernel), iw_W_takenFrom, cw_W_takenFrom, rfl, by decide +kernel, by decide +kernel⟩, nw_W_takenFrom, vw_W_takenFrom⟩
theorem wv_F_181 : WV "FairWalls" 181 m_A_whoStandsAt 2 := ⟨⟨gtb 756 (by decide +kernel) (by decide +kernel), iw_A_whoStandsAt, cw_A_whoStandsAt, rfl, by decide +kernel, by decide +kernel⟩, nw_A_whoStandsAt, vw_A_whoStandsAt⟩
theorem wv_F_184 : WV "FairWalls" 184 m_S_hasDealer 1 := ⟨⟨gtb 764 (by decide +kernel) (by decide +kernel), iw_S_hasDealer, cw_S_hasDealer, rfl, by decide +kernel, by decide +kernel⟩, nw_S_hasDealer, vw_S_hasDealer⟩
theorem wv_F_202 : WV "FairWalls" 202 m_W_plugsHad 1 := ⟨⟨gtb 765 (by decide +kernel) (by decide +kernel), iw_W_plugsHad, cw_W_plugsHad, rfl, by decide +kernel, by decide +kernel⟩, nw_W_plugsHad, vw_W_plugsHad⟩
theorem wv_F_205 : WV "FairWalls" 205 m_A_plugsLacking 1 := ⟨⟨gtb 766 (by decide +kernel) (by decide +kernel), iw_A_plugsLacking, cw_A_plugsLacking, rfl, by decide +kernel, by decide +kernel⟩, nw_A_plugsLacking, vw_A_plugsLacking⟩
theorem wv_F_208 : WV "FairWalls" 208 m_A_rentOf 1 := ⟨⟨gtb 767 (by decide +kernel) (by decide +kernel), iw_A_rentOf, cw_A_rentOf, rfl, by decide +kernel, by decide +kernel⟩, nw_A_rentOf, vw_A_rentOf⟩
theorem wv_F_214 : WV "FairWalls" 214 m_A_endsOf 1 := ⟨⟨gtb 768 (by decide +kernel) (by decide +kernel), iw_A_endsOf, cw_A_endsOf, rfl, by decide +kernel, by decide +kernel⟩, nw_A_endsOf, vw_A_endsOf⟩
theorem wv_F_217 : WV "FairWalls" 217 m_A_neighbours 1 := ⟨⟨gtb 769 (by decide +kernel) (by decide +kernel), iw_A_neighbours, cw_A_neighbours, rfl, by decide +kernel, by decide +kernel⟩, nw_A_neighbours, vw_A_neighbours⟩
theorem wv_F_220 : WV "FairWalls" 220 m_A_rivals 1 := ⟨⟨gtb 773 (by decide +kernel) (by decide +kernel), iw_A_rivals, cw_A_rivals, rfl, by decide +kernel, by decide +kernel⟩, nw_A_rivals, vw_A_rivals⟩
theorem wv_F_223 : WV "FairWalls" 223 m_W_metreOfPlug 2 := ⟨⟨gtb 781 (by decide +kernel) (by decide +kernel), iw_W_metreOfPlug, cw_W_metreOfPlug, rfl, by decide +kernel, by decide +kernel⟩, nw_W_metreOfPlug, vw_W_metreOfPlug⟩
theorem wv_F_229 : WV "FairWalls" 229 m_A_freeByMetres 1 := ⟨⟨gtb 800 (by decide +kernel) (by decide +kernel), iw_A_freeByMetres, cw_A_freeByMetres, rfl, by decide +kernel, by decide +kernel⟩, nw_A_freeByMetres, vw_A_freeByMetres⟩
theorem wv_F_232 : WV "FairWalls" 232 m_A_freeByFrontages 1 := ⟨⟨gtb 801 (by decide +kernel) (by decide +kernel), iw_A_freeByFrontages, cw_A_freeByFrontages, rfl, by decide +kernel, by decide +kernel⟩, nw_A_freeByFrontages, vw_A_freeByFrontages⟩
theorem ws_F_235 : WS "FairWalls" 235 m_A_isLength 1 := ⟨⟨gtb 812 (by decide +kernel) (by decide +kernel), iw_A_isLength, cw_A_isLength, rfl, by decide +kernel, by decide +kernel⟩, sw_A_isLength⟩
theorem wv_F_238 : WV "FairWalls" 238 m_P_remember 1 := ⟨⟨gtb 813 (by decide +kernel) (by decide +kernel), iw_P_remember, cw_P_remember, rfl, by decide +kernel, by decide +kernel⟩, nw_P_remember, vw_P_remember⟩
theorem wv_F_242 : WV "FairWalls" 242 m_A_openWall 1 := ⟨⟨gtb 825 (by decide +kernel) (by decide +kernel), iw_A_openWall, cw_A_openWall, rfl, by decide +kernel, by decide +kernel⟩, nw_A_openWall, vw_A_openWall⟩
theorem wv_F_245 : WV "FairWalls" 245 m_A_putPlugs 3 := ⟨⟨gtb 833 (by decide +kernel) (by decide +kernel), iw_A_putPlugs, cw_A_putPlugs, rfl, by decide +kernel, by decide +kernel⟩, nw_A_putPlugs, vw_A_putPlugs⟩
theorem ws_F_249 : WS "FairWalls" 249 m_A_isDealer 3 := ⟨⟨gtb 841 (by decide +kernel) (by decide +kernel), iw_A_isDealer, cw_A_isDealer, rfl, by decide +kernel, by decide +kernel⟩, sw_A_isDealer⟩
theorem wv_F_252 : WV "FairWalls" 252 m_A_admit 3 := ⟨⟨gtb 842 (by decide +kernel) (by decide +kernel), iw_A_admit, cw_A_admit, rfl, by decide +kernel, by decide +kernel⟩, nw_A_admit, vw_A_admit⟩
theorem wv_F_255 : WV "FairWalls" 255 m_A_letStand 3 := ⟨⟨gtb 850 (by decide +kernel) (by decide +kernel), iw_A_letStand, cw_A_letStand, rfl, by decide +kernel, by decide +kernel⟩, nw_A_letStand, vw_A_letStand⟩
theorem wv_F_258 : WV "FairWalls" 258 m_A_countRefusal 1 := ⟨⟨gtb 851 (by decide +kernel) (by decide +kernel), iw_A_countRefusal, cw_A_countRefusal, rfl, by decide +kernel, by decide +kernel⟩, nw_A_countRefusal, vw_A_countRefusal⟩
theorem wv_F_261 : WV "FairWalls" 261 m_S_stands 1 := ⟨⟨gtb 862 (by decide +kernel) (by decide +kernel), iw_S_stands, cw_S_stands, rfl, by decide +kernel, by decide +kernel⟩, nw_S_stands, vw_S_stands⟩
theorem wv_F_264 : WV "FairWalls" 264 m_A_sendAway 1 := ⟨⟨gtb 863 (by decide +kernel) (by decide +kernel), iw_A_sendAway, cw_A_sendAway, rfl, by decide +kernel, by decide +kernel⟩, nw_A_sendAway, vw_A_sendAway⟩
theorem wv_F_267 : WV "FairWalls" 267 m_A_exchange 2 := ⟨⟨gtb 871 (by decide +kernel) (by decide +kernel), iw_A_exchange, cw_A_exchange, rfl, by decide +kernel, by decide +kernel⟩, nw_A_exchange, vw_A_exchange⟩
theorem wv_F_270 : WV "FairWalls" 270 m_A_passDays 1 := ⟨⟨gtb 879 (by decide +kernel) (by decide +kernel), iw_A_passDays, cw_A_passDays, rfl, by decide +kernel, by decide +kernel⟩, nw_A_passDays, vw_A_passDays⟩
theorem ws_F_273 : WS "FairWalls" 273 m_A_isSetting 2 := ⟨⟨gtb 887 (by decide +kernel) (by decide +kernel), iw_A_isSetting, cw_A_isSetting, rfl, by decide +kernel, by decide +kernel⟩, sw_A_isSetting⟩
theorem wv_F_276 : WV "FairWalls" 276 m_A_changeSetting 2 := ⟨⟨gtb 888 (by decide +kernel) (by decide +kernel), iw_A_changeSetting, cw_A_changeSetting, rfl, by decide +kernel, by decide +kernel⟩, nw_A_changeSetting, vw_A_changeSetting⟩
theorem wv_F_279 : WV "FairWalls" 279 m_P_count 0 := ⟨⟨gtb 896 (by decide +kernel) (by decide +kernel), iw_P_count, cw_P_count, rfl, by decide +kernel, by decide +kernel⟩, nw_P_count, vw_P_count⟩
theorem wv_F_282 : WV "FairWalls" 282 m_P_takeLast 0 := ⟨⟨gtb 900 (by decide +kernel) (by decide +kernel), iw_P_takeLast, cw_P_takeLast, rfl, by decide +kernel, by decide +kernel⟩, nw_P_takeLast, vw_P_takeLast⟩
theorem wv_F_286 : WV "FairWalls" 286 m_A_become 1 := ⟨⟨gtb 905 (by decide +kernel) (by decide +kernel), iw_A_become, cw_A_become, rfl, by decide +kernel, by decide +kernel⟩, nw_A_become, vw_A_become⟩
theorem wv_F_289 : WV "FairWalls" 289 m_A_rentMovedTo 3 := ⟨⟨gtb 917 (by decide +kernel) (by decide +kernel), iw_A_rentMovedTo, cw_A_rentMovedTo, rfl, by decide +kernel, by decide +kernel⟩, nw_A_rentMovedTo, vw_A_rentMovedTo⟩
theorem wv_F_292 : WV "FairWalls" 292 m_F_rentsBehindSwap 2 := ⟨⟨gtb 937 (by decide +kernel) (by decide +kernel), iw_F_rentsBehindSwap, cw_F_rentsBehindSwap, rfl, by decide +kernel, by decide +kernel⟩, nw_F_rentsBehindSwap, vw_F_rentsBehindSwap⟩
theorem wv_F_295 : WV "FairWalls" 295 m_A_swapReason 2 := ⟨⟨gtb 941 (by decide +kernel) (by decide +kernel), iw_A_swapReason, cw_A_swapReason, rfl, by decide +kernel, by decide +kernel⟩, nw_A_swapReason, vw_A_swapReason⟩
theorem wv_F_298 : WV "FairWalls" 298 m_F_splitScript 2 := ⟨⟨gtb 956 (by decide +kernel) (by decide +kernel), iw_F_splitScript, cw_F_splitScript, rfl, by decide +kernel, by decide +kernel⟩, nw_F_splitScript, vw_F_splitScript⟩
theorem ws_F_302 : WS "FairWalls" 302 m_C_obeyGroup 2 := ⟨⟨gtb 961 (by decide +kernel) (by decide +kernel), iw_C_obeyGroup, cw_C_obeyGroup, rfl, by decide +kernel, by decide +kernel⟩, sw_C_obeyGroup⟩
theorem ws_F_310 : WS "FairWalls" 310 m_C_takeTurn 2 := ⟨⟨gtb 978 (by decide +kernel) (by decide +kernel), iw_C_takeTurn, cw_C_takeTurn, rfl, by decide +kernel, by decide +kernel⟩, sw_C_takeTurn⟩
theorem wv_F_314 : WV "FairWalls" 314 m_L_keep 2 := ⟨⟨gtb 988 (by decide +kernel) (by decide +kernel), iw_L_keep, cw_L_keep, rfl, by decide +kernel, by decide +kernel⟩, nw_L_keep, vw_L_keep⟩
theorem wv_F_318 : WV "FairWalls" 318 m_L_isFilled 1 := ⟨⟨gtb 1001 (by decide +kernel) (by decide +kernel), iw_L_isFilled, cw_L_isFilled, rfl, by decide +kernel, by decide +kernel⟩, nw_L_isFilled, vw_L_isFilled⟩
theorem wv_F_321 : WV "FairWalls" 321 m_L_kept 1 := ⟨⟨gtb 1005 (by decide +kernel) (by decide +kernel), iw_L_kept, cw_L_kept, rfl, by decide +kernel, by decide +kernel⟩, nw_L_kept, vw_L_kept⟩
theorem wv_C_9 : WV "FairWalls$Clerk" 9 m_T_number 1 := ⟨⟨gtb 519 (by decide +kernel) (by decide +kernel), iw_T_number, cw_T_number, rfl, by decide +kernel, by decide +kernel⟩, nw_T_number, vw_T_number⟩
theorem wv_C_15 : WV "FairWalls$Clerk" 15 m_T_letter 0 := ⟨⟨gtb 524 (by decide +kernel) (by decide +kernel), iw_T_letter, cw_T_letter, rfl, by decide +kernel, by decide +kernel⟩, nw_T_letter, vw_T_letter⟩
theorem wv_C_19 : WV "FairWalls$Clerk" 19 m_A_openWall 1 := ⟨⟨gtb 528 (by decide +kernel) (by decide +kernel), iw_A_openWall, cw_A_openWall, rfl, by decide +kernel, by decide +kernel⟩, nw_A_openWall, vw_A_openWall⟩
theorem wv_C_24 : WV "FairWalls$Clerk" 24 m_A_putPlugs 3 := ⟨⟨gtb 536 (by decide +kernel) (by decide +kernel), iw_A_putPlugs, cw_A_putPlugs, rfl, by decide +kernel, by decide +kernel⟩, nw_A_putPlugs, vw_A_putPlugs⟩
theorem wv_C_28 : WV "FairWalls$Clerk" 28 m_A_admit 3 := ⟨⟨gtb 541 (by decide +kernel) (by decide +kernel), iw_A_admit, cw_A_admit, rfl, by decide +kernel, by decide +kernel⟩, nw_A_admit, vw_A_admit⟩
theorem wv_C_31 : WV "FairWalls$Clerk" 31 m_A_letStand 3 := ⟨⟨gtb 548 (by decide +kernel) (by decide +kernel), iw_A_letStand, cw_A_letStand, rfl, by decide +kernel, by decide +kernel⟩, nw_A_letStand, vw_A_letStand⟩
theorem wv_C_34 : WV "FairWalls$Clerk" 34 m_A_sendAway 1 := ⟨⟨gtb 580 (by decide +kernel) (by decide +kernel), iw_A_sendAway, cw_A_sendAway, rfl, by decide +kernel, by decide +kernel⟩, nw_A_sendAway, vw_A_sendAway⟩
theorem wv_C_37 : WV "FairWalls$Clerk" 37 m_A_exchange 2 := ⟨⟨gtb 584 (by decide +kernel) (by decide +kernel), iw_A_exchange, cw_A_exchange, rfl, by decide +kernel, by decide +kernel⟩, nw_A_exchange, vw_A_exchange⟩
theorem wv_C_41 : WV "FairWalls$Clerk" 41 m_A_passDays 1 := ⟨⟨gtb 596 (by decide +kernel) (by decide +kernel), iw_A_passDays, cw_A_passDays, rfl, by decide +kernel, by decide +kernel⟩, nw_A_passDays, vw_A_passDays⟩
theorem wv_C_44 : WV "FairWalls$Clerk" 44 m_A_changeSetting 2 := ⟨⟨gtb 626 (by decide +kernel) (by decide +kernel), iw_A_changeSetting, cw_A_changeSetting, rfl, by decide +kernel, by decide +kernel⟩, nw_A_changeSetting, vw_A_changeSetting⟩
theorem wv_C_51 : WV "FairWalls$Clerk" 51 m_S_hasDealer 1 := ⟨⟨gtb 964 (by decide +kernel) (by decide +kernel), iw_S_hasDealer, cw_S_hasDealer, rfl, by decide +kernel, by decide +kernel⟩, nw_S_hasDealer, vw_S_hasDealer⟩
theorem wv_C_57 : WV "FairWalls$Clerk" 57 m_A_rentOf 1 := ⟨⟨gtb 965 (by decide +kernel) (by decide +kernel), iw_A_rentOf, cw_A_rentOf, rfl, by decide +kernel, by decide +kernel⟩, nw_A_rentOf, vw_A_rentOf⟩
theorem wv_C_64 : WV "FairWalls$Clerk" 64 m_W_plugsHad 1 := ⟨⟨gtb 966 (by decide +kernel) (by decide +kernel), iw_W_plugsHad, cw_W_plugsHad, rfl, by decide +kernel, by decide +kernel⟩, nw_W_plugsHad, vw_W_plugsHad⟩
theorem wv_C_69 : WV "FairWalls$Clerk" 69 m_S_hasWall 1 := ⟨⟨gtb 967 (by decide +kernel) (by decide +kernel), iw_S_hasWall, cw_S_hasWall, rfl, by decide +kernel, by decide +kernel⟩, nw_S_hasWall, vw_S_hasWall⟩
theorem wv_C_72 : WV "FairWalls$Clerk" 72 m_A_freeByMetres 1 := ⟨⟨gtb 968 (by decide +kernel) (by decide +kernel), iw_A_freeByMetres, cw_A_freeByMetres, rfl, by decide +kernel, by decide +kernel⟩, nw_A_freeByMetres, vw_A_freeByMetres⟩
theorem wn_A_25 : WN "FairWalls$Fair" 25 m_F_inRange 3 := ⟨⟨"FairWalls", nwt 535 (by decide +kernel) (by decide +kernel)⟩, iw_F_inRange, cw_F_inRange, rfl, by decide +kernel, by decide +kernel, sw_F_inRange⟩
theorem wv_A_33 : WV "FairWalls$Fair" 33 m_S_clear 0 := ⟨⟨gtb 480 (by decide +kernel) (by decide +kernel), iw_S_clear, cw_S_clear, rfl, by decide +kernel, by decide +kernel⟩, nw_S_clear, vw_S_clear⟩
theorem wv_A_36 : WV "FairWalls$Fair" 36 m_W_shareOut 1 := ⟨⟨gtb 481 (by decide +kernel) (by decide +kernel), iw_W_shareOut, cw_W_shareOut, rfl, by decide +kernel, by decide +kernel⟩, nw_W_shareOut, vw_W_shareOut⟩
theorem wv_A_40 : WV "FairWalls$Fair" 40 m_S_copy 1 := ⟨⟨gtb 909 (by decide +kernel) (by decide +kernel), iw_S_copy, cw_S_copy, rfl, by decide +kernel, by decide +kernel⟩, nw_S_copy, vw_S_copy⟩
theorem ws_A_43 : WS "FairWalls$Fair" 43 m_A_isLength 1 := ⟨⟨gtb 532 (by decide +kernel) (by decide +kernel), iw_A_isLength, cw_A_isLength, rfl, by decide +kernel, by decide +kernel⟩, sw_A_isLength⟩
theorem wv_A_54 : WV "FairWalls$Fair" 54 m_S_hasMetre 2 := ⟨⟨gtb 540 (by decide +kernel) (by decide +kernel), iw_S_hasMetre, cw_S_hasMetre, rfl, by decide +kernel, by decide +kernel⟩, nw_S_hasMetre, vw_S_hasMetre⟩
theorem ws_A_64 : WS "FairWalls$Fair" 64 m_A_isDealer 3 := ⟨⟨gtb 545 (by decide +kernel) (by decide +kernel), iw_A_isDealer, cw_A_isDealer, rfl, by decide +kernel, by decide +kernel⟩, sw_A_isDealer⟩
theorem wv_A_85 : WV "FairWalls$Fair" 85 m_A_placeReason 3 := ⟨⟨gtb 552 (by decide +kernel) (by decide +kernel), iw_A_placeReason, cw_A_placeReason, rfl, by decide +kernel, by decide +kernel⟩, nw_A_placeReason, vw_A_placeReason⟩
theorem wv_A_89 : WV "FairWalls$Fair" 89 m_S_stands 1 := ⟨⟨gtb 560 (by decide +kernel) (by decide +kernel), iw_S_stands, cw_S_stands, rfl, by decide +kernel, by decide +kernel⟩, nw_S_stands, vw_S_stands⟩
theorem wv_A_92 : WV "FairWalls$Fair" 92 m_A_swapReason 2 := ⟨⟨gtb 588 (by decide +kernel) (by decide +kernel), iw_A_swapReason, cw_A_swapReason, rfl, by decide +kernel, by decide +kernel⟩, nw_A_swapReason, vw_A_swapReason⟩
theorem wv_A_99 : WV "FairWalls$Fair" 99 m_A_rentOf 1 := ⟨⟨gtb 600 (by decide +kernel) (by decide +kernel), iw_A_rentOf, cw_A_rentOf, rfl, by decide +kernel, by decide +kernel⟩, nw_A_rentOf, vw_A_rentOf⟩
theorem ws_A_106 : WS "FairWalls$Fair" 106 m_A_isSetting 2 := ⟨⟨gtb 630 (by decide +kernel) (by decide +kernel), iw_A_isSetting, cw_A_isSetting, rfl, by decide +kernel, by decide +kernel⟩, sw_A_isSetting⟩
theorem wv_A_115 : WV "FairWalls$Fair" 115 m_A_sendAway 1 := ⟨⟨gtb 921 (by decide +kernel) (by decide +kernel), iw_A_sendAway, cw_A_sendAway, rfl, by decide +kernel, by decide +kernel⟩, nw_A_sendAway, vw_A_sendAway⟩
theorem wv_A_118 : WV "FairWalls$Fair" 118 m_A_letStand 3 := ⟨⟨gtb 922 (by decide +kernel) (by decide +kernel), iw_A_letStand, cw_A_letStand, rfl, by decide +kernel, by decide +kernel⟩, nw_A_letStand, vw_A_letStand⟩
theorem wv_A_121 : WV "FairWalls$Fair" 121 m_S_hasDealer 1 := ⟨⟨gtb 556 (by decide +kernel) (by decide +kernel), iw_S_hasDealer, cw_S_hasDealer, rfl, by decide +kernel, by decide +kernel⟩, nw_S_hasDealer, vw_S_hasDealer⟩
theorem wv_A_124 : WV "FairWalls$Fair" 124 m_S_lengthOf 1 := ⟨⟨gtb 561 (by decide +kernel) (by decide +kernel), iw_S_lengthOf, cw_S_lengthOf, rfl, by decide +kernel, by decide +kernel⟩, nw_S_lengthOf, vw_S_lengthOf⟩
theorem wv_A_127 : WV "FairWalls$Fair" 127 m_A_isFreeButFor 5 := ⟨⟨gtb 569 (by decide +kernel) (by decide +kernel), iw_A_isFreeButFor, cw_A_isFreeButFor, rfl, by decide +kernel, by decide +kernel⟩, nw_A_isFreeButFor, vw_A_isFreeButFor⟩
theorem wv_A_131 : WV "FairWalls$Fair" 131 m_A_fitsBothAway 2 := ⟨⟨gtb 592 (by decide +kernel) (by decide +kernel), iw_A_fitsBothAway, cw_A_fitsBothAway, rfl, by decide +kernel, by decide +kernel⟩, nw_A_fitsBothAway, vw_A_fitsBothAway⟩
theorem ws_A_134 : WS "FairWalls$Fair" 134 m_A_overlap 4 := ⟨⟨gtb 577 (by decide +kernel) (by decide +kernel), iw_A_overlap, cw_A_overlap, rfl, by decide +kernel, by decide +kernel⟩, sw_A_overlap⟩
theorem wv_A_138 : WV "FairWalls$Fair" 138 m_S_standsAt 2 := ⟨⟨gtb 573 (by decide +kernel) (by decide +kernel), iw_S_standsAt, cw_S_standsAt, rfl, by decide +kernel, by decide +kernel⟩, nw_S_standsAt, vw_S_standsAt⟩
theorem wv_A_141 : WV "FairWalls$Fair" 141 m_W_plugsHad 1 := ⟨⟨gtb 608 (by decide +kernel) (by decide +kernel), iw_W_plugsHad, cw_W_plugsHad, rfl, by decide +kernel, by decide +kernel⟩, nw_W_plugsHad, vw_W_plugsHad⟩
theorem wv_A_144 : WV "FairWalls$Fair" 144 m_A_plugsLacking 1 := ⟨⟨gtb 621 (by decide +kernel) (by decide +kernel), iw_A_plugsLacking, cw_A_plugsLacking, rfl, by decide +kernel, by decide +kernel⟩, nw_A_plugsLacking, vw_A_plugsLacking⟩
theorem wv_A_147 : WV "FairWalls$Fair" 147 m_A_areNeighbours 2 := ⟨⟨gtb 617 (by decide +kernel) (by decide +kernel), iw_A_areNeighbours, cw_A_areNeighbours, rfl, by decide +kernel, by decide +kernel⟩, nw_A_areNeighbours, vw_A_areNeighbours⟩
theorem wv_A_150 : WV "FairWalls$Fair" 150 m_A_rivals 1 := ⟨⟨gtb 613 (by decide +kernel) (by decide +kernel), iw_A_rivals, cw_A_rivals, rfl, by decide +kernel, by decide +kernel⟩, nw_A_rivals, vw_A_rivals⟩
theorem wv_A_153 : WV "FairWalls$Fair" 153 m_A_endsOf 1 := ⟨⟨gtb 604 (by decide +kernel) (by decide +kernel), iw_A_endsOf, cw_A_endsOf, rfl, by decide +kernel, by decide +kernel⟩, nw_A_endsOf, vw_A_endsOf⟩
theorem ws_A_156 : WS "FairWalls$Fair" 156 m_J_max 2 := ⟨⟨gtb 625 (by decide +kernel) (by decide +kernel), iw_J_max, cw_J_max, rfl, by decide +kernel, by decide +kernel⟩, sw_J_max⟩
theorem wv_A_161 : WV "FairWalls$Fair" 161 m_S_plugsOf 2 := ⟨⟨gtb 670 (by decide +kernel) (by decide +kernel), iw_S_plugsOf, cw_S_plugsOf, rfl, by decide +kernel, by decide +kernel⟩, nw_S_plugsOf, vw_S_plugsOf⟩
theorem wv_A_164 : WV "FairWalls$Fair" 164 m_W_takenFrom 2 := ⟨⟨gtb 733 (by decide +kernel) (by decide +kernel), iw_W_takenFrom, cw_W_takenFrom, rfl, by decide +kernel, by decide +kernel⟩, nw_W_takenFrom, vw_W_takenFrom⟩
theorem wv_A_167 : WV "FairWalls$Fair" 167 m_A_whoStandsAt 2 := ⟨⟨gtb 658 (by decide +kernel) (by decide +kernel), iw_A_whoStandsAt, cw_A_whoStandsAt, rfl, by decide +kernel, by decide +kernel⟩, nw_A_whoStandsAt, vw_A_whoStandsAt⟩
theorem wv_A_170 : WV "FairWalls$Fair" 170 m_A_longestFreeRow 1 := ⟨⟨gtb 745 (by decide +kernel) (by decide +kernel), iw_A_longestFreeRow, cw_A_longestFreeRow, rfl, by decide +kernel, by decide +kernel⟩, nw_A_longestFreeRow, vw_A_longestFreeRow⟩
theorem wv_A_173 : WV "FairWalls$Fair" 173 m_A_freeByMetres 1 := ⟨⟨gtb 654 (by decide +kernel) (by decide +kernel), iw_A_freeByMetres, cw_A_freeByMetres, rfl, by decide +kernel, by decide +kernel⟩, nw_A_freeByMetres, vw_A_freeByMetres⟩
theorem wv_A_176 : WV "FairWalls$Fair" 176 m_A_plugsAt 1 := ⟨⟨gtb 666 (by decide +kernel) (by decide +kernel), iw_A_plugsAt, cw_A_plugsAt, rfl, by decide +kernel, by decide +kernel⟩, nw_A_plugsAt, vw_A_plugsAt⟩
theorem wn_T_26 : WN "FairWalls$FairText" 26 m_F_inRange 3 := ⟨⟨"FairWalls", nwt 523 (by decide +kernel) (by decide +kernel)⟩, iw_F_inRange, cw_F_inRange, rfl, by decide +kernel, by decide +kernel, sw_F_inRange⟩
theorem wv_T_30 : WV "FairWalls$FairText" 30 m_T_goToCommands 0 := ⟨⟨gtb 254 (by decide +kernel) (by decide +kernel), iw_T_goToCommands, cw_T_goToCommands, rfl, by decide +kernel, by decide +kernel⟩, nw_T_goToCommands, vw_T_goToCommands⟩
theorem wv_T_36 : WV "FairWalls$FairText" 36 m_T_readCommand 0 := ⟨⟨gtb 258 (by decide +kernel) (by decide +kernel), iw_T_readCommand, cw_T_readCommand, rfl, by decide +kernel, by decide +kernel⟩, nw_T_readCommand, vw_T_readCommand⟩
theorem wv_T_42 : WV "FairWalls$FairText" 42 m_Z_indexOf 1 := ⟨⟨gtb 263 (by decide +kernel) (by decide +kernel), iw_Z_indexOf, cw_Z_indexOf, rfl, by decide +kernel, by decide +kernel⟩, nw_Z_indexOf, vw_Z_indexOf⟩
theorem wv_T_51 : WV "FairWalls$FairText" 51 m_T_readNumber 3 := ⟨⟨gtb 351 (by decide +kernel) (by decide +kernel), iw_T_readNumber, cw_T_readNumber, rfl, by decide +kernel, by decide +kernel⟩, nw_T_readNumber, vw_T_readNumber⟩
theorem wv_T_55 : WV "FairWalls$FairText" 55 m_T_readDigit 0 := ⟨⟨gtb 355 (by decide +kernel) (by decide +kernel), iw_T_readDigit, cw_T_readDigit, rfl, by decide +kernel, by decide +kernel⟩, nw_T_readDigit, vw_T_readDigit⟩
theorem ws_P_25 : WS "FairWalls$Past" 25 m_J_floorMod 2 := ⟨⟨gtb 817 (by decide +kernel) (by decide +kernel), iw_J_floorMod, cw_J_floorMod, rfl, by decide +kernel, by decide +kernel⟩, sw_J_floorMod⟩
theorem wv_P_31 : WV "FairWalls$Past" 31 m_S_copy 1 := ⟨⟨gtb 820 (by decide +kernel) (by decide +kernel), iw_S_copy, cw_S_copy, rfl, by decide +kernel, by decide +kernel⟩, nw_S_copy, vw_S_copy⟩
theorem ws_P_35 : WS "FairWalls$Past" 35 m_J_min 2 := ⟨⟨gtb 824 (by decide +kernel) (by decide +kernel), iw_J_min, cw_J_min, rfl, by decide +kernel, by decide +kernel⟩, sw_J_min⟩
theorem ws_P_38 : WS "FairWalls$Past" 38 m_J_max 2 := ⟨⟨gtb 904 (by decide +kernel) (by decide +kernel), iw_J_max, cw_J_max, rfl, by decide +kernel, by decide +kernel⟩, sw_J_max⟩
theorem ws_W_21 : WS "FairWalls$Power" 21 m_R_fill 2 := ⟨⟨gtb 485 (by decide +kernel) (by decide +kernel), iw_R_fill, cw_R_fill, rfl, by decide +kernel, by decide +kernel⟩, sw_R_fill⟩
theorem wv_W_33 : WV "FairWalls$Power" 33 m_S_stands 1 := ⟨⟨gtb 486 (by decide +kernel) (by decide +kernel), iw_S_stands, cw_S_stands, rfl, by decide +kernel, by decide +kernel⟩, nw_S_stands, vw_S_stands⟩
theorem wv_W_37 : WV "FairWalls$Power" 37 m_W_serve 2 := ⟨⟨gtb 490 (by decide +kernel) (by decide +kernel), iw_W_serve, cw_W_serve, rfl, by decide +kernel, by decide +kernel⟩, nw_W_serve, vw_W_serve⟩
theorem wv_W_47 : WV "FairWalls$Power" 47 m_W_nearest 2 := ⟨⟨gtb 494 (by decide +kernel) (by decide +kernel), iw_W_nearest, cw_W_nearest, rfl, by decide +kernel, by decide +kernel⟩, nw_W_nearest, vw_W_nearest⟩
theorem wv_W_51 : WV "FairWalls$Power" 51 m_S_hasMetre 2 := ⟨⟨gtb 502 (by decide +kernel) (by decide +kernel), iw_S_hasMetre, cw_S_hasMetre, rfl, by decide +kernel, by decide +kernel⟩, nw_S_hasMetre, vw_S_hasMetre⟩
theorem wv_W_61 : WV "FairWalls$Power" 61 m_W_hasFreePlug 3 := ⟨⟨gtb 498 (by decide +kernel) (by decide +kernel), iw_W_hasFreePlug, cw_W_hasFreePlug, rfl, by decide +kernel, by decide +kernel⟩, nw_W_hasFreePlug, vw_W_hasFreePlug⟩
theorem wn_W_74 : WN "FairWalls$Power" 74 m_F_inRange 3 := ⟨⟨"FairWalls", nwt 612 (by decide +kernel) (by decide +kernel)⟩, iw_F_inRange, cw_F_inRange, rfl, by decide +kernel, by decide +kernel, sw_F_inRange⟩
theorem wv_W_78 : WV "FairWalls$Power" 78 m_W_plugsHad 1 := ⟨⟨gtb 785 (by decide +kernel) (by decide +kernel), iw_W_plugsHad, cw_W_plugsHad, rfl, by decide +kernel, by decide +kernel⟩, nw_W_plugsHad, vw_W_plugsHad⟩
theorem wn_L_22 : WN "FairWalls$Slots" 22 m_F_inRange 3 := ⟨⟨"FairWalls", nwt 992 (by decide +kernel) (by decide +kernel)⟩, iw_F_inRange, cw_F_inRange, rfl, by decide +kernel, by decide +kernel, sw_F_inRange⟩
theorem wv_L_26 : WV "FairWalls$Slots" 26 m_S_copy 1 := ⟨⟨gtb 993 (by decide +kernel) (by decide +kernel), iw_S_copy, cw_S_copy, rfl, by decide +kernel, by decide +kernel⟩, nw_S_copy, vw_S_copy⟩
theorem ws_S_42 : WS "FairWalls$State" 42 m_R_fill 2 := ⟨⟨gtb 48 (by decide +kernel) (by decide +kernel), iw_R_fill, cw_R_fill, rfl, by decide +kernel, by decide +kernel⟩, sw_R_fill⟩
theorem wv_S_73 : WV "FairWalls$State" 73 m_S_hasWall 1 := ⟨⟨gtb 565 (by decide +kernel) (by decide +kernel), iw_S_hasWall, cw_S_hasWall, rfl, by decide +kernel, by decide +kernel⟩, nw_S_hasWall, vw_S_hasWall⟩
theorem wv_S_77 : WV "FairWalls$State" 77 m_S_hasMetre 2 := ⟨⟨gtb 674 (by decide +kernel) (by decide +kernel), iw_S_hasMetre, cw_S_hasMetre, rfl, by decide +kernel, by decide +kernel⟩, nw_S_hasMetre, vw_S_hasMetre⟩
theorem ws_M_41 : WS "FairWallsModel" 41 m_M_fresh 1 := ⟨⟨gtb 1015 (by decide +kernel) (by decide +kernel), iw_M_fresh, cw_M_fresh, rfl, by decide +kernel, by decide +kernel⟩, sw_M_fresh⟩
theorem ws_M_51 : WS "FairWallsModel" 51 m_M_in 3 := ⟨⟨gtb 1076 (by decide +kernel) (by decide +kernel), iw_M_in, cw_M_in, rfl, by decide +kernel, by decide +kernel⟩, sw_M_in⟩
theorem ws_M_55 : WS "FairWallsModel" 55 m_M_isWall 2 := ⟨⟨gtb 1122 (by decide +kernel) (by decide +kernel), iw_M_isWall, cw_M_isWall, rfl, by decide +kernel, by decide +kernel⟩, sw_M_isWall⟩
theorem ws_M_71 : WS "FairWallsModel" 71 m_M_spot 1 := ⟨⟨gtb 1139 (by decide +kernel) (by decide +kernel), iw_M_spot, cw_M_spot, rfl, by decide +kernel, by decide +kernel⟩, sw_M_spot⟩
theorem ws_M_75 : WS "FairWallsModel" 75 m_M_size 2 := ⟨⟨gtb 1155 (by decide +kernel) (by decide +kernel), iw_M_size, cw_M_size, rfl, by decide +kernel, by decide +kernel⟩, sw_M_size⟩
theorem ws_M_79 : WS "FairWallsModel" 79 m_M_standsAt 3 := ⟨⟨gtb 1161 (by decide +kernel) (by decide +kernel), iw_M_standsAt, cw_M_standsAt, rfl, by decide +kernel, by decide +kernel⟩, sw_M_standsAt⟩
theorem ws_M_83 : WS "FairWallsModel" 83 m_M_plugs 3 := ⟨⟨gtb 1205 (by decide +kernel) (by decide +kernel), iw_M_plugs, cw_M_plugs, rfl, by decide +kernel, by decide +kernel⟩, sw_M_plugs⟩
theorem ws_M_86 : WS "FairWallsModel" 86 m_M_away 3 := ⟨⟨gtb 1208 (by decide +kernel) (by decide +kernel), iw_M_away, cw_M_away, rfl, by decide +kernel, by decide +kernel⟩, sw_M_away⟩
theorem ws_M_89 : WS "FairWallsModel" 89 m_M_stands 2 := ⟨⟨gtb 1152 (by decide +kernel) (by decide +kernel), iw_M_stands, cw_M_stands, rfl, by decide +kernel, by decide +kernel⟩, sw_M_stands⟩
theorem wv_M_92 : WV "FairWallsModel" 92 m_M_nearest 2 := ⟨⟨gtb 1201 (by decide +kernel) (by decide +kernel), iw_M_nearest, cw_M_nearest, rfl, by decide +kernel, by decide +kernel⟩, nw_M_nearest, vw_M_nearest⟩
theorem ws_M_95 : WS "FairWallsModel" 95 m_M_areBeside 3 := ⟨⟨gtb 1221 (by decide +kernel) (by decide +kernel), iw_M_areBeside, cw_M_areBeside, rfl, by decide +kernel, by decide +kernel⟩, sw_M_areBeside⟩
theorem ws_M_99 : WS "FairWallsModel" 99 m_M_ends 2 := ⟨⟨gtb 1215 (by decide +kernel) (by decide +kernel), iw_M_ends, cw_M_ends, rfl, by decide +kernel, by decide +kernel⟩, sw_M_ends⟩
theorem ws_M_102 : WS "FairWallsModel" 102 m_M_neighbours 3 := ⟨⟨gtb 1218 (by decide +kernel) (by decide +kernel), iw_M_neighbours, cw_M_neighbours, rfl, by decide +kernel, by decide +kernel⟩, sw_M_neighbours⟩
theorem wv_M_106 : WV "FairWallsModel" 106 m_M_lacks 2 := ⟨⟨gtb 1224 (by decide +kernel) (by decide +kernel), iw_M_lacks, cw_M_lacks, rfl, by decide +kernel, by decide +kernel⟩, nw_M_lacks, vw_M_lacks⟩
theorem wv_M_109 : WV "FairWallsModel" 109 m_M_share 1 := ⟨⟨gtb 1197 (by decide +kernel) (by decide +kernel), iw_M_share, cw_M_share, rfl, by decide +kernel, by decide +kernel⟩, nw_M_share, vw_M_share⟩
theorem wv_M_112 : WV "FairWallsModel" 112 m_M_rent 2 := ⟨⟨gtb 1211 (by decide +kernel) (by decide +kernel), iw_M_rent, cw_M_rent, rfl, by decide +kernel, by decide +kernel⟩, nw_M_rent, vw_M_rent⟩
theorem ws_M_115 : WS "FairWallsModel" 115 m_M_fits 5 := ⟨⟨gtb 1158 (by decide +kernel) (by decide +kernel), iw_M_fits, cw_M_fits, rfl, by decide +kernel, by decide +kernel⟩, sw_M_fits⟩
theorem ws_M_119 : WS "FairWallsModel" 119 m_M_whyNoPlace 4 := ⟨⟨gtb 1149 (by decide +kernel) (by decide +kernel), iw_M_whyNoPlace, cw_M_whyNoPlace, rfl, by decide +kernel, by decide +kernel⟩, sw_M_whyNoPlace⟩
theorem ws_M_123 : WS "FairWallsModel" 123 m_M_stand 4 := ⟨⟨gtb 1167 (by decide +kernel) (by decide +kernel), iw_M_stand, cw_M_stand, rfl, by decide +kernel, by decide +kernel⟩, sw_M_stand⟩
theorem ws_M_127 : WS "FairWallsModel" 127 m_M_whyNoSwap 3 := ⟨⟨gtb 1174 (by decide +kernel) (by decide +kernel), iw_M_whyNoSwap, cw_M_whyNoSwap, rfl, by decide +kernel, by decide +kernel⟩, sw_M_whyNoSwap⟩
theorem ws_M_130 : WS "FairWallsModel" 130 m_M_exchange 3 := ⟨⟨gtb 1180 (by decide +kernel) (by decide +kernel), iw_M_exchange, cw_M_exchange, rfl, by decide +kernel, by decide +kernel⟩, sw_M_exchange⟩
theorem wv_M_142 : WV "FairWallsModel" 142 m_M_refused 1 := ⟨⟨gtb 1079 (by decide +kernel) (by decide +kernel), iw_M_refused, cw_M_refused, rfl, by decide +kernel, by decide +kernel⟩, nw_M_refused, vw_M_refused⟩
theorem wv_M_153 : WV "FairWallsModel" 153 m_M_here 0 := ⟨⟨gtb 1095 (by decide +kernel) (by decide +kernel), iw_M_here, cw_M_here, rfl, by decide +kernel, by decide +kernel⟩, nw_M_here, vw_M_here⟩
theorem wv_M_157 : WV "FairWallsModel" 157 m_M_take 1 := ⟨⟨gtb 1099 (by decide +kernel) (by decide +kernel), iw_M_take, cw_M_take, rfl, by decide +kernel, by decide +kernel⟩, nw_M_take, vw_M_take⟩
theorem wv_M_161 : WV "FairWallsModel" 161 m_M_digit 2 := ⟨⟨gtb 1111 (by decide +kernel) (by decide +kernel), iw_M_digit, cw_M_digit, rfl, by decide +kernel, by decide +kernel⟩, nw_M_digit, vw_M_digit⟩
theorem wv_M_168 : WV "FairWallsModel" 168 m_M_two 2 := ⟨⟨gtb 1115 (by decide +kernel) (by decide +kernel), iw_M_two, cw_M_two, rfl, by decide +kernel, by decide +kernel⟩, nw_M_two, vw_M_two⟩
theorem ws_M_171 : WS "FairWallsModel" 171 m_M_isMetre 3 := ⟨⟨gtb 1119 (by decide +kernel) (by decide +kernel), iw_M_isMetre, cw_M_isMetre, rfl, by decide +kernel, by decide +kernel⟩, sw_M_isMetre⟩
theorem wv_M_174 : WV "FairWallsModel" 174 m_M_goes 1 := ⟨⟨gtb 1125 (by decide +kernel) (by decide +kernel), iw_M_goes, cw_M_goes, rfl, by decide +kernel, by decide +kernel⟩, nw_M_goes, vw_M_goes⟩
theorem ws_M_178 : WS "FairWallsModel" 178 m_M_put 3 := ⟨⟨gtb 1129 (by decide +kernel) (by decide +kernel), iw_M_put, cw_M_put, rfl, by decide +kernel, by decide +kernel⟩, sw_M_put⟩
theorem ws_M_181 : WS "FairWallsModel" 181 m_M_addDealer 4 := ⟨⟨gtb 1136 (by decide +kernel) (by decide +kernel), iw_M_addDealer, cw_M_addDealer, rfl, by decide +kernel, by decide +kernel⟩, sw_M_addDealer⟩
theorem ws_M_184 : WS "FairWallsModel" 184 m_M_isDealer 2 := ⟨⟨gtb 1146 (by decide +kernel) (by decide +kernel), iw_M_isDealer, cw_M_isDealer, rfl, by decide +kernel, by decide +kernel⟩, sw_M_isDealer⟩
theorem ws_M_187 : WS "FairWallsModel" 187 m_M_goPlace 4 := ⟨⟨gtb 1164 (by decide +kernel) (by decide +kernel), iw_M_goPlace, cw_M_goPlace, rfl, by decide +kernel, by decide +kernel⟩, sw_M_goPlace⟩
theorem ws_M_190 : WS "FairWallsModel" 190 m_M_goSwap 3 := ⟨⟨gtb 1177 (by decide +kernel) (by decide +kernel), iw_M_goSwap, cw_M_goSwap, rfl, by decide +kernel, by decide +kernel⟩, sw_M_goSwap⟩
theorem ws_M_193 : WS "FairWallsModel" 193 m_M_addWall 2 := ⟨⟨gtb 1187 (by decide +kernel) (by decide +kernel), iw_M_addWall, cw_M_addWall, rfl, by decide +kernel, by decide +kernel⟩, sw_M_addWall⟩
theorem ws_M_196 : WS "FairWallsModel" 196 m_M_goLeave 2 := ⟨⟨gtb 1190 (by decide +kernel) (by decide +kernel), iw_M_goLeave, cw_M_goLeave, rfl, by decide +kernel, by decide +kernel⟩, sw_M_goLeave⟩
theorem wv_M_199 : WV "FairWallsModel" 199 m_M_goDays 2 := ⟨⟨gtb 1193 (by decide +kernel) (by decide +kernel), iw_M_goDays, cw_M_goDays, rfl, by decide +kernel, by decide +kernel⟩, nw_M_goDays, vw_M_goDays⟩
theorem ws_M_202 : WS "FairWallsModel" 202 m_M_isSetting 2 := ⟨⟨gtb 1228 (by decide +kernel) (by decide +kernel), iw_M_isSetting, cw_M_isSetting, rfl, by decide +kernel, by decide +kernel⟩, sw_M_isSetting⟩
theorem wv_M_206 : WV "FairWallsModel" 206 m_M_readOutlet 0 := ⟨⟨gtb 1107 (by decide +kernel) (by decide +kernel), iw_M_readOutlet, cw_M_readOutlet, rfl, by decide +kernel, by decide +kernel⟩, nw_M_readOutlet, vw_M_readOutlet⟩
theorem wv_M_209 : WV "FairWallsModel" 209 m_M_readDealer 0 := ⟨⟨gtb 1132 (by decide +kernel) (by decide +kernel), iw_M_readDealer, cw_M_readDealer, rfl, by decide +kernel, by decide +kernel⟩, nw_M_readDealer, vw_M_readDealer⟩
theorem wv_M_212 : WV "FairWallsModel" 212 m_M_readPlace 0 := ⟨⟨gtb 1142 (by decide +kernel) (by decide +kernel), iw_M_readPlace, cw_M_readPlace, rfl, by decide +kernel, by decide +kernel⟩, nw_M_readPlace, vw_M_readPlace⟩
theorem wv_M_215 : WV "FairWallsModel" 215 m_M_readSwap 0 := ⟨⟨gtb 1170 (by decide +kernel) (by decide +kernel), iw_M_readSwap, cw_M_readSwap, rfl, by decide +kernel, by decide +kernel⟩, nw_M_readSwap, vw_M_readSwap⟩
theorem wv_M_218 : WV "FairWallsModel" 218 m_M_readRest 1 := ⟨⟨gtb 1183 (by decide +kernel) (by decide +kernel), iw_M_readRest, cw_M_readRest, rfl, by decide +kernel, by decide +kernel⟩, nw_M_readRest, vw_M_readRest⟩
theorem wv_M_221 : WV "FairWallsModel" 221 m_M_readCommand 0 := ⟨⟨gtb 1103 (by decide +kernel) (by decide +kernel), iw_M_readCommand, cw_M_readCommand, rfl, by decide +kernel, by decide +kernel⟩, nw_M_readCommand, vw_M_readCommand⟩
theorem wv_M_224 : WV "FairWallsModel" 224 m_M_readAll 0 := ⟨⟨gtb 1091 (by decide +kernel) (by decide +kernel), iw_M_readAll, cw_M_readAll, rfl, by decide +kernel, by decide +kernel⟩, nw_M_readAll, vw_M_readAll⟩
theorem ws_M_227 : WS "FairWallsModel" 227 m_M_copy 2 := ⟨⟨gtb 1238 (by decide +kernel) (by decide +kernel), iw_M_copy, cw_M_copy, rfl, by decide +kernel, by decide +kernel⟩, sw_M_copy⟩
theorem ws_M_231 : WS "FairWallsModel" 231 m_M_freeAt 2 := ⟨⟨gtb 1256 (by decide +kernel) (by decide +kernel), iw_M_freeAt, cw_M_freeAt, rfl, by decide +kernel, by decide +kernel⟩, sw_M_freeAt⟩
theorem ws_M_234 : WS "FairWallsModel" 234 m_M_plugsAt 2 := ⟨⟨gtb 1259 (by decide +kernel) (by decide +kernel), iw_M_plugsAt, cw_M_plugsAt, rfl, by decide +kernel, by decide +kernel⟩, sw_M_plugsAt⟩
theorem ws_M_239 : WS "FairWallsModel" 239 m_M_standing 1 := ⟨⟨gtb 1246 (by decide +kernel) (by decide +kernel), iw_M_standing, cw_M_standing, rfl, by decide +kernel, by decide +kernel⟩, sw_M_standing⟩
theorem ws_M_243 : WS "FairWallsModel" 243 m_M_metres 1 := ⟨⟨gtb 1249 (by decide +kernel) (by decide +kernel), iw_M_metres, cw_M_metres, rfl, by decide +kernel, by decide +kernel⟩, sw_M_metres⟩
theorem wv_M_246 : WV "FairWallsModel" 246 m_M_sumWalls 1 := ⟨⟨gtb 1252 (by decide +kernel) (by decide +kernel), iw_M_sumWalls, cw_M_sumWalls, rfl, by decide +kernel, by decide +kernel⟩, nw_M_sumWalls, vw_M_sumWalls⟩
theorem wv_M_249 : WV "FairWallsModel" 249 m_M_sumDealers 1 := ⟨⟨gtb 1262 (by decide +kernel) (by decide +kernel), iw_M_sumDealers, cw_M_sumDealers, rfl, by decide +kernel, by decide +kernel⟩, nw_M_sumDealers, vw_M_sumDealers⟩
theorem wv_M_252 : WV "FairWallsModel" 252 m_M_rents 1 := ⟨⟨gtb 1266 (by decide +kernel) (by decide +kernel), iw_M_rents, cw_M_rents, rfl, by decide +kernel, by decide +kernel⟩, nw_M_rents, vw_M_rents⟩
theorem ws_M_255 : WS "FairWallsModel" 255 m_M_longestRow 3 := ⟨⟨gtb 1274 (by decide +kernel) (by decide +kernel), iw_M_longestRow, cw_M_longestRow, rfl, by decide +kernel, by decide +kernel⟩, sw_M_longestRow⟩
theorem ws_M_262 : WS "FairWallsModel" 262 m_M_lessFronts 2 := ⟨⟨gtb 1299 (by decide +kernel) (by decide +kernel), iw_M_lessFronts, cw_M_lessFronts, rfl, by decide +kernel, by decide +kernel⟩, sw_M_lessFronts⟩
theorem ws_M_265 : WS "FairWallsModel" 265 m_M_isLength 1 := ⟨⟨gtb 1306 (by decide +kernel) (by decide +kernel), iw_M_isLength, cw_M_isLength, rfl, by decide +kernel, by decide +kernel⟩, sw_M_isLength⟩
theorem wv_M_268 : WV "FairWallsModel" 268 m_M_remember 0 := ⟨⟨gtb 1311 (by decide +kernel) (by decide +kernel), iw_M_remember, cw_M_remember, rfl, by decide +kernel, by decide +kernel⟩, nw_M_remember, vw_M_remember⟩
theorem ws_M_271 : WS "FairWallsModel" 271 m_M_isKind 3 := ⟨⟨gtb 1323 (by decide +kernel) (by decide +kernel), iw_M_isKind, cw_M_isKind, rfl, by decide +kernel, by decide +kernel⟩, sw_M_isKind⟩
theorem ws_M_275 : WS "FairWallsModel" 275 m_M_areDealers 3 := ⟨⟨gtb 1339 (by decide +kernel) (by decide +kernel), iw_M_areDealers, cw_M_areDealers, rfl, by decide +kernel, by decide +kernel⟩, sw_M_areDealers⟩
theorem wv_M_280 : WV "FairWallsModel" 280 m_M_rentAt 3 := ⟨⟨gtb 1359 (by decide +kernel) (by decide +kernel), iw_M_rentAt, cw_M_rentAt, rfl, by decide +kernel, by decide +kernel⟩, nw_M_rentAt, vw_M_rentAt⟩
theorem wv_M_284 : WV "FairWallsModel" 284 m_M_runPlace 3 := ⟨⟨gtb 1388 (by decide +kernel) (by decide +kernel), iw_M_runPlace, cw_M_runPlace, rfl, by decide +kernel, by decide +kernel⟩, nw_M_runPlace, vw_M_runPlace⟩
theorem wv_M_287 : WV "FairWallsModel" 287 m_M_runSwap 2 := ⟨⟨gtb 1392 (by decide +kernel) (by decide +kernel), iw_M_runSwap, cw_M_runSwap, rfl, by decide +kernel, by decide +kernel⟩, nw_M_runSwap, vw_M_runSwap⟩
theorem wv_M_290 : WV "FairWallsModel" 290 m_M_runLeave 1 := ⟨⟨gtb 1396 (by decide +kernel) (by decide +kernel), iw_M_runLeave, cw_M_runLeave, rfl, by decide +kernel, by decide +kernel⟩, nw_M_runLeave, vw_M_runLeave⟩
theorem wv_M_293 : WV "FairWallsModel" 293 m_M_runDays 1 := ⟨⟨gtb 1400 (by decide +kernel) (by decide +kernel), iw_M_runDays, cw_M_runDays, rfl, by decide +kernel, by decide +kernel⟩, nw_M_runDays, vw_M_runDays⟩
theorem wv_M_296 : WV "FairWallsModel" 296 m_M_runSet 2 := ⟨⟨gtb 1404 (by decide +kernel) (by decide +kernel), iw_M_runSet, cw_M_runSet, rfl, by decide +kernel, by decide +kernel⟩, nw_M_runSet, vw_M_runSet⟩
theorem wv_M_299 : WV "FairWallsModel" 299 m_M_runOutlet 3 := ⟨⟨gtb 1408 (by decide +kernel) (by decide +kernel), iw_M_runOutlet, cw_M_runOutlet, rfl, by decide +kernel, by decide +kernel⟩, nw_M_runOutlet, vw_M_runOutlet⟩
theorem wv_M_302 : WV "FairWallsModel" 302 m_M_isCheap 2 := ⟨⟨gtb 1412 (by decide +kernel) (by decide +kernel), iw_M_isCheap, cw_M_isCheap, rfl, by decide +kernel, by decide +kernel⟩, nw_M_isCheap, vw_M_isCheap⟩
theorem wv_M_305 : WV "FairWallsModel" 305 m_M_isFed 2 := ⟨⟨gtb 1416 (by decide +kernel) (by decide +kernel), iw_M_isFed, cw_M_isFed, rfl, by decide +kernel, by decide +kernel⟩, nw_M_isFed, vw_M_isFed⟩
theorem ws_M_308 : WS "FairWallsModel" 308 m_M_tens 1 := ⟨⟨gtb 1379 (by decide +kernel) (by decide +kernel), iw_M_tens, cw_M_tens, rfl, by decide +kernel, by decide +kernel⟩, sw_M_tens⟩
theorem wv_M_314 : WV "FairWallsModel" 314 m_M_command 1 := ⟨⟨gtb 1384 (by decide +kernel) (by decide +kernel), iw_M_command, cw_M_command, rfl, by decide +kernel, by decide +kernel⟩, nw_M_command, vw_M_command⟩
theorem wv_M_321 : WV "FairWallsModel" 321 m_M_stir 1 := ⟨⟨gtb 1426 (by decide +kernel) (by decide +kernel), iw_M_stir, cw_M_stir, rfl, by decide +kernel, by decide +kernel⟩, nw_M_stir, vw_M_stir⟩
end
section
/-! System.arraycopy out of a static array; Arrays.fill -/
section FILL
variable {l : Launch} {D : va_G} {ad : Nat → Nat} {aC : Nat → ClassId} {R : Room} {QQ : List Frame → Array Value → State → State → Prop} {M M2 : MI} {pc k n idx : Nat} {ls ls' : List (Option Value)} {st st' rest as : List Value} {h h1 : HP}
def f_R_fill (h : HP) (a0 : Nat) (x1 : Int32) : Option HP := some (hrow h a0 (fun j => if j < alen a0 then x1 else h a0 j))
theorem fill_row {h : HP} {a N : Nat} {x : Int32} : ∀ i, i < N → hset (hrow h a (fun j => if j < i then x else h a j)) a i x = hrow h a (fun j => if j < i + 1 then x else h a j) := by
  intro i hi
  funext b
  by_cases hb : b = a
  · subst hb
    rw [hset_eq, hrow_s, hrow_s, hrow_s]
    funext j
    unfold upd
    by_cases hj : j = i
    · subst hj; rw [if_pos rfl, if_pos (Nat.lt_succ_self _)]
    · rw [if_neg hj]
      dsimp only
      by_cases h2 : j < i
      · rw [if_pos h2, if_pos (by omega)]
      · rw [if_neg h2, if_neg (by omega)]
  · rw [hset_eq, hrow_n _ _ hb, hrow_n _ _ hb, hrow_n _ _ hb]
theorem fill_0 {h : HP} {a : Nat} {x : Int32} : hrow h a (fun j => if j < 0 then x else h a j) = h := by
  funext b
  by_cases hb : b = a
  · subst hb; rw [hrow_s]; funext j; rw [if_neg (Nat.not_lt_zero _)]
  · rw [hrow_n _ _ hb]
theorem x_fill_loop {h : HP} {a0 N : Nat} {x1 : Int32} (hI : Inj ad) (k0 : knd a0 = 10) (q0 : alen a0 = N) (hN : N < 2 ^ 31) : ∀ (m i : Nat), i + m = N → Go l D ad aC (rmk m_R_fill) (QM D ad aC m_R_fill (.inl none) (hrow h a0 (fun j => if j < N then x1 else h a0 j))) m_R_fill 5 [some (.ref a0), some (.int x1), some (.int (nI i)), some (.int (nI N))] [] (hrow h a0 (fun j => if j < i then x1 else h a0 j)) 0 0 := by
  intro m
  induction m with
  | zero =>
    intro i hi
    have e : i = N := by omega
    subst e
    refine Go.run (pc' := 7) [.iload_n 2, .iload_n 3] (ls' := [some (.ref a0), some (.int x1), some (.int (nI i)), some (.int (nI i))]) (st' := [.int (nI i), .int (nI i)]) (by decide +kernel) rfl rfl ?_
    refine Go.ic_ge (off := 13) (tgt := 20) (by decide +kernel) (by decide) (fun _ => ?_) (fun c => absurd (nI_le (Nat.le_refl i) hN) c)
    exact Go.vret rfl (by decide) (by decide) (by decide +kernel)
  | succ m ih =>
    intro i hi
    have hlt : i < N := by omega
    refine Go.run (pc' := 7) [.iload_n 2, .iload_n 3] (ls' := [some (.ref a0), some (.int x1), some (.int (nI i)), some (.int (nI N))]) (st' := [.int (nI N), .int (nI i)]) (by decide +kernel) rfl rfl ?_
    refine Go.ic_ge (off := 13) (tgt := 20) (by decide +kernel) (by decide) (fun c => absurd c (nI_ge hlt hN)) (fun _ => ?_)
    refine Go.run (pc' := 13) [.aload_n 0, .iload_n 2, .iload_n 1] (ls' := [some (.ref a0), some (.int x1), some (.int (nI i)), some (.int (nI N))]) (st' := [.int x1, .int (nI i), .ref a0]) (by decide +kernel) rfl rfl ?_
    have hb : ib (nI i) N = true := by
      unfold ib
      rw [nI_clamp (by omega)]
      simp only [Bool.and_eq_true, Bool.not_eq_true', decide_eq_false_iff_not, Nat.blt_eq]
      exact ⟨nI_pos (by omega), hlt⟩
    refine Go.iast hI k0 q0 hb (by decide +kernel) ?_
    rw [nI_clamp (by omega), fill_row i hlt]
    refine Go.run (pc' := 17) [.iinc 2 1] (ls' := [some (.ref a0), some (.int x1), some (.int (nI (i + 1))), some (.int (nI N))]) (st' := []) (by decide +kernel) (by rw [nI_succ]; rfl) rfl ?_
    refine Go.goto (off := -12) (tgt := 5) (by decide +kernel) (by decide) ?_
    exact ih (i + 1) (by omega)
theorem alen_lt : ∀ i, i < 215 → knd i = 10 → alen i < 2 ^ 31 := by decide +kernel
theorem x_R_fill (hf : l.flags = flags0) (hI : Inj ad) {h : HP} {a0 N : Nat} {x1 : Int32} {r : HP} (k0 : knd a0 = 10) (q0 : alen a0 = N) (e : f_R_fill h a0 x1 = some r) : CT l D ad aC m_R_fill [.ref a0, .int x1] h (.inl none) r := by
  obtain rfl := Option.some.inj e
  refine CT.ofGo (by decide +kernel) rfl (Nat.le_of_ble_eq_true rfl) ?_
  show Go l D ad aC (rmk m_R_fill) _ m_R_fill 0 [some (.ref a0), some (.int x1), none, none] [] h 0 0
  refine Go.run (pc' := 3) [.iconst 0, .istore_n 2, .aload_n 0] (ls' := [some (.ref a0), some (.int x1), some (.int 0), none]) (st' := [.ref a0]) (by decide +kernel) rfl rfl ?_
  refine Go.alen (v := nI N) k0 q0 rfl (by decide +kernel) ?_
  refine Go.run (pc' := 5) [.istore_n 3] (ls' := [some (.ref a0), some (.int x1), some (.int 0), some (.int (nI N))]) (st' := []) (by decide +kernel) rfl rfl ?_
  have G := x_fill_loop (l := l) (D := D) (aC := aC) (h := h) (x1 := x1) hI k0 q0 (by rw [← q0]; exact kd (P := fun t => alen t < 2 ^ 31) (by decide) alen_lt k0) N 0 (by omega)
  rw [fill_0, nI_0, ← q0] at G
  rw [← q0]
  exact G
end FILL
section COPYS
variable {l : Launch} {D : va_G} {ad : Nat → Nat} {aC : Nat → ClassId} {R : Room} {QQ : List Frame → Array Value → State → State → Prop} {M M2 : MI} {pc k n idx : Nat} {ls ls' : List (Option Value)} {st st' rest as : List Value} {h h1 : HP}
/-- System.arraycopy of ints from the head of a static array to the head of one of the world -/
theorem goCopyS {i b nb N' : Nat} {N : Int32} (hI : Inj ad) (i1 : 212 ≤ i) (i2 : i < 215) (hkb : knd b = 10) (hnb : alen b = nb) (hN : N.toNatClampNeg = N') (h0 : ¬ N < 0) (h4 : N' ≤ alen i) (h5 : N' ≤ nb) (hw : NOK M.y.cls idx) (hfr : 1 ≤ R.frames) (hlo : (rest.map fun v => v.category).sum + (nativeFrameWords "java/lang/System" "arraycopy" 5 + 11) ≤ R.locals)
    (hd : decode M.b pc = .ok (.invokestatic idx, 3)) (g : Go l D ad aC R QQ M (pc + 3) ls rest (hrow h b (cpy0 (sarr i) (h b) N')) k n) : Go l D ad aC R QQ M pc ls (.int N :: .int 0 :: .ref b :: .int 0 :: .ref i :: rest) h k n := by
  intro p e s m args below meth c H locs cs F hS hW hl
  have hts := F.2.2.2.2.2.1
  have hb : b < 212 := knd_in hkb (by omega) (by omega)
  have e0 : (0 : Int32).toNatClampNeg = 0 := rfl
  have hNi : N.toInt = (N' : Int) := by
    have h9 : (0 : Int) ≤ N.toInt := by
      have := Int32.not_lt.mp h0
      simpa using Int32.le_iff_toInt_le.mp this
    have h8 : N.toInt.toNat = N' := hN
    omega
  intro T hT X
  obtain ⟨scr, hs1, hs2, hs3, hs4, -, hs5, hs7⟩ := (F.ev.2.1 i i1 i2).2.kept hS.2.1
  have hat : (wl ad aC h)[b]? = some (ad b, .inl (aC b, alen b, .inl (h b))) := by rw [wl_at ad aC h hb, ent_i hkb (by omega)]
  have hc1 : H[ad b]? = some (vp_cell (aC b) (alen b, .inl (h b))) := hW.1 b _ hat
  obtain ⟨hs6, k0, hk0, cm0, hkk0⟩ := hs2
  obtain ⟨-, k1, hk1, cm1, hkk1⟩ := ((hW.2.arr hkb (by omega) (by omega)).2 0 _ rfl).1 (alen b) (fun j => .int (h b j))
  obtain ⟨vm', X', step⟩ := X.arraycopy F.1 F.2.2.2.2.1 (hts _ hw.1) (hts _ hw.2.1) (hts _ hw.2.2.1) (hts _ hw.2.2.2) (src := ad i) (dst := ad b) (cs := scr) (cd := vp_cell (aC b) (alen b, .inl (h b))) (srcPos := 0) (destPos := 0) (n := N) (by rw [hT]; exact hs1) (by rw [hT]; exact hc1)
    hs6 (fun _ z => by cases z) hs3 (fun z => by cases z) hk0 hk1 hkk0 hkk1 rfl (by decide) (by decide) h0
    (by rw [hNi]; show ¬ ((0 : Int32).toInt + (N' : Int) > (scr.slots.size : Int)); have z : (0 : Int32).toInt = 0 := rfl; rw [z]; omega)
    (by rw [hNi]; show ¬ ((0 : Int32).toInt + (N' : Int) > ((arrV (aC b) (alen b) (fun j => .int (h b j))).slots.size : Int)); have z : (0 : Int32).toInt = 0 := rfl; rw [z, arrV_size]; omega)
    (fun vm₁ _ j hj => by
      have e9 : scr.slots.getD ((0 : Int32).toNatClampNeg + j) .null = .int (sarr i j) := by
        rw [e0, Nat.zero_add, Array.getD_eq_getD_getElem?, hs5 j (by omega)]
        rfl
      exact ⟨by rw [e9]; rfl, by rw [e9]; trivial⟩)
    (g := F0 m pc cs (.int N :: .int 0 :: .ref (ad b) :: .int 0 :: .ref (ad i) :: rest.map (cv ad))) rfl (by rw [F.2.2.2.1]; exact hl.2.1) (rest := rest.map (cv ad)) rfl (by rw [F.2.1]; exact hd) hfr (by show 2 * 0 + _ + _ ≤ _; rw [cat_cv]; omega)
  have e1 : copied scr (vp_cell (aC b) (alen b, .inl (h b))) 0 0 N = vp_cell (aC b) (alen b, .inl (cpy0 (sarr i) (h b) N')) := by
    have q := va_copiedX (fun z => Value.int z) scr (aC b) (n0 := alen i) (n1 := alen b) (sp := 0) (dp := 0) (n := N') (sarr i) (h b) hs5 (by omega)
    have q2 : va_cpy (sarr i) (h b) 0 0 N' = cpy0 (sarr i) (h b) N' := by rw [← va_cpy0 hN, e0, hN]
    rw [q2] at q
    show (arrV (aC b) (alen b) (fun j => Value.int (h b j))).storeRun 0 (scr.stretch 0 N.toNatClampNeg) = _
    rw [hN]
    exact q
  rw [e1] at X' step
  have hlt : ad b < H.size := (Array.getElem?_eq_some_iff.mp hc1).1
  have oq : ∀ q : Nat, q ≠ ad b → (H.setIfInBounds (ad b) (vp_cell (aC b) (alen b, .inl (cpy0 (sarr i) (h b) N'))))[q]? = H[q]? := fun q hq => by simp [Array.getElem?_setIfInBounds, Ne.symm hq]
  have hP1 := hW.1.set (wl_D hI h s.heap.size) hat (e := .inl (aC b, alen b, .inl (cpy0 (sarr i) (h b) N'))) (show (H.setIfInBounds (ad b) (vp_cell (aC b) (alen b, .inl (cpy0 (sarr i) (h b) N'))))[ad b]? = some _ by simp [Array.getElem?_setIfInBounds, hlt]) oq
  rw [wl_row hkb (by omega)] at hP1
  obtain ⟨t, a1, b1⟩ := g p e s m args below meth c (H.setIfInBounds (ad b) (vp_cell (aC b) (alen b, .inl (cpy0 (sarr i) (h b) N')))) _ cs F ⟨by simp; exact hS.1, fun q g1 g2 => by
      rw [oq q (fun z => g2 (by rw [z]; exact AA_in hb))]
      exact hS.2.1 q g1 g2, fun q hq => by
      rcases List.mem_append.mp hq with z | z
      · exact hS.2.2 q z
      · obtain ⟨y, -, hy⟩ := List.mem_map.mp z
        rw [← hy]
        exact AA_in hb⟩ ⟨hP1, hW.2⟩ hl ((T.setVm vm').setCell (ad b) (vp_cell (aC b) (alen b, .inl (cpy0 (sarr i) (h b) N')))) (by rw [← hT]; rfl) X'
  exact ⟨t, step t a1, b1⟩
end COPYS
end
section
/-! "wodplsne".indexOf(c): the walk through java/lang/String -/
def m_Y_lat : MI := (⟨"java/lang/String", "isLatin1", "()Z"⟩, prog_18_method_154_code, 1, (Option.some Jvm.ClassFile.FieldType.boolean), 0, 0, [])
def m_Y_cod : MI := (⟨"java/lang/String", "coder", "()B"⟩, prog_18_method_152_code, 1, (Option.some Jvm.ClassFile.FieldType.byte), 0, 0, [])
def m_Y_len : MI := (⟨"java/lang/String", "length", "()I"⟩, prog_18_method_54_code, 1, (Option.some Jvm.ClassFile.FieldType.int), 1, 0, [])
def m_Y_ix2 : MI := (⟨"java/lang/String", "indexOf", "(II)I"⟩, prog_18_method_80_code, 3, (Option.some Jvm.ClassFile.FieldType.int), 3, 0, [])
def m_Y_can : MI := (⟨"java/lang/StringLatin1", "canEncode", "(I)Z"⟩, prog_19_method_4_code, 1, (Option.some Jvm.ClassFile.FieldType.boolean), 0, 0, [])
def m_Y_ixc : MI := (⟨"java/lang/StringLatin1", "indexOfChar", "([BIII)I"⟩, prog_19_method_23_code, 6, (Option.some Jvm.ClassFile.FieldType.int), 0, 0, [])
def m_Y_ixl : MI := (⟨"java/lang/StringLatin1", "indexOf", "([BIII)I"⟩, prog_19_method_22_code, 4, (Option.some Jvm.ClassFile.FieldType.int), 2, 0, [])
theorem iw_Y_S : Cond.initialized "java/lang/String" ∈ GT := gtb 16 (by decide +kernel) (by decide +kernel)
theorem iw_Y_L : Cond.initialized "java/lang/StringLatin1" ∈ GT := gtb 17 (by decide +kernel) (by decide +kernel)
theorem wv_Y_633 : WV "java/lang/String" 633 m_Y_ix2 2 := ⟨⟨gtb 267 (by decide +kernel) (by decide +kernel), iw_Y_S, gtb 270 (by decide +kernel) (by decide +kernel), rfl, by decide +kernel, by decide +kernel⟩, gtb 268 (by decide +kernel) (by decide +kernel), gtb 269 (by decide +kernel) (by decide +kernel)⟩
theorem wv_Y_492 : WV "java/lang/String" 492 m_Y_lat 0 := ⟨⟨gtb 271 (by decide +kernel) (by decide +kernel), iw_Y_S, gtb 274 (by decide +kernel) (by decide +kernel), rfl, by decide +kernel, by decide +kernel⟩, gtb 272 (by decide +kernel) (by decide +kernel), gtb 273 (by decide +kernel) (by decide +kernel)⟩
theorem wv_Y_505 : WV "java/lang/String" 505 m_Y_len 0 := ⟨⟨gtb 277 (by decide +kernel) (by decide +kernel), iw_Y_S, gtb 280 (by decide +kernel) (by decide +kernel), rfl, by decide +kernel, by decide +kernel⟩, gtb 278 (by decide +kernel) (by decide +kernel), gtb 279 (by decide +kernel) (by decide +kernel)⟩
theorem wv_Y_335 : WV "java/lang/String" 335 m_Y_cod 0 := ⟨⟨gtb 281 (by decide +kernel) (by decide +kernel), iw_Y_S, gtb 284 (by decide +kernel) (by decide +kernel), rfl, by decide +kernel, by decide +kernel⟩, gtb 282 (by decide +kernel) (by decide +kernel), gtb 283 (by decide +kernel) (by decide +kernel)⟩
theorem ws_Y_637 : WS "java/lang/String" 637 m_Y_ixl 4 := ⟨⟨gtb 285 (by decide +kernel) (by decide +kernel), iw_Y_L, gtb 287 (by decide +kernel) (by decide +kernel), rfl, by decide +kernel, by decide +kernel⟩, gtb 286 (by decide +kernel) (by decide +kernel)⟩
theorem ws_Y_88 : WS "java/lang/StringLatin1" 88 m_Y_can 1 := ⟨⟨gtb 288 (by decide +kernel) (by decide +kernel), iw_Y_L, gtb 290 (by decide +kernel) (by decide +kernel), rfl, by decide +kernel, by decide +kernel⟩, gtb 289 (by decide +kernel) (by decide +kernel)⟩
theorem ws_Y_92 : WS "java/lang/StringLatin1" 92 m_J_max 2 := ⟨⟨gtb 291 (by decide +kernel) (by decide +kernel), iw_J_max, cw_J_max, rfl, by decide +kernel, by decide +kernel⟩, sw_J_max⟩
theorem ws_Y_38 : WS "java/lang/StringLatin1" 38 m_J_min 2 := ⟨⟨gtb 294 (by decide +kernel) (by decide +kernel), iw_J_min, cw_J_min, rfl, by decide +kernel, by decide +kernel⟩, sw_J_min⟩
theorem ws_Y_95 : WS "java/lang/StringLatin1" 95 m_Y_ixc 4 := ⟨⟨gtb 297 (by decide +kernel) (by decide +kernel), iw_Y_L, gtb 299 (by decide +kernel) (by decide +kernel), rfl, by decide +kernel, by decide +kernel⟩, gtb 298 (by decide +kernel) (by decide +kernel)⟩
section IXOF
variable {l : Launch} {D : va_G} {ad : Nat → Nat} {aC : Nat → ClassId} {R : Room} {QQ : List Frame → Array Value → State → State → Prop} {M M2 : MI} {pc k n idx : Nat} {ls ls' : List (Option Value)} {st st' rest as : List Value} {h h1 : HP}
theorem goYcs (hM : M.y.cls = "java/lang/String") (hd : decode M.b pc = .ok (.getstatic 38, 3)) (g : Go l D ad aC R QQ M (pc + 3) ls (.int 1 :: st) h k n) : Go l D ad aC R QQ M pc ls st h k n :=
  fun p e s m args below meth c H locs cs F hS hW hl => va_gets (C := "java/lang/String") (n := "COMPACT_STRINGS") (d := "Z") (own := "java/lang/String") (ref := "java/lang/String") (index := 38) F.1 F.2.1 F.ev.2.2.2.1.2.2.2 hS (by rw [← hM]; exact F.2.2.2.2.1) (F.2.2.2.2.2.1 _ (gtb 275 (by decide +kernel) (by decide +kernel))) (fun _ z => z) hd (g p e s m args below meth c H locs cs F hS hW hl)
theorem goYcod (hM : M.y.cls = "java/lang/String") (hd : decode M.b pc = .ok (.getfield 15, 3)) (g : Go l D ad aC R QQ M (pc + 3) ls (.int 0 :: st) h k n) : Go l D ad aC R QQ M pc ls (.ref 215 :: st) h k n :=
  fun p e s m args below meth c H locs cs F hS hW hl => vk_getf (own := "java/lang/String") (ref := "java/lang/String") (index := 15) F.1 F.2.1 (F.ev.2.2.2.1.2.2.1.1 0 (by decide)).2.1 hS (by rw [← hM]; exact F.2.2.2.2.1) (F.2.2.2.2.2.1 _ (gtb 1441 (by decide +kernel) (by decide +kernel))) (fun _ z => z) hd (g p e s m args below meth c H locs cs F hS hW hl)
theorem goYval (hM : M.y.cls = "java/lang/String") (hd : decode M.b pc = .ok (.getfield 9, 3)) (g : Go l D ad aC R QQ M (pc + 3) ls (.ref 216 :: st) h k n) : Go l D ad aC R QQ M pc ls (.ref 215 :: st) h k n :=
  fun p e s m args below meth c H locs cs F hS hW hl => vk_getf (own := "java/lang/String") (ref := "java/lang/String") (index := 9) F.1 F.2.1 (F.ev.2.2.2.1.2.2.1.1 0 (by decide)).2.2.1 hS (by rw [← hM]; exact F.2.2.2.2.1) (F.2.2.2.2.2.1 _ (gtb 1442 (by decide +kernel) (by decide +kernel))) (fun _ z => z) hd (g p e s m args below meth c H locs cs F hS hW hl)
theorem goYlen (hd : decode M.b pc = .ok (.arraylength, 1)) (g : Go l D ad aC R QQ M (pc + 1) ls (.int 8 :: st) h k n) : Go l D ad aC R QQ M pc ls (.ref 216 :: st) h k n :=
  fun p e s m args below meth c H locs cs F hS hW hl => va_tlen F.1 F.2.1 (F.ev.2.2.2.1.2.2.1.1 0 (by decide)).2.2.2 hS rfl hd (g p e s m args below meth c H locs cs F hS hW hl)
theorem goYld {i : Nat} (hi : i < 8) (hd : decode M.b pc = .ok (.baload, 1)) (g : Go l D ad aC R QQ M (pc + 1) ls (.int (lixB.getD i 0) :: st) h k n) : Go l D ad aC R QQ M pc ls (.int (nI i) :: .ref 216 :: st) h k n :=
  fun p e s m args below meth c H locs cs F hS hW hl => va_tb (N := 8) F.1 F.2.1 (F.ev.2.2.2.1.2.2.1.1 0 (by decide)).2.2.2 hS (vp_in_nI hi (by decide)) (by rw [nI_clamp (by omega)]; rfl) hd (g p e s m args below meth c H locs cs F hS hW hl)
theorem Go.callZ {nn : Nat} {v : Option Value} (hct : CT l D ad aC M2 (.ref 215 :: as) h (.inl v) h1) (hM2 : M2.y.cls = "java/lang/String") (hw : WV M.y.cls idx M2 nn) (hd : decode M.b pc = .ok (.invokevirtual idx, 3)) (hst : st = as.reverse ++ .ref 215 :: rest) (hn : as.length = nn) (hR : RoomOK R M2 k n) (hcat : (rest.map fun v => v.category).sum ≤ 8)
    (g : Go l D ad aC R QQ M (pc + 3) ls (v.toList ++ rest) h1 (k + M2.mc) (n + 6 * M2.mc)) : Go l D ad aC R QQ M pc ls st h k n := by
  intro p e s m args below meth c0 H locs cs F hS hW hl
  have hts := F.2.2.2.2.2.1
  have hstk : st.map (cv ad) = (as.map (cv ad)).reverse ++ .ref (ad 215) :: rest.map (cv ad) := by
    rw [hst, map_app_cv, List.map_reverse]; rfl
  rw [hstk]
  refine backR F hS hW hl (vx_runV (As := as.map (cv ad)) (rest := rest.map (cv ad)) (C := M2.y.cls) (nL := M.mL) (Ts := GT) (own := M.y.cls) (cc := M.b) ⟨F.1, F.2.1, F.2.2.2.1, F.2.2.2.2.1, hts⟩ (hct H.size) ⟨callB_ok F hw.1 hR, hts _ hw.2.1, hts _ hw.2.2⟩ ⟨blindP, by rw [hM2]; exact vk_recv F.ev.2.2.2.1.2.2.1 (i := 0) (by decide) hS, givenP F.ev hS hW⟩ rfl (by rw [List.length_map]; exact hn) hl.2.1 rfl (lv_room (by rw [cat_cv]; exact hcat)) hd hR.2) g
end IXOF
section IXO2
variable {l : Launch} {D : va_G} {ad : Nat → Nat} {aC : Nat → ClassId} {R : Room} {QQ : List Frame → Array Value → State → State → Prop} {M M2 : MI} {pc k n idx : Nat} {ls ls' : List (Option Value)} {st st' rest as : List Value} {h h1 : HP}
theorem y_lat : CT l D ad aC m_Y_lat [.ref 215] h (.inl (some (.int 1))) h := by
  refine CT.ofGo (by decide +kernel) rfl (Nat.le_of_ble_eq_true rfl) ?_
  show Go l D ad aC (rmk m_Y_lat) _ m_Y_lat 0 [some (.ref 215)] [] h 0 0
  refine goYcs rfl (by decide +kernel) ?_
  refine Go.if_eq (off := 14) (tgt := 17) (by decide +kernel) (by decide) (fun z => absurd z (by decide)) (fun _ => ?_)
  refine Go.run (pc' := 7) [.aload_n 0] (ls' := [some (.ref 215)]) (st' := [.ref 215]) (by decide +kernel) rfl rfl ?_
  refine goYcod rfl (by decide +kernel) ?_
  refine Go.if_ne (off := 7) (tgt := 17) (by decide +kernel) (by decide) (fun z => absurd rfl z) (fun _ => ?_)
  refine Go.run (pc' := 14) [.iconst 1] (ls' := [some (.ref 215)]) (st' := [.int 1]) (by decide +kernel) rfl rfl ?_
  refine Go.goto (off := 4) (tgt := 18) (by decide +kernel) (by decide) ?_
  exact Go.zret rfl rfl (by decide) (by decide) (by decide +kernel)
theorem y_cod : CT l D ad aC m_Y_cod [.ref 215] h (.inl (some (.int 0))) h := by
  refine CT.ofGo (by decide +kernel) rfl (Nat.le_of_ble_eq_true rfl) ?_
  show Go l D ad aC (rmk m_Y_cod) _ m_Y_cod 0 [some (.ref 215)] [] h 0 0
  refine goYcs rfl (by decide +kernel) ?_
  refine Go.if_eq (off := 10) (tgt := 13) (by decide +kernel) (by decide) (fun z => absurd z (by decide)) (fun _ => ?_)
  refine Go.run (pc' := 7) [.aload_n 0] (ls' := [some (.ref 215)]) (st' := [.ref 215]) (by decide +kernel) rfl rfl ?_
  refine goYcod rfl (by decide +kernel) ?_
  refine Go.goto (off := 4) (tgt := 14) (by decide +kernel) (by decide) ?_
  exact Go.zret rfl rfl (by decide) (by decide) (by decide +kernel)
theorem Go.ishr {x y : Int32} (hd : decode M.b pc = .ok (.ishr, 1)) (g : Go l D ad aC R QQ M (pc + 1) ls (.int (x >>> (y &&& 31)) :: st) h k n) : Go l D ad aC R QQ M pc ls (.int y :: .int x :: st) h k n :=
  fun p e s m args below meth c H locs cs F hS hW hl => lv_ishr F.1 F.2.1 hd (g p e s m args below meth c H locs cs F hS hW hl)
theorem Go.i2b {x v : Int32} (hd : decode M.b pc = .ok (.i2b, 1)) (hv : x.toInt8.toInt32 = v) (g : Go l D ad aC R QQ M (pc + 1) ls (.int v :: st) h k n) : Go l D ad aC R QQ M pc ls (.int x :: st) h k n :=
  fun p e s m args below meth c H locs cs F hS hW hl => lv_i2b F.1 F.2.1 hd hv (g p e s m args below meth c H locs cs F hS hW hl)
theorem y_len : CT l D ad aC m_Y_len [.ref 215] h (.inl (some (.int 8))) h := by
  refine CT.ofGo (by decide +kernel) rfl (Nat.le_of_ble_eq_true rfl) ?_
  show Go l D ad aC (rmk m_Y_len) _ m_Y_len 0 [some (.ref 215)] [] h 0 0
  refine Go.run (pc' := 1) [.aload_n 0] (ls' := [some (.ref 215)]) (st' := [.ref 215]) (by decide +kernel) rfl rfl ?_
  refine goYval rfl (by decide +kernel) ?_
  refine goYlen (by decide +kernel) ?_
  refine Go.run (pc' := 6) [.aload_n 0] (ls' := [some (.ref 215)]) (st' := [.ref 215, .int 8]) (by decide +kernel) rfl rfl ?_
  refine Go.callZ (M2 := m_Y_cod) (as := []) (rest := [.int 8]) y_cod rfl wv_Y_335 (by decide +kernel) rfl rfl ⟨⟨Nat.le_of_ble_eq_true rfl, Nat.le_of_ble_eq_true rfl⟩, ⟨Nat.le_of_ble_eq_true rfl, Nat.le_of_ble_eq_true rfl⟩⟩ (Nat.le_of_ble_eq_true rfl) ?_
  refine Go.ishr (x := 8) (y := 0) (by decide +kernel) ?_
  exact Go.iret rfl (by decide) (by decide) (by decide +kernel)
theorem y_can {c : Int32} : CT l D ad aC m_Y_can [.int c] h (.inl (some (.int (if c < 0 then 0 else if 255 < c then 0 else 1)))) h := by
  refine CT.ofGo (by decide +kernel) rfl (Nat.le_of_ble_eq_true rfl) ?_
  show Go l D ad aC (rmk m_Y_can) _ m_Y_can 0 [some (.int c)] [] h 0 0
  refine Go.run (pc' := 1) [.iload_n 0] (ls' := [some (.int c)]) (st' := [.int c]) (by decide +kernel) rfl rfl ?_
  refine Go.if_lt (off := 14) (tgt := 15) (by decide +kernel) (by decide) (fun z => ?_) (fun z => ?_)
  · rw [if_pos z]
    refine Go.run (pc' := 16) [.iconst 0] (ls' := [some (.int c)]) (st' := [.int 0]) (by decide +kernel) rfl rfl ?_
    exact Go.zret rfl rfl (by decide) (by decide) (by decide +kernel)
  · rw [if_neg z]
    refine Go.run (pc' := 8) [.iload_n 0, .sipush 255] (ls' := [some (.int c)]) (st' := [.int 255, .int c]) (by decide +kernel) rfl rfl ?_
    refine Go.ic_gt (off := 7) (tgt := 15) (by decide +kernel) (by decide) (fun y => ?_) (fun y => ?_)
    · rw [if_pos y]
      refine Go.run (pc' := 16) [.iconst 0] (ls' := [some (.int c)]) (st' := [.int 0]) (by decide +kernel) rfl rfl ?_
      exact Go.zret rfl rfl (by decide) (by decide) (by decide +kernel)
    · rw [if_neg y]
      refine Go.run (pc' := 12) [.iconst 1] (ls' := [some (.int c)]) (st' := [.int 1]) (by decide +kernel) rfl rfl ?_
      refine Go.goto (off := 4) (tgt := 16) (by decide +kernel) (by decide) ?_
      exact Go.zret rfl rfl (by decide) (by decide) (by decide +kernel)
theorem y_max : CT l D ad aC m_J_max [.int 0, .int 0] h (.inl (some (.int 0))) h := by
  refine CT.ofGo (by decide +kernel) rfl (Nat.le_of_ble_eq_true rfl) ?_
  show Go l D ad aC (rmk m_J_max) _ m_J_max 0 [some (.int 0), some (.int 0)] [] h 0 0
  refine Go.run (pc' := 2) [.iload_n 0, .iload_n 1] (ls' := [some (.int 0), some (.int 0)]) (st' := [.int 0, .int 0]) (by decide +kernel) rfl rfl ?_
  refine Go.ic_lt (off := 7) (tgt := 9) (by decide +kernel) (by decide) (fun z => absurd z (by decide)) (fun _ => ?_)
  refine Go.run (pc' := 6) [.iload_n 0] (ls' := [some (.int 0), some (.int 0)]) (st' := [.int 0]) (by decide +kernel) rfl rfl ?_
  refine Go.goto (off := 4) (tgt := 10) (by decide +kernel) (by decide) ?_
  exact Go.iret rfl (by decide) (by decide) (by decide +kernel)
theorem y_min : CT l D ad aC m_J_min [.int 8, .int 8] h (.inl (some (.int 8))) h := by
  refine CT.ofGo (by decide +kernel) rfl (Nat.le_of_ble_eq_true rfl) ?_
  show Go l D ad aC (rmk m_J_min) _ m_J_min 0 [some (.int 8), some (.int 8)] [] h 0 0
  refine Go.run (pc' := 2) [.iload_n 0, .iload_n 1] (ls' := [some (.int 8), some (.int 8)]) (st' := [.int 8, .int 8]) (by decide +kernel) rfl rfl ?_
  refine Go.ic_gt (off := 7) (tgt := 9) (by decide +kernel) (by decide) (fun z => absurd z (by decide)) (fun _ => ?_)
  refine Go.run (pc' := 6) [.iload_n 0] (ls' := [some (.int 8), some (.int 8)]) (st' := [.int 8]) (by decide +kernel) rfl rfl ?_
  refine Go.goto (off := 4) (tgt := 10) (by decide +kernel) (by decide) ?_
  exact Go.iret rfl (by decide) (by decide) (by decide +kernel)
def scan (x : Int32) : Nat → Nat → Int32
  | 0, _ => -1
  | n + 1, i => if lixB.getD i 0 = x then nI i else scan x n (i + 1)
theorem y_ixc {c : Int32} : CT l D ad aC m_Y_ixc [.ref 216, .int c, .int 0, .int 8] h (.inl (some (.int (scan c.toInt8.toInt32 8 0)))) h := by
  refine CT.ofGo (by decide +kernel) rfl (Nat.le_of_ble_eq_true rfl) ?_
  have loop : ∀ (n i : Nat), i + n = 8 → Go l D ad aC (rmk m_Y_ixc) (QM D ad aC m_Y_ixc (.inl (some (.int (scan c.toInt8.toInt32 n i)))) h) m_Y_ixc 7 [some (.ref 216), some (.int c), some (.int 0), some (.int 8), some (.int c.toInt8.toInt32), some (.int (nI i))] [] h 0 0 := by
    intro n
    induction n with
    | zero =>
      intro i hi
      have e : i = 8 := by omega
      subst e
      refine Go.run (pc' := 10) [.iload 5, .iload_n 3] (ls' := [some (.ref 216), some (.int c), some (.int 0), some (.int 8), some (.int c.toInt8.toInt32), some (.int (nI 8))]) (st' := [.int 8, .int (nI 8)]) (by decide +kernel) rfl rfl ?_
      refine Go.ic_ge (off := 21) (tgt := 31) (by decide +kernel) (by decide) (fun _ => ?_) (fun z => absurd (by decide) z)
      refine Go.run (pc' := 32) [.iconst (-1)] (ls' := [some (.ref 216), some (.int c), some (.int 0), some (.int 8), some (.int c.toInt8.toInt32), some (.int (nI 8))]) (st' := [.int (-1)]) (by decide +kernel) rfl rfl ?_
      exact Go.iret rfl (by decide) (by decide) (by decide +kernel)
    | succ n ih =>
      intro i hi
      refine Go.run (pc' := 10) [.iload 5, .iload_n 3] (ls' := [some (.ref 216), some (.int c), some (.int 0), some (.int 8), some (.int c.toInt8.toInt32), some (.int (nI i))]) (st' := [.int 8, .int (nI i)]) (by decide +kernel) rfl rfl ?_
      refine Go.ic_ge (off := 21) (tgt := 31) (by decide +kernel) (by decide) (fun z => absurd z (by show ¬ nI 8 ≤ nI i; exact nI_ge (by omega) (by decide))) (fun _ => ?_)
      refine Go.run (pc' := 16) [.aload_n 0, .iload 5] (ls' := [some (.ref 216), some (.int c), some (.int 0), some (.int 8), some (.int c.toInt8.toInt32), some (.int (nI i))]) (st' := [.int (nI i), .ref 216]) (by decide +kernel) rfl rfl ?_
      refine goYld (i := i) (by omega) (by decide +kernel) ?_
      refine Go.run (pc' := 19) [.iload 4] (ls' := [some (.ref 216), some (.int c), some (.int 0), some (.int 8), some (.int c.toInt8.toInt32), some (.int (nI i))]) (st' := [.int c.toInt8.toInt32, .int (lixB.getD i 0)]) (by decide +kernel) rfl rfl ?_
      unfold scan
      refine Go.ic_ne (off := 6) (tgt := 25) (by decide +kernel) (by decide) (fun z => ?_) (fun z => ?_)
      · rw [if_neg z]
        refine Go.run (pc' := 28) [.iinc 5 1] (ls' := [some (.ref 216), some (.int c), some (.int 0), some (.int 8), some (.int c.toInt8.toInt32), some (.int (nI i + Int32.ofInt 1))]) (st' := []) (by decide +kernel) rfl rfl ?_
        refine Go.goto (off := -21) (tgt := 7) (by decide +kernel) (by decide) ?_
        have e9 : nI i + Int32.ofInt 1 = nI (i + 1) := (nI_succ i).symm
        rw [e9]
        exact ih (i + 1) (by omega)
      · rw [if_pos z]
        refine Go.run (pc' := 24) [.iload 5] (ls' := [some (.ref 216), some (.int c), some (.int 0), some (.int 8), some (.int c.toInt8.toInt32), some (.int (nI i))]) (st' := [.int (nI i)]) (by decide +kernel) rfl rfl ?_
        exact Go.iret rfl (by decide) (by decide) (by decide +kernel)
  show Go l D ad aC (rmk m_Y_ixc) _ m_Y_ixc 0 [some (.ref 216), some (.int c), some (.int 0), some (.int 8), none, none] [] h 0 0
  refine Go.run (pc' := 1) [.iload_n 1] (ls' := [some (.ref 216), some (.int c), some (.int 0), some (.int 8), none, none]) (st' := [.int c]) (by decide +kernel) rfl rfl ?_
  refine Go.i2b (by decide +kernel) rfl ?_
  refine Go.run (pc' := 7) [.istore 4, .iload_n 2, .istore 5] (ls' := [some (.ref 216), some (.int c), some (.int 0), some (.int 8), some (.int c.toInt8.toInt32), some (.int 0)]) (st' := []) (by decide +kernel) rfl rfl ?_
  exact loop 8 0 rfl
def ixF (c : Int32) : Int32 := if c < 0 then -1 else if 255 < c then -1 else scan c.toInt8.toInt32 8 0
theorem y_ixl {c : Int32} : CT l D ad aC m_Y_ixl [.ref 216, .int c, .int 0, .int 8] h (.inl (some (.int (ixF c)))) h := by
  refine CT.ofGo (by decide +kernel) rfl (Nat.le_of_ble_eq_true rfl) ?_
  show Go l D ad aC (rmk m_Y_ixl) _ m_Y_ixl 0 [some (.ref 216), some (.int c), some (.int 0), some (.int 8)] [] h 0 0
  refine Go.run (pc' := 1) [.iload_n 1] (ls' := [some (.ref 216), some (.int c), some (.int 0), some (.int 8)]) (st' := [.int c]) (by decide +kernel) rfl rfl ?_
  refine Go.callS (M2 := m_Y_can) (as := [.int c]) (rest := []) y_can ws_Y_88 (by decide +kernel) rfl rfl ⟨⟨Nat.le_of_ble_eq_true rfl, Nat.le_of_ble_eq_true rfl⟩, ⟨Nat.le_of_ble_eq_true rfl, Nat.le_of_ble_eq_true rfl⟩⟩ (Nat.le_of_ble_eq_true rfl) ?_
  have bad : ixF c = -1 → Go l D ad aC (rmk m_Y_ixl) (QM D ad aC m_Y_ixl (.inl (some (.int (ixF c)))) h) m_Y_ixl 7 [some (.ref 216), some (.int c), some (.int 0), some (.int 8)] [] h 0 0 := by
    intro e
    rw [e]
    refine Go.run (pc' := 8) [.iconst (-1)] (ls' := [some (.ref 216), some (.int c), some (.int 0), some (.int 8)]) (st' := [.int (-1)]) (by decide +kernel) rfl rfl ?_
    exact Go.iret rfl (by decide) (by decide) (by decide +kernel)
  by_cases z : c < 0
  · rw [if_pos z]
    refine Go.if_ne (off := 5) (tgt := 9) (by decide +kernel) (by decide) (fun y => absurd rfl y) (fun _ => ?_)
    exact bad (by unfold ixF; rw [if_pos z])
  · rw [if_neg z]
    by_cases y : 255 < c
    · rw [if_pos y]
      refine Go.if_ne (off := 5) (tgt := 9) (by decide +kernel) (by decide) (fun y => absurd rfl y) (fun _ => ?_)
      exact bad (by unfold ixF; rw [if_neg z, if_pos y])
    · rw [if_neg y]
      refine Go.if_ne (off := 5) (tgt := 9) (by decide +kernel) (by decide) (fun _ => ?_) (fun q => absurd q (by decide))
      have e : ixF c = scan c.toInt8.toInt32 8 0 := by unfold ixF; rw [if_neg z, if_neg y]
      rw [e]
      refine Go.run (pc' := 11) [.iload_n 2, .iconst 0] (ls' := [some (.ref 216), some (.int c), some (.int 0), some (.int 8)]) (st' := [.int 0, .int 0]) (by decide +kernel) rfl rfl ?_
      refine Go.callS (M2 := m_J_max) (as := [.int 0, .int 0]) (rest := []) y_max ws_Y_92 (by decide +kernel) rfl rfl ⟨⟨Nat.le_of_ble_eq_true rfl, Nat.le_of_ble_eq_true rfl⟩, ⟨Nat.le_of_ble_eq_true rfl, Nat.le_of_ble_eq_true rfl⟩⟩ (Nat.le_of_ble_eq_true rfl) ?_
      refine Go.run (pc' := 17) [.istore_n 2, .iload_n 3, .aload_n 0] (ls' := [some (.ref 216), some (.int c), some (.int 0), some (.int 8)]) (st' := [.ref 216, .int 8]) (by decide +kernel) rfl rfl ?_
      refine goYlen (by decide +kernel) ?_
      refine Go.callS (M2 := m_J_min) (as := [.int 8, .int 8]) (rest := []) y_min ws_Y_38 (by decide +kernel) rfl rfl ⟨⟨Nat.le_of_ble_eq_true rfl, Nat.le_of_ble_eq_true rfl⟩, ⟨Nat.le_of_ble_eq_true rfl, Nat.le_of_ble_eq_true rfl⟩⟩ (Nat.le_of_ble_eq_true rfl) ?_
      refine Go.run (pc' := 24) [.istore_n 3, .iload_n 2, .iload_n 3] (ls' := [some (.ref 216), some (.int c), some (.int 0), some (.int 8)]) (st' := [.int 8, .int 0]) (by decide +kernel) rfl rfl ?_
      refine Go.ic_lt (off := 5) (tgt := 29) (by decide +kernel) (by decide) (fun _ => ?_) (fun q => absurd (by decide) q)
      refine Go.run (pc' := 33) [.aload_n 0, .iload_n 1, .iload_n 2, .iload_n 3] (ls' := [some (.ref 216), some (.int c), some (.int 0), some (.int 8)]) (st' := [.int 8, .int 0, .int c, .ref 216]) (by decide +kernel) rfl rfl ?_
      refine Go.callS (M2 := m_Y_ixc) (as := [.ref 216, .int c, .int 0, .int 8]) (rest := []) y_ixc ws_Y_95 (by decide +kernel) rfl rfl ⟨⟨Nat.le_of_ble_eq_true rfl, Nat.le_of_ble_eq_true rfl⟩, ⟨Nat.le_of_ble_eq_true rfl, Nat.le_of_ble_eq_true rfl⟩⟩ (Nat.le_of_ble_eq_true rfl) ?_
      exact Go.iret rfl (by decide) (by decide) (by decide +kernel)
theorem y_ix2 {c : Int32} : CT l D ad aC m_Y_ix2 [.ref 215, .int c, .int 0] h (.inl (some (.int (ixF c)))) h := by
  refine CT.ofGo (by decide +kernel) rfl (Nat.le_of_ble_eq_true rfl) ?_
  show Go l D ad aC (rmk m_Y_ix2) _ m_Y_ix2 0 [some (.ref 215), some (.int c), some (.int 0)] [] h 0 0
  refine Go.run (pc' := 1) [.aload_n 0] (ls' := [some (.ref 215), some (.int c), some (.int 0)]) (st' := [.ref 215]) (by decide +kernel) rfl rfl ?_
  refine Go.callZ (M2 := m_Y_lat) (as := []) (rest := []) y_lat rfl wv_Y_492 (by decide +kernel) rfl rfl ⟨⟨Nat.le_of_ble_eq_true rfl, Nat.le_of_ble_eq_true rfl⟩, ⟨Nat.le_of_ble_eq_true rfl, Nat.le_of_ble_eq_true rfl⟩⟩ (Nat.le_of_ble_eq_true rfl) ?_
  refine Go.if_eq (off := 19) (tgt := 23) (by decide +kernel) (by decide) (fun z => absurd z (by decide)) (fun _ => ?_)
  refine Go.run (pc' := 8) [.aload_n 0] (ls' := [some (.ref 215), some (.int c), some (.int 0)]) (st' := [.ref 215]) (by decide +kernel) rfl rfl ?_
  refine goYval rfl (by decide +kernel) ?_
  refine Go.run (pc' := 14) [.iload_n 1, .iload_n 2, .aload_n 0] (ls' := [some (.ref 215), some (.int c), some (.int 0)]) (st' := [.ref 215, .int 0, .int c, .ref 216]) (by decide +kernel) rfl rfl ?_
  refine Go.callZ (M2 := m_Y_len) (as := []) (rest := [.int 0, .int c, .ref 216]) y_len rfl wv_Y_505 (by decide +kernel) rfl rfl ⟨⟨Nat.le_of_ble_eq_true rfl, Nat.le_of_ble_eq_true rfl⟩, ⟨Nat.le_of_ble_eq_true rfl, Nat.le_of_ble_eq_true rfl⟩⟩ (Nat.le_of_ble_eq_true rfl) ?_
  refine Go.callS (M2 := m_Y_ixl) (as := [.ref 216, .int c, .int 0, .int 8]) (rest := []) y_ixl ws_Y_637 (by decide +kernel) rfl rfl ⟨⟨Nat.le_of_ble_eq_true rfl, Nat.le_of_ble_eq_true rfl⟩, ⟨Nat.le_of_ble_eq_true rfl, Nat.le_of_ble_eq_true rfl⟩⟩ (Nat.le_of_ble_eq_true rfl) ?_
  refine Go.goto (off := 16) (tgt := 36) (by decide +kernel) (by decide) ?_
  exact Go.iret rfl (by decide) (by decide) (by decide +kernel)
theorem y_ix {c : Int32} : CT l D ad aC m_Z_indexOf [.ref 215, .int c] h (.inl (some (.int (ixF c)))) h := by
  refine CT.ofGo (by decide +kernel) rfl (Nat.le_of_ble_eq_true rfl) ?_
  show Go l D ad aC (rmk m_Z_indexOf) _ m_Z_indexOf 0 [some (.ref 215), some (.int c)] [] h 0 0
  refine Go.run (pc' := 3) [.aload_n 0, .iload_n 1, .iconst 0] (ls' := [some (.ref 215), some (.int c)]) (st' := [.int 0, .int c, .ref 215]) (by decide +kernel) rfl rfl ?_
  refine Go.callZ (M2 := m_Y_ix2) (as := [.int c, .int 0]) (rest := []) y_ix2 rfl wv_Y_633 (by decide +kernel) rfl rfl ⟨⟨Nat.le_of_ble_eq_true rfl, Nat.le_of_ble_eq_true rfl⟩, ⟨Nat.le_of_ble_eq_true rfl, Nat.le_of_ble_eq_true rfl⟩⟩ (Nat.le_of_ble_eq_true rfl) ?_
  exact Go.iret rfl (by decide) (by decide) (by decide +kernel)
theorem scan_lix : ∀ n, n < 256 → scan (nI n).toInt8.toInt32 8 0 = lix (nI n) := by decide +kernel
theorem ixF_lix (c : Int32) : ixF c = lix c := by
  unfold ixF
  by_cases z : c < 0
  · rw [if_pos z]
    unfold lix
    have ne : ∀ v : Int32, 0 ≤ v → ¬ c = v := fun v hv e => by
      rw [e] at z
      exact absurd z (Int32.not_lt.mpr hv)
    rw [if_neg (ne _ (by decide)), if_neg (ne _ (by decide)), if_neg (ne _ (by decide)), if_neg (ne _ (by decide)), if_neg (ne _ (by decide)), if_neg (ne _ (by decide)), if_neg (ne _ (by decide)), if_neg (ne _ (by decide))]
  · rw [if_neg z]
    by_cases y : 255 < c
    · rw [if_pos y]
      unfold lix
      have ne : ∀ v : Int32, v ≤ 255 → ¬ c = v := fun v hv e => by
        rw [e] at y
        exact absurd y (Int32.not_lt.mpr hv)
      rw [if_neg (ne _ (by decide)), if_neg (ne _ (by decide)), if_neg (ne _ (by decide)), if_neg (ne _ (by decide)), if_neg (ne _ (by decide)), if_neg (ne _ (by decide)), if_neg (ne _ (by decide)), if_neg (ne _ (by decide))]
    · rw [if_neg y]
      have h1 : 0 ≤ c.toInt := by
        have := Int32.le_iff_toInt_le.mp (Int32.not_lt.mp z)
        simpa using this
      have h2 : c.toInt ≤ 255 := by
        have := Int32.le_iff_toInt_le.mp (Int32.not_lt.mp y)
        simpa using this
      have e : c = nI c.toInt.toNat := by
        apply Int32.toInt_inj.mp
        rw [show (nI c.toInt.toNat).toInt = (c.toInt.toNat : Int) from Int32.toInt_ofNat_of_lt (by omega)]
        omega
      rw [e]
      exact scan_lix _ (by omega)
theorem goCallIx {c : Int32} (hM : M.y.cls = "FairWalls$FairText") (hd : decode M.b pc = .ok (.invokevirtual 42, 3)) (hR : (6 ≤ R.frames ∧ 228 ≤ R.locals) ∧ (k ≤ R.cells ∧ n ≤ R.slots)) (hcat : (rest.map fun v => v.category).sum ≤ 8) (g : Go l D ad aC R QQ M (pc + 3) ls (.int (lix c) :: rest) h k n) : Go l D ad aC R QQ M pc ls (.int c :: .ref 215 :: rest) h k n := by
  refine Go.callZ (M2 := m_Z_indexOf) (as := [.int c]) (rest := rest) (v := some (.int (ixF c))) (h1 := h) y_ix rfl (by rw [hM]; exact wv_T_42) hd rfl rfl ⟨⟨hR.1.1, Nat.le_trans (by decide) hR.1.2⟩, ⟨hR.2.1, hR.2.2⟩⟩ hcat ?_
  rw [ixF_lix]
  exact g
end IXO2
end
